/-! what is made: the small constructors -/
def frs (n : Nat) (g h : mf_M) : Prop := (∀ a : Int, (n : Int) ≤ a → ∀ j : Int, g a j = -1) ∧ (∀ a : Int, (n : Int) ≤ a → ∀ j : Int, h a j = 0)
section Ctr
variable {C : mf_G} {l : Launch} {d n n0 : Nat} {K : mf_Kt} {x0 : Int} {g h : mf_M}
theorem frs.ug {a k v : Int} (F : frs n g h) (ha : a < (n : Int)) : frs n (mf_up g a k v) h := ⟨fun b hb j => by rw [up_row (by omega)]; exact F.1 b hb j, F.2⟩
theorem frs.uh {a k v : Int} (F : frs n g h) (ha : a < (n : Int)) : frs n g (mf_up h a k v) := ⟨F.1, fun b hb j => by rw [up_row (by omega)]; exact F.2 b hb j⟩
theorem frs.mono {m : Nat} (F : frs n g h) (hm : n ≤ m) : frs m g h := ⟨fun a ha => F.1 a (by omega), fun a ha => F.2 a (by omega)⟩
theorem moreR {n1 k : Nat} (hk : k + 1 ≤ n1) : mf_more (mf_rm d n0 n1) n0 k := ⟨by show k + 1 - n0 ≤ n1 - n0; omega, Nat.sub_le_sub_right (mf_sl_mono hk) _⟩
theorem isMono {m c : Nat} {a : Int} (hi : mf_is n a c) (hm : n ≤ m) : mf_is m a c := ⟨hi.1, by have := hi.2.1; omega, hi.2.2⟩
def gS (g : mf_M) (x : Int) (n : Nat) : mf_M := mf_up (mf_up (mf_up (mf_up (mf_up (mf_up g x 0 ((n : Nat) : Int)) x 1 ((n + 1 : Nat) : Int)) x 2 ((n + 2 : Nat) : Int)) x 3 ((n + 3 : Nat) : Int)) x 4 ((n + 4 : Nat) : Int)) x 5 ((n + 5 : Nat) : Int)
def sh6 (n : Nat) : Prop := mf_sh n = (20, 6) ∧ mf_sh (n + 1) = (20, 8) ∧ mf_sh (n + 2) = (20, 8) ∧ mf_sh (n + 3) = (20, 8) ∧ mf_sh (n + 4) = (20, 8) ∧ mf_sh (n + 5) = (20, 40)
theorem frs.S {x : Int} {m : Nat} (F : frs n g h) (hx : x < (n : Int)) : frs n (gS g x m) h := (((((F.ug hx).ug hx).ug hx).ug hx).ug hx).ug hx
theorem c6 (hd : 1 ≤ d) (hx : mf_is n0 x0 6) (hs : sh6 n0) (F : frs n0 g h) (hK : K 0 (gS g x0 n0) h) : mf_MT C l d YX6_init [(2, x0)] n0 (n0 + 6) g h K := by
  have hl := hx.2.1
  obtain ⟨s0, s1, s2, s3, s4, s5⟩ := hs
  refine mX6_init hd ⟨hx.1, s0, moreR (by omega), fun j => F.1 _ (by omega) _, fun j => F.2 _ (by omega) _, isMono hx (by omega), fun g1 e1 => ?_⟩
  have F1 : frs n0 g1 h := by rw [e1]; exact F.ug hl
  refine ⟨s1, moreR (by omega), fun j => F1.1 _ (by omega) _, fun j => F1.2 _ (by omega) _, isMono hx (by omega), fun g2 e2 => ?_⟩
  have F2 : frs n0 g2 h := by rw [e2]; exact F1.ug hl
  refine ⟨s2, moreR (by omega), fun j => F2.1 _ (by omega) _, fun j => F2.2 _ (by omega) _, isMono hx (by omega), fun g3 e3 => ?_⟩
  have F3 : frs n0 g3 h := by rw [e3]; exact F2.ug hl
  refine ⟨s3, moreR (by omega), fun j => F3.1 _ (by omega) _, fun j => F3.2 _ (by omega) _, isMono hx (by omega), fun g4 e4 => ?_⟩
  have F4 : frs n0 g4 h := by rw [e4]; exact F3.ug hl
  refine ⟨s4, moreR (by omega), fun j => F4.1 _ (by omega) _, fun j => F4.2 _ (by omega) _, isMono hx (by omega), fun g5 e5 => ?_⟩
  have F5 : frs n0 g5 h := by rw [e5]; exact F4.ug hl
  refine ⟨s5, moreR (by omega), fun j => F5.1 _ (by omega) _, fun j => F5.2 _ (by omega) _, isMono hx (by omega), fun g6 e6 => ⟨rfl, ?_⟩⟩
  rw [e6, e5, e4, e3, e2, e1]
  exact hK
def gC (g : mf_M) (x : Int) (n : Nat) : mf_M := mf_up (mf_up (mf_up g x 0 ((n : Nat) : Int)) x 1 ((n + 1 : Nat) : Int)) x 2 ((n + 2 : Nat) : Int)
def sh4 (n : Nat) : Prop := mf_sh n = (20, 1600) ∧ mf_sh (n + 1) = (20, 4) ∧ mf_sh (n + 2) = (20, 4)
theorem frs.Cg {x : Int} {m : Nat} (F : frs n g h) (hx : x < (n : Int)) : frs n (gC g x m) h := ((F.ug hx).ug hx).ug hx
theorem c4 (hd : 1 ≤ d) (hx : mf_is n0 x0 4) (hs : sh4 n0) (F : frs n0 g h) (hK : K 0 (gC g x0 n0) (mf_up h x0 4 (-1))) : mf_MT C l d YX4_init [(2, x0)] n0 (n0 + 3) g h K := by
  have hl := hx.2.1
  obtain ⟨s0, s1, s2⟩ := hs
  refine mX4_init hd ⟨hx.1, s0, moreR (by omega), fun j => F.1 _ (by omega) _, fun j => F.2 _ (by omega) _, isMono hx (by omega), fun g1 e1 => ?_⟩
  have F1 : frs n0 g1 h := by rw [e1]; exact F.ug hl
  refine ⟨s1, moreR (by omega), fun j => F1.1 _ (by omega) _, fun j => F1.2 _ (by omega) _, isMono hx (by omega), fun g2 e2 => ?_⟩
  have F2 : frs n0 g2 h := by rw [e2]; exact F1.ug hl
  refine ⟨s2, moreR (by omega), fun j => F2.1 _ (by omega) _, fun j => F2.2 _ (by omega) _, isMono hx (by omega), fun g3 e3 h3 f3 => ⟨rfl, ?_⟩⟩
  rw [f3, e3, e2, e1]
  exact hK
theorem c3 (hd : 1 ≤ d) (hx : mf_is n0 x0 3) (hs : mf_sh n0 = (20, 9) ∧ mf_sh (n0 + 1) = (22, 8) ∧ mf_sh (n0 + 2) = (20, 64)) (F : frs n0 g h) (hK : K 0 (gC g x0 n0) h) : mf_MT C l d YX3_init [(2, x0)] n0 (n0 + 3) g h K := by
  have hl := hx.2.1
  obtain ⟨s0, s1, s2⟩ := hs
  refine mX3_init hd ⟨hx.1, s0, moreR (by omega), fun j => F.1 _ (by omega) _, fun j => F.2 _ (by omega) _, isMono hx (by omega), fun g1 e1 => ?_⟩
  have F1 : frs n0 g1 h := by rw [e1]; exact F.ug hl
  refine ⟨s1, moreR (by omega), fun j => F1.1 _ (by omega) _, fun j => F1.2 _ (by omega) _, isMono hx (by omega), fun g2 e2 => ?_⟩
  have F2 : frs n0 g2 h := by rw [e2]; exact F1.ug hl
  refine ⟨s2, moreR (by omega), fun j => F2.1 _ (by omega) _, fun j => F2.2 _ (by omega) _, isMono hx (by omega), fun g3 e3 => ⟨rfl, ?_⟩⟩
  rw [e3, e2, e1]
  exact hK
theorem c0 (hd : 2 ≤ d) (hx : mf_is n0 x0 0) (hs : (mf_sh n0).1 = 3 ∧ mf_sh (n0 + 1) = (20, 9) ∧ mf_sh (n0 + 2) = (22, 8) ∧ mf_sh (n0 + 3) = (20, 64)) (F : frs n0 g h) (hK : K 0 (mf_up (gC g ((n0 : Nat) : Int) (n0 + 1)) x0 0 ((n0 : Nat) : Int)) h) : mf_MT C l d YX0_init [(2, x0)] n0 (n0 + 4) g h K := by
  obtain ⟨s0, s1⟩ := hs
  refine mX0_init hd ⟨hx.1, s0, moreR (by omega), fun j => F.1 _ (by omega) _, fun j => F.2 _ (by omega) _, fun v e => ⟨Nat.le_refl _, by omega, ?_⟩⟩
  subst e
  refine c3 (n0 := n0 + 1) (by decide) (mf_isN (by omega) s0) s1 (F.mono (by omega)) ⟨isMono hx (by omega), fun g1 e1 => ⟨rfl, ?_⟩⟩
  rw [e1]
  exact hK
def g1F (g : mf_M) (x : Int) (n : Nat) : mf_M := mf_up (gS (mf_up (gC (mf_up (mf_up (mf_up (mf_up (mf_up g x 0 ((n : Nat) : Int)) x 1 ((n + 1 : Nat) : Int)) x 2 ((n + 2 : Nat) : Int)) x 3 ((n + 3 : Nat) : Int)) x 4 ((n + 4 : Nat) : Int)) ((n + 5 : Nat) : Int) (n + 6)) x 5 ((n + 5 : Nat) : Int)) ((n + 9 : Nat) : Int) (n + 10)) x 6 ((n + 9 : Nat) : Int)
theorem c1 (hd : 2 ≤ d) (hx : mf_is n0 x0 1) (hs : mf_sh n0 = (20, 12) ∧ mf_sh (n0 + 1) = (20, 12) ∧ mf_sh (n0 + 2) = (20, 12) ∧ mf_sh (n0 + 3) = (20, 8) ∧ mf_sh (n0 + 4) = (20, 8) ∧ (mf_sh (n0 + 5)).1 = 4 ∧ sh4 (n0 + 6) ∧ (mf_sh (n0 + 9)).1 = 6 ∧ sh6 (n0 + 10)) (F : frs n0 g h) (hK : K 0 (g1F g x0 n0) (mf_up h ((n0 + 5 : Nat) : Int) 4 (-1))) : mf_MT C l d YX1_init [(2, x0)] n0 (n0 + 16) g h K := by
  have hl := hx.2.1
  obtain ⟨s0, s1, s2, s3, s4, s5, s6, s9, s10⟩ := hs
  refine mX1_init hd ⟨hx.1, s0, moreR (by omega), fun j => F.1 _ (by omega) _, fun j => F.2 _ (by omega) _, isMono hx (by omega), fun g1 e1 => ?_⟩
  have F1 : frs n0 g1 h := by rw [e1]; exact F.ug hl
  refine ⟨s1, moreR (by omega), fun j => F1.1 _ (by omega) _, fun j => F1.2 _ (by omega) _, isMono hx (by omega), fun g2 e2 => ?_⟩
  have F2 : frs n0 g2 h := by rw [e2]; exact F1.ug hl
  refine ⟨s2, moreR (by omega), fun j => F2.1 _ (by omega) _, fun j => F2.2 _ (by omega) _, isMono hx (by omega), fun g3 e3 => ?_⟩
  have F3 : frs n0 g3 h := by rw [e3]; exact F2.ug hl
  refine ⟨s3, moreR (by omega), fun j => F3.1 _ (by omega) _, fun j => F3.2 _ (by omega) _, isMono hx (by omega), fun g4 e4 => ?_⟩
  have F4 : frs n0 g4 h := by rw [e4]; exact F3.ug hl
  refine ⟨s4, moreR (by omega), fun j => F4.1 _ (by omega) _, fun j => F4.2 _ (by omega) _, isMono hx (by omega), fun g5 e5 => ?_⟩
  have F5 : frs n0 g5 h := by rw [e5]; exact F4.ug hl
  refine ⟨s5, moreR (by omega), fun j => F5.1 _ (by omega) _, fun j => F5.2 _ (by omega) _, fun v e => ⟨by omega, by omega, ?_⟩⟩
  subst e
  refine c4 (n0 := n0 + 6) (by decide) (mf_isN (by omega) s5) s6 (F5.mono (by omega)) ⟨isMono hx (by omega), fun g6 e6 => ?_⟩
  have F6 : frs (n0 + 9) g6 (mf_up h ((n0 + 5 : Nat) : Int) 4 (-1)) := by
    rw [e6]
    exact (((F5.mono (by omega : n0 ≤ n0 + 9)).Cg (by omega)).ug (by omega)).uh (by omega)
  refine ⟨s9, moreR (by omega), fun j => F6.1 _ (by omega) _, fun j => F6.2 _ (by omega) _, fun v e => ⟨by omega, by omega, ?_⟩⟩
  subst e
  refine c6 (n0 := n0 + 10) (by decide) (mf_isN (by omega) s9) s10 (F6.mono (by omega)) ⟨isMono hx (by omega), fun g7 e7 => ⟨rfl, ?_⟩⟩
  rw [e7, e6, e5, e4, e3, e2, e1]
  exact hK
end Ctr
