/-! the seeker's constructor, the acts' loop -/
def g5F (g : mf_M) : mf_M := lpG 52 67 3 0 (mf_up (mf_up (mf_up (mf_up (mf_up (mf_up (mf_up (mf_up (mf_up (gS (mf_up g 51 1 52) 53 54) 51 2 53) 51 3 60) 51 4 61) 51 5 62) 51 6 63) 51 7 64) 51 8 65) 51 9 66) 51 0 46)
section Act
variable {C : mf_G} {l : Launch} {d : Nat} {K : mf_Kt} {g h : mf_M}
theorem c5 (hd : 2 ≤ d) (F : frs 52 g h) (hK : K 0 (g5F g) h) : mf_MT C l d YX5_init [(2, 51), (2, 46)] 52 88 g h K := by
  have i5 : ∀ n : Nat, 52 ≤ n → mf_is n 51 5 := fun n hn => ⟨by decide, by omega, by decide +kernel⟩
  refine mX5_init hd ⟨by decide, by decide +kernel, moreR (by decide), fun j => F.1 _ (by decide) _, fun j => F.2 _ (by decide) _, i5 _ (by decide), fun g1 e1 => ?_⟩
  replace e1 : g1 = mf_up g 51 1 52 := e1
  have F1 : frs 53 g1 h := by rw [e1]; exact (F.mono (by decide)).ug (by decide)
  refine ⟨by decide +kernel, moreR (by decide), fun j => F1.1 _ (by decide) _, fun j => F1.2 _ (by decide) _, fun v e => ⟨by decide, by omega, ?_⟩⟩
  replace e : v = 53 := e
  subst e
  refine c6 (n0 := 54) (by decide) ⟨by decide, by decide, by decide +kernel⟩ ⟨by decide +kernel, by decide +kernel, by decide +kernel, by decide +kernel, by decide +kernel, by decide +kernel⟩ (F1.mono (by decide)) ⟨i5 _ (by decide), fun g2 e2 => ?_⟩
  replace e2 : g2 = mf_up (gS g1 53 54) 51 2 53 := e2
  have F2 : frs 60 g2 h := by rw [e2]; exact ((F1.mono (by decide)).S (by decide)).ug (by decide)
  refine ⟨by decide +kernel, moreR (by decide), fun j => F2.1 _ (by decide) _, fun j => F2.2 _ (by decide) _, i5 _ (by decide), fun g3 e3 => ?_⟩
  replace e3 : g3 = mf_up g2 51 3 60 := e3
  have F3 : frs 61 g3 h := by rw [e3]; exact (F2.mono (by decide)).ug (by decide)
  refine ⟨by decide +kernel, moreR (by decide), fun j => F3.1 _ (by decide) _, fun j => F3.2 _ (by decide) _, i5 _ (by decide), fun g4 e4 => ?_⟩
  replace e4 : g4 = mf_up g3 51 4 61 := e4
  have F4 : frs 62 g4 h := by rw [e4]; exact (F3.mono (by decide)).ug (by decide)
  refine ⟨by decide +kernel, moreR (by decide), fun j => F4.1 _ (by decide) _, fun j => F4.2 _ (by decide) _, i5 _ (by decide), fun g5 e5 => ?_⟩
  replace e5 : g5 = mf_up g4 51 5 62 := e5
  have F5 : frs 63 g5 h := by rw [e5]; exact (F4.mono (by decide)).ug (by decide)
  refine ⟨by decide +kernel, moreR (by decide), fun j => F5.1 _ (by decide) _, fun j => F5.2 _ (by decide) _, i5 _ (by decide), fun g6 e6 => ?_⟩
  replace e6 : g6 = mf_up g5 51 6 63 := e6
  have F6 : frs 64 g6 h := by rw [e6]; exact (F5.mono (by decide)).ug (by decide)
  refine ⟨by decide +kernel, moreR (by decide), fun j => F6.1 _ (by decide) _, fun j => F6.2 _ (by decide) _, i5 _ (by decide), fun g7 e7 => ?_⟩
  replace e7 : g7 = mf_up g6 51 7 64 := e7
  have F7 : frs 65 g7 h := by rw [e7]; exact (F6.mono (by decide)).ug (by decide)
  refine ⟨by decide +kernel, moreR (by decide), fun j => F7.1 _ (by decide) _, fun j => F7.2 _ (by decide) _, i5 _ (by decide), fun g8 e8 => ?_⟩
  replace e8 : g8 = mf_up g7 51 8 65 := e8
  have F8 : frs 66 g8 h := by rw [e8]; exact (F7.mono (by decide)).ug (by decide)
  refine ⟨by decide +kernel, moreR (by decide), fun j => F8.1 _ (by decide) _, fun j => F8.2 _ (by decide) _, i5 _ (by decide), fun g9 e9 g10 e10 => ?_⟩
  replace e9 : g9 = mf_up g8 51 9 66 := e9
  have F10 : frs 67 g10 h := by rw [e10, e9]; exact ((F8.mono (by decide)).ug (by decide)).ug (by decide)
  refine x_sk hd 3 0 g10 (by decide) F10 ?_ ?_
  · rw [e10, up_col (by decide), e9, up_col (by decide), e8, up_col (by decide), e7, up_col (by decide), e6, up_col (by decide), e5, up_col (by decide), e4, up_col (by decide), e3, up_col (by decide), e2, up_col (by decide)]
    unfold gS
    rw [up_row (by decide), up_row (by decide), up_row (by decide), up_row (by decide), up_row (by decide), up_row (by decide), e1, up_self]
  · rw [e10, e9, e8, e7, e6, e5, e4, e3, e2, e1]
    exact hK
theorem ac_sh : ∀ k : Fin 20, (mf_sh (103 + 7 * k.val)).1 = 6 ∧ mf_sh (103 + 7 * k.val + 1) = (20, 6) ∧ mf_sh (103 + 7 * k.val + 1 + 1) = (20, 8) ∧ mf_sh (103 + 7 * k.val + 1 + 2) = (20, 8) ∧ mf_sh (103 + 7 * k.val + 1 + 3) = (20, 8) ∧ mf_sh (103 + 7 * k.val + 1 + 4) = (20, 8) ∧ mf_sh (103 + 7 * k.val + 1 + 5) = (20, 40) := by decide +kernel
theorem x_ac (hd : 2 ≤ d) : ∀ (m k : Nat) (g : mf_M), k + m = 20 → frs (103 + 7 * k) g h → g 0 9 = 102 → K 0 (mf_up (mf_up (lpG 102 103 m k g) 0 10 243) 0 11 244) (mf_up (mf_up h 0 18 (-1)) 0 19 1) → JX11_init_175 C l d 1 245 (103 + 7 * k) K 0 (k : Int) g h := by
  have i11 : ∀ n : Nat, 103 ≤ n → mf_is n 0 11 := fun n hn => ⟨by decide, by omega, by decide +kernel⟩
  have i25 : ∀ n : Nat, 103 ≤ n → mf_is n 102 25 := fun n hn => ⟨by decide, by omega, by decide +kernel⟩
  have ln : mf_len 102 = 20 := by decide +kernel
  intro m
  induction m with
  | zero =>
    intro k g km F g1 hK
    have k20 : k = 20 := by omega
    subst k20
    refine bX11_init_175 hd (by omega) ?_
    rw [g1, ln]
    refine ⟨i11 _ (by omega), i25 _ (by omega), fun _ => ⟨by decide +kernel, moreR (by decide), fun j => F.1 _ (by omega) _, fun j => F.2 _ (by omega) _, i11 _ (by omega), fun g2 e2 => ?_⟩, fun z => absurd (by omega) z⟩
    replace e2 : g2 = mf_up g 0 10 243 := e2
    have F2 : frs 243 g2 h := by rw [e2]; exact (F.mono (by decide)).ug (by decide)
    refine ⟨by decide +kernel, moreR (by decide), fun j => F2.1 _ (by omega) _, fun j => F2.2 _ (by omega) _, i11 _ (by omega), fun g3 e3 h3 f3 h4 f4 => ⟨by decide, ?_⟩⟩
    replace e3 : g3 = mf_up g2 0 11 244 := e3
    rw [f4, f3, e3, e2]
    exact hK
  | succ m ih =>
    intro k g km F g1 hK
    obtain ⟨s0, s1⟩ := ac_sh ⟨k, by omega⟩
    refine bX11_init_175 hd (by omega) ?_
    rw [g1, ln]
    refine ⟨i11 _ (by omega), i25 _ (by omega), fun z => absurd z (by omega), fun _ => ⟨s0, moreR (by omega), fun j => F.1 _ (by omega) _, fun j => F.2 _ (by omega) _, fun v e => ⟨by omega, by omega, ?_⟩⟩⟩
    subst e
    refine c6 (n0 := 103 + 7 * k + 1) (by decide) (mf_isN (by omega) s0) s1 (F.mono (by omega)) ⟨i25 _ (by omega), by omega, by omega, mf_isN (by omega) s0, fun g2 e2 v ev => ?_⟩
    rw [w_id (by omega) (by omega)] at ev
    rw [ev, e2]
    have ek : (k : Int) + 1 = ((k + 1 : Nat) : Int) := by omega
    rw [ek]
    refine ih (k + 1) _ (by omega) ?_ ?_ hK
    · exact ((F.mono (by omega)).S (by omega)).ug (by omega)
    · rw [up_row (by decide)]
      unfold gS
      rw [up_row (by omega), up_row (by omega), up_row (by omega), up_row (by omega), up_row (by omega), up_row (by omega)]
      exact g1
end Act
