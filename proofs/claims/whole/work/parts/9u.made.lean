/-! the class is made -/
def gX1 (g : mf_M) : mf_M := mf_up (mf_up (mf_up (mf_up (mf_up (mf_up g 1 0 2) 3 0 4) 0 0 3) 5 0 3) 5 1 1) 0 1 5
def gX2 (g : mf_M) : mf_M := mf_up (mf_up (mf_up (mf_up (mf_up (gC (gX1 g) 6 7) 0 6 6) 10 0 5) 10 1 1) 10 2 6) 0 2 10
def gX3 (g : mf_M) : mf_M := mf_up (g1F (mf_up (g1F (gX2 g) 11 12) 0 12 11) 28 29) 0 13 28
def gX4 (g : mf_M) : mf_M := mf_up (mf_up (gC (mf_up (mf_up (mf_up (mf_up (mf_up (gX3 g) 45 0 5) 45 1 1) 45 2 10) 45 3 28) 0 3 45) 47 48) 46 0 47) 0 4 46
def gX5 (g : mf_M) : mf_M := mf_up (mf_up (gS (mf_up (gS (mf_up (g5F (gX4 g)) 0 5 51) 88 89) 0 7 88) 95 96) 0 8 95) 0 9 102
def hX5 (h : mf_M) : mf_M := mf_up (mf_up (mf_up (wdF 175 0 0 0 h) 6 4 (-1)) 17 4 (-1)) 34 4 (-1)
section Mad
variable {C : mf_G} {l : Launch} {d : Nat} {K : mf_Kt} {g h : mf_M}
theorem frs.g1 {x : Int} {m n : Nat} (F : frs n g h) (hx : x < (n : Int)) (hm : m + 10 ≤ n) : frs n (g1F g x m) h := by
  unfold g1F
  exact ((((((((F.ug hx).ug hx).ug hx).ug hx).ug hx).Cg (by omega)).ug hx).S (by omega)).ug hx
theorem frs.lp {r : Int} {b n : Nat} (hr : r < (n : Int)) : ∀ (m k : Nat) (g : mf_M), b + 7 * (k + m) ≤ n → frs n g h → frs n (lpG r b m k g) h
  | 0, k, g, _, F => F
  | m + 1, k, g, hb, F => frs.lp hr m (k + 1) _ (by omega) ((F.S (by omega)).ug hr)
theorem frs.g5 (F : frs 88 g h) : frs 88 (g5F g) h := by
  unfold g5F
  exact frs.lp (by decide) 3 0 _ (by decide) ((((((((((F.ug (by decide)).S (by decide)).ug (by decide)).ug (by decide)).ug (by decide)).ug (by decide)).ug (by decide)).ug (by decide)).ug (by decide)).ug (by decide) |>.ug (by decide))
set_option maxRecDepth 100000 in
set_option maxHeartbeats 4000000 in
theorem c11 (hd : 7 ≤ d) (F : frs 1 g h) (hK : K 0 (mf_up (mf_up (lpG 102 103 20 0 (gX5 g)) 0 10 243) 0 11 244) (mf_up (mf_up (hX5 h) 0 18 (-1)) 0 19 1)) : mf_MT C l d YX11_init [(2, 0)] 1 245 g h K := by
  have i11 : ∀ n : Nat, 1 ≤ n → mf_is n 0 11 := fun n hn => ⟨by decide, by omega, by decide +kernel⟩
  refine mX11_init hd ⟨by decide, by decide +kernel, moreR (by decide), fun j => F.1 _ (by decide) _, fun j => F.2 _ (by decide) _, fun v e => ⟨by decide, by omega, ?_⟩⟩
  replace e : v = 1 := e
  subst e
  refine c10 (by decide) (F.mono (by decide)) ?_
  have F1 : frs 3 (mf_up g 1 0 2) (wdF 175 0 0 0 h) := ⟨fun a ha j => by rw [up_row (by omega)]; exact F.1 a (by omega) j, fun a ha j => by rw [wdF_fr _ _ _ _ _ _ (by omega)]; exact F.2 a (by omega) j⟩
  refine ⟨by decide +kernel, moreR (by decide), fun j => F1.1 _ (by decide) _, fun j => F1.2 _ (by decide) _, fun v e => ⟨by decide, by omega, ?_⟩⟩
  replace e : v = 3 := e
  subst e
  refine mX8_init (by decide) ⟨by decide, by decide +kernel, moreR (by decide), fun j => F1.1 _ (by decide) _, fun j => F1.2 _ (by decide) _, ⟨by decide, by decide, by decide +kernel⟩, fun g1 e1 => ⟨rfl, i11 _ (by decide), fun g2 e2 => ?_⟩⟩
  replace e1 : g1 = mf_up (mf_up g 1 0 2) 3 0 4 := e1
  have F2 : frs 5 g2 (wdF 175 0 0 0 h) := by rw [e2, e1]; exact ((F1.mono (by decide)).ug (by decide)).ug (by decide)
  have q0 : g2 0 0 = 3 := by rw [e2, up_self]
  refine ⟨by decide +kernel, moreR (by decide), fun j => F2.1 _ (by decide) _, fun j => F2.2 _ (by decide) _, fun v e => ⟨i11 _ (by decide), by decide, by omega, ?_⟩⟩
  replace e : v = 5 := e
  subst e
  rw [q0]
  refine mX9_init (by decide) ⟨by decide, ⟨by decide, by decide, by decide +kernel⟩, fun g3 e3 g4 e4 => ⟨rfl, fun g5 e5 => ?_⟩⟩
  have E5 : g5 = gX1 g := by rw [e5, e4, e3, e2, e1]; rfl
  have F5 : frs 6 g5 (wdF 175 0 0 0 h) := by rw [e5, e4, e3]; exact (((F2.mono (by decide)).ug (by decide)).ug (by decide)).ug (by decide)
  refine ⟨by decide +kernel, moreR (by decide), fun j => F5.1 _ (by decide) _, fun j => F5.2 _ (by decide) _, fun v e => ⟨by decide, by omega, ?_⟩⟩
  replace e : v = 6 := e
  subst e
  have u1 : g5 0 1 = 5 := by rw [e5, up_self]
  refine c4 (n0 := 7) (by decide) ⟨by decide, by decide, by decide +kernel⟩ ⟨by decide +kernel, by decide +kernel, by decide +kernel⟩ (F5.mono (by decide)) ⟨i11 _ (by decide), fun g6 e6 => ?_⟩
  have F6 : frs 10 g6 (mf_up (wdF 175 0 0 0 h) 6 4 (-1)) := by rw [e6]; exact (((F5.mono (by decide)).Cg (by decide)).ug (by decide)).uh (by decide)
  have q1 : g6 0 1 = 5 := by
    rw [e6, up_col (by decide)]
    unfold gC
    rw [up_row (by decide), up_row (by decide), up_row (by decide)]
    exact u1
  have q6 : g6 0 6 = 6 := by rw [e6, up_self]
  refine ⟨by decide +kernel, moreR (by decide), fun j => F6.1 _ (by decide) _, fun j => F6.2 _ (by decide) _, fun v e => ⟨i11 _ (by decide), by decide, by omega, ?_⟩⟩
  replace e : v = 10 := e
  subst e
  rw [q1, q6]
  refine mX7_init (by decide) ⟨by decide, ⟨by decide, by decide, by decide +kernel⟩, fun g7 e7 g8 e8 g9 e9 => ⟨rfl, fun g10 e10 => ?_⟩⟩
  have E10 : g10 = gX2 g := by rw [e10, e9, e8, e7, e6, E5]; rfl
  have F10 : frs 11 g10 (mf_up (wdF 175 0 0 0 h) 6 4 (-1)) := by rw [e10, e9, e8, e7]; exact ((((F6.mono (by decide)).ug (by decide)).ug (by decide)).ug (by decide)).ug (by decide)
  refine ⟨by decide +kernel, moreR (by decide), fun j => F10.1 _ (by decide) _, fun j => F10.2 _ (by decide) _, fun v e => ⟨by decide, by omega, ?_⟩⟩
  replace e : v = 11 := e
  subst e
  refine c1 (n0 := 12) (by decide) ⟨by decide, by decide, by decide +kernel⟩ ⟨by decide +kernel, by decide +kernel, by decide +kernel, by decide +kernel, by decide +kernel, by decide +kernel, ⟨by decide +kernel, by decide +kernel, by decide +kernel⟩, by decide +kernel, ⟨by decide +kernel, by decide +kernel, by decide +kernel, by decide +kernel, by decide +kernel, by decide +kernel⟩⟩ (F10.mono (by decide)) ⟨i11 _ (by decide), fun g11 e11 => ?_⟩
  replace e11 : g11 = mf_up (g1F g10 11 12) 0 12 11 := e11
  have F11 : frs 28 g11 (mf_up (mf_up (wdF 175 0 0 0 h) 6 4 (-1)) 17 4 (-1)) := by rw [e11]; exact (((F10.mono (by decide)).g1 (by decide) (by decide)).ug (by decide)).uh (by decide)
  refine ⟨by decide +kernel, moreR (by decide), fun j => F11.1 _ (by decide) _, fun j => F11.2 _ (by decide) _, fun v e => ⟨by decide, by omega, ?_⟩⟩
  replace e : v = 28 := e
  subst e
  refine c1 (n0 := 29) (by decide) ⟨by decide, by decide, by decide +kernel⟩ ⟨by decide +kernel, by decide +kernel, by decide +kernel, by decide +kernel, by decide +kernel, by decide +kernel, ⟨by decide +kernel, by decide +kernel, by decide +kernel⟩, by decide +kernel, ⟨by decide +kernel, by decide +kernel, by decide +kernel, by decide +kernel, by decide +kernel, by decide +kernel⟩⟩ (F11.mono (by decide)) ⟨i11 _ (by decide), fun g12 e12 => ?_⟩
  replace e12 : g12 = mf_up (g1F g11 28 29) 0 13 28 := e12
  have E12 : g12 = gX3 g := by rw [e12, e11, E10]; rfl
  have F12 : frs 45 g12 (hX5 h) := by rw [e12]; exact (((F11.mono (by decide)).g1 (by decide) (by decide)).ug (by decide)).uh (by decide)
  have z1 : g12 0 1 = 5 := by rw [E12]; rfl
  have z2 : g12 0 2 = 10 := by rw [E12]; rfl
  have z13 : g12 0 13 = 28 := by rw [e12, up_self]
  refine ⟨by decide +kernel, moreR (by decide), fun j => F12.1 _ (by decide) _, fun j => F12.2 _ (by decide) _, fun v e => ⟨i11 _ (by decide), by decide, by omega, ?_⟩⟩
  replace e : v = 45 := e
  subst e
  rw [z1, z2, z13]
  refine mX2_init (by decide) ⟨by decide, ⟨by decide, by decide, by decide +kernel⟩, fun g13 e13 g14 e14 g15 e15 g16 e16 => ⟨rfl, fun g17 e17 => ?_⟩⟩
  have F17 : frs 46 g17 (hX5 h) := by rw [e17, e16, e15, e14, e13]; exact (((((F12.mono (by decide)).ug (by decide)).ug (by decide)).ug (by decide)).ug (by decide)).ug (by decide)
  refine ⟨by decide +kernel, moreR (by decide), fun j => F17.1 _ (by decide) _, fun j => F17.2 _ (by decide) _, fun v e => ⟨by decide, by omega, ?_⟩⟩
  replace e : v = 46 := e
  subst e
  refine c0 (n0 := 47) (by decide) ⟨by decide, by decide, by decide +kernel⟩ ⟨by decide +kernel, by decide +kernel, by decide +kernel, by decide +kernel⟩ (F17.mono (by decide)) ⟨i11 _ (by decide), fun g18 e18 => ?_⟩
  replace e18 : g18 = mf_up (mf_up (gC g17 47 48) 46 0 47) 0 4 46 := e18
  have E18 : g18 = gX4 g := by rw [e18, e17, e16, e15, e14, e13, E12]; rfl
  have F18 : frs 51 g18 (hX5 h) := by rw [e18]; exact (((F17.mono (by decide)).Cg (by decide)).ug (by decide)).ug (by decide)
  have z4 : g18 0 4 = 46 := by rw [e18, up_self]
  refine ⟨by decide +kernel, moreR (by decide), fun j => F18.1 _ (by decide) _, fun j => F18.2 _ (by decide) _, fun v e => ⟨i11 _ (by decide), by decide, by omega, ?_⟩⟩
  replace e : v = 51 := e
  subst e
  rw [z4]
  refine c5 (by decide) (F18.mono (by decide)) ⟨i11 _ (by decide), fun g19 e19 => ?_⟩
  have F19 : frs 88 g19 (hX5 h) := by rw [e19]; exact ((F18.mono (by decide)).g5).ug (by decide)
  refine ⟨by decide +kernel, moreR (by decide), fun j => F19.1 _ (by decide) _, fun j => F19.2 _ (by decide) _, fun v e => ⟨by decide, by omega, ?_⟩⟩
  replace e : v = 88 := e
  subst e
  refine c6 (n0 := 89) (by decide) ⟨by decide, by decide, by decide +kernel⟩ ⟨by decide +kernel, by decide +kernel, by decide +kernel, by decide +kernel, by decide +kernel, by decide +kernel⟩ (F19.mono (by decide)) ⟨i11 _ (by decide), fun g20 e20 => ?_⟩
  have F20 : frs 95 g20 (hX5 h) := by rw [e20]; exact ((F19.mono (by decide)).S (by decide)).ug (by decide)
  refine ⟨by decide +kernel, moreR (by decide), fun j => F20.1 _ (by decide) _, fun j => F20.2 _ (by decide) _, fun v e => ⟨by decide, by omega, ?_⟩⟩
  replace e : v = 95 := e
  subst e
  refine c6 (n0 := 96) (by decide) ⟨by decide, by decide, by decide +kernel⟩ ⟨by decide +kernel, by decide +kernel, by decide +kernel, by decide +kernel, by decide +kernel, by decide +kernel⟩ (F20.mono (by decide)) ⟨i11 _ (by decide), fun g21 e21 => ?_⟩
  have F21 : frs 102 g21 (hX5 h) := by rw [e21]; exact ((F20.mono (by decide)).S (by decide)).ug (by decide)
  refine ⟨by decide +kernel, moreR (by decide), fun j => F21.1 _ (by decide) _, fun j => F21.2 _ (by decide) _, i11 _ (by decide), fun g22 e22 => ?_⟩
  replace e22 : g22 = mf_up g21 0 9 102 := e22
  have E22 : g22 = gX5 g := by rw [e22, e21, e20, e19, E18]; rfl
  have F22 : frs 103 g22 (hX5 h) := by rw [e22]; exact (F21.mono (by decide)).ug (by decide)
  refine x_ac (by omega) 20 0 g22 (by decide) F22 (by rw [e22, up_self]) ?_
  rw [E22]
  exact hK
end Mad
