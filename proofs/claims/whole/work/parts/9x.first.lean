/-! the first state -/
def S0 : aS := ((0, 0, 0, 0, 0, fun _ => [], fun _ => 0, fun _ => 0, [], [], [], []), fun _ => 0, 0, fun _ _ => 0, [], [], 0, [], 1, fun _ => 0, 0, -1, [])
theorem okS0 : okS S0 := by
  refine ⟨⟨by decide, by decide, by decide, by decide, by decide, by decide, by decide, by decide, by decide, by decide, fun _ => ⟨rfl, rfl, rfl, rfl, rfl, rfl, rfl⟩, fun z => absurd rfl z, fun b b0 b1 => absurd b1 (by show ¬ b < 0; omega), fun z => absurd rfl z, fun z => absurd rfl z, fun z => absurd rfl z, fun z => absurd rfl z, fun b b0 b1 => absurd b1 (by show ¬ b < 0; omega), fun w w0 w1 => absurd w1 (by show ¬ w < 0; omega)⟩, ⟨⟨fun b b0 b1 => absurd b1 (by show ¬ b < 0; omega), fun b b0 b1 => absurd b1 (by show ¬ b < 0; omega), by decide, by decide⟩, fun k _ _ => ⟨Int.le_refl 0, Int.pow_pos (by decide)⟩, fun _ _ _ => rfl, fun b b0 b1 => absurd b1 (by show ¬ b < 0; omega), fun b c b0 b1 => absurd b1 (by show ¬ b < 0; omega), by decide, fun q hq => absurd hq (by show ¬ q ∈ []; simp)⟩, by decide, by decide, fun i => ⟨by show (0 : Int) ≤ 0; decide, by show (0 : Int) ≤ 255; decide⟩, by decide, fun q hq => absurd hq (by show ¬ q ∈ []; simp), by decide, by decide, by decide, fun q hq => absurd hq (by show ¬ q ∈ []; simp), by decide, by decide, by decide⟩
theorem in330 {q : Int × Int × Int} (h : lmh330.contains q = true) : q ∈ lmh330 := List.contains_iff_mem.mp h
theorem RMs0 {h h' : mf_M} (F : ∀ a : Int, 245 ≤ a → ∀ j : Int, h a j = 0) (E : ent lmh330 h') (R : frm mdR h h') (Kc : frk mdK h h') : RM S0 h' := by
  have z : ∀ a : Int, 245 ≤ a → ¬ a ∈ mdR → ∀ j, h' a j = 0 := fun a ha hn j => by rw [R a hn]; exact F a ha j
  have k : ∀ j : Int, ¬ j ∈ mdK → h' 245 j = 0 := fun j hj => by rw [Kc j hj]; exact F 245 (by decide) j
  have e8 : h' 245 8 = -1 := E (245, 8, -1) (in330 (by decide +kernel))
  have e71 : h' 245 71 = 1 := E (245, 71, 1) (in330 (by decide +kernel))
  have q280 : h' 283 4 = -1 := E (283, 4, -1) (in330 (by decide +kernel))
  have q281 : h' 283 5 = -1 := E (283, 5, -1) (in330 (by decide +kernel))
  have q282 : h' 283 6 = -1 := E (283, 6, -1) (in330 (by decide +kernel))
  have q283 : h' 283 7 = -1 := E (283, 7, -1) (in330 (by decide +kernel))
  have z286 := z 286 (by decide) (by decide)
  have hfol : folR S0.F h' := ⟨z 276 (by decide) (by decide) _, z 276 (by decide) (by decide) _, z 277 (by decide) (by decide) _, z 277 (by decide) (by decide) _, k 48 (by decide), k 54 (by decide), fun b b0 b1 => absurd b1 (by show ¬ b < 0; omega), fun b b0 b1 => absurd b1 (by show ¬ b < 0; omega), fun i i0 i1 => absurd i1 (by show ¬ i < 3 * 0; omega), Or.inl ⟨rfl, q280⟩, Or.inl ⟨rfl, q281⟩, Or.inl ⟨rfl, q282⟩, Or.inl ⟨rfl, q283⟩⟩
  have hvi : vM h' 286 0 S0.F.nb = S0.st := by
    funext j i
    show (if j = 0 then (if i = 0 then h' 286 0 else 0) else if j = 1 then (if 0 ≤ i ∧ i < 6 then h' 286 (0 + 1 + i) else 0) else if 2 ≤ j ∧ j ≤ 5 ∧ 0 ≤ i ∧ i < 0 then h' 286 (0 + 5 + j + 4 * i) else 0) = 0
    rw [z286, z286, z286]
    simp
  have hkp : kpM h' 286 0 S0.ks := ⟨z286 _, by decide, fun j hj => absurd hj (Nat.not_lt_zero _)⟩
  exact ⟨okS0, k 1 (by decide), fun i i0 i1 => absurd i1 (by show ¬ i < 0; omega), k 7 (by decide), e8, fun i _ _ => z 247 (by decide) (by decide) i, wdM_of E, hfol, hvi, hkp, k 61 (by decide), k 69 (by decide), k 70 (by decide), fun j hj => absurd hj (Nat.not_lt_zero _), k 65 (by decide), fun j hj => absurd hj (Nat.not_lt_zero _), e71, k 105 (by decide), fun j hj => absurd hj (Nat.not_lt_zero _), by rw [k 59 (by decide)]; decide⟩
def hZ : mf_M := mf_up (mf_up (hX5 (fun _ _ => 0)) 0 18 (-1)) 0 19 1
theorem hZ_z {a : Int} (h0 : ¬ a = 0) (h2 : a ≠ 2) (h6 : ¬ a = 6) (h17 : ¬ a = 17) (h34 : ¬ a = 34) (j : Int) : hZ a j = 0 := by
  unfold hZ hX5
  rw [up_row h0, up_row h0, up_row h34, up_row h17, up_row h6, wdF_fr _ _ _ _ _ _ h2]
theorem hZ_0 {j : Int} (h18 : ¬ j = 18) (h19 : ¬ j = 19) : hZ 0 j = 0 := by
  unfold hZ hX5
  rw [up_col h19, up_col h18, up_row (by decide), up_row (by decide), up_row (by decide), wdF_fr _ _ _ _ _ _ (by decide)]
theorem hZ_18 : hZ 0 18 = -1 := by
  unfold hZ
  rw [up_col (by decide), up_self]
theorem hZ_19 : hZ 0 19 = 1 := by
  unfold hZ
  rw [up_self]
theorem hZ_2 : hZ 2 = wdF 175 0 0 0 (fun _ _ => 0) 2 := by
  unfold hZ hX5
  rw [up_row (by decide), up_row (by decide), up_row (by decide), up_row (by decide), up_row (by decide)]
theorem RXs0 {g h : mf_M} (eg : g 0 12 = 11 ∧ g 0 13 = 28) (eh : ∀ a : Int, a < 245 → h a = hZ a) : RX S0 g h := by
  have z : ∀ a : Int, a < 245 → ¬ a = 0 → a ≠ 2 → ¬ a = 6 → ¬ a = 17 → ¬ a = 34 → ∀ j, h a j = 0 := fun a ha q0 q2 q6 q17 q34 j => by rw [eh a ha]; exact hZ_z q0 q2 q6 q17 q34 j
  have k : ∀ j : Int, ¬ j = 18 → ¬ j = 19 → h 0 j = 0 := fun j q1 q2 => by rw [eh 0 (by decide)]; exact hZ_0 q1 q2
  have e18 : h 0 18 = -1 := by rw [eh 0 (by decide)]; exact hZ_18
  have e19 : h 0 19 = 1 := by rw [eh 0 (by decide)]; exact hZ_19
  have z11 := z 11 (by decide) (by decide) (by decide) (by decide) (by decide) (by decide)
  have z19 := z 19 (by decide) (by decide) (by decide) (by decide) (by decide) (by decide)
  have z20 := z 20 (by decide) (by decide) (by decide) (by decide) (by decide) (by decide)
  have z88 := z 88 (by decide) (by decide) (by decide) (by decide) (by decide) (by decide)
  have hw : wordsX h := fun w hw => by
    rw [eh 2 (by decide), hZ_2]
    exact wdF_at ⟨w, hw⟩
  have hs : ∀ s : Int, scrX h (11 + 6) s [] := fun s => Or.inl ⟨rfl, by
    show h 20 s ≤ h 19 s
    rw [z20, z19]
    decide⟩
  have hfol : folX S0.F (g 0 12) h := by
    rw [eg.1]
    exact ⟨z11 _, z11 _, z11 _, z11 _, z11 _, fun b b0 b1 => absurd b1 (by show ¬ b < 0; omega), fun b b0 b1 => absurd b1 (by show ¬ b < 0; omega), fun i i0 i1 => absurd i1 (by show ¬ i < 0; omega), hs 0, hs 1, hs 2, hs 3⟩
  have hvi : vX h 88 S0.F.nb = S0.st := by
    funext j i
    show (if j = 0 then (if i = 0 then h 88 7 else 0) else if j = 1 then (if 0 ≤ i ∧ i < 6 then h 89 i else 0) else if 2 ≤ j ∧ j ≤ 5 ∧ 0 ≤ i ∧ i < 0 then h (88 + j) i else 0) = 0
    rw [z88, z 89 (by decide) (by decide) (by decide) (by decide) (by decide) (by decide), if_neg (show ¬ (2 ≤ j ∧ j ≤ 5 ∧ 0 ≤ i ∧ i < 0) by omega)]
    simp
  have hkp : kpX h 88 S0.ks := ⟨by rw [z88]; decide, by rw [z88]; decide, fun j hj => absurd hj (Nat.not_lt_zero _)⟩
  exact ⟨okS0, Or.inl eg, z 3 (by decide) (by decide) (by decide) (by decide) (by decide) (by decide) _, fun i i0 i1 => absurd i1 (by show ¬ i < 0; omega), k 17 (by decide) (by decide), e18, fun i _ _ => z 243 (by decide) (by decide) (by decide) (by decide) (by decide) (by decide) i, hw, hfol, hvi, hkp, by rw [z88, z88]; decide, k 15 (by decide) (by decide), k 16 (by decide) (by decide), fun j hj => absurd hj (Nat.not_lt_zero _), z 51 (by decide) (by decide) (by decide) (by decide) (by decide) (by decide) _, fun j hj => absurd hj (Nat.not_lt_zero _), e19, k 14 (by decide) (by decide), fun j hj => absurd hj (Nat.not_lt_zero _), fun a ha => by
    have : a = 53 ∨ a = 67 ∨ a = 74 ∨ a = 81 := by simpa using ha
    rw [z a (by omega) (by omega) (by omega) (by omega) (by omega) (by omega)]
    exact ⟨by decide, by decide⟩⟩
theorem frs.g5b {n : Nat} {g h : mf_M} (F : frs n g h) (hn : 88 ≤ n) : frs n (g5F g) h := by
  unfold g5F
  exact frs.lp (by omega) 3 0 _ (by omega) ((((((((((F.ug (by omega)).S (by omega)).ug (by omega)).ug (by omega)).ug (by omega)).ug (by omega)).ug (by omega)).ug (by omega)).ug (by omega)).ug (by omega) |>.ug (by omega))
theorem frsG : frs 245 gZ (fun _ _ => 0) := by
  have b0 : frs 245 (fun _ _ => (-1 : Int)) (fun _ _ => (0 : Int)) := ⟨fun _ _ _ => rfl, fun _ _ _ => rfl⟩
  have b1 : frs 245 (gX1 (fun _ _ => -1)) (fun _ _ => (0 : Int)) := by
    unfold gX1
    exact (((((b0.ug (by decide)).ug (by decide)).ug (by decide)).ug (by decide)).ug (by decide)).ug (by decide)
  have b2 : frs 245 (gX2 (fun _ _ => -1)) (fun _ _ => (0 : Int)) := by
    unfold gX2
    exact (((((b1.Cg (by decide)).ug (by decide)).ug (by decide)).ug (by decide)).ug (by decide)).ug (by decide)
  have b3 : frs 245 (gX3 (fun _ _ => -1)) (fun _ _ => (0 : Int)) := by
    unfold gX3
    exact (((b2.g1 (by decide) (by decide)).ug (by decide)).g1 (by decide) (by decide)).ug (by decide)
  have b4 : frs 245 (gX4 (fun _ _ => -1)) (fun _ _ => (0 : Int)) := by
    unfold gX4
    exact ((((((((b3.ug (by decide)).ug (by decide)).ug (by decide)).ug (by decide)).ug (by decide)).Cg (by decide)).ug (by decide)).ug (by decide))
  have b5 : frs 245 (gX5 (fun _ _ => -1)) (fun _ _ => (0 : Int)) := by
    unfold gX5
    exact ((((((b4.g5b (by decide)).ug (by decide)).S (by decide)).ug (by decide)).S (by decide)).ug (by decide)).ug (by decide)
  unfold gZ
  exact ((frs.lp (by decide) 20 0 _ (by decide) b5).ug (by decide)).ug (by decide)
theorem frsZ : frs 245 gZ hZ := ⟨frsG.1, fun a ha j => hZ_z (by omega) (by omega) (by omega) (by omega) (by omega) j⟩
theorem mdR_ge : ∀ a ∈ mdR, (245 : Int) ≤ a := by decide
theorem lwI0 {g' h' : mf_M} (eg : ent lmg335 g') (eh : ent lmh330 h') (fg : frm [245] gZ g') (fh : frm mdR hZ h') (fk : frk mdK hZ h') : lwI S0 g' h' := by
  have g0 : g' 0 = gZ 0 := fg 0 (by decide)
  refine ⟨gZ_GX (fun a ha => fg a (by simpa using ha)), GM_of eg, RXs0 (by rw [g0]; exact gZ_12) (fun a ha => fh a (fun hm => ?_)), RMs0 (fun a ha j => frsZ.2 a ha j) eh fh fk⟩
  have := mdR_ge a hm
  omega
