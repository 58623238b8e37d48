/-! the reference reads the text -/
def frL (h h' : mf_M) : Prop := (∀ a, a ≠ 245 → h' a = h a) ∧ ∀ k, k ≠ 2 → k ≠ 4 → k ≠ 5 → k ≠ 6 → k ≠ 10 → k ≠ 39 → h' 245 k = h 245 k
theorem frL.rf (h : mf_M) : frL h h := ⟨fun _ _ => rfl, fun _ _ _ _ _ _ _ => rfl⟩
theorem frL.tr {a b c : mf_M} (h1 : frL a b) (h2 : frL b c) : frL a c := ⟨fun x q => (h2.1 x q).trans (h1.1 x q), fun k q1 q2 q3 q4 q5 q6 => (h2.2 k q1 q2 q3 q4 q5 q6).trans (h1.2 k q1 q2 q3 q4 q5 q6)⟩
theorem frL.up {h : mf_M} {k v : Int} (hk : k = 2 ∨ k = 4 ∨ k = 5 ∨ k = 6 ∨ k = 10 ∨ k = 39) : frL h (mf_up h 245 k v) := ⟨fun a q => up_row q, fun j _ _ _ _ _ _ => up_col (by omega)⟩
/-- the text as it lies in the reference; where one reads; a fault -/
def txM (T : aT) (h : mf_M) : Prop := (0 ≤ T.2 ∧ T.2 ≤ 1600) ∧ (∀ i, 0 ≤ T.1 i ∧ T.1 i ≤ 255) ∧ h 245 3 = T.2 ∧ (∀ i, 0 ≤ i → i < T.2 → h 246 i = T.1 i) ∧ wordsM h
def lxM (T : aT) (q : aQ) (h : mf_M) : Prop := txM T h ∧ (0 ≤ q.1 ∧ q.1 ≤ T.2) ∧ h 245 5 = 0 ∧ (q.1 ≤ h 245 2 ∧ h 245 2 ≤ tA T q) ∧ (q.2 = true → h 245 4 = q.1) ∧ (q.2 = false → h 245 4 < q.1) ∧ h 245 6 = -1
def ltM (T : aT) (q : aQ) (h : mf_M) : Prop := lxM T q h ∧ h 245 2 = tA T q
def flM (e : Int × Int) (h : mf_M) : Prop := h 245 5 = e.1 ∧ h 245 6 = e.2
theorem txM.to {T : aT} {h h' : mf_M} (X : txM T h) (f : frL h h') : txM T h' := by
  obtain ⟨h1, h2, h3, h4, h5⟩ := X
  refine ⟨h1, h2, by rw [f.2 3 (by decide) (by decide) (by decide) (by decide) (by decide) (by decide)]; exact h3, by rw [f.1 246 (by decide)]; exact h4, h5.keep (fun a ha => f.1 a (by omega))⟩
theorem rn_mid {p : Int → Bool} {T : aT} : ∀ (n : Nat) (a b : Int), b - a ≤ n → a ≤ b → b ≤ rnS p T a → rnS p T b = rnS p T a
  | 0, a, b, h1, h2, h3 => by rw [show b = a by omega]
  | n + 1, a, b, h1, h2, h3 => by
    by_cases e : a = b
    · rw [e]
    · by_cases z : a < T.2 ∧ p (T.1 a) = true
      · rw [rn_step z.1 z.2] at h3 ⊢
        exact rn_mid n (a + 1) b (by omega) (by omega) h3
      · rw [rn_stop z] at h3
        omega
theorem lnL_get {T : aT} {a : Int} {n j : Nat} (hj : j < n) : (lnL T a n).getD j 0 = T.1 (a + (j : Int)) - 96 := by
  unfold lnL
  simp [hj]
theorem list_eqD : ∀ {l w : List Int}, l.length = w.length → (∀ j : Nat, j < l.length → l.getD j 0 = w.getD j 0) → l = w
  | [], [], _, _ => rfl
  | a :: l, b :: w, h1, h2 => by
    have e1 : a = b := by simpa using h2 0 (by simp)
    have e2 : l = w := list_eqD (by simpa using h1) (fun j hj => by simpa using h2 (j + 1) (by simpa using hj))
    rw [e1, e2]
theorem map_getD : ∀ {w : List Int} {j : Nat}, j < w.length → (w.map (fun x => x + 96)).getD j 0 = w.getD j 0 + 96
  | a :: w, 0, _ => rfl
  | a :: w, j + 1, h => by simpa using map_getD (w := w) (j := j) (by simpa using h)
theorem tN2_w {T : aT} {q : aQ} (h : tK T q = 1) : (tN T q).2 = true := by unfold tN; rw [h]; rfl
theorem tN2_n {T : aT} {q : aQ} (h : tK T q = 2) : (tN T q).2 = true := by unfold tN; rw [h]; rfl
theorem tN2_s {T : aT} {q : aQ} (h : tK T q = 3) : (tN T q).2 = false := by unfold tN; rw [h]; rfl
def wdI : List (Int × Nat) := [(248, 16), (249, 17), (250, 18), (251, 19), (252, 20), (253, 21), (254, 22), (255, 3), (256, 23), (257, 24), (258, 25), (259, 26), (260, 27), (261, 0), (262, 1), (263, 2), (264, 4), (265, 5), (266, 6), (267, 7), (268, 8), (269, 9), (270, 12), (271, 13), (272, 14), (273, 15), (274, 10), (275, 11), (293, 28), (294, 29), (295, 30), (296, 31), (297, 32), (298, 33), (299, 14), (300, 13), (301, 12), (302, 15), (303, 10), (304, 11), (305, 0), (306, 1), (307, 2), (308, 3), (309, 4), (310, 5), (311, 6), (312, 7), (313, 8), (314, 9)]
theorem wdI_ok : ∀ p ∈ wdI, (0 ≤ p.1 ∧ p.1 < 319 ∧ (mf_sh p.1.toNat).1 = 23) ∧ mf_len p.1 = ((wdX.getD p.2 []).length : Int) ∧ p.2 < 34 ∧ (p.1, (wdX.getD p.2 []).map (fun x => x + 96)) ∈ wdM := by decide +kernel
theorem wdX_short : ∀ k : Fin 34, (wdX.getD k.val []).length ≤ 6 ∧ 1 ≤ (wdX.getD k.val []).length := by decide +kernel
theorem lxM.S {T : aT} {q : aQ} {h : mf_M} (X : ltM T q h) : h 245 2 = h 245 4 ↔ tS T q = true := by
  obtain ⟨⟨_, _, _, ⟨a1, a2⟩, e1, e2, _⟩, e⟩ := X
  unfold tS
  have := tA_ge T q
  cases hq : q.2 with
  | true =>
    have := e1 hq
    rw [e, this]
    simp
  | false =>
    have := e2 hq
    simp
    omega
section SpLx
variable {C : mf_G} {l : Launch} {d : Nat} {L : Int → mf_M → Prop} {T : aT} {q : aQ}
theorem m_isLetter {x : Int} {h : mf_M} (h1 : ltB x = true → L 1 h) (h0 : ltB x = false → L 0 h) : mM C l d YX12_isLetter [(0, x)] h L := by
  have n : ∀ z : ¬ (97 ≤ x ∧ x ≤ 122), ltB x = false := fun z => by
    cases e : ltB x with
    | false => rfl
    | true => exact absurd ((ltB_iff x).mp e) z
  exact wX12_isLetter ⟨fun z => h0 (n (by omega)), fun z => ⟨fun y => h0 (n (by omega)), fun y => h1 ((ltB_iff x).mpr (by omega))⟩⟩
theorem m_isDigit {x : Int} {h : mf_M} (h1 : dgB x = true → L 1 h) (h0 : dgB x = false → L 0 h) : mM C l d YX12_isDigit [(0, x)] h L := by
  have n : ∀ z : ¬ (48 ≤ x ∧ x ≤ 57), dgB x = false := fun z => by
    cases e : dgB x with
    | false => rfl
    | true => exact absurd ((dgB_iff x).mp e) z
  exact wX12_isDigit ⟨fun z => h0 (n (by omega)), fun z => ⟨fun y => h0 (n (by omega)), fun y => h1 ((dgB_iff x).mpr (by omega))⟩⟩
theorem m_fail {k p : Int} {h : mf_M} (hb : h 245 5 = 0) (hK : ∀ h', flM (k, p) h' → frL h h' → L 0 h') : mM C l d YX12_fail [(2, 245), (0, k), (0, p)] h L := by
  refine wX12_fail ⟨fun _ h1 e1 h2 e2 => hK h2 ⟨?_, ?_⟩ ?_, fun z => absurd hb z⟩
  · rw [e2, up_col (by decide), e1, up_self]
  · rw [e2, up_self]
  · rw [e2]
    exact frL.tr (by rw [e1]; exact frL.up (by decide)) (frL.up (by decide))
theorem m_lookL : ∀ (n : Nat) (h : mf_M), T.2 - h 245 2 ≤ n → lxM T q h → (∀ h', ltM T q h' → frL h h' → L (if tA T q < T.2 then tB T q else -1) h') → BX12_look_0 C l d L h := by
  intro n
  induction n with
  | zero =>
    intro h hn X hK
    obtain ⟨⟨t1, t2, t3, t4, t5⟩, q1, q2, ⟨a1, a2⟩, e1, e2, e6⟩ := X
    have ee : tA T q = h 245 2 := by have := tA_le T q1.2; omega
    have k1 := hK h ⟨⟨⟨t1, t2, t3, t4, t5⟩, q1, q2, ⟨a1, a2⟩, e1, e2, e6⟩, ee.symm⟩ (frL.rf h)
    rw [if_neg (by omega)] at k1
    exact vX12_look_0 ⟨fun _ => ⟨fun _ => k1, fun z => absurd (by omega) z⟩, fun z => absurd (by omega) z⟩
  | succ n ih =>
    intro h hn X hK
    obtain ⟨⟨t1, t2, t3, t4, t5⟩, q1, q2, ⟨a1, a2⟩, e1, e2, e6⟩ := X
    have mid : rnS blB T (h 245 2) = tA T q := rn_mid (h 245 2 - q.1).toNat q.1 (h 245 2) (by omega) a1 a2
    have stop : ¬ (h 245 2 < T.2 ∧ blB (T.1 (h 245 2)) = true) → tA T q = h 245 2 := fun z => by rw [← mid, rn_stop z]
    have k1 : tA T q = h 245 2 → L (if tA T q < T.2 then tB T q else -1) h := fun z => hK h ⟨⟨⟨t1, t2, t3, t4, t5⟩, q1, q2, ⟨a1, a2⟩, e1, e2, e6⟩, z.symm⟩ (frL.rf h)
    by_cases hl : h 245 2 < T.2
    · have e246 : h 246 (h 245 2) = T.1 (h 245 2) := t4 _ (by omega) hl
      have go : blB (T.1 (h 245 2)) = true → ∀ h5 : mf_M, h5 = mf_up h 245 2 (mf_w32 (h 245 2 + 1)) → BX12_look_0 C l d L h5 := by
        intro hb h5 e5
        rw [w_id (by omega) (by omega)] at e5
        have f5 : frL h h5 := by rw [e5]; exact frL.up (by decide)
        have s5 : h5 245 2 = h 245 2 + 1 := by rw [e5, up_self]
        have ge := rn_ge blB T (h 245 2 + 1)
        rw [← rn_step hl hb, mid] at ge
        refine ih h5 (by omega) ⟨txM.to ⟨t1, t2, t3, t4, t5⟩ f5, q1, by rw [e5, up_col (by decide)]; exact q2, by omega, fun z => by rw [e5, up_col (by decide)]; exact e1 z, fun z => by rw [e5, up_col (by decide)]; exact e2 z, by rw [e5, up_col (by decide)]; exact e6⟩ (fun h6 X6 f6 => hK h6 X6 (f5.tr f6))
      refine vX12_look_0 ⟨fun z => absurd z (by omega), fun _ => ⟨by omega, by omega, fun z => go ((blB_iff _).mpr (Or.inr (by rw [← e246]; exact z))), fun z => ⟨fun y => ?_, fun y => go ((blB_iff _).mpr (Or.inl (by rw [← e246]; exact y)))⟩⟩⟩
      have nb : ¬ (h 245 2 < T.2 ∧ blB (T.1 (h 245 2)) = true) := fun w => by
        rcases (blB_iff _).mp w.2 with w1 | w1
        · exact y (e246.trans w1)
        · exact z (e246.trans w1)
      have k2 := k1 (stop nb)
      rw [if_pos (by rw [stop nb]; exact hl)] at k2
      unfold tB at k2
      rw [stop nb, ← e246] at k2
      exact ⟨fun w => absurd w (by omega), fun _ => k2⟩
    · have nb : ¬ (h 245 2 < T.2 ∧ blB (T.1 (h 245 2)) = true) := fun w => hl w.1
      have k2 := k1 (stop nb)
      rw [if_neg (by rw [stop nb]; exact hl)] at k2
      exact vX12_look_0 ⟨fun _ => ⟨fun _ => k2, fun z => absurd (by omega) z⟩, fun z => absurd (by omega) z⟩
theorem m_look {h : mf_M} (X : lxM T q h) (hK : ∀ h', ltM T q h' → frL h h' → L (if tA T q < T.2 then tB T q else -1) h') : mM C l d YX12_look [(2, 245)] h L :=
  wX12_look (m_lookL (T.2 - h 245 2).toNat h (by omega) X hK)
/-- whether a word stands here -/
theorem m_here76 {x : Int} {w : List Int} {h : mf_M} (X : ltM T q h) (hx : mf_is 319 x 23) (hl : mf_len x = w.length) (hw : ∀ j : Nat, j < w.length → h x j = w.getD j 0 + 96) (hk : tK T q = 1) (he : tE T q = tA T q + w.length) (hK1 : tL T q = w → L 1 h) (hK0 : ¬ tL T q = w → L 0 h) : ∀ (n i : Nat), i + n = w.length → (∀ j : Nat, j < i → T.1 (tA T q + j) = w.getD j 0 + 96) → BX12_isHere_76 C l d L x i h := by
  obtain ⟨⟨⟨t1, t2, t3, t4, t5⟩, q1, q2, ⟨a1, a2⟩, e1, e2⟩, ea⟩ := X
  have el := tE_le T q1.2
  have ag := tA_ge T q
  have ln : (tE T q - tA T q).toNat = w.length := by omega
  intro n
  induction n with
  | zero =>
    intro i hi hj
    refine vX12_isHere_76 ⟨hx, fun _ => hK1 ?_, fun z => absurd (by rw [hl]; omega) z⟩
    refine list_eqD (by unfold tL; rw [lnL_len, ln]) (fun j hj' => ?_)
    unfold tL at hj' ⊢
    rw [lnL_len] at hj'
    rw [lnL_get hj', hj j (by omega)]
    omega
  | succ n ih =>
    intro i hi hj
    have e246 : h 246 (tA T q + i) = T.1 (tA T q + i) := t4 _ (by omega) (by omega)
    refine vX12_isHere_76 ⟨hx, fun z => absurd z (by rw [hl]; omega), fun _ => ?_⟩
    rw [ea, w_id (x := tA T q + i) (by omega) (by omega), w_id (x := (i : Int) + 1) (by omega) (by omega), e246, hw i (by omega)]
    refine ⟨by omega, by omega, by omega, by rw [hl]; omega, fun z v6 e6 => ?_, fun z => hK0 (fun y => z ?_)⟩
    · rw [e6]
      refine ih (i + 1) (by omega) (fun j hj' => ?_)
      by_cases e : j = i
      · rw [e]; exact z
      · exact hj j (by omega)
    · have : (tL T q).getD i 0 = T.1 (tA T q + i) - 96 := by unfold tL; exact lnL_get (by omega)
      rw [y] at this
      omega
theorem m_here35 {x : Int} {w : List Int} {h : mf_M} (hd : 1 ≤ d) (X : ltM T q h) (hx : mf_is 319 x 23) (hl : mf_len x = w.length) (hw : ∀ j : Nat, j < w.length → h x j = w.getD j 0 + 96) (hk : tK T q = 1) (hK1 : tL T q = w → L 1 h) (hK0 : ¬ tL T q = w → L 0 h) : ∀ (n : Nat) (k : Int), T.2 - k ≤ n → tA T q ≤ k → k ≤ T.2 → rnS ltB T k = tE T q → BX12_isHere_35 C l d L x k h := by
  have X0 := X
  obtain ⟨⟨⟨t1, t2, t3, t4, t5⟩, q1, q2, ⟨a1, a2⟩, e1, e2⟩, ea⟩ := X
  have ag := tA_ge T q
  have fin : ∀ k : Int, tA T q ≤ k → k ≤ T.2 → k = tE T q → (mf_is 319 x 23 ∧ ((mf_w32 (k - h 245 2) = mf_len x → BX12_isHere_76 C l d L x 0 h) ∧ (¬ mf_w32 (k - h 245 2) = mf_len x → L 0 h))) := by
    intro k k0 k1 ke
    rw [ea, w_id (by omega) (by omega), hl]
    refine ⟨hx, fun z => m_here76 X0 hx hl hw hk (by omega) hK1 hK0 w.length 0 (by omega) (fun j hj => absurd hj (by omega)), fun z => hK0 (fun y => z ?_)⟩
    have : (tL T q).length = (tE T q - tA T q).toNat := lnL_len _ _ _
    rw [y] at this
    omega
  intro n
  induction n with
  | zero =>
    intro k hn k0 k1 hr
    have ke : k = tE T q := by rw [← hr, rn_stop (fun z => by have := z.1; omega)]
    exact vX12_isHere_35 hd ⟨fun _ => fin k k0 k1 ke, fun z => absurd (by omega) z⟩
  | succ n ih =>
    intro k hn k0 k1 hr
    by_cases hl2 : k < T.2
    · have e246 : h 246 k = T.1 k := t4 _ (by omega) hl2
      refine vX12_isHere_35 hd ⟨fun z => absurd z (by omega), fun _ => ⟨by omega, by omega, ?_⟩⟩
      rw [e246]
      refine m_isLetter (fun hb => ⟨fun z => absurd z (by decide), fun _ v8 e8 => ?_⟩) (fun hb => ⟨fun _ => fin k k0 k1 ?_, fun z => absurd rfl z⟩)
      · rw [w_id (by omega) (by omega)] at e8
        rw [e8]
        exact ih (k + 1) (by omega) (by omega) (by omega) (by rw [← rn_step hl2 hb]; exact hr)
      · rw [← hr, rn_stop (fun z => by rw [hb] at z; exact absurd z.2 (by decide))]
    · have ke : k = tE T q := by rw [← hr, rn_stop (fun z => hl2 z.1)]
      exact vX12_isHere_35 hd ⟨fun _ => fin k k0 k1 ke, fun z => absurd (by omega) z⟩
theorem wdI_at {x : Int} {k : Nat} {h : mf_M} (hk : (x, k) ∈ wdI) (hw : wordsM h) : mf_is 319 x 23 ∧ mf_len x = (wdX.getD k []).length ∧ k < 34 ∧ ∀ j : Nat, j < (wdX.getD k []).length → h x j = (wdX.getD k []).getD j 0 + 96 := by
  obtain ⟨h1, h2, h3, h4⟩ := wdI_ok (x, k) hk
  refine ⟨h1, h2, h3, fun j hj => ?_⟩
  have := hw _ h4 j (by simpa using hj)
  simp only [] at this
  rw [this]
  exact map_getD hj
theorem M_isHere {x : Int} {k : Nat} {h : mf_M} (hk : (x, k) ∈ wdI) (hd : 1 ≤ d) (X : lxM T q h) (hK1 : tX T q = (k : Int) → ∀ h', ltM T q h' → frL h h' → L 1 h') (hK0 : ¬ tX T q = (k : Int) → ∀ h', ltM T q h' → frL h h' → L 0 h') : mM C l d YX12_isHere [(2, 245), (2, x)] h L := by
  have q1 := X.2.1
  refine wX12_isHere hd ⟨fun z => absurd X.2.2.1 z, fun _ => m_look X (fun h1 X1 f1 => ?_)⟩
  obtain ⟨w1, w2, w3, w4⟩ := wdI_at hk X1.1.1.2.2.2.2
  have iff := tX_iff (T := T) (q := q) w3
  have no : ¬ tK T q = 1 → L 0 h1 := fun z => hK0 (fun y => z (iff.mp y).1) h1 X1 f1
  refine m_isLetter (fun hb => ⟨fun z => absurd z (by decide), fun _ => ⟨fun z v7 e7 => ?_, fun z => ?_⟩⟩) (fun hb => ⟨fun _ => no (fun z => ?_), fun z => absurd rfl z⟩)
  · have hlt : tA T q < T.2 := by
      by_cases y : tA T q < T.2
      · exact y
      · rw [if_neg y] at hb; exact absurd hb (by decide)
    rw [if_pos hlt] at hb
    have hs : tS T q = false := by
      cases e : tS T q with
      | false => rfl
      | true => exact absurd ((lxM.S X1).mpr e) z
    have hk1 : tK T q = 1 := tK_word.mpr ⟨hlt, hb, hs⟩
    rw [e7, X1.2]
    refine m_here35 hd X1 w1 w2 w4 hk1 (fun y => hK1 (iff.mpr ⟨hk1, y⟩) h1 X1 f1) (fun y => hK0 (fun w => y (iff.mp w).2) h1 X1 f1) (T.2 - tA T q).toNat (tA T q) (by omega) (by omega) (by omega) (tE_word hk1).symm
  · refine no (fun y => ?_)
    have := (tK_word.mp y).2.2
    rw [(lxM.S X1).mp z] at this
    exact absurd this (by decide)
  · have y := tK_word.mp z
    rw [if_pos y.1, y.2.1] at hb
    exact absurd hb (by decide)
theorem lxM.go {h h' : mf_M} (X : ltM T q h) (f : frL h h') (hb : h' 245 5 = 0) (hk : tK T q ≠ 0) (ha : h' 245 2 = tE T q) (hw : (tN T q).2 = true → h' 245 4 = tE T q) (hs : (tN T q).2 = false → h' 245 4 < tE T q) (h6 : h' 245 6 = -1) : lxM T (tN T q) h' := by
  obtain ⟨⟨t, q1, q2, _, e1, e2⟩, ea⟩ := X
  have p := tN_pos q1.2 hk
  exact ⟨t.to f, ⟨by omega, p.2⟩, hb, ⟨by rw [ha]; exact Int.le_refl _, by rw [ha]; exact tA_ge T (tN T q)⟩, hw, hs, h6⟩
theorem M_takes {x : Int} {k : Nat} {h : mf_M} (hk : (x, k) ∈ wdI) (hd : 2 ≤ d) (X : lxM T q h) (hK1 : tX T q = (k : Int) → ∀ h', lxM T (tN T q) h' → frL h h' → L 1 h') (hK0 : ¬ tX T q = (k : Int) → ∀ h', ltM T q h' → frL h h' → L 0 h') : mM C l d YX12_takes [(2, 245), (2, x)] h L := by
  refine wX12_takes hd (M_isHere hk (by decide) X (fun e h1 X1 f1 => ?_) (fun e h1 X1 f1 => ⟨fun z => absurd rfl z, fun _ => hK0 e h1 X1 f1⟩))
  obtain ⟨w1, w2, w3, w4⟩ := wdI_at hk X1.1.1.2.2.2.2
  refine ⟨fun _ => ⟨w1, fun h5 e5 h6 e6 => ?_⟩, fun z => absurd z (by decide)⟩
  have iff := (tX_iff (T := T) (q := q) w3).mp e
  have q1 := X1.1.2.1
  have t1 := X1.1.1.1
  have tle := tE_le T q1.2
  have tge := tE_gt (T := T) (q := q) (by rw [iff.1]; decide)
  have ag := tA_ge T q
  have ln : (tL T q).length = (tE T q - tA T q).toNat := lnL_len _ _ _
  rw [iff.2] at ln
  rw [w2, X1.2, w_id (by omega) (by omega), show tA T q + ((wdX.getD k []).length : Int) = tE T q by omega] at e5
  have s5 : h5 245 2 = tE T q := by rw [e5, up_self]
  rw [s5] at e6
  have f6 : frL h1 h6 := by rw [e6]; exact frL.tr (by rw [e5]; exact frL.up (by decide)) (frL.up (by decide))
  refine hK1 e h6 (lxM.go X1 f6 ?_ (by rw [iff.1]; decide) ?_ (fun _ => ?_) (fun z => ?_) ?_) (f1.tr f6)
  · rw [e6, up_col (by decide), e5, up_col (by decide)]; exact X1.1.2.2.1
  · rw [e6, up_col (by decide)]; exact s5
  · rw [e6, up_self]
  · rw [tN2_w iff.1] at z
    exact absurd z (by decide)
  · rw [e6, up_col (by decide), e5, up_col (by decide)]; exact X1.1.2.2.2.2.2.2
theorem M_asks {x : Int} {k : Nat} {h : mf_M} (hk : (x, k) ∈ wdI) (hd : 3 ≤ d) (X : lxM T q h) (hK1 : tX T q = (k : Int) → ∀ h', lxM T (tN T q) h' → frL h h' → L 0 h') (hK0 : ¬ tX T q = (k : Int) → ∀ h', flM (1, tA T q) h' → frL h h' → L 0 h') : mM C l d YX12_asks [(2, 245), (2, x)] h L := by
  refine wX12_asks hd ⟨fun z => absurd X.2.2.1 z, fun _ => M_takes hk (by decide) X (fun e h1 X1 f1 => ⟨fun _ => hK1 e h1 X1 f1, fun z => absurd z (by decide)⟩) (fun e h1 X1 f1 => ⟨fun z => absurd rfl z, fun _ => m_fail X1.1.2.2.1 (fun h2 F2 f2 => hK0 e h2 ?_ (f1.tr f2))⟩)⟩
  rw [X1.2] at F2; exact F2
/-- a sign -/
theorem look_sg {c : Int} (c0 : 0 ≤ c) (hl : ltB c = false) (hg : dgB c = false) : (if tA T q < T.2 then tB T q else -1) = c ↔ sgB T q c = true := by
  rw [sgB_iff]
  constructor
  · intro z
    by_cases y : tA T q < T.2
    · rw [if_pos y] at z
      exact ⟨tK_sign.mpr ⟨y, by rw [z]; exact hl, by rw [z]; exact hg⟩, z⟩
    · rw [if_neg y] at z; omega
  · intro z
    rw [if_pos (tK_sign.mp z.1).1]; exact z.2
theorem lxM.sg {h h' : mf_M} (X : ltM T q h) (f : frL h h') (hk : tK T q = 3) (hb : h' 245 5 = 0) (ha : h' 245 2 = tA T q + 1) (he : h' 245 4 = h 245 4) (h6 : h' 245 6 = h 245 6) : lxM T (tN T q) h' := by
  have t := tE_sign hk
  have ag := tA_ge T q
  refine lxM.go X f hb (by rw [hk]; decide) (by rw [t]; exact ha) (fun z => ?_) (fun _ => ?_) (h6.trans X.1.2.2.2.2.2.2)
  · rw [tN2_s hk] at z
    exact absurd z (by decide)
  · rw [he, t]
    obtain ⟨⟨_, _, _, _, e1, e2, _⟩, _⟩ := X
    cases hq : q.2 with
    | true => have := e1 hq; omega
    | false => have := e2 hq; omega
theorem M_takesSign {c : Int} {h : mf_M} (c0 : 0 ≤ c) (hl : ltB c = false) (hg : dgB c = false) (hd : 1 ≤ d) (X : lxM T q h) (hK1 : sgB T q c = true → ∀ h', lxM T (tN T q) h' → h' 245 2 = tA T q + 1 → frL h h' → L 1 h') (hK0 : sgB T q c = false → ∀ h', ltM T q h' → frL h h' → L 0 h') : mM C l d YX12_takesSign [(2, 245), (0, c)] h L := by
  refine wX12_takesSign hd ⟨fun z => absurd X.2.2.1 z, fun _ => m_look X (fun h1 X1 f1 => ⟨fun z h4 e4 => ?_, fun z => hK0 ?_ h1 X1 f1⟩)⟩
  · have s := (look_sg c0 hl hg).mp z
    have hk := (sgB_iff.mp s).1
    have q1 := X1.1.2.1
    have t1 := X1.1.1.1
    have tl := tA_le T q1.2
    have ag := tA_ge T q
    rw [X1.2, w_id (by omega) (by omega)] at e4
    have f4 : frL h1 h4 := by rw [e4]; exact frL.up (by decide)
    exact hK1 s h4 (lxM.sg X1 f4 hk (by rw [e4, up_col (by decide)]; exact X1.1.2.2.1) (by rw [e4, up_self]) (by rw [e4, up_col (by decide)]) (by rw [e4, up_col (by decide)])) (by rw [e4, up_self]) (f1.tr f4)
  · cases e : sgB T q c with
    | false => rfl
    | true => exact absurd ((look_sg c0 hl hg).mpr e) z
theorem M_asksSign {c : Int} {h : mf_M} (c0 : 0 ≤ c) (hl : ltB c = false) (hg : dgB c = false) (hd : 2 ≤ d) (X : lxM T q h) (hK1 : sgB T q c = true → ∀ h', lxM T (tN T q) h' → frL h h' → L 0 h') (hK0 : sgB T q c = false → ∀ h', flM (1, tA T q) h' → frL h h' → L 0 h') : mM C l d YX12_asksSign [(2, 245), (0, c)] h L := by
  refine wX12_asksSign hd ⟨fun z => absurd X.2.2.1 z, fun _ => M_takesSign c0 hl hg (by decide) X (fun e h1 X1 _ f1 => ⟨fun _ => hK1 e h1 X1 f1, fun z => absurd z (by decide)⟩) (fun e h1 X1 f1 => ⟨fun z => absurd rfl z, fun _ => m_fail X1.1.2.2.1 (fun h2 F2 f2 => hK0 e h2 ?_ (f1.tr f2))⟩)⟩
  rw [X1.2] at F2; exact F2
/-- a number -/
theorem m_num49 {lo hi : Int} (hd : 1 ≤ d) (hk : tK T q = 2) (h0 : mf_M) (hKok : tE T q - tA T q ≤ 4 → lo ≤ tV T q → tV T q ≤ hi → ∀ h', lxM T (tN T q) h' → h' 245 10 = tA T q → frL h0 h' → L (tV T q) h') (hK2 : tE T q - tA T q ≤ 4 → ¬ (lo ≤ tV T q ∧ tV T q ≤ hi) → ∀ h', flM (2, tA T q) h' → frL h0 h' → ∀ v, L v h') (hK1 : 4 < tE T q - tA T q → ∀ h', flM (1, tA T q + 4) h' → frL h0 h' → L 0 h') : ∀ (n i : Nat) (h : mf_M), T.2 - (tA T q + i) ≤ n → frL h0 h → txM T h → (0 ≤ q.1 ∧ q.1 ≤ T.2) → h 245 5 = 0 → h 245 6 = -1 → i ≤ 4 → h 245 2 = tA T q + i → rnS dgB T (tA T q + i) = tE T q → BX12_number_49 C l d L lo hi (tA T q) (nvS T (tA T q) i) h := by
  have tg := tE_gt (T := T) (q := q) (by rw [hk]; decide)
  have ag := tA_ge T q
  have dig : ∀ i : Nat, tA T q + i < tE T q → 48 ≤ T.1 (tA T q + i) ∧ T.1 (tA T q + i) ≤ 57 := fun i hi => by
    rw [tE_num hk] at hi
    exact (dgB_iff _).mp (rn_all (p := dgB) (T := T) (T.2 - tA T q).toNat (tA T q) (by omega) (tA T q + i) (by omega) hi)
  have fin : ∀ (i : Nat) (h : mf_M), frL h0 h → txM T h → (0 ≤ q.1 ∧ q.1 ≤ T.2) → h 245 5 = 0 → h 245 6 = -1 → i ≤ 4 → h 245 2 = tA T q + i → tA T q + i = tE T q → BX12_number_129 C l d L lo hi (tA T q) (nvS T (tA T q) i) h := by
    intro i h f0 X q1 hb h6 i4 ha he
    have ev : nvS T (tA T q) i = tV T q := by unfold tV; rw [show (tE T q - tA T q).toNat = i by omega]
    refine vX12_number_129 hd (fun h1 e1 h2 e2 => ?_)
    have f2 : frL h h2 := by rw [e2]; exact frL.tr (by rw [e1]; exact frL.up (by decide)) (frL.up (by decide))
    have b2 : h2 245 5 = 0 := by rw [e2, up_col (by decide), e1, up_col (by decide)]; exact hb
    have p := tN_pos q1.2 (by rw [hk]; decide : tK T q ≠ 0)
    rw [ev]
    refine m_isIn ?_
    by_cases hr : lo ≤ tV T q ∧ tV T q ≤ hi
    · rw [if_pos hr]
      refine ⟨fun _ => hKok (by omega) hr.1 hr.2 h2 ⟨X.to f2, ⟨by omega, p.2⟩, b2, ?_, fun _ => ?_, fun z => ?_, ?_⟩ ?_ (f0.tr f2), fun z => absurd z (by decide)⟩
      · have : h2 245 2 = tE T q := by rw [e2, up_col (by decide), e1, up_col (by decide), ha, he]
        rw [this]
        exact ⟨Int.le_refl _, tA_ge T (tN T q)⟩
      · rw [e2, up_col (by decide), e1, up_self, ha, he]; rfl
      · rw [tN2_n hk] at z
        exact absurd z (by decide)
      · rw [e2, up_col (by decide), e1, up_col (by decide)]; exact h6
      · rw [e2, up_self]
    · rw [if_neg hr]
      exact ⟨fun z => absurd rfl z, fun _ => m_fail b2 (fun h3 F3 f3 => hK2 (by omega) hr h3 F3 ((f0.tr f2).tr f3) _)⟩
  intro n
  induction n with
  | zero =>
    intro i h hn f0 X q1 hb h6 i4 ha hr
    have he : tA T q + i = tE T q := by rw [← hr, rn_stop (fun z => by have := z.1; omega)]
    refine vX12_number_49 hd ⟨fun _ => fin i h f0 X q1 hb h6 i4 ha he, fun z => absurd ?_ z⟩
    rw [X.2.2.1, ha]; omega
  | succ n ih =>
    intro i h hn f0 X q1 hb h6 i4 ha hr
    by_cases hl : tA T q + i < T.2
    · have e246 : h 246 (tA T q + i) = T.1 (tA T q + i) := X.2.2.2.1 _ (by omega) hl
      have t1 := X.1
      refine vX12_number_49 hd ⟨fun z => absurd z (by rw [X.2.2.1, ha]; omega), fun _ => ?_⟩
      rw [ha, e246]
      refine ⟨by omega, by omega, m_isDigit (fun hb2 => ⟨fun z => absurd z (by decide), fun _ => ?_⟩) (fun hb2 => ⟨fun _ => fin i h f0 X q1 hb h6 i4 ha ?_, fun z => absurd rfl z⟩)⟩
      · rw [ha, w_id (x := tA T q + i - tA T q) (by omega) (by omega), e246]
        have hlt : tA T q + i < tE T q := by
          have := rn_ge dgB T (tA T q + i + 1)
          rw [← rn_step hl hb2, hr] at this
          omega
        have dg := dig i hlt
        have nr := nv_range (T := T) (a := tA T q) i (fun j hj => dig j (by omega))
        have hp : ∀ m : Fin 5, (10 : Int) ^ m.val ≤ 10000 := by decide
        have hp4 := hp ⟨i, by omega⟩
        simp only [] at hp4
        refine ⟨fun z => ⟨by omega, by omega, fun v8 e8 h9 e9 => ?_⟩, fun z => m_fail hb (fun h2 F2 f2 => hK1 ?_ h2 ?_ (f0.tr f2))⟩
        · rw [w_id (x := 10 * nvS T (tA T q) i) (by omega) (by omega), w_id (x := 10 * nvS T (tA T q) i + T.1 (tA T q + i)) (by omega) (by omega), w_id (by omega) (by omega)] at e8
          rw [w_id (by omega) (by omega)] at e9
          have f9 : frL h h9 := by rw [e9]; exact frL.up (by decide)
          have ev : v8 = nvS T (tA T q) (i + 1) := by rw [e8]; show _ = 10 * nvS T (tA T q) i + (T.1 (tA T q + i) - 48); omega
          rw [ev]
          exact ih (i + 1) h9 (by omega) (f0.tr f9) (X.to f9) q1 (by rw [e9, up_col (by decide)]; exact hb) (by rw [e9, up_col (by decide)]; exact h6) (by omega) (by rw [e9, up_self]; omega) (by rw [show tA T q + ((i + 1 : Nat) : Int) = tA T q + i + 1 by omega, ← rn_step hl hb2]; exact hr)
        · omega
        · rw [show tA T q + (i : Int) = tA T q + 4 by omega] at F2; exact F2
      · rw [← hr, rn_stop (fun z => by rw [hb2] at z; exact absurd z.2 (by decide))]
    · have he : tA T q + i = tE T q := by rw [← hr, rn_stop (fun z => hl z.1)]
      refine vX12_number_49 hd ⟨fun _ => fin i h f0 X q1 hb h6 i4 ha he, fun z => absurd ?_ z⟩
      rw [X.2.2.1, ha]; omega
theorem M_number {lo hi : Int} {h : mf_M} (hd : 1 ≤ d) (X : lxM T q h) (hKok : tK T q = 2 → tE T q - tA T q ≤ 4 → lo ≤ tV T q → tV T q ≤ hi → ∀ h', lxM T (tN T q) h' → h' 245 10 = tA T q → frL h h' → L (tV T q) h') (hK2 : tK T q = 2 → tE T q - tA T q ≤ 4 → ¬ (lo ≤ tV T q ∧ tV T q ≤ hi) → ∀ h', flM (2, tA T q) h' → frL h h' → ∀ v, L v h') (hK1 : ¬ (tK T q = 2 ∧ tE T q - tA T q ≤ 4) → ∀ h', flM (1, if tK T q = 2 then tA T q + 4 else tA T q) h' → frL h h' → L 0 h') : mM C l d YX12_number [(2, 245), (0, lo), (0, hi)] h L := by
  refine wX12_number hd ⟨fun _ => m_look X (fun h1 X1 f1 => ?_), fun z => absurd X.2.2.1 z⟩
  have no : ¬ tK T q = 2 → mM C l 0 YX12_fail [(2, 245), (0, 1), (0, h1 245 2)] h1 (fun r7 h9 => L 0 h9) := fun z => m_fail X1.1.2.2.1 (fun h2 F2 f2 => hK1 (fun y => z y.1) h2 (by rw [if_neg z]; rw [X1.2] at F2; exact F2) (f1.tr f2))
  refine m_isDigit (fun hb => ⟨fun z => absurd z (by decide), fun _ => ⟨fun z v10 e10 => ?_, fun z => no (fun y => ?_)⟩⟩) (fun hb => ⟨fun _ => no (fun y => ?_), fun z => absurd rfl z⟩)
  · have hlt : tA T q < T.2 := by
      by_cases y : tA T q < T.2
      · exact y
      · rw [if_neg y] at hb; exact absurd hb (by decide)
    rw [if_pos hlt] at hb
    have hs : tS T q = false := by
      cases e : tS T q with
      | false => rfl
      | true => exact absurd ((lxM.S X1).mpr e) z
    have hk : tK T q = 2 := tK_num.mpr ⟨hlt, hb, hs⟩
    rw [e10, X1.2]
    have := m_num49 (C := C) (l := l) (L := L) (lo := lo) (hi := hi) hd hk h1 (fun a1 a2 a3 h' a4 a5 a6 => hKok hk a1 a2 a3 h' a4 a5 (f1.tr a6)) (fun a1 a2 h' a3 a4 v => hK2 hk a1 a2 h' a3 (f1.tr a4) v) (fun a1 h' a2 a3 => hK1 (fun y => by omega) h' (by rw [if_pos hk]; exact a2) (f1.tr a3)) (T.2 - tA T q).toNat 0 h1 (by omega) (frL.rf h1) X1.1.1 X1.1.2.1 X1.1.2.2.1 X1.1.2.2.2.2.2.2 (by decide) (by rw [X1.2]; simp) (by rw [tE_num hk]; simp)
    exact this
  · have := (tK_num.mp y).2.2
    rw [(lxM.S X1).mp z] at this
    exact absurd this (by decide)
  · have y' := tK_num.mp y
    rw [if_pos y'.1, y'.2.1] at hb
    exact absurd hb (by decide)
theorem m_ownH {x : Int} {k : Nat} {h : mf_M} (hk : (x, k) ∈ wdI) (hk28 : k < 28) (X : ltM T q h) (hY : 0 ≤ tX T q ∧ tX T q < 28 → ∀ h', ltM T q h' → frL h h' → L 1 h') (hN : ¬ tX T q = (k : Int) → ∀ h', ltM T q h' → frL h h' → L 0 h') : mM C l 1 YX12_isHere [(2, 245), (2, x)] h L :=
  M_isHere hk (by decide) X.1 (fun e h1 X1 f1 => hY (by omega) h1 X1 f1) hN
theorem M_isOwnHere {h : mf_M} (hd : 2 ≤ d) (X : ltM T q h) (hY : 0 ≤ tX T q ∧ tX T q < 28 → ∀ h', ltM T q h' → frL h h' → L 1 h') (hN : ¬ (0 ≤ tX T q ∧ tX T q < 28) → ∀ h', ltM T q h' → frL h h' → L 0 h') : mM C l d YX12_isOwnHere [(2, 245)] h L := by
  have y299 : 0 ≤ tX T q ∧ tX T q < 28 → ∀ h', ltM T q h' → frL h h' → BX12_isOwnHere_299 C l d L 1 h' := fun o h' X' f' => vX12_isOwnHere_299 hd ⟨fun _ => hY o h' X' f', fun z => absurd z (by decide)⟩
  have y223 : 0 ≤ tX T q ∧ tX T q < 28 → ∀ h', ltM T q h' → frL h h' → BX12_isOwnHere_223 C l d L 1 h' := fun o h' X' f' => vX12_isOwnHere_223 hd ⟨fun _ => y299 o h' X' f', fun z => absurd z (by decide)⟩
  have y147 : 0 ≤ tX T q ∧ tX T q < 28 → ∀ h', ltM T q h' → frL h h' → BX12_isOwnHere_147 C l d L 1 h' := fun o h' X' f' => vX12_isOwnHere_147 hd ⟨fun _ => y223 o h' X' f', fun z => absurd z (by decide)⟩
  have y71 : 0 ≤ tX T q ∧ tX T q < 28 → ∀ h', ltM T q h' → frL h h' → BX12_isOwnHere_71 C l d L 1 h' := fun o h' X' f' => vX12_isOwnHere_71 hd ⟨fun _ => y147 o h' X' f', fun z => absurd z (by decide)⟩
  exact wX12_isOwnHere hd (m_ownH (x := 248) (k := 16) (by decide) (by decide) X (fun o k00 X00 f00 => ⟨fun _ => y71 o k00 X00 f00, fun z => absurd z (by decide)⟩) (fun e00 k00 X00 f00 => ⟨fun z => absurd rfl z, fun _ => m_ownH (x := 249) (k := 17) (by decide) (by decide) X00 (fun o k01 X01 f01 => ⟨fun _ => y71 o k01 X01 (f00.tr f01), fun z => absurd z (by decide)⟩) (fun e01 k01 X01 f01 => ⟨fun z => absurd rfl z, fun _ => m_ownH (x := 250) (k := 18) (by decide) (by decide) X01 (fun o k02 X02 f02 => ⟨fun _ => y71 o k02 X02 ((f00.tr f01).tr f02), fun z => absurd z (by decide)⟩) (fun e02 k02 X02 f02 => ⟨fun z => absurd rfl z, fun _ => m_ownH (x := 251) (k := 19) (by decide) (by decide) X02 (fun o k03 X03 f03 => ⟨fun _ => y71 o k03 X03 (((f00.tr f01).tr f02).tr f03), fun z => absurd z (by decide)⟩) (fun e03 k03 X03 f03 => ⟨fun z => absurd rfl z, fun _ => m_ownH (x := 252) (k := 20) (by decide) (by decide) X03 (fun o k04 X04 f04 => ⟨fun _ => y71 o k04 X04 ((((f00.tr f01).tr f02).tr f03).tr f04), fun z => absurd z (by decide)⟩) (fun e04 k04 X04 f04 => ⟨fun z => absurd rfl z, fun _ => m_ownH (x := 253) (k := 21) (by decide) (by decide) X04 (fun o k05 X05 f05 => ⟨fun z => absurd z (by decide), fun _ => y71 o k05 X05 (((((f00.tr f01).tr f02).tr f03).tr f04).tr f05)⟩) (fun e05 k05 X05 f05 => ⟨fun _ => vX12_isOwnHere_71 hd ⟨fun z => absurd rfl z, fun _ => m_ownH (x := 254) (k := 22) (by decide) (by decide) X05 (fun o k10 X10 f10 => ⟨fun _ => y147 o k10 X10 ((((((f00.tr f01).tr f02).tr f03).tr f04).tr f05).tr f10), fun z => absurd z (by decide)⟩) (fun e10 k10 X10 f10 => ⟨fun z => absurd rfl z, fun _ => m_ownH (x := 255) (k := 3) (by decide) (by decide) X10 (fun o k11 X11 f11 => ⟨fun _ => y147 o k11 X11 (((((((f00.tr f01).tr f02).tr f03).tr f04).tr f05).tr f10).tr f11), fun z => absurd z (by decide)⟩) (fun e11 k11 X11 f11 => ⟨fun z => absurd rfl z, fun _ => m_ownH (x := 256) (k := 23) (by decide) (by decide) X11 (fun o k12 X12 f12 => ⟨fun _ => y147 o k12 X12 ((((((((f00.tr f01).tr f02).tr f03).tr f04).tr f05).tr f10).tr f11).tr f12), fun z => absurd z (by decide)⟩) (fun e12 k12 X12 f12 => ⟨fun z => absurd rfl z, fun _ => m_ownH (x := 257) (k := 24) (by decide) (by decide) X12 (fun o k13 X13 f13 => ⟨fun _ => y147 o k13 X13 (((((((((f00.tr f01).tr f02).tr f03).tr f04).tr f05).tr f10).tr f11).tr f12).tr f13), fun z => absurd z (by decide)⟩) (fun e13 k13 X13 f13 => ⟨fun z => absurd rfl z, fun _ => m_ownH (x := 258) (k := 25) (by decide) (by decide) X13 (fun o k14 X14 f14 => ⟨fun _ => y147 o k14 X14 ((((((((((f00.tr f01).tr f02).tr f03).tr f04).tr f05).tr f10).tr f11).tr f12).tr f13).tr f14), fun z => absurd z (by decide)⟩) (fun e14 k14 X14 f14 => ⟨fun z => absurd rfl z, fun _ => m_ownH (x := 259) (k := 26) (by decide) (by decide) X14 (fun o k15 X15 f15 => ⟨fun z => absurd z (by decide), fun _ => y147 o k15 X15 (((((((((((f00.tr f01).tr f02).tr f03).tr f04).tr f05).tr f10).tr f11).tr f12).tr f13).tr f14).tr f15)⟩) (fun e15 k15 X15 f15 => ⟨fun _ => vX12_isOwnHere_147 hd ⟨fun z => absurd rfl z, fun _ => m_ownH (x := 260) (k := 27) (by decide) (by decide) X15 (fun o k20 X20 f20 => ⟨fun _ => y223 o k20 X20 ((((((((((((f00.tr f01).tr f02).tr f03).tr f04).tr f05).tr f10).tr f11).tr f12).tr f13).tr f14).tr f15).tr f20), fun z => absurd z (by decide)⟩) (fun e20 k20 X20 f20 => ⟨fun z => absurd rfl z, fun _ => m_ownH (x := 261) (k := 0) (by decide) (by decide) X20 (fun o k21 X21 f21 => ⟨fun _ => y223 o k21 X21 (((((((((((((f00.tr f01).tr f02).tr f03).tr f04).tr f05).tr f10).tr f11).tr f12).tr f13).tr f14).tr f15).tr f20).tr f21), fun z => absurd z (by decide)⟩) (fun e21 k21 X21 f21 => ⟨fun z => absurd rfl z, fun _ => m_ownH (x := 262) (k := 1) (by decide) (by decide) X21 (fun o k22 X22 f22 => ⟨fun _ => y223 o k22 X22 ((((((((((((((f00.tr f01).tr f02).tr f03).tr f04).tr f05).tr f10).tr f11).tr f12).tr f13).tr f14).tr f15).tr f20).tr f21).tr f22), fun z => absurd z (by decide)⟩) (fun e22 k22 X22 f22 => ⟨fun z => absurd rfl z, fun _ => m_ownH (x := 263) (k := 2) (by decide) (by decide) X22 (fun o k23 X23 f23 => ⟨fun _ => y223 o k23 X23 (((((((((((((((f00.tr f01).tr f02).tr f03).tr f04).tr f05).tr f10).tr f11).tr f12).tr f13).tr f14).tr f15).tr f20).tr f21).tr f22).tr f23), fun z => absurd z (by decide)⟩) (fun e23 k23 X23 f23 => ⟨fun z => absurd rfl z, fun _ => m_ownH (x := 264) (k := 4) (by decide) (by decide) X23 (fun o k24 X24 f24 => ⟨fun _ => y223 o k24 X24 ((((((((((((((((f00.tr f01).tr f02).tr f03).tr f04).tr f05).tr f10).tr f11).tr f12).tr f13).tr f14).tr f15).tr f20).tr f21).tr f22).tr f23).tr f24), fun z => absurd z (by decide)⟩) (fun e24 k24 X24 f24 => ⟨fun z => absurd rfl z, fun _ => m_ownH (x := 265) (k := 5) (by decide) (by decide) X24 (fun o k25 X25 f25 => ⟨fun z => absurd z (by decide), fun _ => y223 o k25 X25 (((((((((((((((((f00.tr f01).tr f02).tr f03).tr f04).tr f05).tr f10).tr f11).tr f12).tr f13).tr f14).tr f15).tr f20).tr f21).tr f22).tr f23).tr f24).tr f25)⟩) (fun e25 k25 X25 f25 => ⟨fun _ => vX12_isOwnHere_223 hd ⟨fun z => absurd rfl z, fun _ => m_ownH (x := 266) (k := 6) (by decide) (by decide) X25 (fun o k30 X30 f30 => ⟨fun _ => y299 o k30 X30 ((((((((((((((((((f00.tr f01).tr f02).tr f03).tr f04).tr f05).tr f10).tr f11).tr f12).tr f13).tr f14).tr f15).tr f20).tr f21).tr f22).tr f23).tr f24).tr f25).tr f30), fun z => absurd z (by decide)⟩) (fun e30 k30 X30 f30 => ⟨fun z => absurd rfl z, fun _ => m_ownH (x := 267) (k := 7) (by decide) (by decide) X30 (fun o k31 X31 f31 => ⟨fun _ => y299 o k31 X31 (((((((((((((((((((f00.tr f01).tr f02).tr f03).tr f04).tr f05).tr f10).tr f11).tr f12).tr f13).tr f14).tr f15).tr f20).tr f21).tr f22).tr f23).tr f24).tr f25).tr f30).tr f31), fun z => absurd z (by decide)⟩) (fun e31 k31 X31 f31 => ⟨fun z => absurd rfl z, fun _ => m_ownH (x := 268) (k := 8) (by decide) (by decide) X31 (fun o k32 X32 f32 => ⟨fun _ => y299 o k32 X32 ((((((((((((((((((((f00.tr f01).tr f02).tr f03).tr f04).tr f05).tr f10).tr f11).tr f12).tr f13).tr f14).tr f15).tr f20).tr f21).tr f22).tr f23).tr f24).tr f25).tr f30).tr f31).tr f32), fun z => absurd z (by decide)⟩) (fun e32 k32 X32 f32 => ⟨fun z => absurd rfl z, fun _ => m_ownH (x := 269) (k := 9) (by decide) (by decide) X32 (fun o k33 X33 f33 => ⟨fun _ => y299 o k33 X33 (((((((((((((((((((((f00.tr f01).tr f02).tr f03).tr f04).tr f05).tr f10).tr f11).tr f12).tr f13).tr f14).tr f15).tr f20).tr f21).tr f22).tr f23).tr f24).tr f25).tr f30).tr f31).tr f32).tr f33), fun z => absurd z (by decide)⟩) (fun e33 k33 X33 f33 => ⟨fun z => absurd rfl z, fun _ => m_ownH (x := 270) (k := 12) (by decide) (by decide) X33 (fun o k34 X34 f34 => ⟨fun _ => y299 o k34 X34 ((((((((((((((((((((((f00.tr f01).tr f02).tr f03).tr f04).tr f05).tr f10).tr f11).tr f12).tr f13).tr f14).tr f15).tr f20).tr f21).tr f22).tr f23).tr f24).tr f25).tr f30).tr f31).tr f32).tr f33).tr f34), fun z => absurd z (by decide)⟩) (fun e34 k34 X34 f34 => ⟨fun z => absurd rfl z, fun _ => m_ownH (x := 271) (k := 13) (by decide) (by decide) X34 (fun o k35 X35 f35 => ⟨fun z => absurd z (by decide), fun _ => y299 o k35 X35 (((((((((((((((((((((((f00.tr f01).tr f02).tr f03).tr f04).tr f05).tr f10).tr f11).tr f12).tr f13).tr f14).tr f15).tr f20).tr f21).tr f22).tr f23).tr f24).tr f25).tr f30).tr f31).tr f32).tr f33).tr f34).tr f35)⟩) (fun e35 k35 X35 f35 => ⟨fun _ => vX12_isOwnHere_299 hd ⟨fun z => absurd rfl z, fun _ => m_ownH (x := 272) (k := 14) (by decide) (by decide) X35 (fun o k40 X40 f40 => ⟨fun _ => hY o k40 X40 ((((((((((((((((((((((((f00.tr f01).tr f02).tr f03).tr f04).tr f05).tr f10).tr f11).tr f12).tr f13).tr f14).tr f15).tr f20).tr f21).tr f22).tr f23).tr f24).tr f25).tr f30).tr f31).tr f32).tr f33).tr f34).tr f35).tr f40), fun z => absurd z (by decide)⟩) (fun e40 k40 X40 f40 => ⟨fun z => absurd rfl z, fun _ => m_ownH (x := 273) (k := 15) (by decide) (by decide) X40 (fun o k41 X41 f41 => ⟨fun _ => hY o k41 X41 (((((((((((((((((((((((((f00.tr f01).tr f02).tr f03).tr f04).tr f05).tr f10).tr f11).tr f12).tr f13).tr f14).tr f15).tr f20).tr f21).tr f22).tr f23).tr f24).tr f25).tr f30).tr f31).tr f32).tr f33).tr f34).tr f35).tr f40).tr f41), fun z => absurd z (by decide)⟩) (fun e41 k41 X41 f41 => ⟨fun z => absurd rfl z, fun _ => m_ownH (x := 274) (k := 10) (by decide) (by decide) X41 (fun o k42 X42 f42 => ⟨fun _ => hY o k42 X42 ((((((((((((((((((((((((((f00.tr f01).tr f02).tr f03).tr f04).tr f05).tr f10).tr f11).tr f12).tr f13).tr f14).tr f15).tr f20).tr f21).tr f22).tr f23).tr f24).tr f25).tr f30).tr f31).tr f32).tr f33).tr f34).tr f35).tr f40).tr f41).tr f42), fun z => absurd z (by decide)⟩) (fun e42 k42 X42 f42 => ⟨fun z => absurd rfl z, fun _ => m_ownH (x := 275) (k := 11) (by decide) (by decide) X42 (fun o k43 X43 f43 => ⟨fun z => absurd z (by decide), fun _ => hY o k43 X43 (((((((((((((((((((((((((((f00.tr f01).tr f02).tr f03).tr f04).tr f05).tr f10).tr f11).tr f12).tr f13).tr f14).tr f15).tr f20).tr f21).tr f22).tr f23).tr f24).tr f25).tr f30).tr f31).tr f32).tr f33).tr f34).tr f35).tr f40).tr f41).tr f42).tr f43)⟩) (fun e43 k43 X43 f43 => ⟨fun _ => hN (fun z => by omega) k43 X43 (((((((((((((((((((((((((((f00.tr f01).tr f02).tr f03).tr f04).tr f05).tr f10).tr f11).tr f12).tr f13).tr f14).tr f15).tr f20).tr f21).tr f22).tr f23).tr f24).tr f25).tr f30).tr f31).tr f32).tr f33).tr f34).tr f35).tr f40).tr f41).tr f42).tr f43), fun z => absurd rfl z⟩)⟩)⟩)⟩)⟩, fun z => absurd rfl z⟩)⟩)⟩)⟩)⟩)⟩)⟩, fun z => absurd rfl z⟩)⟩)⟩)⟩)⟩)⟩)⟩, fun z => absurd rfl z⟩)⟩)⟩)⟩)⟩)⟩)⟩, fun z => absurd rfl z⟩)⟩)⟩)⟩)⟩)⟩))
theorem m_name58 (hd : 1 ≤ d) (hk : tK T q = 1) (h0 : mf_M) (hKok : tE T q - tA T q ≤ 6 → ∀ h', lxM T (tN T q) h' → h' 245 39 = tA T q → frL h0 h' → L (pkS (tL T q)) h') (hK1 : 6 < tE T q - tA T q → ∀ h', flM (1, tA T q + 6) h' → frL h0 h' → L 0 h') : ∀ (n i : Nat) (h : mf_M), T.2 - (tA T q + i) ≤ n → frL h0 h → txM T h → (0 ≤ q.1 ∧ q.1 ≤ T.2) → h 245 5 = 0 → h 245 6 = -1 → h 245 39 = tA T q → i ≤ 6 → h 245 2 = tA T q + i → rnS ltB T (tA T q + i) = tE T q → BX12_name_58 C l d L (pkS (lnL T (tA T q) i)) h := by
  have tg := tE_gt (T := T) (q := q) (by rw [hk]; decide)
  have ag := tA_ge T q
  have let_ : ∀ i : Nat, tA T q + i < tE T q → 97 ≤ T.1 (tA T q + i) ∧ T.1 (tA T q + i) ≤ 122 := fun i hi => by
    rw [tE_word hk] at hi
    exact (ltB_iff _).mp (rn_all (p := ltB) (T := T) (T.2 - tA T q).toNat (tA T q) (by omega) (tA T q + i) (by omega) hi)
  have fin : ∀ (i : Nat) (h : mf_M), frL h0 h → txM T h → (0 ≤ q.1 ∧ q.1 ≤ T.2) → h 245 5 = 0 → h 245 6 = -1 → h 245 39 = tA T q → i ≤ 6 → h 245 2 = tA T q + i → tA T q + i = tE T q → ∀ h1 : mf_M, h1 = mf_up h 245 4 (h 245 2) → L (pkS (lnL T (tA T q) i)) h1 := by
    intro i h f0 X q1 hb h6 hp i6 ha he h1 e1
    have ev : lnL T (tA T q) i = tL T q := by unfold tL; rw [show (tE T q - tA T q).toNat = i by omega]
    have f1 : frL h h1 := by rw [e1]; exact frL.up (by decide)
    have p := tN_pos q1.2 (by rw [hk]; decide : tK T q ≠ 0)
    rw [ev]
    refine hKok (by omega) h1 ⟨X.to f1, ⟨by omega, p.2⟩, by rw [e1, up_col (by decide)]; exact hb, ?_, fun _ => ?_, fun z => ?_, by rw [e1, up_col (by decide)]; exact h6⟩ (by rw [e1, up_col (by decide)]; exact hp) (f0.tr f1)
    · have : h1 245 2 = tE T q := by rw [e1, up_col (by decide), ha, he]
      rw [this]
      exact ⟨Int.le_refl _, tA_ge T (tN T q)⟩
    · rw [e1, up_self, ha, he]; rfl
    · rw [tN2_w hk] at z
      exact absurd z (by decide)
  intro n
  induction n with
  | zero =>
    intro i h hn f0 X q1 hb h6 hp i6 ha hr
    have he : tA T q + i = tE T q := by rw [← hr, rn_stop (fun z => by have := z.1; omega)]
    refine vX12_name_58 hd ⟨fun _ => fin i h f0 X q1 hb h6 hp i6 ha he, fun z => absurd ?_ z⟩
    rw [X.2.2.1, ha]; omega
  | succ n ih =>
    intro i h hn f0 X q1 hb h6 hp i6 ha hr
    by_cases hl : tA T q + i < T.2
    · have e246 : h 246 (tA T q + i) = T.1 (tA T q + i) := X.2.2.2.1 _ (by omega) hl
      have t1 := X.1
      have fin2 := fin i h f0 X q1 hb h6 hp i6 ha
      refine vX12_name_58 hd ⟨fun z => absurd z (by rw [X.2.2.1, ha]; omega), fun _ => ?_⟩
      rw [ha, e246]
      refine ⟨by omega, by omega, m_isLetter (fun hb2 => ⟨fun z => absurd z (by decide), fun _ => ?_⟩) (fun hb2 => ⟨fun _ => fin2 ?_, fun z => absurd rfl z⟩)⟩
      · rw [ha, hp, w_id (x := tA T q + i - tA T q) (by omega) (by omega), e246]
        have hlt : tA T q + i < tE T q := by
          have := rn_ge ltB T (tA T q + i + 1)
          rw [← rn_step hl hb2, hr] at this
          omega
        have dg := let_ i hlt
        have pk := pv_range0 (lnL T (tA T q) i).reverse (fun x hx => by
          have hx' := List.mem_reverse.mp hx
          unfold lnL at hx'
          obtain ⟨j, hj, rfl⟩ := List.mem_map.mp hx'
          have hj' := List.mem_range.mp hj
          have := let_ j (by omega)
          omega)
        rw [← pk_rev, List.reverse_reverse, List.length_reverse, lnL_len] at pk
        have hpw : ∀ m : Fin 7, (27 : Int) ^ m.val ≤ 387420489 := by decide
        have hp6 := hpw ⟨i, by omega⟩
        simp only [] at hp6
        refine ⟨fun z => ⟨by omega, by omega, fun v10 e10 h11 e11 => ?_⟩, fun z => m_fail hb (fun h2 F2 f2 => hK1 ?_ h2 ?_ (f0.tr f2))⟩
        · rw [w64_id (x := 27 * pkS (lnL T (tA T q) i)) (by omega) (by omega), w64_id (x := 27 * pkS (lnL T (tA T q) i) + T.1 (tA T q + i)) (by omega) (by omega), w64_id (x := 27 * pkS (lnL T (tA T q) i) + T.1 (tA T q + i) - 97) (by omega) (by omega), w64_id (by omega) (by omega)] at e10
          rw [w_id (by omega) (by omega)] at e11
          have f11 : frL h h11 := by rw [e11]; exact frL.up (by decide)
          have ev : v10 = pkS (lnL T (tA T q) (i + 1)) := by rw [e10, lnL_succ, pk_snoc]; omega
          rw [ev]
          exact ih (i + 1) h11 (by omega) (f0.tr f11) (X.to f11) q1 (by rw [e11, up_col (by decide)]; exact hb) (by rw [e11, up_col (by decide)]; exact h6) (by rw [e11, up_col (by decide)]; exact hp) (by omega) (by rw [e11, up_self]; omega) (by rw [show tA T q + ((i + 1 : Nat) : Int) = tA T q + i + 1 by omega, ← rn_step hl hb2]; exact hr)
        · omega
        · rw [show tA T q + (i : Int) = tA T q + 6 by omega] at F2; exact F2
      · rw [← hr, rn_stop (fun z => by rw [hb2] at z; exact absurd z.2 (by decide))]
    · have he : tA T q + i = tE T q := by rw [← hr, rn_stop (fun z => hl z.1)]
      refine vX12_name_58 hd ⟨fun _ => fin i h f0 X q1 hb h6 hp i6 ha he, fun z => absurd ?_ z⟩
      rw [X.2.2.1, ha]; omega
theorem M_name {h : mf_M} (hd : 3 ≤ d) (X : lxM T q h) (hKok : tK T q = 1 → ¬ (0 ≤ tX T q ∧ tX T q < 28) → tE T q - tA T q ≤ 6 → ∀ h', lxM T (tN T q) h' → h' 245 39 = tA T q → frL h h' → L (pkS (tL T q)) h') (hK1 : ¬ (tK T q = 1 ∧ ¬ (0 ≤ tX T q ∧ tX T q < 28)) → ∀ h', flM (1, tA T q) h' → frL h h' → L 0 h') (hK2 : tK T q = 1 → ¬ (0 ≤ tX T q ∧ tX T q < 28) → 6 < tE T q - tA T q → ∀ h', flM (1, tA T q + 6) h' → frL h h' → L 0 h') : mM C l d YX12_name [(2, 245)] h L := by
  refine wX12_name hd ⟨fun _ => m_look X (fun h1 X1 f1 => ?_), fun z => absurd X.2.2.1 z⟩
  have no : ¬ (tK T q = 1 ∧ ¬ (0 ≤ tX T q ∧ tX T q < 28)) → ∀ h2, ltM T q h2 → frL h1 h2 → mM C l 0 YX12_fail [(2, 245), (0, 1), (0, h2 245 2)] h2 (fun r7 h9 => L 0 h9) := fun z h2 X2 f2 => m_fail X2.1.2.2.1 (fun h3 F3 f3 => hK1 z h3 (by rw [X2.2] at F3; exact F3) ((f1.tr f2).tr f3))
  refine m_isLetter (fun hb => ⟨fun z => absurd z (by decide), fun _ => ⟨fun z => no (fun y => ?_) h1 X1 (frL.rf h1), fun z => M_isOwnHere (by decide) X1 (fun o h2 X2 f2 => ⟨fun z => absurd z (by decide), fun _ => no (fun y => y.2 o) h2 X2 f2⟩) (fun o h2 X2 f2 => ⟨fun _ h16 e16 => ?_, fun z => absurd rfl z⟩)⟩⟩) (fun hb => ⟨fun _ => no (fun y => ?_) h1 X1 (frL.rf h1), fun z => absurd rfl z⟩)
  · have := (tK_word.mp y.1).2.2
    rw [(lxM.S X1).mp z] at this
    exact absurd this (by decide)
  · have hlt : tA T q < T.2 := by
      by_cases y : tA T q < T.2
      · exact y
      · rw [if_neg y] at hb; exact absurd hb (by decide)
    rw [if_pos hlt] at hb
    have hs : tS T q = false := by
      cases e : tS T q with
      | false => rfl
      | true => exact absurd ((lxM.S X1).mpr e) z
    have hk : tK T q = 1 := tK_word.mpr ⟨hlt, hb, hs⟩
    have f16 : frL h2 h16 := by rw [e16]; exact frL.up (by decide)
    have := m_name58 (C := C) (l := l) (L := L) (d := d) (by omega) hk h16 (fun a1 h' a4 a5 a6 => hKok hk o a1 h' a4 a5 (((f1.tr f2).tr f16).tr a6)) (fun a1 h' a2 a3 => hK2 hk o a1 h' a2 (((f1.tr f2).tr f16).tr a3)) (T.2 - tA T q).toNat 0 h16 (by omega) (frL.rf h16) (X2.1.1.to f16) X2.1.2.1 (by rw [e16, up_col (by decide)]; exact X2.1.2.2.1) (by rw [e16, up_col (by decide)]; exact X2.1.2.2.2.2.2.2) (by rw [e16, up_self]; exact X2.2) (by decide) (by rw [e16, up_col (by decide), X2.2]; simp) (by rw [tE_word hk]; simp)
    exact this
  · have y' := tK_word.mp y.1
    rw [if_pos y'.1, y'.2.1] at hb
    exact absurd hb (by decide)
end SpLx
