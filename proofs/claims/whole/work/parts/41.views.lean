/-! the state of a folio's folk, as numbers by kind and place: 0 the day, 1 glosses by leaves, 2 leaf, 3 cell, 4 purse, 5 met, by beings -/
def vX (h : mf_M) (a nb : Int) : mf_M := fun j k => if j = 0 then (if k = 0 then h a 7 else 0) else if j = 1 then (if 0 ≤ k ∧ k < 6 then h (a + 1) k else 0) else if 2 ≤ j ∧ j ≤ 5 ∧ 0 ≤ k ∧ k < nb then h (a + j) k else 0
def vM (h : mf_M) (r b nb : Int) : mf_M := fun j k => if j = 0 then (if k = 0 then h r b else 0) else if j = 1 then (if 0 ≤ k ∧ k < 6 then h r (b + 1 + k) else 0) else if 2 ≤ j ∧ j ≤ 5 ∧ 0 ≤ k ∧ k < nb then h r (b + 5 + j + 4 * k) else 0
theorem vX_day (h : mf_M) (a nb : Int) : vX h a nb 0 0 = h a 7 := by simp [vX]
theorem vX_gl {h : mf_M} {a nb k : Int} (h0 : 0 ≤ k) (h1 : k < 6) : vX h a nb 1 k = h (a + 1) k := by simp [vX, h0, h1]
theorem vX_be {h : mf_M} {a nb j k : Int} (hj : 2 ≤ j) (hj5 : j ≤ 5) (h0 : 0 ≤ k) (h1 : k < nb) : vX h a nb j k = h (a + j) k := by
  unfold vX
  rw [if_neg (by omega), if_neg (by omega), if_pos ⟨hj, hj5, h0, h1⟩]
theorem vM_day (h : mf_M) (r b nb : Int) : vM h r b nb 0 0 = h r b := by simp [vM]
theorem vM_gl {h : mf_M} {r b nb k : Int} (h0 : 0 ≤ k) (h1 : k < 6) : vM h r b nb 1 k = h r (b + 1 + k) := by simp [vM, h0, h1]
theorem vM_be {h : mf_M} {r b nb j k : Int} (hj : 2 ≤ j) (hj5 : j ≤ 5) (h0 : 0 ≤ k) (h1 : k < nb) : vM h r b nb j k = h r (b + 5 + j + 4 * k) := by
  unfold vM
  rw [if_neg (by omega), if_neg (by omega), if_pos ⟨hj, hj5, h0, h1⟩]
/-- a write to a being's number -/
theorem vX_up {h : mf_M} {a nb j k v : Int} (hj : 2 ≤ j) (hj5 : j ≤ 5) (h0 : 0 ≤ k) (h1 : k < nb) : vX (mf_up h (a + j) k v) a nb = mf_up (vX h a nb) j k v := by
  funext i m
  rw [up_if]
  unfold vX
  simp only [up_if]
  by_cases e0 : i = 0
  · subst e0
    rw [if_pos rfl, if_pos rfl, if_neg (by omega : ¬ ((0 : Int) = j ∧ m = k))]
    by_cases e9 : m = 0
    · rw [if_pos e9, if_pos e9, if_neg (by omega)]
    · rw [if_neg e9, if_neg e9]
  · rw [if_neg e0, if_neg e0]
    by_cases e1 : i = 1
    · subst e1
      rw [if_pos rfl, if_pos rfl, if_neg (by omega : ¬ ((1 : Int) = j ∧ m = k))]
      by_cases e2 : 0 ≤ m ∧ m < 6
      · rw [if_pos e2, if_pos e2, if_neg (by omega)]
      · rw [if_neg e2, if_neg e2]
    · rw [if_neg e1, if_neg e1]
      by_cases e2 : 2 ≤ i ∧ i ≤ 5 ∧ 0 ≤ m ∧ m < nb
      · rw [if_pos e2, if_pos e2]
        by_cases e3 : i = j ∧ m = k
        · rw [if_pos e3, if_pos ⟨by omega, e3.2⟩]
        · rw [if_neg e3, if_neg (by omega)]
      · rw [if_neg e2, if_neg e2, if_neg (by omega)]
theorem vM_up {h : mf_M} {r b nb j k v i : Int} (hi : i = b + 5 + j + 4 * k) (hj : 2 ≤ j) (hj5 : j ≤ 5) (h0 : 0 ≤ k) (h1 : k < nb) : vM (mf_up h r i v) r b nb = mf_up (vM h r b nb) j k v := by
  subst hi
  funext i m
  rw [up_if]
  unfold vM
  simp only [up_if, true_and]
  by_cases e0 : i = 0
  · subst e0
    rw [if_pos rfl, if_pos rfl, if_neg (by omega : ¬ ((0 : Int) = j ∧ m = k))]
    by_cases e9 : m = 0
    · rw [if_pos e9, if_pos e9, if_neg (by omega)]
    · rw [if_neg e9, if_neg e9]
  · rw [if_neg e0, if_neg e0]
    by_cases e1 : i = 1
    · subst e1
      rw [if_pos rfl, if_pos rfl, if_neg (by omega : ¬ ((1 : Int) = j ∧ m = k))]
      by_cases e2 : 0 ≤ m ∧ m < 6
      · rw [if_pos e2, if_pos e2, if_neg (by omega)]
      · rw [if_neg e2, if_neg e2]
    · rw [if_neg e1, if_neg e1]
      by_cases e2 : 2 ≤ i ∧ i ≤ 5 ∧ 0 ≤ m ∧ m < nb
      · rw [if_pos e2, if_pos e2]
        by_cases e3 : i = j ∧ m = k
        · rw [if_pos e3, if_pos (by omega)]
        · rw [if_neg e3, if_neg (by omega)]
      · rw [if_neg e2, if_neg e2, if_neg (by omega)]
theorem vX_row {h h' : mf_M} {a nb : Int} (h0 : h' a 7 = h a 7) (h1 : ∀ j, 1 ≤ j → j ≤ 5 → h' (a + j) = h (a + j)) : vX h' a nb = vX h a nb := by
  funext i m
  unfold vX
  by_cases e0 : i = 0
  · rw [if_pos e0, if_pos e0, h0]
  · rw [if_neg e0, if_neg e0]
    by_cases e1 : i = 1
    · rw [if_pos e1, if_pos e1, h1 1 (by omega) (by omega)]
    · rw [if_neg e1, if_neg e1]
      by_cases e2 : 2 ≤ i ∧ i ≤ 5 ∧ 0 ≤ m ∧ m < nb
      · rw [if_pos e2, if_pos e2, h1 i (by omega) (by omega)]
      · rw [if_neg e2, if_neg e2]
theorem vM_row {h h' : mf_M} {r b nb : Int} (h0 : h' r = h r) : vM h' r b nb = vM h r b nb := by
  funext i m
  unfold vM
  rw [h0]
/-- the first of n from k on of which p is true, or -1 -/
def findN (p : Int → Bool) : Nat → Int → Int
  | 0, _ => -1
  | n + 1, k => if p k then k else findN p n (k + 1)
theorem findN_range (p : Int → Bool) : ∀ (n : Nat) (k : Int), findN p n k = -1 ∨ (k ≤ findN p n k ∧ findN p n k < k + n ∧ p (findN p n k) = true)
  | 0, _ => Or.inl rfl
  | n + 1, k => by
    unfold findN
    by_cases h : p k = true
    · rw [if_pos h]; exact Or.inr ⟨by omega, by omega, h⟩
    · rw [if_neg h]
      rcases findN_range p n (k + 1) with h1 | ⟨h1, h2, h3⟩
      · exact Or.inl h1
      · exact Or.inr ⟨by omega, by omega, h3⟩
/-- who stands on a cell -/
def whoS (σ : mf_M) (nb leaf c : Int) : Int := findN (fun b => decide (σ 2 b = leaf) && decide (σ 3 b = c)) nb.toNat 0
section SpM
variable {C : mf_G} {l : Launch} {d : Nat} {L : Int → mf_M → Prop} {h : mf_M}
theorem m_isIn {v lo hi : Int} (hK : L (if lo ≤ v ∧ v ≤ hi then 1 else 0) h) : mM C l d YX12_isIn [(1, v), (1, lo), (1, hi)] h L := by
  refine wX12_isIn ⟨fun q => ?_, fun q => ⟨fun z => ?_, fun z => ?_⟩⟩
  · rw [if_neg (by omega)] at hK; exact hK
  · rw [if_neg (by omega)] at hK; exact hK
  · rw [if_pos (by omega)] at hK; exact hK
theorem m_isBeing {b : Int} (hd : 1 ≤ d) (h0 : 0 ≤ h 277 3) (h8 : h 277 3 ≤ 8) (hK : L (if 0 ≤ b ∧ b < h 277 3 then 1 else 0) h) : mM C l d YX12_isBeing [(2, 245), (0, b)] h L := by
  refine wX12_isBeing hd (wX12_beingMany (m_isIn ?_))
  rw [w_id (by omega) (by omega)]
  by_cases hb : 0 ≤ b ∧ b < h 277 3
  · rw [if_pos hb] at hK; rw [if_pos (by omega)]; exact ⟨Or.inr rfl, hK⟩
  · rw [if_neg hb] at hK; rw [if_neg (by omega)]; exact ⟨Or.inl rfl, hK⟩
theorem m_isCell {a c : Int} (hd : 1 ≤ d) (hl0 : 0 ≤ h 276 2) (hl : h 276 2 ≤ 6) (hc0 : 0 ≤ h 276 3) (hc : h 276 3 ≤ 8) (hf : h 245 54 = 0 → h 276 2 = 0) (hK : L (if 0 ≤ a ∧ a < h 276 2 ∧ 0 ≤ c ∧ c < h 276 3 then 1 else 0) h) : mM C l d YX12_isCell [(2, 245), (0, a), (0, c)] h L := by
  refine wX12_isCell hd ⟨fun q => ?_, fun q => wX12_leaves (m_isIn ?_)⟩
  · have := hf q
    rw [if_neg (by omega)] at hK; exact hK
  · rw [w_id (by omega) (by omega)]
    by_cases h1 : 0 ≤ a ∧ a < h 276 2
    · rw [if_pos (by omega)]
      refine ⟨fun z => absurd z (by decide), fun _ => m_isIn ?_⟩
      rw [w_id (by omega) (by omega)]
      by_cases h2 : 0 ≤ c ∧ c < h 276 3
      · rw [if_pos (by omega)]
        rw [if_pos (by omega)] at hK
        exact ⟨fun z => absurd z (by decide), fun _ => hK⟩
      · rw [if_neg (by omega)]
        rw [if_neg (by omega)] at hK
        exact ⟨fun _ => hK, fun z => absurd rfl z⟩
    · rw [if_neg (by omega)]
      rw [if_neg (by omega)] at hK
      exact ⟨fun _ => hK, fun z => absurd rfl z⟩
theorem m_leafOf {b : Int} (h0 : 0 ≤ b) (h8 : b < 8) (hK : L (h 286 (7 + 4 * b)) h) : mM C l d YX12_leafOf [(2, 245), (0, b)] h L := by
  refine wX12_leafOf ?_
  rw [w_id (x := 4 * b) (by omega) (by omega), w_id (by omega) (by omega)]
  exact ⟨by omega, by omega, hK⟩
theorem m_cellOf {b : Int} (h0 : 0 ≤ b) (h8 : b < 8) (hK : L (h 286 (8 + 4 * b)) h) : mM C l d YX12_cellOf [(2, 245), (0, b)] h L := by
  refine wX12_cellOf ?_
  rw [w_id (x := 4 * b) (by omega) (by omega), w_id (x := 7 + 4 * b) (by omega) (by omega), w_id (by omega) (by omega)]
  have e : 7 + 4 * b + 1 = 8 + 4 * b := by omega
  rw [e]
  exact ⟨by omega, by omega, hK⟩
theorem m_purseOf {b : Int} (h0 : 0 ≤ b) (h8 : b < 8) (hK : L (h 286 (9 + 4 * b)) h) : mM C l d YX12_purseOf [(2, 245), (0, b)] h L := by
  refine wX12_purseOf ?_
  rw [w_id (x := 4 * b) (by omega) (by omega), w_id (x := 7 + 4 * b) (by omega) (by omega), w_id (by omega) (by omega)]
  have e : 7 + 4 * b + 2 = 9 + 4 * b := by omega
  rw [e]
  exact ⟨by omega, by omega, hK⟩
def clipS (v : Int) : Int := if v < 0 then 0 else if 9999 < v then 9999 else v
theorem m_purseIs {b v : Int} (h0 : 0 ≤ b) (h8 : b < 8) (hK : L 0 (mf_up h 286 (9 + 4 * b) (clipS v))) : mM C l d YX12_purseIs [(2, 245), (0, b), (1, v)] h L := by
  refine wX12_purseIs ?_
  rw [w_id (x := 4 * b) (by omega) (by omega), w_id (x := 7 + 4 * b) (by omega) (by omega), w_id (x := 7 + 4 * b + 2) (by omega) (by omega)]
  have e : 7 + 4 * b + 2 = 9 + 4 * b := by omega
  rw [e]
  unfold clipS at hK
  refine ⟨fun q => ⟨fun z => ⟨by omega, by omega, fun h3 e3 => ?_⟩, fun z => ⟨by omega, by omega, fun h3 e3 => ?_⟩⟩, fun q => ⟨by omega, by omega, fun h3 e3 => ?_⟩⟩
  · rw [w_id (by omega) (by omega)] at e3
    rw [if_neg (by omega), if_neg (by omega)] at hK
    rw [e3]; exact hK
  · rw [if_neg (by omega), if_pos (by omega)] at hK
    rw [e3]; exact hK
  · rw [if_pos (by omega)] at hK
    rw [e3]; exact hK
def bitS (w c : Int) : Int := mf_and (mf_shr w c) 1
theorem m_hasGloss {a c : Int} (h0 : 0 ≤ a) (h6 : a < 6) (hK : L (if bitS (h 286 (1 + a)) c = 1 then 1 else 0) h) : mM C l d YX12_hasGloss [(2, 245), (0, a), (0, c)] h L := by
  refine wX12_hasGloss ?_
  rw [w_id (x := 1 + a) (by omega) (by omega)]
  unfold bitS at hK
  refine ⟨by omega, by omega, fun q => ?_, fun q => ?_⟩
  · rw [if_neg q] at hK; exact hK
  · rw [if_pos q] at hK; exact hK
theorem m_standsOn {nb leaf c : Int} (hd : 1 ≤ d) (hnb : h 277 3 = nb) (h8 : nb ≤ 8) (hK : L (whoS (vM h 286 0 nb) nb leaf c) h) : mM C l d YX12_standsOn [(2, 245), (0, leaf), (0, c)] h L := by
  refine wX12_standsOn ?_
  have key : ∀ (n : Nat) (k : Int), 0 ≤ k → k + n = (if 0 ≤ nb then nb else 0) → L (findN (fun b => decide (vM h 286 0 nb 2 b = leaf) && decide (vM h 286 0 nb 3 b = c)) n k) h → BX12_standsOn_2 C l d L leaf c k h := by
    intro n
    induction n with
    | zero =>
      intro k h0 hk hL
      refine vX12_standsOn_2 hd (wX12_beingMany ⟨fun _ => hL, fun q => ?_⟩)
      rw [hnb] at q
      split at hk <;> omega
    | succ n ih =>
      intro k h0 hk hL
      have hkn : k < nb := by split at hk <;> omega
      refine vX12_standsOn_2 hd (wX12_beingMany ⟨fun q => ?_, fun q => m_leafOf h0 (by omega) ?_⟩)
      · rw [hnb] at q; omega
      · have e2 : vM h 286 0 nb 2 k = h 286 (7 + 4 * k) := by rw [vM_be (by omega) (by omega) h0 hkn]; congr 1; 
        have e3 : vM h 286 0 nb 3 k = h 286 (8 + 4 * k) := by rw [vM_be (by omega) (by omega) h0 hkn]; congr 1; 
        have go : (¬ (h 286 (7 + 4 * k) = leaf ∧ h 286 (8 + 4 * k) = c)) → BX12_standsOn_2 C l d L leaf c (mf_w32 (k + 1)) h := by
          intro hne
          rw [w_id (by omega) (by omega)]
          refine ih (k + 1) (by omega) (by omega) ?_
          unfold findN at hL
          rw [if_neg] at hL
          · exact hL
          · simp only [e2, e3, Bool.and_eq_true, decide_eq_true_eq]; exact hne
        refine ⟨fun q2 v ev => ?_, fun q2 => m_cellOf h0 (by omega) ⟨fun q3 v ev => ?_, fun q3 => ?_⟩⟩
        · rw [ev]; exact go (fun z => q2 z.1)
        · rw [ev]; exact go (fun z => q3 z.2)
        · unfold findN at hL
          rw [if_pos] at hL
          · exact hL
          · simp only [e2, e3, Bool.and_eq_true, decide_eq_true_eq]; exact ⟨q2, q3⟩
  refine key nb.toNat 0 (by omega) ?_ hK
  split <;> omega
end SpM
