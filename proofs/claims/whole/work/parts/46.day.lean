/-! the day, as told: who meets, tolls, reaping, stepping -/
def lieS (nl o p : Int) : Prop := 0 ≤ p ∧ p + 1 < nl ∧ ¬ (p = o - 1 ∨ p = o)
def metS (σ : mf_M) (nl nc o a b : Int) : Prop := σ 3 a + σ 3 b = nc - 1 ∧ ((σ 2 b = σ 2 a + 1 ∧ lieS nl o (σ 2 a)) ∨ (σ 2 a = σ 2 b + 1 ∧ lieS nl o (σ 2 b)))
def lieB (nl o p : Int) : Bool := decide (0 ≤ p) && decide (p + 1 < nl) && !(decide (p = o - 1) || decide (p = o))
def metB (σ : mf_M) (nl nc o a b : Int) : Bool := decide (σ 3 a + σ 3 b = nc - 1) && ((decide (σ 2 b = σ 2 a + 1) && lieB nl o (σ 2 a)) || (decide (σ 2 a = σ 2 b + 1) && lieB nl o (σ 2 b)))
section SpD
variable {C : mf_G} {l : Launch} {d : Nat} {L : Int → mf_M → Prop} {h : mf_M}
theorem m_liesOnNext {p o nl : Int} (hd : 1 ≤ d) (hnl : h 276 2 = nl) (hl0 : 0 ≤ nl) (hl6 : nl ≤ 6) (hp : p ≤ 1000) (ho1 : -1000 ≤ o) (ho2 : o ≤ 1000) (hK : L (if lieB nl o p then 1 else 0) h) : mM C l d YX12_liesOnNext [(2, 245), (0, p), (0, o)] h L := by
  unfold lieB at hK
  refine wX12_liesOnNext hd ⟨fun q => ?_, fun q => wX12_leaves ⟨fun z => ?_, fun z => m_isOpen (by omega) (by omega) ?_⟩⟩
  · rw [if_neg (by simp; omega)] at hK; exact hK
  · rw [w_id (by omega) (by omega), hnl] at z
    rw [if_neg (by simp; omega)] at hK; exact hK
  · rw [w_id (by omega) (by omega), hnl] at z
    unfold openS biS
    by_cases hq : p = o - 1 ∨ p = o
    · rw [if_pos hq]
      rw [if_neg (by simp; omega)] at hK
      exact ⟨fun _ => hK, fun y => absurd y (by decide)⟩
    · rw [if_neg hq]
      rw [if_pos (by simp; omega)] at hK
      exact ⟨fun y => absurd rfl y, fun _ => hK⟩
/-- beings stand on cells that there are -/
def onS (σ : mf_M) (nl nc nb : Int) : Prop := ∀ b, 0 ≤ b → b < nb → 0 ≤ σ 2 b ∧ σ 2 b < nl ∧ 0 ≤ σ 3 b ∧ σ 3 b < nc
theorem m_doMeet {a b o nl nc nb : Int} (hd : 2 ≤ d) (hnl : h 276 2 = nl) (hnc : h 276 3 = nc) (hl0 : 0 ≤ nl) (hl6 : nl ≤ 6) (hc0 : 0 ≤ nc) (hc8 : nc ≤ 8) (hn8 : nb ≤ 8) (ha0 : 0 ≤ a) (ha : a < nb) (hb0 : 0 ≤ b) (hb : b < nb) (hon : onS (vM h 286 0 nb) nl nc nb) (ho1 : -1000 ≤ o) (ho2 : o ≤ 1000) (hK : L (if metB (vM h 286 0 nb) nl nc o a b then 1 else 0) h) : mM C l d YX12_doMeet [(2, 245), (0, a), (0, b), (0, o)] h L := by
  obtain ⟨q1, q2, q3, q4⟩ := hon a ha0 ha
  obtain ⟨q5, q6, q7, q8⟩ := hon b hb0 hb
  have e2a : vM h 286 0 nb 2 a = h 286 (7 + 4 * a) := by rw [vM_be (by omega) (by omega) ha0 ha]; congr 1
  have e3a : vM h 286 0 nb 3 a = h 286 (8 + 4 * a) := by rw [vM_be (by omega) (by omega) ha0 ha]; congr 1
  have e2b : vM h 286 0 nb 2 b = h 286 (7 + 4 * b) := by rw [vM_be (by omega) (by omega) hb0 hb]; congr 1
  have e3b : vM h 286 0 nb 3 b = h 286 (8 + 4 * b) := by rw [vM_be (by omega) (by omega) hb0 hb]; congr 1
  unfold metB at hK
  rw [e2a, e3a, e2b, e3b] at hK
  rw [e2a] at q1 q2
  rw [e3a] at q3 q4
  rw [e2b] at q5 q6
  rw [e3b] at q7 q8
  refine wX12_doMeet hd (m_cellOf ha0 (by omega) (m_cellOf hb0 (by omega) ?_))
  rw [w_id (x := h 286 (8 + 4 * a) + h 286 (8 + 4 * b)) (by omega) (by omega), hnc, w_id (x := nc - 1) (by omega) (by omega)]
  refine ⟨fun z => m_leafOf ha0 (by omega) (m_leafOf hb0 (by omega) ?_), fun z => ?_⟩
  · rw [w_id (x := h 286 (7 + 4 * a) + 1) (by omega) (by omega), w_id (x := h 286 (7 + 4 * b) + 1) (by omega) (by omega)]
    refine ⟨fun y => ⟨fun x => ?_, fun x => m_liesOnNext (by omega) hnl hl0 hl6 (by omega) ho1 ho2 ?_⟩, fun y => m_liesOnNext (by omega) hnl hl0 hl6 (by omega) ho1 ho2 ?_⟩
    · rw [if_neg (by simp [z, y, x])] at hK; exact hK
    · by_cases hl : lieB nl o (h 286 (7 + 4 * b)) = true
      · rw [if_pos hl]
        rw [if_pos (by simp [z, y, x, hl])] at hK
        exact ⟨fun w => absurd w (by decide), fun _ => hK⟩
      · rw [if_neg hl]
        rw [if_neg (by simp [y, hl])] at hK
        exact ⟨fun _ => hK, fun w => absurd rfl w⟩
    · have hx : ¬ h 286 (7 + 4 * a) = h 286 (7 + 4 * b) + 1 := by omega
      by_cases hl : lieB nl o (h 286 (7 + 4 * a)) = true
      · rw [if_pos hl]
        rw [if_pos (by simp [z, y, hl])] at hK
        exact ⟨Or.inr rfl, hK⟩
      · rw [if_neg hl]
        rw [if_neg (by simp [hx, hl])] at hK
        exact ⟨Or.inl rfl, hK⟩
  · rw [if_neg (by simp [z])] at hK; exact hK
end SpD
