/-! a meeting in the reference -/
def cntS (b : Int) : List (Int × Int) → Int
  | [] => 0
  | q :: ms => (if q.1 = b ∨ q.2 = b then 1 else 0) + cntS b ms
theorem cntS_app (b : Int) : ∀ (xs ys : List (Int × Int)), cntS b (xs ++ ys) = cntS b xs + cntS b ys
  | [], ys => by simp [cntS]
  | q :: xs, ys => by
    have := cntS_app b xs ys
    simp only [List.cons_append, cntS]
    omega
theorem cntS_range (b : Int) : ∀ (xs : List (Int × Int)), 0 ≤ cntS b xs ∧ cntS b xs ≤ xs.length
  | [] => by simp [cntS]
  | q :: xs => by
    have := cntS_range b xs
    simp only [cntS, List.length_cons]
    split <;> omega
/-- what is kept, in the reference's row -/
def kpM (h : mf_M) (r b : Int) (ks : List (Int × Int × Int)) : Prop := h r (b + 39) = ks.length ∧ ks.length ≤ 40 ∧ ∀ k : Nat, k < ks.length → h r (b + 40 + 3 * k) = (ks.getD k (0, 0, 0)).1 ∧ h r (b + 40 + 3 * k + 1) = (ks.getD k (0, 0, 0)).2.1 ∧ h r (b + 40 + 3 * k + 2) = (ks.getD k (0, 0, 0)).2.2
def keepS (ks : List (Int × Int × Int)) (q : Int × Int × Int) : List (Int × Int × Int) := if ks.length < 40 then ks ++ [q] else ks.drop 1 ++ [q]
section SpK
variable {C : mf_G} {l : Launch} {d : Nat} {L : Int → mf_M → Prop} {h : mf_M}
theorem m_isMet {b nb : Int} (h0 : 0 ≤ b) (hb : b < nb) (hn8 : nb ≤ 8) (hr0 : 0 ≤ vM h 286 0 nb 5 b) (hr1 : vM h 286 0 nb 5 b ≤ 9999)
    (hK : ∀ h', vM h' 286 0 nb = mf_up (vM h 286 0 nb) 5 b (fillS (vM h 286 0 nb 5 b)) → (∀ a, a ≠ 286 → a ≠ 288 → h' a = h a) → (∀ k, k ≠ 10 + 4 * b → h' 286 k = h 286 k) → (∀ k, k ≠ b → h' 288 k = h 288 k) → h' 288 b = mf_w32 (h 288 b + 1) → L 0 h') : mM C l d YX12_isMet [(2, 245), (0, b)] h L := by
  have e5 : vM h 286 0 nb 5 b = h 286 (10 + 4 * b) := by rw [vM_be (by omega) (by omega) h0 hb]; congr 1
  rw [e5] at hr0 hr1
  refine wX12_isMet ?_
  rw [w_id (x := 4 * b) (by omega) (by omega), w_id (x := 7 + 4 * b) (by omega) (by omega), w_id (x := 7 + 4 * b + 3) (by omega) (by omega)]
  have e : 7 + 4 * b + 3 = 10 + 4 * b := by omega
  rw [e]
  intro v1 ev1
  subst ev1
  refine ⟨by omega, by omega, fun q => ⟨h0, by omega, fun h6 e6 => ?_⟩, fun q h7 e7 => ⟨h0, by omega, fun h10 e10 => ?_⟩⟩
  · subst e6
    refine hK _ ?_ (fun a _ h2 => up_row h2) (fun k _ => by rw [up_row (by decide)]) (fun k hk => up_col hk) (up_self _ _ _ _)
    rw [vM_row (up_row (by decide)), e5]
    have hf : fillS (h 286 (10 + 4 * b)) = h 286 (10 + 4 * b) := by unfold fillS; rw [if_neg (by omega)]
    rw [hf, ← e5]
    funext i m
    rw [up_if]
    by_cases hc : i = 5 ∧ m = b
    · rw [if_pos hc, hc.1, hc.2]
    · rw [if_neg hc]
  · subst e10; subst e7
    rw [w_id (x := h 286 (10 + 4 * b) + 1) (by omega) (by omega)]
    refine hK _ ?_ (fun a h1 h2 => by rw [up_row h2, up_row h1]) (fun k hk => by rw [up_row (by decide), up_col hk]) (fun k hk => by rw [up_col hk, up_row (by decide)]) (by rw [up_self, up_row (by decide)])
    rw [vM_row (up_row (by decide)), vM_up (j := 5) (k := b) (by omega) (by omega) (by omega) h0 hb, e5]
    have hf : fillS (h 286 (10 + 4 * b)) = h 286 (10 + 4 * b) + 1 := by unfold fillS; rw [if_pos (by omega)]
    rw [hf]
theorem m_pays {a b nb much : Int} (hd : 1 ≤ d) (ha0 : 0 ≤ a) (ha : a < nb) (hb0 : 0 ≤ b) (hb : b < nb) (hab : a ≠ b) (hn8 : nb ≤ 8) (hm0 : 0 ≤ much) (hm1 : much ≤ 1000000) (hpa : 0 ≤ vM h 286 0 nb 4 a ∧ vM h 286 0 nb 4 a ≤ 9999) (hpb : 0 ≤ vM h 286 0 nb 4 b ∧ vM h 286 0 nb 4 b ≤ 9999)
    (hK : ∀ h', vM h' 286 0 nb = paysS (vM h 286 0 nb) a b much → (∀ r, r ≠ 286 → h' r = h r) → (∀ k, k ≠ 9 + 4 * a → k ≠ 9 + 4 * b → h' 286 k = h 286 k) → L 0 h') : mM C l d YX12_pays [(2, 245), (0, a), (0, b), (1, much)] h L := by
  have ea : vM h 286 0 nb 4 a = h 286 (9 + 4 * a) := by rw [vM_be (by omega) (by omega) ha0 ha]; congr 1
  have eb : vM h 286 0 nb 4 b = h 286 (9 + 4 * b) := by rw [vM_be (by omega) (by omega) hb0 hb]; congr 1
  have fin : ∀ v, v = (if vM h 286 0 nb 4 a < much then vM h 286 0 nb 4 a else much) → BX12_pays_21 C l d L a b v h := by
    intro v hv
    have hv01 : 0 ≤ v ∧ v ≤ 9999 := by rw [hv]; split <;> omega
    refine vX12_pays_21 hd (m_purseOf ha0 (by omega) ?_)
    rw [w64_id (x := h 286 (9 + 4 * a) - v) (by rw [ea] at hpa; omega) (by rw [ea] at hpa; omega)]
    refine m_purseIs ha0 (by omega) (m_purseOf hb0 (by omega) ?_)
    rw [up_col (by omega), w64_id (x := h 286 (9 + 4 * b) + v) (by rw [eb] at hpb; omega) (by rw [eb] at hpb; omega)]
    refine m_purseIs hb0 (by omega) (hK _ ?_ (fun r hr => by rw [up_row hr, up_row hr]) (fun k h1 h2 => by rw [up_col h2, up_col h1]))
    rw [vM_up (j := 4) (k := b) (by omega) (by omega) (by omega) hb0 hb, vM_up (j := 4) (k := a) (by omega) (by omega) (by omega) ha0 ha]
    unfold paysS
    simp only []
    rw [← hv, ea, up_if, if_neg (by omega), eb]
  refine wX12_pays hd (m_purseOf ha0 (by omega) ⟨fun q => fin _ ?_, fun q => m_purseOf ha0 (by omega) (fin _ ?_)⟩)
  · rw [if_neg (by rw [ea]; omega)]
  · rw [if_pos (by rw [ea]; omega), ea]
end SpK
