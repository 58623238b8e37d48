section SpT
variable {C : mf_G} {l : Launch} {d : Nat} {L : Int → mf_M → Prop} {h : mf_M}
theorem prod_range {a b : Int} (h1 : -1000000 ≤ a) (h2 : a ≤ 1000000) (h3 : -1000000 ≤ b) (h4 : b ≤ 1000000) : -1000000000000 ≤ a * b ∧ a * b ≤ 1000000000000 := by
  have k1 : (a * b).natAbs = a.natAbs * b.natAbs := Int.natAbs_mul a b
  have k2 : a.natAbs * b.natAbs ≤ 1000000 * 1000000 := Nat.mul_le_mul (by omega) (by omega)
  omega
theorem m_joins {st : List Int} {a b c : Int} (hd : 1 ≤ d) (hs : stM h (b :: a :: st) (h 245 101)) (hn : st.length < 1600) (ha1 : -1000000 ≤ a) (ha2 : a ≤ 1000000) (hb1 : -1000000 ≤ b) (hb2 : b ≤ 1000000) (hc1 : 1 ≤ c) (hc2 : c ≤ 11) (hK : ∀ h', frE h h' → stM h' (joinS c a b :: st) (h' 245 101) → L 0 h') : mM C l d YX12_qJoins [(2, 245), (0, c)] h L := by
  have hl := hs.len
  simp only [List.length_cons] at hl
  obtain ⟨e1, -, e2, -, hs2⟩ := hs
  have ei : h 245 101 - 1 - 1 = h 245 101 - 2 := by omega
  rw [ei] at e2 hs2
  have hp := prod_range ha1 ha2 hb1 hb2
  refine wX12_qJoins hd ?_
  rw [w_id (x := h 245 101 - 1) (by omega) (by omega), w_id (x := h 245 101 - 2) (by omega) (by omega)]
  refine ⟨by omega, by omega, fun v3 ev3 => ⟨by omega, by omega, fun v6 ev6 h7 e7 => ?_⟩⟩
  rw [e1] at ev3
  rw [e2] at ev6
  subst ev3; subst ev6
  have hf7 : frE h h7 := by rw [e7]; exact frE.up101 _ _
  have hs7 : stM h7 st (h7 245 101) := by
    rw [e7, up_self]
    exact hs2.keep (fun i _ _ => by rw [up_row (by decide)])
  have put : ∀ (v : Int), v = joinS c v6 v3 → mM C l 0 YX12_qPuts [(2, 245), (1, v)] h7 (fun _ h' => L 0 h') := by
    intro v hv
    refine m_puts hs7 (by omega) (fun h' hf' hs' => hK h' (hf7.tr hf') ?_)
    rw [← hv]; exact hs'
  rw [w64_id (x := v6 + v3) (by omega) (by omega), w64_id (x := v6 - v3) (by omega) (by omega), w64_id (x := v6 * v3) (by omega) (by omega)]
  refine ⟨fun q => m_clip (put _ (by simp [joinS, q])), fun q => m_clip (put _ (by simp [joinS, q])), fun q => m_clip (put _ (by simp [joinS, q])), fun q => m_floor ha1 ha2 (put _ (by simp [joinS, q])), fun q => ⟨fun z => put _ (by simp [joinS, q, z]), fun z => put _ (by simp [joinS, q, z])⟩, fun q => ⟨fun z => put _ (by simp [joinS, q, z]), fun z => put _ (by simp [joinS, q, z])⟩, fun q => ⟨fun z => put _ ?_, fun z => put _ ?_⟩, fun q => ⟨fun z => put _ ?_, fun z => put _ ?_⟩, fun q => ⟨fun z => put _ (by simp [joinS, q, z, biS]), fun z => put _ (by simp [joinS, q, z, biS])⟩, fun q => put _ (by simp [joinS, q]), fun q => ⟨fun z => put _ ?_, fun z => put _ ?_⟩⟩
  · simp [joinS, q, biS]; omega
  · simp [joinS, q, biS]; omega
  · simp [joinS, q, biS]; omega
  · simp [joinS, q, biS]; omega
  · have hc : c = 11 := by omega
    simp [joinS, hc, biS]; omega
  · have hc : c = 11 := by omega
    simp [joinS, hc, biS]; omega
/-- the parts of a being -/
def openS (leaf o : Int) : Int := biS (leaf = o - 1 ∨ leaf = o)
def envS (σ : mf_M) (tr : Int → Int) (day o other b : Int) : Int → Int := fun k => if k = 0 then day else if k = 1 then σ 2 b else if k = 2 then σ 3 b else if k = 3 then tr b else if k = 4 then σ 4 b else if k = 5 then openS (σ 2 b) o else if k = 6 then other else if k = 7 then b else σ 5 b
theorem m_isOpen {leaf o : Int} (h1 : -2147483647 ≤ o) (h2 : o ≤ 2147483647) (hK : L (openS leaf o) h) : mM C l d YX12_isOpen [(0, leaf), (0, o)] h L := by
  unfold openS biS at hK
  refine wX12_isOpen ?_
  rw [w_id (by omega) (by omega)]
  refine ⟨fun q => ?_, fun q => ⟨fun z => ?_, fun z => ?_⟩⟩
  · rw [if_pos (Or.inl q)] at hK; exact hK
  · rw [if_neg (by omega)] at hK; exact hK
  · rw [if_pos (Or.inr z)] at hK; exact hK
theorem m_partOf {nb k b : Int} (hd : 1 ≤ d) (hk0 : 0 ≤ k) (hk8 : k ≤ 8) (hb0 : 0 ≤ b) (hbn : b < nb) (hn8 : nb ≤ 8) (ho1 : -2147483647 ≤ h 245 59) (ho2 : h 245 59 ≤ 2147483647) (hK : L (envS (vM h 286 0 nb) (fun i => h 282 (8 + i)) (h 245 58) (h 245 59) (h 245 60) b k) h) : mM C l d YX12_qPartOf [(2, 245), (0, k), (0, b)] h L := by
  have e2 : vM h 286 0 nb 2 b = h 286 (7 + 4 * b) := by rw [vM_be (by omega) (by omega) hb0 hbn]; congr 1
  have e3 : vM h 286 0 nb 3 b = h 286 (8 + 4 * b) := by rw [vM_be (by omega) (by omega) hb0 hbn]; congr 1
  have e4 : vM h 286 0 nb 4 b = h 286 (9 + 4 * b) := by rw [vM_be (by omega) (by omega) hb0 hbn]; congr 1
  have e5 : vM h 286 0 nb 5 b = h 286 (10 + 4 * b) := by rw [vM_be (by omega) (by omega) hb0 hbn]; congr 1
  unfold envS at hK
  rw [e2, e3, e4, e5] at hK
  refine wX12_qPartOf hd ⟨fun q => ?_, fun q => m_leafOf hb0 (by omega) ?_, fun q => m_cellOf hb0 (by omega) ?_, fun q => ?_, fun q => m_purseOf hb0 (by omega) ?_, fun q => m_leafOf hb0 (by omega) (m_isOpen ho1 ho2 ?_), fun q => ?_, fun q => ?_, fun q => ?_⟩
  · simpa [q] using hK
  · simpa [q] using hK
  · simpa [q] using hK
  · rw [w_id (by omega) (by omega)]
    exact ⟨by omega, by omega, by simpa [q] using hK⟩
  · simpa [q] using hK
  · rw [q] at hK
    simp only [show ¬ (5 : Int) = 0 by decide, show ¬ (5 : Int) = 1 by decide, show ¬ (5 : Int) = 2 by decide, show ¬ (5 : Int) = 3 by decide, show ¬ (5 : Int) = 4 by decide, if_true, if_false] at hK
    have hb := bi_range (h 286 (7 + 4 * b) = h 245 59 - 1 ∨ h 286 (7 + 4 * b) = h 245 59)
    unfold openS at hK ⊢
    rcases hb with hb | hb
    · rw [hb] at hK ⊢; exact ⟨fun _ => hK, fun z => absurd rfl z⟩
    · rw [hb] at hK ⊢; exact ⟨fun z => absurd z (by decide), fun _ => hK⟩
  · simpa [q] using hK
  · simpa [q] using hK
  · have hk : k = 8 := by omega
    rw [w_id (x := 4 * b) (by omega) (by omega), w_id (x := 7 + 4 * b) (by omega) (by omega), w_id (by omega) (by omega)]
    have e : 7 + 4 * b + 3 = 10 + 4 * b := by omega
    rw [e]
    exact ⟨by omega, by omega, by simpa [hk] using hK⟩
end SpT
