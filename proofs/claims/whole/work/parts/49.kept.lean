section SpKp
variable {C : mf_G} {l : Launch} {d : Nat} {L : Int → mf_M → Prop}
/-- three numbers are written behind those kept -/
theorem m_keptEnd {h : mf_M} {a b c : Int} (hc : h 286 39 = c) (hc1 : 1 ≤ c) (hc40 : c ≤ 40)
    (hK : ∀ h', (∀ r, r ≠ 286 → h' r = h r) → (∀ k, k ≠ 37 + 3 * c → k ≠ 38 + 3 * c → k ≠ 39 + 3 * c → h' 286 k = h 286 k) → h' 286 (37 + 3 * c) = h 286 0 → h' 286 (38 + 3 * c) = a → h' 286 (39 + 3 * c) = b → L 0 h') : BX12_isKept_64 C l d L a b h := by
  refine vX12_isKept_64 (fun v1 ev1 => ?_)
  rw [hc, w_id (x := 3 * c) (by omega) (by omega), w_id (x := 40 + 3 * c) (by omega) (by omega), w_id (by omega) (by omega)] at ev1
  have e1 : v1 = 37 + 3 * c := by omega
  clear ev1
  subst e1
  refine ⟨by omega, by omega, fun h4 e4 => ?_⟩
  rw [w_id (x := 37 + 3 * c + 1) (by omega) (by omega), w_id (x := 37 + 3 * c + 2) (by omega) (by omega)]
  refine ⟨by omega, by omega, fun h7 e7 => ⟨by omega, by omega, fun h10 e10 => ?_⟩⟩
  have ea : 37 + 3 * c + 1 = 38 + 3 * c := by omega
  have eb : 37 + 3 * c + 2 = 39 + 3 * c := by omega
  rw [ea] at e7
  rw [eb] at e10
  subst e10; subst e7; subst e4
  refine hK _ (fun r hr => by rw [up_row hr, up_row hr, up_row hr]) (fun k h1 h2 h3 => by rw [up_col h3, up_col h2, up_col h1]) ?_ ?_ ?_
  · rw [up_col (by omega), up_col (by omega), up_self]
  · rw [up_col (by omega), up_self]
  · rw [up_self]
theorem m_keptShift {h0 : mf_M} {a b : Int}
    (hK : ∀ h', (∀ r, r ≠ 286 → h' r = h0 r) → (∀ k, k < 40 ∨ 157 ≤ k → h' 286 k = h0 286 k) → (∀ k, 40 ≤ k → k < 157 → h' 286 k = h0 286 (k + 3)) → BX12_isKept_64 C l d L a b h') :
    ∀ (m : Nat) (x : Int) (h : mf_M), x + m = 157 → 40 ≤ x → (∀ r, r ≠ 286 → h r = h0 r) → (∀ k, k < 40 ∨ x ≤ k → h 286 k = h0 286 k) → (∀ k, 40 ≤ k → k < x → h 286 k = h0 286 (k + 3)) → BX12_isKept_23 C l d L a b x h := by
  intro m
  induction m with
  | zero =>
    intro x h hx _ h1 h2 h3
    have : x = 157 := by omega
    subst this
    exact vX12_isKept_23 ⟨fun _ => hK h h1 h2 h3, fun q => absurd (by omega) q⟩
  | succ m ih =>
    intro x h hx hx0 h1 h2 h3
    refine vX12_isKept_23 ⟨fun q => absurd q (by omega), fun _ => ?_⟩
    rw [w_id (x := x + 3) (by omega) (by omega), w_id (x := x + 1) (by omega) (by omega)]
    refine ⟨by omega, by omega, by omega, by omega, fun h5 e5 v6 ev6 => ?_⟩
    subst ev6; subst e5
    refine ih (x + 1) _ (by omega) (by omega) (fun r hr => by rw [up_row hr]; exact h1 r hr) (fun k hk => ?_) (fun k k1 k2 => ?_)
    · rw [up_col (by omega)]; exact h2 k (by omega)
    · by_cases e : k = x
      · subst e
        rw [up_self]; exact h2 _ (by omega)
      · rw [up_col e]; exact h3 k k1 (by omega)
theorem m_isKept {h : mf_M} {a b : Int} (hx : h 245 61 = 0 → ∃ ks, kpM h 286 0 ks)
    (hK : ∀ h', (∀ r, r ≠ 286 → h' r = h r) → (∀ k, k < 39 → h' 286 k = h 286 k) → (h 245 61 ≠ 0 → h' 286 = h 286) → (h 245 61 = 0 → ∀ ks, kpM h 286 0 ks → kpM h' 286 0 (keepS ks (h 286 0, a, b))) → L 0 h') : mM C l d YX12_isKept [(2, 245), (0, a), (0, b)] h L := by
  refine wX12_isKept ⟨fun q => ?_, fun q => hK h (fun _ _ => rfl) (fun _ _ => rfl) (fun _ => rfl) (fun z => absurd z q)⟩
  obtain ⟨ks0, hk1, hk2, hk3⟩ := hx q
  have e39 : (0 : Int) + 39 = 39 := by decide
  rw [e39] at hk1
  refine ⟨fun z h1 e1 => ?_, fun z => ?_⟩
  · -- one more
    have hlt : ks0.length < 40 := by omega
    rw [w_id (x := h 286 39 + 1) (by omega) (by omega)] at e1
    have hc : h1 286 39 = h 286 39 + 1 := by rw [e1, up_self]
    refine m_keptEnd hc (by omega) (by omega) (fun h' f1 f2 f3 f4 f5 => ?_)
    have row : ∀ r, r ≠ 286 → h' r = h r := fun r hr => by rw [f1 r hr, e1, up_row hr]
    have low : ∀ k, k ≠ 39 → k < 40 + 3 * h 286 39 → h' 286 k = h 286 k := fun k hk hk2 => by rw [f2 k (by omega) (by omega) (by omega), e1, up_col hk]
    have h39 : h' 286 39 = h 286 39 + 1 := by rw [f2 39 (by omega) (by omega) (by omega), hc]
    refine hK h' row (fun k hk => low k (by omega) (by omega)) (fun y => absurd q y) (fun _ ks hks => ?_)
    obtain ⟨g1, g2, g3⟩ := hks
    rw [e39] at g1
    have hl : ks.length < 40 := by omega
    unfold keepS
    rw [if_pos hl]
    refine ⟨by rw [e39, h39, g1]; simp, by simp; omega, fun k hk => ?_⟩
    simp only [List.length_append, List.length_cons, List.length_nil] at hk
    by_cases hk2 : k < ks.length
    · have h9 := g3 k hk2
      have ed : (ks ++ [(h 286 0, a, b)]).getD k (0, 0, 0) = ks.getD k (0, 0, 0) := by
        simp [List.getD_eq_getElem?_getD, List.getElem?_append_left hk2]
      rw [ed, low _ (by omega) (by omega), low _ (by omega) (by omega), low _ (by omega) (by omega)]
      exact h9
    · have hke : k = ks.length := by omega
      subst hke
      have ed : (ks ++ [(h 286 0, a, b)]).getD ks.length (0, 0, 0) = (h 286 0, a, b) := by
        simp [List.getD_eq_getElem?_getD]
      rw [ed]
      have i1 : 0 + 40 + 3 * ((ks.length : Nat) : Int) = 37 + 3 * (h 286 39 + 1) := by omega
      have i2 : 0 + 40 + 3 * ((ks.length : Nat) : Int) + 1 = 38 + 3 * (h 286 39 + 1) := by omega
      have i3 : 0 + 40 + 3 * ((ks.length : Nat) : Int) + 2 = 39 + 3 * (h 286 39 + 1) := by omega
      rw [i2, i3, i1, f3, f4, f5]
      refine ⟨?_, rfl, rfl⟩
      rw [e1, up_col (by decide)]
  · -- all move by one
    refine m_keptShift (h0 := h) (fun h1 s1 s2 s3 => ?_) 117 40 h (by decide) (by decide) (fun _ _ => rfl) (fun _ _ => rfl) (fun k k1 k2 => absurd k2 (by omega))
    have hc : h1 286 39 = 40 := by rw [s2 39 (Or.inl (by decide))]; exact z
    refine m_keptEnd hc (by decide) (by decide) (fun h' f1 f2 f3 f4 f5 => ?_)
    have row : ∀ r, r ≠ 286 → h' r = h r := fun r hr => by rw [f1 r hr, s1 r hr]
    have low : ∀ k, k < 40 → h' 286 k = h 286 k := fun k hk => by rw [f2 k (by omega) (by omega) (by omega), s2 k (Or.inl hk)]
    have mid : ∀ k, 40 ≤ k → k < 157 → h' 286 k = h 286 (k + 3) := fun k k1 k2 => by rw [f2 k (by omega) (by omega) (by omega), s3 k k1 k2]
    refine hK h' row (fun k hk => low k (by omega)) (fun y => absurd q y) (fun _ ks hks => ?_)
    obtain ⟨g1, g2, g3⟩ := hks
    rw [e39] at g1
    have hl : ks.length = 40 := by omega
    unfold keepS
    rw [if_neg (by omega)]
    refine ⟨by rw [e39, low 39 (by decide), g1]; simp [hl], by simp [hl], fun k hk => ?_⟩
    simp only [List.length_append, List.length_drop, List.length_cons, List.length_nil, hl] at hk
    by_cases hk2 : k < 39
    · have h9 := g3 (k + 1) (by omega)
      have ed : (ks.drop 1 ++ [(h 286 0, a, b)]).getD k (0, 0, 0) = ks.getD (k + 1) (0, 0, 0) := by
        rw [List.getD_eq_getElem?_getD, List.getD_eq_getElem?_getD, List.getElem?_append_left (by simp [hl]; omega), List.getElem?_drop, Nat.add_comm]
      rw [ed, mid _ (by omega) (by omega), mid _ (by omega) (by omega), mid _ (by omega) (by omega)]
      have i1 : 0 + 40 + 3 * (((k + 1 : Nat)) : Int) = 0 + 40 + 3 * (k : Int) + 3 := by omega
      have i2 : 0 + 40 + 3 * (((k + 1 : Nat)) : Int) + 1 = 0 + 40 + 3 * (k : Int) + 1 + 3 := by omega
      have i3 : 0 + 40 + 3 * (((k + 1 : Nat)) : Int) + 2 = 0 + 40 + 3 * (k : Int) + 2 + 3 := by omega
      rw [i2, i3, i1] at h9
      exact h9
    · have hke : k = 39 := by omega
      subst hke
      have ed : (ks.drop 1 ++ [(h 286 0, a, b)]).getD 39 (0, 0, 0) = (h 286 0, a, b) := by
        rw [List.getD_eq_getElem?_getD, List.getElem?_append_right (by simp [hl])]
        simp [hl]
      rw [ed]
      refine ⟨?_, ?_, ?_⟩
      · show h' 286 157 = h 286 0
        rw [show (157 : Int) = 37 + 3 * 40 from rfl, f3, s2 0 (Or.inl (by decide))]
      · show h' 286 158 = a
        rw [show (158 : Int) = 38 + 3 * 40 from rfl, f4]
      · show h' 286 159 = b
        rw [show (159 : Int) = 39 + 3 * 40 from rfl, f5]
end SpKp
