/-! the reference thinks ahead: what stands is put aside, days go, it is taken back -/
def RT (S : aS) (h0 : mf_M) (h : mf_M) (σ : mf_M) : Prop := (∀ a, a ≠ 245 → a ≠ 286 → a ≠ 287 → a ≠ 288 → a ≠ 289 → a ≠ 291 → a ≠ 315 → a ≠ 316 → a ≠ 317 → h a = h0 a) ∧ (∀ k ∈ ([1, 7, 8, 48, 54, 65, 69, 70, 71, 105] : List Int), h 245 k = h0 245 k) ∧ (-1000 ≤ h 245 59 ∧ h 245 59 ≤ 1000) ∧ (h 245 61 = 1) ∧ (∀ k, 0 ≤ k → k < 39 → h 287 k = h0 286 k) ∧ (∀ k, 39 ≤ k → h 286 k = h0 286 k) ∧ (vM h 286 0 S.F.nb = σ) ∧ (okP S.F σ [])
theorem RT.fr {S : aS} {h0 : mf_M} {h : mf_M} {σ : mf_M} (o : RT S h0 h σ) : ∀ a, a ≠ 245 → a ≠ 286 → a ≠ 287 → a ≠ 288 → a ≠ 289 → a ≠ 291 → a ≠ 315 → a ≠ 316 → a ≠ 317 → h a = h0 a := o.1
theorem RT.co {S : aS} {h0 : mf_M} {h : mf_M} {σ : mf_M} (o : RT S h0 h σ) : ∀ k ∈ ([1, 7, 8, 48, 54, 65, 69, 70, 71, 105] : List Int), h 245 k = h0 245 k := o.2.1
theorem RT.ao {S : aS} {h0 : mf_M} {h : mf_M} {σ : mf_M} (o : RT S h0 h σ) : -1000 ≤ h 245 59 ∧ h 245 59 ≤ 1000 := o.2.2.1
theorem RT.th {S : aS} {h0 : mf_M} {h : mf_M} {σ : mf_M} (o : RT S h0 h σ) : h 245 61 = 1 := o.2.2.2.1
theorem RT.si {S : aS} {h0 : mf_M} {h : mf_M} {σ : mf_M} (o : RT S h0 h σ) : ∀ k, 0 ≤ k → k < 39 → h 287 k = h0 286 k := o.2.2.2.2.1
theorem RT.hi {S : aS} {h0 : mf_M} {h : mf_M} {σ : mf_M} (o : RT S h0 h σ) : ∀ k, 39 ≤ k → h 286 k = h0 286 k := o.2.2.2.2.2.1
theorem RT.vi {S : aS} {h0 : mf_M} {h : mf_M} {σ : mf_M} (o : RT S h0 h σ) : vM h 286 0 S.F.nb = σ := o.2.2.2.2.2.2.1
theorem RT.ok {S : aS} {h0 : mf_M} {h : mf_M} {σ : mf_M} (o : RT S h0 h σ) : okP S.F σ [] := o.2.2.2.2.2.2.2
section SpTh
variable {C : mf_G} {l : Launch} {d : Nat} {L : Int → mf_M → Prop} {S : aS}
theorem RT.fo {h0 h σ : mf_M} (R : RM S h0) (T : RT S h0 h σ) : folR S.F h := by
  refine R.fo.keep (fun a ha => T.fr a ?_ ?_ ?_ ?_ ?_ ?_ ?_ ?_ ?_) (fun k hk => T.co k ?_)
  all_goals simp only [List.mem_cons, List.not_mem_nil, or_false] at *
  all_goals omega
theorem RT.fol {h0 h σ : mf_M} (R : RM S h0) (T : RT S h0 h σ) (hl : S.F.nl ≠ 0) : folM h S.F.nl S.F.nc S.F.nb S.F.tr S.F.cO S.F.cC S.F.cT S.F.cS := by
  have o := R.ok.F
  have f := RT.fo R T
  have := o.l0
  exact ⟨f.l, f.c, f.b, ⟨by omega, o.l6⟩, ⟨o.c2 hl, o.c8⟩, ⟨o.b0, o.b8⟩, f.tr, o.tr, f.tO, f.tC, f.tT, f.tS, o.rO, o.rC, o.rT, o.rS⟩
theorem m_aside1 {h0 : mf_M} : ∀ (n : Nat) (k : Int) (h : mf_M), 0 ≤ k → k + n = 39 → (∀ a, a ≠ 287 → h a = h0 a) → (∀ i, 0 ≤ i → i < k → h 287 i = h0 286 i) → (∀ h', (∀ a, a ≠ 287 → a ≠ 245 → h' a = h0 a) → (∀ c, c ≠ 62 → h' 245 c = h0 245 c) → h' 245 62 = 0 → (∀ i, 0 ≤ i → i < 39 → h' 287 i = h0 286 i) → BX12_putsAside_38 C l d L 0 h') → BX12_putsAside_7 C l d L k h := by
  intro n
  induction n with
  | zero =>
    intro k h hk0 hk hr hi hK
    refine vX12_putsAside_7 ⟨fun _ h1 e1 => hK h1 (fun a q1 q2 => by rw [e1, up_row q2]; exact hr a q1) (fun c hc => by rw [e1, up_col hc, hr 245 (by decide)]) (by rw [e1, up_self]) (fun i q1 q2 => by rw [e1, up_row (by decide)]; exact hi i q1 (by omega)), fun q => absurd (by omega) q⟩
  | succ n ih =>
    intro k h hk0 hk hr hi hK
    refine vX12_putsAside_7 ⟨fun q => absurd q (by omega), fun _ => ⟨hk0, by omega, by omega, fun h5 e5 v6 e6 => ?_⟩⟩
    rw [w_id (by omega) (by omega)] at e6
    rw [e6]
    refine ih (k + 1) h5 (by omega) (by omega) (fun a q => by rw [e5, up_row q]; exact hr a q) (fun i q1 q2 => ?_) hK
    rw [e5, up_if]
    by_cases e : i = k
    · rw [if_pos ⟨rfl, e⟩, hr 286 (by decide), e]
    · rw [if_neg (fun z => e z.2)]; exact hi i q1 (by omega)
theorem m_aside2 {h0 : mf_M} : ∀ (n : Nat) (k : Int) (h : mf_M), 0 ≤ k → k + n = 8 → (∀ a, a ≠ 288 → h a = h0 a) → (∀ i, 0 ≤ i → i < k → h 288 i = 0) → (∀ h', (∀ a, a ≠ 288 → h' a = h0 a) → (∀ i, 0 ≤ i → i < 8 → h' 288 i = 0) → L 0 h') → BX12_putsAside_38 C l d L k h := by
  intro n
  induction n with
  | zero =>
    intro k h hk0 hk hr hi hK
    refine vX12_putsAside_38 ⟨fun _ => hK h hr (fun i q1 q2 => hi i q1 (by omega)), fun q => absurd (by omega) q⟩
  | succ n ih =>
    intro k h hk0 hk hr hi hK
    refine vX12_putsAside_38 ⟨fun q => absurd q (by omega), fun _ => ⟨hk0, by omega, fun h3 e3 v4 e4 => ?_⟩⟩
    rw [w_id (by omega) (by omega)] at e4
    rw [e4]
    refine ih (k + 1) h3 (by omega) (by omega) (fun a q => by rw [e3, up_row q]; exact hr a q) (fun i q1 q2 => ?_) hK
    rw [e3, up_if]
    by_cases e : i = k
    · rw [if_pos ⟨rfl, e⟩]
    · rw [if_neg (fun z => e z.2)]; exact hi i q1 (by omega)
theorem M_putsAside {h : mf_M} (R : RM S h) (hK : ∀ h', RT S h h' S.st → h' 245 62 = 0 → (∀ i, 0 ≤ i → i < 8 → h' 288 i = 0) → L 0 h') : mM C l d YX12_putsAside [(2, 245)] h L := by
  refine wX12_putsAside (fun h1 e1 => m_aside1 (h0 := h1) 39 0 h1 (by decide) (by decide) (fun _ _ => rfl) (fun i q1 q2 => absurd q2 (by omega)) (fun h2 f1 f2 f3 f4 => m_aside2 (h0 := h2) 8 0 h2 (by decide) (by decide) (fun _ _ => rfl) (fun i q1 q2 => absurd q2 (by omega)) (fun h3 g1 g2 => ?_)))
  have r1 : ∀ a, a ≠ 245 → h1 a = h a := fun a q => by rw [e1, up_row q]
  have r3 : ∀ a, a ≠ 245 → a ≠ 287 → a ≠ 288 → h3 a = h a := fun a q1 q2 q3 => by rw [g1 a q3, f1 a q2 q1, r1 a q1]
  have c3 : ∀ k, k ≠ 61 → k ≠ 62 → h3 245 k = h 245 k := fun k q1 q2 => by rw [g1 245 (by decide), f2 k q2, e1, up_col q1]
  refine hK h3 ⟨fun a q1 _ q2 q3 _ _ _ _ _ => r3 a q1 q2 q3, fun k hk => c3 k ?_ ?_, by rw [c3 59 (by decide) (by decide)]; exact R.ao, ?_, fun k q1 q2 => ?_, fun k _ => by rw [r3 286 (by decide) (by decide) (by decide)], by rw [vM_row (r3 286 (by decide) (by decide) (by decide))]; exact R.vi, R.ok.P.nil⟩ (by rw [g1 245 (by decide)]; exact f3) g2
  · rintro rfl; simp at hk
  · rintro rfl; simp at hk
  · rw [g1 245 (by decide), f2 61 (by decide), e1, up_self]
  · rw [g1 287 (by decide), f4 k q1 q2, r1 286 (by decide)]
theorem m_anew {h0 : mf_M} : ∀ (n : Nat) (k : Int) (h : mf_M), 0 ≤ k → k + n = 39 → (∀ a, a ≠ 286 → h a = h0 a) → (∀ i, 0 ≤ i → i < k → h 286 i = h0 287 i) → (∀ i, 39 ≤ i → h 286 i = h0 286 i) → (∀ h', (∀ a, a ≠ 286 → a ≠ 245 → h' a = h0 a) → (∀ c, c ≠ 62 → h' 245 c = h0 245 c) → h' 245 62 = 0 → (∀ i, 0 ≤ i → i < 39 → h' 286 i = h0 287 i) → (∀ i, 39 ≤ i → h' 286 i = h0 286 i) → L 0 h') → BX12_triesAnew_2 C l d L k h := by
  intro n
  induction n with
  | zero =>
    intro k h hk0 hk hr hi hj hK
    refine vX12_triesAnew_2 ⟨fun _ h1 e1 => hK h1 (fun a q1 q2 => by rw [e1, up_row q2]; exact hr a q1) (fun c hc => by rw [e1, up_col hc, hr 245 (by decide)]) (by rw [e1, up_self]) (fun i q1 q2 => by rw [e1, up_row (by decide)]; exact hi i q1 (by omega)) (fun i q => by rw [e1, up_row (by decide)]; exact hj i q), fun q => absurd (by omega) q⟩
  | succ n ih =>
    intro k h hk0 hk hr hi hj hK
    refine vX12_triesAnew_2 ⟨fun q => absurd q (by omega), fun _ => ⟨hk0, by omega, by omega, fun h5 e5 v6 e6 => ?_⟩⟩
    rw [w_id (by omega) (by omega)] at e6
    rw [e6]
    refine ih (k + 1) h5 (by omega) (by omega) (fun a q => by rw [e5, up_row q]; exact hr a q) (fun i q1 q2 => ?_) (fun i q => by rw [e5, up_col (by omega)]; exact hj i q) hK
    rw [e5, up_if]
    by_cases e : i = k
    · rw [if_pos ⟨rfl, e⟩, hr 287 (by decide), e]
    · rw [if_neg (fun z => e z.2)]; exact hi i q1 (by omega)
theorem M_triesAnew {h0 h σ : mf_M} (R : RM S h0) (T : RT S h0 h σ) (hK : ∀ h', RT S h0 h' S.st → h' 245 62 = 0 → (∀ a, a ≠ 245 → a ≠ 286 → h' a = h a) → L 0 h') : mM C l d YX12_triesAnew [(2, 245)] h L := by
  refine wX12_triesAnew (m_anew (h0 := h) 39 0 h (by decide) (by decide) (fun _ _ => rfl) (fun i q1 q2 => absurd q2 (by omega)) (fun _ _ => rfl) (fun h1 f1 f2 f3 f4 f5 => ?_))
  refine hK h1 ⟨fun a q1 q2 q3 q4 q5 q6 q7 q8 q9 => by rw [f1 a q2 q1]; exact T.fr a q1 q2 q3 q4 q5 q6 q7 q8 q9, fun k hk => by rw [f2 k (by rintro rfl; simp at hk)]; exact T.co k hk, by rw [f2 59 (by decide)]; exact T.ao, by rw [f2 61 (by decide)]; exact T.th, fun k q1 q2 => by rw [f1 287 (by decide) (by decide)]; exact T.si k q1 q2, fun k q => by rw [f5 k q]; exact T.hi k q, ?_, R.ok.P.nil⟩ f3 (fun a q1 q2 => f1 a q2 q1)
  rw [← R.vi]
  exact vM_pos (fun k q1 q2 => by rw [Int.zero_add, f4 k q1 q2, T.si k q1 q2]) R.ok.F.b8
theorem m_back {h0 : mf_M} : ∀ (n : Nat) (k : Int) (h : mf_M), 0 ≤ k → k + n = 39 → (∀ a, a ≠ 286 → h a = h0 a) → (∀ i, 0 ≤ i → i < k → h 286 i = h0 287 i) → (∀ i, 39 ≤ i → h 286 i = h0 286 i) → (∀ h', (∀ a, a ≠ 286 → a ≠ 245 → h' a = h0 a) → (∀ c, c ≠ 61 → h' 245 c = h0 245 c) → h' 245 61 = 0 → (∀ i, 0 ≤ i → i < 39 → h' 286 i = h0 287 i) → (∀ i, 39 ≤ i → h' 286 i = h0 286 i) → L 0 h') → BX12_takesBack_2 C l d L k h := by
  intro n
  induction n with
  | zero =>
    intro k h hk0 hk hr hi hj hK
    refine vX12_takesBack_2 ⟨fun _ h1 e1 => hK h1 (fun a q1 q2 => by rw [e1, up_row q2]; exact hr a q1) (fun c hc => by rw [e1, up_col hc, hr 245 (by decide)]) (by rw [e1, up_self]) (fun i q1 q2 => by rw [e1, up_row (by decide)]; exact hi i q1 (by omega)) (fun i q => by rw [e1, up_row (by decide)]; exact hj i q), fun q => absurd (by omega) q⟩
  | succ n ih =>
    intro k h hk0 hk hr hi hj hK
    refine vX12_takesBack_2 ⟨fun q => absurd q (by omega), fun _ => ⟨hk0, by omega, by omega, fun h5 e5 v6 e6 => ?_⟩⟩
    rw [w_id (by omega) (by omega)] at e6
    rw [e6]
    refine ih (k + 1) h5 (by omega) (by omega) (fun a q => by rw [e5, up_row q]; exact hr a q) (fun i q1 q2 => ?_) (fun i q => by rw [e5, up_col (by omega)]; exact hj i q) hK
    rw [e5, up_if]
    by_cases e : i = k
    · rw [if_pos ⟨rfl, e⟩, hr 287 (by decide), e]
    · rw [if_neg (fun z => e z.2)]; exact hi i q1 (by omega)
theorem M_takesBack {h0 h σ : mf_M} (R : RM S h0) (T : RT S h0 h σ) (hK : ∀ h', RM S h' → frM h0 h' → (∀ a, a ≠ 245 → a ≠ 286 → h' a = h a) → L 0 h') : mM C l d YX12_takesBack [(2, 245)] h L := by
  refine wX12_takesBack (m_back (h0 := h) 39 0 h (by decide) (by decide) (fun _ _ => rfl) (fun i q1 q2 => absurd q2 (by omega)) (fun _ _ => rfl) (fun h1 f1 f2 f3 f4 f5 => ?_))
  have F : frM h0 h1 := by
    refine ⟨fun a q1 q2 q3 q4 q5 q6 q7 q8 q9 => by rw [f1 a q2 q1]; exact T.fr a q1 q2 q3 q4 q5 q6 q7 q8 q9, fun k hk => ?_, fun _ => by rw [f2 59 (by decide)]; exact T.ao, fun k hk => ?_⟩
    · by_cases e : k = 61
      · rw [e, f3, R.th]
      · rw [f2 k e]
        refine T.co k ?_
        simp only [List.mem_cons, List.not_mem_nil, or_false] at hk ⊢
        omega
    · by_cases e : k < 39
      · rw [f4 k hk e, T.si k hk e]
      · rw [f5 k (by omega), T.hi k (by omega)]
  exact hK h1 (R.keep F) F (fun a q1 q2 => f1 a q2 q1)
theorem RT.next {h0 h h' σ τ : mf_M} (T : RT S h0 h σ) (f : frD h h') (f9 : -1000 ≤ h' 245 59 ∧ h' 245 59 ≤ 1000) (fi : ∀ k, 39 ≤ k → h' 286 k = h 286 k) (v : vM h' 286 0 S.F.nb = τ) (o : okP S.F τ []) : RT S h0 h' τ := by
  refine ⟨fun a q1 q2 q3 q4 q5 q6 q7 q8 q9 => by rw [f.1 a q1 q2 q4 q9]; exact T.fr a q1 q2 q3 q4 q5 q6 q7 q8 q9, fun k hk => ?_, f9, ?_, fun k q1 q2 => by rw [f.1 287 (by decide) (by decide) (by decide) (by decide)]; exact T.si k q1 q2, fun k q => by rw [fi k q]; exact T.hi k q, v, o⟩
  · rw [f.2 k (by rintro rfl; simp at hk) (by rintro rfl; simp at hk) (by rintro rfl; simp at hk) (by rintro rfl; simp at hk) (by rintro rfl; simp at hk) (by rintro rfl; simp at hk)]
    exact T.co k hk
  · rw [f.2 61 (by decide) (by decide) (by decide) (by decide) (by decide) (by decide)]; exact T.th
theorem T_dayBy {h0 h σ : mf_M} {o : Int} (hd : 4 ≤ d) (R : RM S h0) (T : RT S h0 h σ) (hl : S.F.nl ≠ 0) (ho1 : -1000 ≤ o) (ho2 : o ≤ 1000) (h9 : σ 0 0 < 999) (hK : ∀ h', RT S h0 h' (dyS S.F o σ).1 → inR h h' (dyS S.F o σ).2 → mgR h h' (dyS S.F o σ).2 → (∀ a, a ≠ 245 → a ≠ 286 → a ≠ 288 → a ≠ 317 → h' a = h a) → L 0 h') : mM C l d YX12_dayBy [(2, 245), (0, o)] h L := by
  refine m_dayBy hd ho1 ho2 (RT.fol R T hl) (by rw [T.vi]; exact T.ok.st) (fun q => absurd q (by rw [T.th]; decide)) (fun h' v f e0 kp ir mr e9 _ _ => ?_)
  rw [T.vi] at v kp ir mr
  refine hK h' (T.next f (by rw [e9]; exact ⟨ho1, ho2⟩) (kp.1 (by rw [T.th]; decide)) v (T.ok.day R.ok.F h9)) ir mr f.1
theorem T_openingOn {h0 h σ : mf_M} {day : Int} (hd : 3 ≤ d) (R : RM S h0) (T : RT S h0 h σ) (q0 : 0 ≤ day) (q1 : day ≤ 1000000) (hK : ∀ h', RT S h0 h' σ → frQ h h' → L (opnS S day) h') : mM C l d YX12_openingOn [(2, 245), (0, day)] h L := by
  have o := R.ok.F
  have fo := RT.fo R T
  refine m_openingOn (nb := S.F.nb) hd ?_ fo.l o.l0 o.l6 fo.tO o.rO q0 q1 (by have := T.ao; omega) (by have := T.ao; omega) (fun h' hq => hK h' (T.next ⟨fun a z1 z2 z3 z4 => hq.1 a z1 z4, fun k z1 z2 _ _ _ z3 => hq.2 k z3 z1 z2⟩ (by rw [hq.2 59 (by decide) (by decide) (by decide)]; exact T.ao) (fun k _ => by rw [hq.1 286 (by decide) (by decide)]) (by rw [vM_row (hq.1 286 (by decide) (by decide))]; exact T.vi) T.ok) hq)
  intro q
  rw [fo.i] at q
  by_cases e : S.F.nl = 0
  · exact (o.z e).2.2.2.1
  · rw [if_neg e] at q; exact absurd q (by decide)
end SpTh
