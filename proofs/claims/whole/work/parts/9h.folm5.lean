/-! a folio told: the whole call -/
theorem folR.F {F : aF} {h h' : mf_M} (o : folR F h) (f : frF h h') : folR F h' := by
  obtain ⟨f0, f276, f277, f278, f280, f282, f283, f284, f285, fc⟩ := f
  obtain ⟨o1, o2, o3, o4, o5, o6, o7, o8, o9, oO, oC, oT, oS⟩ := o
  have tl : ∀ s cs, 0 ≤ s → toldM h s cs → toldM h' s cs := by
    intro s cs s0 t
    rcases t with ⟨a, b⟩ | ⟨a, b0, b1, b2, b3⟩
    · exact Or.inl ⟨a, by rw [f283 _ (by omega)]; exact b⟩
    · refine Or.inr ⟨a, ?_, ?_, ?_, fun j hj => ?_⟩
      · rw [f283 _ (by omega)]; exact b0
      · rw [f283 _ (by omega), f284 _ (by omega)]; exact b1
      · rw [f284 _ (by omega)]; exact b2
      · rw [f283 _ (by omega), f285 _ (by omega)]; exact b3 j hj
  exact ⟨by rw [f276 2 (by decide)]; exact o1, by rw [f276 3 (by decide)]; exact o2, by rw [f277 3 (by decide)]; exact o3, by rw [f277 4 (by decide)]; exact o4, by rw [fc 48 (by simp)]; exact o5, by rw [fc 54 (by simp)]; exact o6, fun b b0 b1 => by rw [f278 _ (by omega)]; exact o7 b b0 b1, fun b b0 b1 => by rw [f282 _ (by omega)]; exact o8 b b0 b1, fun i i0 i1 => by rw [f280 _ (by omega)]; exact o9 i i0 i1, tl 0 _ (by decide) oO, tl 1 _ (by decide) oC, tl 2 _ (by decide) oT, tl 3 _ (by decide) oS⟩
theorem RM.foN {S : aS} {h h' : mf_M} {a b : Int} (R : RM S h) (f : frF h h') (e7 : h' 245 7 = a) (e8 : h' 245 8 = b) : RM ((S.s_fa a).s_pl b) h' := by
  have r2 : ∀ a, 246 ≤ a → ¬ (276 ≤ a ∧ a ≤ 285) → a ≠ 315 → a ≠ 316 → h' a = h a := fun a a1 a2 a3 a4 => f.1 a (by omega) a2 a3 a4
  have c : ∀ k ∈ ([1, 48, 54, 59, 61, 65, 69, 70, 71, 105] : List Int), h' 245 k = h 245 k := f.2.2.2.2.2.2.2.2.2
  have o := R.ok
  exact ⟨⟨o.F, o.P, o.tn0, o.tn1, o.tp, o.un, o.us, o.nx0, o.nx1, o.sn, o.ss, o.sd0, o.sd1, o.oc⟩, by rw [c 1 (by simp)]; exact R.tn, by rw [r2 246 (by decide) (by decide) (by decide) (by decide)]; exact R.tp, e7, e8, by rw [r2 247 (by decide) (by decide) (by decide) (by decide)]; exact R.rf, R.wd.keep (fun a ha => r2 a (by omega) (by omega) (by omega) (by omega)), R.fo.F f, by rw [vM_row (r2 286 (by decide) (by decide) (by decide) (by decide))]; exact R.vi, R.kp.row (r2 286 (by decide) (by decide) (by decide) (by decide)), by rw [c 61 (by simp)]; exact R.th, by rw [c 69 (by simp)]; exact R.un, by rw [c 70 (by simp)]; exact R.nx, fun j hj => ⟨by rw [vM_row (r2 292 (by decide) (by decide) (by decide) (by decide))]; exact (R.us j hj).1, (R.us j hj).2.row (r2 292 (by decide) (by decide) (by decide) (by decide))⟩, by rw [c 65 (by simp)]; exact R.sn, by rw [r2 290 (by decide) (by decide) (by decide) (by decide)]; exact R.ss, by rw [c 71 (by simp)]; exact R.sd, by rw [c 105 (by simp)]; exact R.oc, by rw [r2 318 (by decide) (by decide) (by decide) (by decide)]; exact R.os, by rw [c 59 (by simp)]; exact R.ao⟩
theorem RM.foS {S : aS} {D : aW} {hb h2 h5 : mf_M} (R : RM (S.s_tn 0) hb) (f : frF hb h2) (dR : dRM D h2) (o : okD D) (fv : fivD D) (dl : dlen D.1 ≤ 1600) (e7 : h2 245 7 = 0) (e8 : h2 245 8 = -1) (st : stdW h2 h5) : RM (S.fol D) h5 := by
  obtain ⟨sr, sc, ⟨s54, s48, s65, s69⟩, s276, s277, s278, s282, s280, s283, s284, s285, ⟨sd0, s39⟩, sgl, sbe⟩ := st
  obtain ⟨⟨d1, d2⟩, ⟨d3, d4, d5⟩, d6, d7, d8, d9, d10, d11, d12, d13⟩ := dR
  have r2 : ∀ a, 246 ≤ a → ¬ (276 ≤ a ∧ a ≤ 286) → a ≠ 315 → a ≠ 316 → h5 a = hb a := fun a a1 a2 a3 a4 => by rw [sr a (by omega) a2]; exact f.1 a (by omega) (by omega) a3 a4
  have fc : ∀ k ∈ ([1, 48, 54, 59, 61, 65, 69, 70, 71, 105] : List Int), h2 245 k = hb 245 k := f.2.2.2.2.2.2.2.2.2
  have ro := R.ok
  have nb8 := o.1.b8
  have nw12 := o.1.w12
  have told : ∀ s, 0 ≤ s → s ≤ 3 → toldM h5 s (gtC D.1 s) := by
    intro s s0 s3
    rcases d12 s s0 s3 with ⟨a, b⟩ | ⟨a, b0, b1, b2, b3⟩
    · exact Or.inl ⟨a, by rw [s283 s s0 (by omega)]; exact b⟩
    · refine Or.inr ⟨a, ?_, ?_, ?_, fun j hj => ?_⟩
      · rw [s283 s s0 (by omega)]; exact b0
      · rw [s283 s s0 (by omega), s284 s s0 (by omega)]; exact b1
      · rw [s284 s s0 (by omega)]; omega
      · rw [s283 s s0 (by omega), show 1600 + h2 283 s + (j : Int) = 1600 + (h2 283 s + j) by omega, s285 _ (by omega) (by omega)]; exact b3 j hj
  have vi : vM h5 286 0 D.1.nb = D.2.1 := by
    funext j k
    show (if j = 0 then (if k = 0 then h5 286 0 else 0) else if j = 1 then (if 0 ≤ k ∧ k < 6 then h5 286 (0 + 1 + k) else 0) else if 2 ≤ j ∧ j ≤ 5 ∧ 0 ≤ k ∧ k < D.1.nb then h5 286 (0 + 5 + j + 4 * k) else 0) = D.2.1 j k
    have can := o.2.2.2.1 j k
    by_cases j0 : j = 0
    · rw [if_pos j0]
      by_cases k0 : k = 0
      · rw [if_pos k0, sd0, j0, k0]; exact o.2.2.2.2.2.symm
      · rw [if_neg k0]
        rcases can with z | z | z | z
        · exact absurd z.2 k0
        · exact absurd z.1 (by omega)
        · exact absurd z.1 (by omega)
        · exact z.symm
    · rw [if_neg j0]
      by_cases j1 : j = 1
      · rw [if_pos j1]
        by_cases k0 : 0 ≤ k ∧ k < 6
        · rw [if_pos k0, show (0 : Int) + 1 + k = 1 + k by omega, sgl k k0.1 k0.2, d7 k k0.1 k0.2, j1]
        · rw [if_neg k0]
          rcases can with z | z | z | z
          · exact absurd z.1 j0
          · exact absurd z.2 k0
          · exact absurd z.1 (by omega)
          · exact z.symm
      · rw [if_neg j1]
        by_cases k0 : 2 ≤ j ∧ j ≤ 5 ∧ 0 ≤ k ∧ k < D.1.nb
        · rw [if_pos k0]
          obtain ⟨q1, q2, q3, q4⟩ := k0
          obtain ⟨b1, b2, b3, b4⟩ := sbe k q3 (by omega)
          have c := d9 k q3 q4
          have v := fv k q3 q4
          have js : j = 2 ∨ j = 3 ∨ j = 4 ∨ j = 5 := by omega
          rcases js with rfl | rfl | rfl | rfl
          · rw [show (0 : Int) + 5 + 2 + 4 * k = 7 + 4 * k by omega, b1, c.1]
          · rw [show (0 : Int) + 5 + 3 + 4 * k = 8 + 4 * k by omega, b2, c.2]
          · rw [show (0 : Int) + 5 + 4 + 4 * k = 9 + 4 * k by omega, b3, v.1]
          · rw [show (0 : Int) + 5 + 5 + 4 * k = 10 + 4 * k by omega, b4, v.2]
        · rw [if_neg k0]
          rcases can with z | z | z | z
          · exact absurd z.1 j0
          · exact absurd z.1 j1
          · exact absurd z k0
          · exact z.symm
  have fo : folR D.1 h5 := by
    refine ⟨(s276 0 (by decide) (by decide) : h5 276 2 = h2 276 0).trans d1, (s276 1 (by decide) (by decide) : h5 276 3 = h2 276 1).trans d2, (s277 0 (by decide) (by decide) : h5 277 3 = h2 277 0).trans d3, (s277 1 (by decide) (by decide) : h5 277 4 = h2 277 1).trans d4, s48.trans d11, by rw [s54, if_neg (by have := o.2.1; omega)], fun b b0 b1 => by rw [s278 b b0 (by omega)]; exact d6 b b0 b1, fun b b0 b1 => by rw [s282 b b0 (by omega)]; exact (d10 b b0 b1).symm, fun i i0 i1 => by rw [s280 i i0 (by omega)]; exact d8 i i0 i1, told 0 (by decide) (by decide), told 1 (by decide) (by decide), told 2 (by decide) (by decide), told 3 (by decide) (by decide)⟩
  refine ⟨⟨o.1, o.2.2.1, by show (0 : Int) ≤ 0; decide, by show (0 : Int) ≤ 1600; decide, ro.tp, by show ([] : List (mf_M × List (Int × Int × Int))).length ≤ 20; simp, fun q hq => absurd hq (by show ¬ q ∈ []; simp), ro.nx0, ro.nx1, by show ([] : List (Int × Int)).length ≤ 16; simp, fun q hq => absurd hq (by show ¬ q ∈ []; simp), ro.sd0, ro.sd1, ro.oc⟩, ?_, fun i i0 i1 => absurd i1 (by show ¬ i < (0 : Int); omega), ?_, ?_, by rw [r2 247 (by decide) (by decide) (by decide) (by decide)]; exact R.rf, R.wd.keep (fun a ha => r2 a (by omega) (by omega) (by omega) (by omega)), fo, vi, ⟨s39, by show ([] : List (Int × Int × Int)).length ≤ 40; simp, fun k hk => absurd hk (by show ¬ k < 0; omega)⟩, ?_, s69, ?_, fun j hj => absurd hj (by show ¬ j < 0; omega), s65, fun j hj => absurd hj (by show ¬ j < 0; omega), ?_, ?_, by rw [r2 318 (by decide) (by decide) (by decide) (by decide)]; exact R.os, ?_⟩
  · rw [sc 1 (by decide) (by decide) (by decide) (by decide), fc 1 (by simp)]; exact R.tn
  · rw [sc 7 (by decide) (by decide) (by decide) (by decide)]; exact e7
  · rw [sc 8 (by decide) (by decide) (by decide) (by decide)]; exact e8
  · rw [sc 61 (by decide) (by decide) (by decide) (by decide), fc 61 (by simp)]; exact R.th
  · rw [sc 70 (by decide) (by decide) (by decide) (by decide), fc 70 (by simp)]; exact R.nx
  · rw [sc 71 (by decide) (by decide) (by decide) (by decide), fc 71 (by simp)]; exact R.sd
  · rw [sc 105 (by decide) (by decide) (by decide) (by decide), fc 105 (by simp)]; exact R.oc
  · rw [sc 59 (by decide) (by decide) (by decide) (by decide), fc 59 (by simp)]; exact R.ao
theorem sz_ok {T : aT} {z : aQ × Int × Int} (t0 : 0 ≤ T.2) (h : semS T (szS T) = .ok z) : (1 ≤ z.2.1 ∧ z.2.1 ≤ 6) ∧ (2 ≤ z.2.2 ∧ z.2.2 ≤ 8) ∧ 0 ≤ z.1.1 ∧ z.1.1 ≤ T.2 := by
  obtain ⟨y, h1, h2, h3⟩ := sem_ok h
  unfold szS at h1
  obtain ⟨q, g1, h1⟩ := exB_ok h1
  obtain ⟨a, g2, h1⟩ := exB_ok h1
  obtain ⟨q2, g3, h1⟩ := exB_ok h1
  obtain ⟨b, g4, h1⟩ := exB_ok h1
  injection h1 with h1
  have w1 := wrd_ok (by decide) (q := (0, false)) t0 g1
  have n1 := num_ok w1.2.2 g2
  have w2 := wrd_ok (by decide) n1.2.2.1 g3
  have n2 := num_ok w2.2.2 g4
  have kz : tK T y.1 ≠ 0 := fun w => by
    unfold sgB at h2
    rw [w] at h2
    exact absurd h2 (by simp)
  have ey : y.1 = b.1 := by rw [← h1]
  have tz := tN_pos (q := y.1) (by rw [ey]; exact n2.2.2.1) kz
  have e1 : z.1 = tN T y.1 := by rw [h3]
  have e2 : z.2.1 = a.2 := by rw [h3, ← h1]
  have e3 : z.2.2 = b.2 := by rw [h3, ← h1]
  have w1' : (0 : Int) + 1 ≤ q.1 := w1.2.1
  rw [e1, e2, e3]
  have : y.1.1 = b.1.1 := by rw [ey]
  omega
theorem frF.r277 {h h' : mf_M} (f : ∀ a, a ≠ 277 → h' a = h a) (c : ∀ k, 3 ≤ k → h' 277 k = h 277 k) : frF h h' := ⟨fun a _ q _ _ => f a (by omega), fun k _ => by rw [f 276 (by decide)], c, fun k _ => by rw [f 278 (by decide)], fun k _ => by rw [f 280 (by decide)], fun k _ => by rw [f 282 (by decide)], fun k _ => by rw [f 283 (by decide)], fun k _ => by rw [f 284 (by decide)], fun k _ => by rw [f 285 (by decide)], fun k _ => by rw [f 245 (by decide)]⟩
theorem frF.r279 {h h' : mf_M} (f : ∀ a, a ≠ 279 → h' a = h a) : frF h h' := ⟨fun a _ q _ _ => f a (by omega), fun k _ => by rw [f 276 (by decide)], fun k _ => by rw [f 277 (by decide)], fun k _ => by rw [f 278 (by decide)], fun k _ => by rw [f 280 (by decide)], fun k _ => by rw [f 282 (by decide)], fun k _ => by rw [f 283 (by decide)], fun k _ => by rw [f 284 (by decide)], fun k _ => by rw [f 285 (by decide)], fun k _ => by rw [f 245 (by decide)]⟩
theorem frF.r283 {h h' : mf_M} (f : ∀ a, a ≠ 283 → h' a = h a) (c : ∀ k, 4 ≤ k → h' 283 k = h 283 k) : frF h h' := ⟨fun a _ q _ _ => f a (by omega), fun k _ => by rw [f 276 (by decide)], fun k _ => by rw [f 277 (by decide)], fun k _ => by rw [f 278 (by decide)], fun k _ => by rw [f 280 (by decide)], fun k _ => by rw [f 282 (by decide)], c, fun k _ => by rw [f 284 (by decide)], fun k _ => by rw [f 285 (by decide)], fun k _ => by rw [f 245 (by decide)]⟩
section FoW
variable {C : mf_G} {l : Launch} {d : Nat} {L : Int → mf_M → Prop}
theorem M_folio {S : aS} {h : mf_M} (hd : 11 ≤ d) (R : RM S h) (hK : ∀ h', RM (folioS S).2 h' → frX h h' → L (folioS S).1 h') : mM C l d YX12_folio [(2, 245)] h L := by
  have o := R.ok
  have Rb : RM (S.s_tn 0) (mf_up h 245 1 0) := R.s_tn (by decide) o.tn0
  have t2 : (S.tp, S.tn).2 ≤ 1600 := o.tn1
  have t0 : 0 ≤ (S.tp, S.tn).2 := o.tn0
  unfold folioS at hK
  -- behind all that is read
  have put : ∀ (h' : mf_M), frF (mf_up h 245 1 0) h' → ∀ h1 h2 : mf_M, h1 = mf_up h' 245 7 (h' 245 5) → h2 = mf_up h1 245 8 (h1 245 6) → frF (mf_up h 245 1 0) h2 ∧ h2 245 7 = h' 245 5 ∧ h2 245 8 = h' 245 6 ∧ (∀ k, k ≠ 7 → k ≠ 8 → h2 245 k = h' 245 k) ∧ ∀ a, a ≠ 245 → h2 a = h' a := by
    intro h' f h1 h2 b1 b2
    have cc : ∀ k, k ≠ 7 → k ≠ 8 → h2 245 k = h' 245 k := fun k q1 q2 => by rw [b2, up_col q2, b1, up_col q1]
    have rr : ∀ a, a ≠ 245 → h2 a = h' a := fun a ha => by rw [b2, up_row ha, b1, up_row ha]
    refine ⟨f.tr (frF.of (fun a q _ _ => rr a q) (fun k hk => ?_)), by rw [b2, up_col (by decide), b1, up_self], by rw [b2, up_self, b1, up_col (by decide)], cc, rr⟩
    simp only [List.mem_cons, List.not_mem_nil, or_false] at hk
    exact cc k (by omega) (by omega)
  have bad : ∀ e, folS (S.tp, S.tn) = .error e → ∀ h', FNm (mf_up h 245 1 0) e h' → BX12_folio_135 C l d L h' := by
    intro e he h' F
    rw [he] at hK
    simp only [] at hK
    refine vX12_folio_135 (by omega) (fun h1 b1 h2 b2 => ⟨fun z => ?_, fun z h6 e6 => ?_⟩)
    · obtain ⟨f2, p7, p8, cc, rr⟩ := put h' F.2.2 h1 h2 b1 b2
      exact absurd ((cc 5 (by decide) (by decide)).symm.trans z) F.2.1
    · obtain ⟨f2, p7, p8, cc, rr⟩ := put h' F.2.2 h1 h2 b1 b2
      have R2 : RM (S.flt e) h2 := Rb.foN f2 (p7.trans F.1.1) (p8.trans F.1.2)
      have R6 := R2.ref (i := 1) (by decide) (by decide)
      rw [← e6] at R6
      exact hK h6 R6 (fun a ha => by rw [e6, up_row (by omega), f2.1 a (by omega) (by omega) (by omega) (by omega), up_row (by omega)])
  have good : ∀ x, folS (S.tp, S.tn) = .ok x → ∀ (q : aQ) (h' : mf_M), DMm (mf_up h 245 1 0) (S.tp, S.tn) x.2 q x.1 h' → BX12_folio_135 C l d L h' := by
    intro x hx q h' P
    have hx' := hx
    unfold folS at hx'
    obtain ⟨z, g1, g2⟩ := exB_ok hx'
    have sz := sz_ok t0 g1
    have oD := okD_lop 79 1 z.1 (D0 z.2.1 z.2.2) x (okD_D0 sz.1.1 sz.1.2 sz.2.1.1 sz.2.1.2) sz.2.2.2 (by show (0 : Int) ≤ z.1.1; exact sz.2.2.1) g2
    have fv := fiv_lop 79 1 z.1 (D0 z.2.1 z.2.2) x (fun b b0 b1 => absurd b1 (by show ¬ b < 0; omega)) g2
    rw [hx] at hK
    simp only [] at hK
    refine vX12_folio_135 (by omega) (fun h1 b1 h2 b2 => ⟨fun _ => ?_, fun y => ?_⟩)
    · obtain ⟨f2, p7, p8, cc, rr⟩ := put h' P.1 h1 h2 b1 b2
      have dR : dRM x.1 h2 := P.2.2.1.to (fun a a1 a2 => rr a (by omega)) (cc 47 (by decide) (by decide)) (cc 52 (by decide) (by decide))
      have e52 : h2 245 52 = dlen x.1.1 := dR.2.2.2.2.2.2.2.2.2
      have e277 : h2 277 0 = x.1.1.nb := dR.2.1.1
      have b8 := oD.1.1.b8
      have b0 := oD.1.1.b0
      have dp : 0 ≤ dlen x.1.1 := by unfold dlen; omega
      refine M_stands (by omega) (by omega) (by omega) (by omega) (fun h5 st => ?_)
      have e53 : h5 245 53 = x.2 := by rw [st.2.1 53 (by decide) (by decide) (by decide) (by decide), cc 53 (by decide) (by decide)]; exact P.2.2.2
      rw [e53]
      exact hK h5 (Rb.foS f2 dR oD.1 fv (by omega) (p7.trans P.b0) (p8.trans P.2.1.2.2.2.2.2.2) st) (fun a ha => by rw [st.1 a (by omega) (by omega), f2.1 a (by omega) (by omega) (by omega) (by omega), up_row (by omega)])
    · obtain ⟨f2, p7, p8, cc, rr⟩ := put h' P.1 h1 h2 b1 b2
      exact absurd ((cc 5 (by decide) (by decide)).trans P.b0) y
  refine wX12_folio (fun h1 e1 h2 e2 h3 e3 h4 e4 h5 e5 h6 e6 h7 e7 => ?_)
  have r7 : ∀ a, a ≠ 245 → h7 a = h a := fun a ha => by rw [e7, up_row ha, e6, up_row ha, e5, up_row ha, e4, up_row ha, e3, up_row ha, e2, up_row ha, e1, up_row ha]
  have c7 : ∀ k, k ≠ 1 → k ≠ 2 → k ≠ 3 → k ≠ 4 → k ≠ 5 → k ≠ 6 → k ≠ 52 → h7 245 k = h 245 k := fun k q1 q2 q3 q4 q5 q6 q7 => by rw [e7, up_col q7, e6, up_col q6, e5, up_col q5, e4, up_col q4, e3, up_col q2, e2, up_col q1, e1, up_col q3]
  have d52 : h7 245 52 = 0 := by rw [e7, up_self]
  have d6 : h7 245 6 = -1 := by rw [e7, up_col (by decide), e6, up_self]
  have d5 : h7 245 5 = 0 := by rw [e7, up_col (by decide), e6, up_col (by decide), e5, up_self]
  have d4 : h7 245 4 = -1 := by rw [e7, up_col (by decide), e6, up_col (by decide), e5, up_col (by decide), e4, up_self]
  have d2 : h7 245 2 = 0 := by rw [e7, up_col (by decide), e6, up_col (by decide), e5, up_col (by decide), e4, up_col (by decide), e3, up_self]
  have d1 : h7 245 1 = 0 := by rw [e7, up_col (by decide), e6, up_col (by decide), e5, up_col (by decide), e4, up_col (by decide), e3, up_col (by decide), e2, up_self]
  have d3 : h7 245 3 = S.tn := by rw [e7, up_col (by decide), e6, up_col (by decide), e5, up_col (by decide), e4, up_col (by decide), e3, up_col (by decide), e2, up_col (by decide), e1, up_self]; exact R.tn
  have F7 : frF (mf_up h 245 1 0) h7 := frF.of (fun a q _ _ => by rw [r7 a q, up_row q]) (fun k hk => by
    by_cases z : k = 1
    · rw [z, d1, up_self]
    · simp only [List.mem_cons, List.not_mem_nil, or_false] at hk
      rw [c7 k z (by omega) (by omega) (by omega) (by omega) (by omega) (by omega), up_col z])
  clear e1 e2 e3 e4 e5 e6 e7
  refine loop1 (N := 3) (r := 277) (o := 0) (w := fun _ => 0) (B := BX12_folio_40 C l d L) (E := BX12_folio_60 C l d L 0) (by decide) (fun k h' k0 k2 f c e go => vX12_folio_40 ⟨fun z => e (by omega), fun z => ?_⟩) (fun h8 r8 c8 => ?_)
  · refine ⟨k0, by omega, fun h5 e5 v6 e6 => ?_⟩
    rw [w_id (by omega) (by omega)] at e6
    have g := go (by omega) 0 rfl
    rw [Int.zero_add] at g
    rw [e5, e6]
    exact g
  refine loop1 (N := 6) (r := 279) (o := 0) (w := fun _ => 0) (B := BX12_folio_60 C l d L) (E := BX12_folio_81 C l d L 0) (by decide) (fun k h' k0 k2 f c e go => vX12_folio_60 ⟨fun z => e (by omega), fun z => ?_⟩) (fun h9 r9 c9 => ?_)
  · refine ⟨k0, by omega, fun h5 e5 v6 e6 => ?_⟩
    rw [w_id (by omega) (by omega)] at e6
    have g := go (by omega) 0 rfl
    rw [Int.zero_add] at g
    rw [e5, e6]
    exact g
  refine loop1 (N := 4) (r := 283) (o := 0) (w := fun _ => -1) (B := BX12_folio_81 C l d L) (E := fun h10 => ∀ h1 : mf_M, h1 = mf_up h10 245 47 0 → mM C l 4 YX12_folioTold [(2, 245)] h1 (fun r2 h4 => (∀ h5 : mf_M, h5 = mf_up h4 245 53 1 → BX12_folio_113 C l d L h5))) (by decide) (fun k h' k0 k2 f c e go => vX12_folio_81 (by omega) ⟨fun z => e (by omega), fun z => ?_⟩) (fun h10 r10 c10 h11 e11 => ?_)
  · refine ⟨k0, by omega, fun h5 e5 v6 e6 => ?_⟩
    rw [w_id (by omega) (by omega)] at e6
    have g := go (by omega) (-1) rfl
    rw [Int.zero_add] at g
    rw [e5, e6]
    exact g
  have F11 : frF (mf_up h 245 1 0) h11 := (((F7.tr (frF.r277 r8 (fun k hk => c8.1 k (by omega)))).tr (frF.r279 r9)).tr (frF.r283 r10 (fun k hk => c10.1 k (by omega)))).tr (by rw [e11]; exact frF.up (Or.inl ⟨rfl, by decide⟩))
  have q11 : ∀ k, k ≠ 47 → h11 245 k = h7 245 k := fun k hk => by rw [e11, up_col hk, r10 245 (by decide), r9 245 (by decide), r8 245 (by decide)]
  have w11 : ∀ a, a ≠ 245 → a ≠ 277 → a ≠ 279 → a ≠ 283 → h11 a = h a := fun a q1 q2 q3 q4 => by rw [e11, up_row q1, r10 a q4, r9 a q3, r8 a q2, r7 a q1]
  have z277 : ∀ k, 0 ≤ k → k < 3 → h11 277 k = 0 := fun k k0 k1 => by
    rw [e11, up_row (by decide), r10 277 (by decide), r9 277 (by decide)]
    have := c8.2 k k0 k1
    rw [Int.zero_add] at this
    exact this
  have z279 : ∀ k, 0 ≤ k → k < 6 → h11 279 k = 0 := fun k k0 k1 => by
    rw [e11, up_row (by decide), r10 279 (by decide)]
    have := c9.2 k k0 k1
    rw [Int.zero_add] at this
    exact this
  have z283 : ∀ k, 0 ≤ k → k < 4 → h11 283 k = -1 := fun k k0 k1 => by
    rw [e11, up_row (by decide)]
    have := c10.2 k k0 k1
    rw [Int.zero_add] at this
    exact this
  have X : lxM (S.tp, S.tn) (0, false) h11 := ⟨⟨⟨o.tn0, o.tn1⟩, o.tp, by rw [q11 3 (by decide)]; exact d3, by rw [w11 246 (by decide) (by decide) (by decide) (by decide)]; exact R.tp, R.wd.keep (fun a ha => w11 a (by omega) (by omega) (by omega) (by omega))⟩, ⟨Int.le_refl _, o.tn0⟩, by rw [q11 5 (by decide)]; exact d5, ⟨by rw [q11 2 (by decide), d2]; exact Int.le_refl _, by rw [q11 2 (by decide), d2]; exact tA_ge (S.tp, S.tn) (0, false)⟩, fun z => absurd z (by decide), fun _ => by rw [q11 4 (by decide), d4]; decide, by rw [q11 6 (by decide)]; exact d6⟩
  have P : DMm (mf_up h 245 1 0) (S.tp, S.tn) (h11 245 53) (0, false) (D0 (h11 276 0) (h11 276 1)) h11 := by
    refine ⟨F11, X, ⟨⟨rfl, rfl⟩, ⟨z277 0 (by decide) (by decide), z277 1 (by decide) (by decide), z277 2 (by decide) (by decide)⟩, fun b b0 b1 => absurd b1 (by show ¬ b < 0; omega), fun k k0 k1 => z279 k k0 k1, fun i i0 i1 => absurd i1 (by show ¬ i < 3 * 0; omega), fun b b0 b1 => absurd b1 (by show ¬ b < 0; omega), fun b b0 b1 => absurd b1 (by show ¬ b < 0; omega), by rw [e11, up_self]; rfl, fun s s0 s3 => Or.inl ⟨?_, z283 s s0 (by omega)⟩, by rw [q11 52 (by decide), d52]; rfl⟩, rfl⟩
    unfold gtC
    split
    · rfl
    · split
      · rfl
      · split <;> rfl
  refine N_told (by decide) P (fun e he h12 F12 h13 e13 => ?_) (fun z hz h12 P12 h13 e13 => ?_)
  · have F13 : FNm (mf_up h 245 1 0) e h13 := ⟨⟨by rw [e13, up_col (by decide)]; exact F12.1.1, by rw [e13, up_col (by decide)]; exact F12.1.2⟩, by rw [e13, up_col (by decide)]; exact F12.2.1, F12.2.2.tr (by rw [e13]; exact frF.up (Or.inl ⟨rfl, by decide⟩))⟩
    exact vX12_folio_113 hd ⟨fun _ => bad e (by unfold folS; rw [he]; rfl) h13 F13, fun y => absurd y F13.2.1⟩
  · have sz := sz_ok t0 hz
    have cc : ∀ k, k ≠ 53 → h13 245 k = h12 245 k := fun k hk => by rw [e13, up_col hk]
    have P13 : DMm (mf_up h 245 1 0) (S.tp, S.tn) 1 z.1 (D0 z.2.1 z.2.2) h13 := P12.wr (by rw [e13]; exact frF.up (Or.inl ⟨rfl, by decide⟩)) (fun k hk => cc k (by omega)) (P12.2.2.1.to (fun a a1 a2 => by rw [e13, up_row (by omega)]) (cc 47 (by decide)) (cc 52 (by decide))) (by rw [e13, up_self])
    have eS : folS (S.tp, S.tn) = lopS (S.tp, S.tn) 79 1 z.1 (D0 z.2.1 z.2.2) := by unfold folS; rw [hz]; rfl
    exact N_lop hd t2 bad good 79 1 z.1 (D0 z.2.1 z.2.2) h13 (by decide) (by decide) (okD_D0 sz.1.1 sz.1.2 sz.2.1.1 sz.2.1.2) (by show (0 : Int) ≤ z.1.1; exact sz.2.2.1) P13 eS.symm
end FoW
