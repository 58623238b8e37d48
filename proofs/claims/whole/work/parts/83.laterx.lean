/-! the class looks ahead: days, openings seen -/
theorem okP.e5 {F : aF} {σ τ : mf_M} (o : okP F σ []) (e : eq5 σ τ) (z : ∀ b, 0 ≤ b → b < F.nb → 0 ≤ τ 5 b ∧ τ 5 b ≤ 9999) : okP F τ [] := by
  obtain ⟨⟨s1, s2, s3, s4⟩, g1, g2, n1, d1, k1⟩ := o
  have e0 := e 0 (by decide)
  have e1 := e 1 (by decide)
  have e2 := e 2 (by decide)
  have e3 := e 3 (by decide)
  have e4 := e 4 (by decide)
  unfold onS at s1
  rw [e2, e3] at s1
  rw [e4] at s2
  rw [e0] at s3 s4
  rw [e1] at g1 g2 n1
  rw [e2, e3] at n1 d1
  exact ⟨⟨s1, fun b b0 b1 => ⟨(s2 b b0 b1).1, (s2 b b0 b1).2.1, (z b b0 b1).1, (z b b0 b1).2⟩, s3, s4⟩, g1, g2, n1, d1, k1⟩
section SxL
variable {C : mf_G} {l : Launch} {d : Nat} {K : mf_Kt} {g h : mf_M} {S : aS}
theorem frC.N53 {h h' : mf_M} (f : frC 53 h h') (k : inr (h' 53 6)) : frN h h' := by
  refine ⟨fun a q1 q2 q3 q4 _ q6 _ _ => f a q1 q2 q4 (by omega), by rw [f 51 (by decide) (by decide) (by decide) (by decide)], fun a ha q => ?_⟩
  have : a = 53 ∨ a = 67 ∨ a = 74 ∨ a = 81 := by simpa using ha
  by_cases h5 : a = 53
  · rw [h5]; exact k
  · rw [f a (by omega) (by omega) (by omega) (by omega)]; exact q
/-- the trial is as what stands -/
theorem X_trial (hd : 1 ≤ d) (R : RX S g h) (hK : ∀ h', cD S.F (g 0 12) 53 h' S.st → frN h h' → (∀ x, ¬ (53 ≤ x ∧ x ≤ 58) → h' x = h x) → K 0 g h') : xM C l d YX6_copyFolk [(2, 53), (2, 88)] g h K := by
  have hf := R.fi
  refine x_copyFolk (a := 88) (b := 53) hd is88 is53 (by decide) (fun h' r c d7 g1 b1 => ?_)
  have e6 : h' 53 6 = h 53 6 := c 6 (by decide)
  have k6 : inr (h' 53 6) := by rw [e6]; exact R.tr 53 (by simp)
  refine hK h' ⟨R.fi, ⟨is53, by decide, by decide⟩, R.ok.F, R.fo.keep (fun x h1 h2 => r x (by omega)), ?_, R.ok.P.st, k6⟩ ⟨fun a _ _ _ _ _ q6 _ _ => r a (by omega), by rw [r 51 (by decide)], fun a ha q => ?_⟩ r
  · rw [vX_pos (h := h) (a := 88) d7 g1 b1 R.ok.F.b8, R.vi]
  · have : a = 53 ∨ a = 67 ∨ a = 74 ∨ a = 81 := by simpa using ha
    by_cases h5 : a = 53
    · rw [h5]; exact k6
    · rw [r a (by omega)]; exact q
theorem x_look {N : Int} {F : aF} {f : Int} {h0 : mf_M} (hd : 6 ≤ d) (hN : N ≤ 1000) : ∀ (n : Nat) (k : Int) (h σ : mf_M), 0 ≤ k → k + n = N → cD F f 53 h σ → okP F σ [] → σ 0 0 + n ≤ 999 → frN h0 h → (∀ h', cD F f 53 h' (goS F n σ).1 → frN h0 h' → K 53 g h') → BX5_lookAhead_38 C l d K f N k g h := by
  intro n
  induction n with
  | zero =>
    intro k h σ k0 kn D o h9 fr hK
    exact vX5_lookAhead_38 hd ⟨fun _ => hK h D fr, fun q => absurd (by omega) q⟩
  | succ n ih =>
    intro k h σ k0 kn D o h9 fr hK
    have d0 := D.st.2.2.1
    have l6 := D.ok.l6
    have hr : 0 ≤ openF F.nl F.cO (σ 0 0) ∧ openF F.nl F.cO (σ 0 0) ≤ F.nl := by
      have := D.ok.l0
      unfold openF
      split
      · omega
      · have q1 := Int.emod_nonneg (valS (fun k => if k = 0 then σ 0 0 else 0) mt0 F.cO) (b := F.nl + 1) (by omega)
        have q2 := Int.emod_lt_of_pos (valS (fun k => if k = 0 then σ 0 0 else 0) mt0 F.cO) (b := F.nl + 1) (by omega)
        omega
    refine vX5_lookAhead_38 hd ⟨fun q => absurd q (by omega), fun _ => ?_⟩
    rw [D.day]
    refine x_openingOf (by decide) D.fe D.ok D.fo d0 (by omega) (fun h1 f1 => ?_)
    have D1 : cD F f 53 h1 σ := D.same (fun x q1 q2 _ q4 => f1 x q1 q2 q4)
    refine x_passDay (by decide) D1 (by omega) (by omega) (fun h2 fr2 v2 k2 v7 e7 => ?_)
    rw [w_id (by omega) (by omega)] at e7
    rw [e7]
    have o2 : okP F (dyS F (openF F.nl F.cO (σ 0 0)) σ).1 [] := o.day D.ok (by omega)
    have D2 := D1.next fr2 v2 o2.st k2.1
    have ed : (dyS F (openF F.nl F.cO (σ 0 0)) σ).1 0 0 = σ 0 0 + 1 := dy_day _ _ _
    exact ih (k + 1) h2 _ (by omega) (by omega) D2 o2 (by rw [ed]; omega) ((fr.tr f1.N).tr (fr2.N53 k2.1)) hK
theorem x_zero5 {N : Int} {f : Int} {h0 : mf_M} (hK : ∀ h', (∀ x, x ≠ 58 → h' x = h0 x) → (∀ k, 0 ≤ k → k < 8 → h' 58 k = 0) → BX5_lookAhead_38 C l d K f N 0 g h') : ∀ (n : Nat) (k : Int) (h : mf_M), 0 ≤ k → k + n = 8 → (∀ x, x ≠ 58 → h x = h0 x) → (∀ i, 0 ≤ i → i < k → h 58 i = 0) → BX5_lookAhead_11 C l d K f N k g h := by
  intro n
  induction n with
  | zero =>
    intro k h k0 kn f1 f2
    exact vX5_lookAhead_11 ⟨fun _ => hK h f1 (fun i q1 q2 => f2 i q1 (by omega)), fun q => absurd (by omega) q⟩
  | succ n ih =>
    intro k h k0 kn f1 f2
    refine vX5_lookAhead_11 ⟨fun q => absurd q (by omega), fun _ => ⟨k0, by omega, fun h3 e3 v4 e4 => ?_⟩⟩
    rw [w_id (by omega) (by omega)] at e4
    rw [e4]
    refine ih (k + 1) h3 (by omega) (by omega) (fun x q => by rw [e3, up_row q]; exact f1 x q) (fun i q1 q2 => ?_)
    rw [e3, up_if]
    by_cases ei : i = k
    · rw [if_pos ⟨rfl, ei⟩]
    · rw [if_neg (by omega)]; exact f2 i q1 (by omega)
theorem X_later {b n w : Int} (hd : 7 ≤ d) (R : RX S g h) (hK : ∀ h', RX S g h' → frH h h' → K (laterS S b n w) g h') : xM C l d YX11_later [(2, 0), (0, b), (0, n), (0, w)] g h K := by
  unfold laterS at hK
  have b8 := R.ok.F.b8
  have k0 := hK h R (frH.rf h)
  have bad : ¬ ((0 ≤ b ∧ b < S.F.nb) ∧ (S.F.nl ≠ 0 ∧ 0 ≤ n ∧ n ≤ 60 ∧ S.st 0 0 + n ≤ 999) ∧ 0 ≤ w ∧ w ≤ 2) → K (-1) g h := fun q => by rw [if_neg q] at k0; exact k0
  refine wX11_later hd (X_isBeing R (fun hb => ⟨fun z => absurd z (by decide), fun _ => ⟨fun q => bad (by omega), fun q => ⟨fun z => bad (by omega), fun z => X_canPass R (by omega) (by omega) (fun hc => ⟨fun _ => ⟨fun y => bad (by omega), fun y => ⟨fun x => ?_, fun x => bad (by omega)⟩⟩, fun y => absurd y (by decide)⟩) (fun hc => ⟨fun y => absurd rfl y, fun _ => bad (fun y => hc ⟨y.2.1.1, y.2.1.2.2.2⟩)⟩)⟩⟩⟩) (fun hb => ⟨fun _ => bad (fun y => hb y.1), fun z => absurd rfl z⟩))
  rw [if_pos ⟨hb, ⟨hc.1, by omega, by omega, hc.2⟩, by omega, x⟩] at hK
  refine wX5_lookAhead (by decide) (X_trial (by decide) R (fun h1 D1 f1 r1 => x_zero5 (h0 := h1) (fun h2 r2 z2 => ?_) 8 0 h1 (by decide) (by decide) (fun _ _ => rfl) (fun i q1 q2 => absurd q2 (by omega))))
  -- the trial, with nothing met
  have e5 : eq5 S.st (vX h2 53 S.F.nb) := by
    intro j hj
    funext m
    rw [← D1.vi]
    unfold vX
    rw [r2 53 (by decide), r2 (53 + 1) (by decide)]
    by_cases q0 : j = 0
    · rw [if_pos q0, if_pos q0]
    · rw [if_neg q0, if_neg q0]
      by_cases q1 : j = 1
      · rw [if_pos q1, if_pos q1]
      · rw [if_neg q1, if_neg q1, r2 (53 + j) (by omega)]
  have z5 : ∀ c, 0 ≤ c → c < S.F.nb → vX h2 53 S.F.nb 5 c = 0 := fun c c0 c1 => by
    rw [vX_be (by decide) (by decide) c0 c1]; exact z2 c c0 (by omega)
  have o2 : okP S.F (vX h2 53 S.F.nb) [] := R.ok.P.nil.e5 e5 (fun c c0 c1 => by rw [z5 c c0 c1]; decide)
  have f12 : frN h1 h2 := by
    refine ⟨fun a _ _ _ _ _ q6 _ _ => r2 a (by omega), by rw [r2 51 (by decide)], fun a ha q => ?_⟩
    have : a = 53 ∨ a = 67 ∨ a = 74 ∨ a = 81 := by simpa using ha
    rw [r2 a (by omega)]; exact q
  have hf := R.fi
  have D2 : cD S.F (g 0 12) 53 h2 (vX h2 53 S.F.nb) := ⟨R.fi, ⟨is53, by decide, by decide⟩, R.ok.F, D1.fo.keep (fun y h1 h2 => r2 y (by omega)), rfl, o2.st, by rw [r2 53 (by decide)]; exact D1.kr⟩
  have ed : vX h2 53 S.F.nb 0 0 = S.st 0 0 := by rw [← e5 0 (by decide)]
  refine x_look (N := n) (h0 := h1) (by decide) (by omega) n.toNat 0 h2 _ (by decide) (by omega) D2 o2 (by rw [ed]; omega) f12 (fun h3 D3 f3 => ?_)
  have k3 := hK h3 (R.keep (f1.tr f3)) (f1.tr f3).H
  obtain ⟨g5, l5⟩ := go5 R.ok.F n.toNat _ _ e5
  have gl := go_len R.ok.F n.toNat (vX h2 53 S.F.nb)
  have c5 := go_r5 R.ok.F (x := b) n.toNat (vX h2 53 S.F.nb) (by rw [z5 b hb.1 hb.2]; decide) (by rw [z5 b hb.1 hb.2]; omega)
  rw [z5 b hb.1 hb.2, Int.zero_add, ← l5] at c5
  refine ⟨fun q0 => ⟨fun q1 => ⟨is53, hb.1, by omega, ?_⟩, fun q1 => ⟨is53, hb.1, by omega, ?_⟩⟩, fun q0 => ⟨is53, hb.1, by omega, ?_⟩⟩
  · rw [D3.be (j := 5) (by decide) (by decide) hb.1 hb.2, c5]
    rw [if_neg q0, if_neg q1] at k3; exact k3
  · rw [D3.be (j := 4) (by decide) (by decide) hb.1 hb.2, ← g5 4 (by decide)]
    rw [if_neg q0, if_pos q1] at k3; exact k3
  · rw [D3.be (j := 3) (by decide) (by decide) hb.1 hb.2, ← g5 3 (by decide)]
    rw [if_pos q0] at k3; exact k3
/-- cells written down, for an opening -/
def stdX (S : aS) (h : mf_M) (n : Int) : Prop := ∀ o b, 0 ≤ o → o < n → 0 ≤ b → b < S.F.nb → h 64 (8 * o + b) = cthS S o b
theorem x_seenL {h0 : mf_M} {o : Int} (R : RX S g h0) (fr : frN h0 h) (hc : ∀ b, 0 ≤ b → b < S.F.nb → h 56 b = cthS S o b) : ∀ (n : Nat) (k : Nat), k + n = S.sn.length → K (if (S.sn.drop k).all (fun q => decide (cthS S o q.1 = q.2)) then 1 else 0) g h → BX5_isAsSeen_2 C l d K 53 k g h := by
  have e11 : h 51 11 = S.sn.length := by rw [fr.2.1]; exact R.sn
  have r65 : h 65 = h0 65 := fr.1 65 (by decide) (by decide) (by decide) (by decide) (by decide) (by decide) (by decide) (by decide)
  have r66 : h 66 = h0 66 := fr.1 66 (by decide) (by decide) (by decide) (by decide) (by decide) (by decide) (by decide) (by decide)
  have s16 := R.ok.sn
  have b8 := R.ok.F.b8
  intro n
  induction n with
  | zero =>
    intro k hk hK
    rw [List.drop_eq_nil_of_le (by omega)] at hK
    exact vX5_isAsSeen_2 ⟨fun _ => by simpa using hK, fun q => absurd (by omega) q⟩
  | succ n ih =>
    intro k hk hK
    have hlt : k < S.sn.length := by omega
    have eg : S.sn.getD k (0, 0) = S.sn[k] := by rw [List.getD_eq_getElem?_getD, List.getElem?_eq_getElem hlt]; rfl
    obtain ⟨w1, w2⟩ := R.ss k hlt
    rw [eg] at w1 w2
    obtain ⟨m1, m2, m3, m4⟩ := R.ok.ss S.sn[k] (List.getElem_mem _)
    rw [List.drop_eq_getElem_cons hlt, List.all_cons] at hK
    refine vX5_isAsSeen_2 ⟨fun q => absurd q (by omega), fun _ => ⟨fun q => absurd q (by omega), fun _ => ⟨is53, by omega, by omega, ?_⟩⟩⟩
    rw [r65, r66, w1, w2, show (53 : Int) + 3 = 56 from rfl, hc _ m1 m2]
    refine ⟨m1, by omega, fun q v6 e6 => ?_, fun q => ?_⟩
    · rw [w_id (by omega) (by omega)] at e6
      rw [e6]
      have := ih (k + 1) (by omega) (by rw [decide_eq_true q, Bool.true_and] at hK; exact hK)
      rw [show (((k + 1 : Nat)) : Int) = (k : Int) + 1 by omega] at this
      exact this
    · rw [decide_eq_false q, Bool.false_and] at hK
      exact hK
theorem x_openL {h0 : mf_M} (hd : 6 ≤ d) (R : RX S g h0) (h9 : S.st 0 0 < 999) (hK : ∀ h', frN h0 h' → stdX S h' (S.F.nl + 1) → K (allS S) g h') : ∀ (n : Nat) (o set : Int) (h : mf_M), 0 ≤ o → o + n = S.F.nl + 1 → frN h0 h → stdX S h o → setS S n o set = allS S → BX5_findOpenings_5 C l d K (g 0 12) 88 set o g h := by
  have l6 := R.ok.F.l6
  have b8 := R.ok.F.b8
  intro n
  induction n with
  | zero =>
    intro o set h o0 hn fr st hs
    have R1 := R.keep fr
    refine vX5_findOpenings_5 hd ⟨isf R.fi, ?_⟩
    rw [R1.fo.l]
    have e : set = allS S := hs
    have eo : o = S.F.nl + 1 := by omega
    rw [eo] at st
    exact ⟨fun _ => by rw [e]; exact hK h fr st, fun q => absurd (by omega) q⟩
  | succ n ih =>
    intro o set h o0 hn fr st hs
    have R1 := R.keep fr
    refine vX5_findOpenings_5 hd ⟨isf R.fi, ?_⟩
    rw [R1.fo.l]
    refine ⟨fun q => absurd q (by omega), fun _ => X_trial (by decide) R1 (fun h1 D1 f1 r1 => x_passDay (by decide) D1 (by omega) (by omega) (fun h2 fr2 v2 k2 => ?_))⟩
    have f2 : frN h h2 := f1.tr (fr2.N53 k2.1)
    rw [w_id (x := o * 8) (by omega) (by omega)]
    refine ⟨by omega, by omega, fun h10 e10 => ?_⟩
    have r10 : ∀ x, x ≠ 64 → h10 x = h2 x := fun x q => by rw [e10, cpy_row q]
    have f10 : frN h h10 := f2.tr (by
      refine ⟨fun a _ _ _ _ _ q6 _ _ => r10 a (by omega), by rw [r10 51 (by decide)], fun a ha q => ?_⟩
      have : a = 53 ∨ a = 67 ∨ a = 74 ∨ a = 81 := by simpa using ha
      rw [r10 a (by omega)]; exact q)
    have hc2 : ∀ b, 0 ≤ b → b < S.F.nb → h2 56 b = cthS S o b := fun b b0 b1 => by
      have := vX_be (h := h2) (a := 53) (nb := S.F.nb) (j := 3) (k := b) (by decide) (by decide) b0 b1
      rw [v2] at this
      exact this.symm
    have c64 : ∀ i, h10 64 i = if o * 8 ≤ i ∧ i < o * 8 + 8 then h2 56 (0 + (i - o * 8)) else h2 64 i := fun i => by rw [e10, cpy_if, if_pos rfl]
    have e264 : h2 64 = h 64 := by rw [fr2 64 (by decide) (by decide) (by decide) (by decide), r1 64 (by decide)]
    have st10 : stdX S h10 (o + 1) := by
      intro p b p0 p1 b0 b1
      rw [c64]
      by_cases e : p = o
      · rw [if_pos (by omega), show 0 + (8 * p + b - o * 8) = b by omega, hc2 b b0 b1, e]
      · rw [if_neg (by omega), e264]
        exact st p b p0 (by omega) b0 b1
    have hw : mf_w32 (o + 1) = o + 1 := w_id (by omega) (by omega)
    rw [hw]
    refine wX5_isAsSeen (x_seenL (o := o) R1 f10 (fun b b0 b1 => by rw [r10 56 (by decide)]; exact hc2 b b0 b1) S.sn.length 0 (by omega) ?_)
    have es : S.sn.drop 0 = S.sn := rfl
    rw [es]
    have hs' : setS S n (o + 1) (if seenB S o then mf_or set (mf_shl 1 o) else set) = allS S := hs
    by_cases hb : seenB S o = true
    · have hb' : S.sn.all (fun q => decide (cthS S o q.1 = q.2)) = true := hb
      rw [if_pos hb'] 
      rw [if_pos hb] at hs'
      refine ⟨fun z => absurd z (by decide), fun _ v15 e15 v16 e16 => ?_⟩
      rw [e15, e16]
      exact ih (o + 1) _ h10 (by omega) (by omega) (fr.tr f10) st10 hs'
    · have hb' : ¬ S.sn.all (fun q => decide (cthS S o q.1 = q.2)) = true := hb
      rw [if_neg hb']
      rw [if_neg hb] at hs'
      refine ⟨fun _ v14 e14 => ?_, fun z => absurd rfl z⟩
      rw [e14]
      exact ih (o + 1) set h10 (by omega) (by omega) (fr.tr f10) st10 hs'
theorem X_openings (hd : 6 ≤ d) (R : RX S g h) (h9 : S.st 0 0 < 999) (hK : ∀ h', frN h h' → stdX S h' (S.F.nl + 1) → K (allS S) g h') : xM C l d YX5_findOpenings [(2, 51), (2, g 0 12), (2, 88)] g h K := by
  have := R.ok.F.l0
  exact wX5_findOpenings (x_openL hd R h9 hK (S.F.nl + 1).toNat 0 0 h (by decide) (by omega) (frN.rf h) (fun o b q1 q2 => absurd q2 (by omega)) rfl)
theorem X_lay {w : Int} (hd : 7 ≤ d) (R : RX S g h) (hK : ∀ h', RX S g h' → frH h h' → K (layS S w) g h') : xM C l d YX11_lay [(2, 0), (0, w)] g h K := by
  unfold layS at hK
  have k0 := hK h R (frH.rf h)
  have bad : ¬ ((S.F.nl ≠ 0 ∧ S.st 0 0 + 1 ≤ 999) ∧ 0 ≤ w ∧ w ≤ 1) → K (-1) g h := fun q => by rw [if_neg q] at k0; exact k0
  have ar := all_range (S := S) R.ok.F
  refine wX11_lay hd (X_canPass R (by decide) (by decide) (fun hc => ⟨fun z => absurd z (by decide), fun _ => ⟨fun q => bad (by omega), fun q => ⟨fun z => X_openings (by decide) R (by omega) (fun h1 f1 s1 => ?_), fun z => bad (by omega)⟩⟩⟩) (fun hc => ⟨fun _ => bad (fun y => hc y.1), fun z => absurd rfl z⟩))
  have k1 := hK h1 (R.keep f1) f1.H
  rw [if_pos ⟨hc, by omega, z⟩] at k1
  refine ⟨fun y => ?_, fun y => x_bits ar.1 (by omega) ?_⟩
  · rw [if_neg y] at k1; exact k1
  · rw [if_pos y] at k1; exact k1
theorem x_left {set b m c : Int} (hd : 1 ≤ d) (R : RX S g h) (hs : stdX S h (S.F.nl + 1)) (b0 : 0 ≤ b) (bn : b < S.F.nb) (c0 : 0 ≤ c) (c8 : c ≤ 8) : ∀ (n : Nat) (o a : Int), 0 ≤ o → o + n = S.F.nl + 1 → 0 ≤ a → a + n ≤ 100 → BX5_mostLeft_6 C l d K (g 0 12) b set (if m < a + lefS S set b c n o then a + lefS S set b c n o else m) (c + 1) g h → BX5_mostLeft_21 C l d K (g 0 12) b set m c a o g h := by
  have l6 := R.ok.F.l6
  have b8 := R.ok.F.b8
  intro n
  induction n with
  | zero =>
    intro o a o0 hn a0 an hK
    simp only [lefS, Int.add_zero] at hK
    refine vX5_mostLeft_21 hd ⟨isf R.fi, ?_⟩
    rw [R.fo.l]
    refine ⟨fun _ => x_max (fun v5 e5 => ?_), fun q => absurd (by omega) q⟩
    rw [w_id (by omega) (by omega)] at e5
    rw [e5]; exact hK
  | succ n ih =>
    intro o a o0 hn a0 an hK
    unfold lefS at hK
    refine vX5_mostLeft_21 hd ⟨isf R.fi, ?_⟩
    rw [R.fo.l, w_id (x := o + 1) (by omega) (by omega), w_id (x := a + 1) (by omega) (by omega), w_id (x := o * 8) (by omega) (by omega), w_id (x := o * 8 + b) (by omega) (by omega)]
    have ec : h 64 (o * 8 + b) = cthS S o b := by
      have := hs o b o0 (by omega) b0 bn
      rw [show 8 * o + b = o * 8 + b by omega] at this; exact this
    rw [ec]
    have no : ¬ (bitS set o = 1 ∧ cthS S o b = c) → BX5_mostLeft_21 C l d K (g 0 12) b set m c a (o + 1) g h := by
      intro q
      rw [if_neg q, Int.zero_add] at hK
      exact ih (o + 1) a (by omega) (by omega) a0 (by omega) hK
    refine ⟨fun q => absurd q (by omega), fun _ => ⟨fun q v6 e6 => by rw [e6]; exact no (fun z => q z.1), fun q => ⟨by omega, by omega, fun z v9 e9 => by rw [e9]; exact no (fun y => z y.2), fun z v10 e10 v11 e11 => ?_⟩⟩⟩
    have ec2 : (if bitS set o = 1 ∧ cthS S o b = c then (1 : Int) else 0) = 1 := if_pos ⟨q, z⟩
    rw [ec2, ← Int.add_assoc] at hK
    rw [e10, e11]
    exact ih (o + 1) (a + 1) (by omega) (by omega) (by omega) (by omega) hK
theorem x_most {set b : Int} (hd : 1 ≤ d) (R : RX S g h) (hs : stdX S h (S.F.nl + 1)) (b0 : 0 ≤ b) (bn : b < S.F.nb) : ∀ (n : Nat) (c m : Int), 0 ≤ c → c + n = S.F.nc → K (mosS S set b n c m) g h → BX5_mostLeft_6 C l d K (g 0 12) b set m c g h := by
  have c8 := R.ok.F.c8
  have l0 := R.ok.F.l0
  have l6 := R.ok.F.l6
  intro n
  induction n with
  | zero =>
    intro c m c0 hn hK
    refine vX5_mostLeft_6 ⟨isf R.fi, ?_⟩
    rw [R.fo.c]
    exact ⟨fun _ => hK, fun q => absurd (by omega) q⟩
  | succ n ih =>
    intro c m c0 hn hK
    unfold mosS at hK
    refine vX5_mostLeft_6 ⟨isf R.fi, ?_⟩
    rw [R.fo.c]
    refine ⟨fun q => absurd q (by omega), fun _ => x_left hd R hs b0 bn c0 (by omega) (S.F.nl + 1).toNat 0 0 (by decide) (by omega) (by decide) (by omega) ?_⟩
    rw [Int.zero_add]
    exact ih (c + 1) _ (by omega) (by omega) hK
theorem x_few {w set : Int} (hd : 2 ≤ d) (R : RX S g h) (hs : stdX S h (S.F.nl + 1)) : ∀ (n : Nat) (b best few : Int), 0 ≤ b → b + n = S.F.nb → (best = -1 → few = -1) → K (if (fewS S set n b best few).1 = -1 then -1 else if w = 0 then (fewS S set n b best few).1 else (fewS S set n b best few).2) g h → BX5_askAfter_24 C l d K (g 0 12) w set best few b g h := by
  have b8 := R.ok.F.b8
  have c0 := R.ok.F.c0
  intro n
  induction n with
  | zero =>
    intro b best few b0 hn hbf hK
    have e1 : (fewS S set 0 b best few).1 = best := rfl
    have e2 : (fewS S set 0 b best few).2 = few := rfl
    rw [e1, e2] at hK
    refine vX5_askAfter_24 hd ⟨isf R.fi, ?_⟩
    rw [R.fo.b]
    refine ⟨fun _ => ⟨fun q => ?_, fun q => ?_⟩, fun q => absurd (by omega) q⟩
    · by_cases hb : best = -1
      · rw [if_pos hb] at hK; rw [hbf hb]; exact hK
      · rw [if_neg hb, if_neg q] at hK; exact hK
    · by_cases hb : best = -1
      · rw [if_pos hb] at hK; rw [hb]; exact hK
      · rw [if_neg hb, if_pos q] at hK; exact hK
  | succ n ih =>
    intro b best few b0 hn hbf hK
    refine vX5_askAfter_24 hd ⟨isf R.fi, ?_⟩
    rw [R.fo.b]
    refine ⟨fun q => absurd q (by omega), fun _ => wX5_mostLeft (x_most (by decide) R hs b0 (by omega) S.F.nc.toNat 0 0 (by decide) (by omega) ?_)⟩
    unfold fewS at hK
    rw [w_id (x := b + 1) (by omega) (by omega)]
    refine ⟨fun q v5 e5 => ?_, fun q => ⟨fun z v6 e6 => ?_, fun z v7 e7 => ?_⟩⟩
    · rw [if_pos (Or.inl q)] at hK
      rw [e5]; exact ih (b + 1) b _ (by omega) (by omega) (fun y => absurd y (by omega)) hK
    · have nq : ¬ (best = -1 ∨ mosS S set b S.F.nc.toNat 0 0 < few) := by omega
      rw [if_neg nq] at hK
      rw [e6]; exact ih (b + 1) best few (by omega) (by omega) hbf hK
    · have pq : best = -1 ∨ mosS S set b S.F.nc.toNat 0 0 < few := by omega
      rw [if_pos pq] at hK
      rw [e7]; exact ih (b + 1) b _ (by omega) (by omega) (fun y => absurd y (by omega)) hK
theorem few_init {set : Int} (n : Nat) (b f1 f2 : Int) : (fewS S set n b (-1) f1).1 = (fewS S set n b (-1) f2).1 ∧ (0 < n → (fewS S set n b (-1) f1).2 = (fewS S set n b (-1) f2).2) := by
  cases n with
  | zero => exact ⟨rfl, fun q => absurd q (by decide)⟩
  | succ n =>
    unfold fewS
    rw [if_pos (Or.inl rfl), if_pos (Or.inl rfl)]
    exact ⟨rfl, fun _ => rfl⟩
theorem X_after {w : Int} (hd : 8 ≤ d) (R : RX S g h) (hK : ∀ h', RX S g h' → frH h h' → K (afterS S w) g h') : xM C l d YX11_after [(2, 0), (0, w)] g h K := by
  unfold afterS at hK
  have b0 := R.ok.F.b0
  have k0 := hK h R (frH.rf h)
  have bad : ¬ ((S.F.nl ≠ 0 ∧ S.st 0 0 + 1 ≤ 999) ∧ 0 ≤ w ∧ w ≤ 1) → K (-1) g h := fun q => by rw [if_neg q] at k0; exact k0
  refine wX11_after hd (X_canPass R (by decide) (by decide) (fun hc => ⟨fun z => absurd z (by decide), fun _ => ⟨fun q => bad (by omega), fun q => ⟨fun z => wX5_askAfter (by decide) (X_openings (by decide) R (by omega) (fun h1 f1 s1 => ?_)), fun z => bad (by omega)⟩⟩⟩) (fun hc => ⟨fun _ => bad (fun y => hc y.1), fun z => absurd rfl z⟩))
  have R1 := R.keep f1
  have k1 := hK h1 R1 f1.H
  rw [if_pos ⟨hc, by omega, z⟩] at k1
  refine ⟨fun y => x_few (by decide) R1 s1 S.F.nb.toNat 0 (-1) (-1) (by decide) (by omega) (fun _ => rfl) ?_, fun y => ?_⟩
  · rw [if_neg y] at k1
    obtain ⟨e1, e2⟩ := few_init (S := S) (set := allS S) S.F.nb.toNat 0 (-1) 0
    rw [e1]
    by_cases hn : 0 < S.F.nb.toNat
    · rw [e2 hn]; exact k1
    · have ez : S.F.nb.toNat = 0 := by omega
      rw [ez] at k1 ⊢
      exact k1
  · rw [if_pos y] at k1; exact k1
end SxL
