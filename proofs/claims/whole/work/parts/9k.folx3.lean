/-! rules of a folio in the class -/
section FoX3
variable {C : mf_G} {l : Launch} {d : Nat} {K : mf_Kt} {f : Int} {g0 h0 g h h' : mf_M} {T : aT} {n : Int} {q : aQ} {D : aW} {e : Int × Int}
def BGx (f s sc : Int) (D : aW) (g h1 g' h' : mf_M) : Prop := g' = mf_up g 10 2 (f + 6) ∧ (∀ a, a ≠ f + 6 → a ≠ f + 6 + 2 → a ≠ 10 → h' a = h1 a) ∧ (∀ k, k ≠ 4 → h' (f + 6) k = h1 (f + 6) k) ∧ h' (f + 6) 4 = s ∧ (∀ k, k ≠ s → h' (f + 6 + 2) k = h1 (f + 6 + 2) k) ∧ h' (f + 6 + 2) s = dlen D.1 ∧ h' 10 3 = sc
theorem Y_begin {q0 : aQ} {s sc : Int} (hf : f = 11 ∨ f = 28) (hd : 4 ≤ d) (s0 : 0 ≤ s) (s3 : s ≤ 3) (hk : tK T q0 ≠ 0) (P : DXx f g0 h0 T n q0 D g h) (hF : gtC D.1 s ≠ [] → ∀ h', FXx f g0 h0 (5, tA T q0) g h' → K 0 g h') (hB : gtC D.1 s = [] → ∀ h1, DXx f g0 h0 T n (tN T q0) D g h1 → ∀ g' h', BGx f s sc D g h1 g' h' → K 1 g' h') : xM C l d YX2_beginRule [(2, 45), (0, s), (0, sc)] g h K := by
  refine wX2_beginRule (by omega) ?_
  rw [P.g3]
  have t := P.dR.2.2.2.2.1 s s0 s3
  refine ⟨isf hf, wX4_isTold ⟨fun z => absurd z (by omega), fun _ => ⟨fun z => absurd z (by omega), fun _ => ⟨isf6 hf, s0, by omega, fun z => ⟨fun _ => ?_, fun y => absurd rfl y⟩, fun z => ⟨fun y => absurd y (by decide), fun _ => ?_⟩⟩⟩⟩⟩
  · have e0 : gtC D.1 s = [] := by
      rcases t with y | ⟨y, b0, b1, b2, b3⟩
      · exact y.1
      · have : 0 < (gtC D.1 s).length := List.length_pos_iff.mpr y
        exact absurd z (by omega)
    refine vX2_beginRule_20 hd ⟨is45, Y_may hf (by decide) P hk (fun _ h1 P1 => ⟨fun _ => ?_, fun z => absurd z (by decide)⟩) (fun z => absurd (by decide) z)⟩
    rw [P1.g3]
    refine ⟨isf hf, wX4_begin ⟨isf6 hf, fun h2 e2 => ⟨fun z => absurd z (by omega), fun _ => ⟨fun z => absurd z (by omega), fun _ => ⟨s0, by omega, fun h3 e3 => ?_⟩⟩⟩⟩⟩
    rw [P1.g3]
    refine ⟨isf hf, wX7_writeTo (fun g1 eg h4 e4 => hB e0 h1 P1 g1 h4 ⟨eg, fun a q1 q2 q3 => by rw [e4, up_row q3, e3, up_row q2, e2, up_row q1], fun k hk => by rw [e4, up_row (by omega), e3, up_row (by omega), e2, up_col hk], by rw [e4, up_row (by omega), e3, up_row (by omega), e2, up_self], fun k hk => by rw [e4, up_row (by omega), e3, up_col hk, e2, up_row (by omega)], ?_, by rw [e4, up_self]⟩)⟩
    rw [e4, up_row (by omega), e3, up_self, e2, up_col (by decide)]
    exact P1.dR.2.2.2.2.2.1
  · have e0 : gtC D.1 s ≠ [] := by
      rcases t with y | ⟨y, _⟩
      · exact absurd y.2 z
      · exact y
    exact vX2_beginRule_20 hd ⟨is45, Y_may hf (by decide) P hk (fun z => absurd z (by decide)) (fun _ h1 F1 => ⟨fun z => absurd rfl z, fun _ => hF e0 h1 F1⟩)⟩
theorem Y_pst {q0 : aQ} {s sc : Int} {h1 g' : mf_M} (hf : f = 11 ∨ f = 28) (s0 : 0 ≤ s) (s3 : s ≤ 3) (hk : tK T q0 ≠ 0) (o : okD D) (t2 : T.2 ≤ 1600) (dl : dlen D.1 ≤ q0.1) (q1 : q0.1 ≤ T.2) (e0 : gtC D.1 s = []) (P : DXx f g0 h0 T n (tN T q0) D g h1) (B : BGx f s sc D g h1 g' h') (hE : ∀ e, rulS T D q0 s = .error e → ∀ g' h', FXx f g0 h0 e g' h' → K 0 g' h') (hO : ∀ x, rulS T D q0 s = .ok x → ∀ g' h', FINx C l f g0 h0 T n x g' h' → K 0 g' h') : pstX T (f + 6) (dlen D.1) (fun _ g26 h27 => K 0 g26 h27) g' h' [] (cdsS T s (tN T q0)) := by
  obtain ⟨eg, br, b6, b64, b8, b8s, b10⟩ := B
  have gk : gOK f g0 g' := ⟨by rw [eg, up_row (by decide)]; exact P.g3, fun a a1 a2 => by rw [eg, up_row a1]; exact P.1.2 a a1 a2⟩
  have fr : frPx f h0 h' := P.2.1.tr (fun a _ q2 _ q4 => br a (by omega) (by omega) q2)
  have l3 : h' (f + 6) 3 = dlen D.1 := by rw [b6 3 (by decide)]; exact P.dR.2.2.2.2.2.1
  have dp : 0 ≤ dlen D.1 := by unfold dlen; omega
  have tp := tN_pos q1 hk
  have rl : ∀ r, cdsS T s (tN T q0) = r → rulS T D q0 s = exB r (fun x => .ok (x.1, (stC D.1 s x.2, D.2.1, D.2.2))) := fun r hr => by unfold rulS; rw [if_neg (fun z => z e0), hr]
  refine ⟨fun e he h2 F2 n2 f2 => hE e (by rw [rl _ he]; rfl) g' h2 ⟨gk, fr.tr (fun a q1 _ _ q4 => f2.1 a q1 (by omega) (by omega)), F2, n2⟩, fun x hx h2 X2 n2 L2 f2 => hO _ (by rw [rl _ hx]; rfl) g' h2 ⟨gk.1, fun K' hK => ?_⟩⟩
  rw [List.nil_append] at L2
  have c := cds_ok s0 s3 tp.2 hx
  have bg : h2 (f + 6) 4 = s := by rw [f2.2.1 4 (by decide)]; exact b64
  refine wX4_finish ⟨isf6 hf, ?_⟩
  rw [bg]
  refine ⟨fun z => absurd z (by omega), fun _ => ⟨fun z => absurd z (by omega), fun _ => ⟨s0, by omega, fun h3 e3 h4 e4 => hK h4 ?_⟩⟩⟩
  have l2 : h2 (f + 6) 3 = dlen D.1 + x.2.length := L2.1
  rw [l2] at e3
  have r4 : ∀ a, a ≠ f + 6 → a ≠ f + 6 + 3 → h4 a = h2 a := fun a q1 q2 => by rw [e4, up_row q1, e3, up_row q2]
  have r0 : ∀ a, a ≠ 5 → a ≠ 10 → a ≠ f + 6 → a ≠ f + 6 + 1 → a ≠ f + 6 + 2 → a ≠ f + 6 + 3 → h4 a = h1 a := fun a q1 q2 q3 q4 q5 q6 => by rw [r4 a q3 q6, f2.1 a q1 q3 q4, br a q3 q5 q2]
  have k3 : h4 (f + 6) 3 = dlen D.1 + x.2.length := by rw [e4, up_col (by decide), e3, up_row (by omega)]; exact l2
  have k8 : h4 (f + 6 + 2) = h' (f + 6 + 2) := by rw [r4 _ (by omega) (by omega), f2.1 _ (by omega) (by omega) (by omega)]
  have k9 : ∀ k, k ≠ s → h4 (f + 6 + 3) k = h1 (f + 6 + 3) k := fun k hk => by rw [e4, up_row (by omega), e3, up_col hk, f2.1 _ (by omega) (by omega) (by omega), br _ (by omega) (by omega) (by omega)]
  have k9s : h4 (f + 6 + 3) s = dlen D.1 + x.2.length := by rw [e4, up_row (by omega), e3, up_self]
  have k7 : h4 (f + 6 + 1) = h2 (f + 6 + 1) := r4 _ (by omega) (by omega)
  obtain ⟨p1, p2, p3, p4, p5, p6, p7, p8, p9⟩ := P.dR
  refine ⟨gk, fr.tr (fun a q1 _ _ q4 => by rw [r4 a (by omega) (by omega)]; exact f2.1 a q1 (by omega) (by omega)), X2.to (fun a ha => r4 a (by omega) (by omega)), by rw [r4 5 (by omega) (by omega)]; exact n2, ?_, by rw [r0 f (by omega) (by omega) (by omega) (by omega) (by omega) (by omega)]; exact P.2.2.2.2.2.1, by rw [e4, up_self]⟩
  have st : (stC D.1 s x.2).nl = D.1.nl ∧ (stC D.1 s x.2).nc = D.1.nc ∧ (stC D.1 s x.2).nw = D.1.nw ∧ (stC D.1 s x.2).nb = D.1.nb ∧ (stC D.1 s x.2).th = D.1.th ∧ (stC D.1 s x.2).nm = D.1.nm ∧ (stC D.1 s x.2).tr = D.1.tr ∧ (stC D.1 s x.2).wm = D.1.wm := by
    unfold stC
    split
    · exact ⟨rfl, rfl, rfl, rfl, rfl, rfl, rfl, rfl⟩
    · split
      · exact ⟨rfl, rfl, rfl, rfl, rfl, rfl, rfl, rfl⟩
      · split <;> exact ⟨rfl, rfl, rfl, rfl, rfl, rfl, rfl, rfl⟩
  obtain ⟨st1, st2, st3, st4, st5, st6, st7, st8⟩ := st
  have rr : ∀ a, f ≤ a → a ≤ f + 5 ∨ f + 10 ≤ a → a ≤ f + 15 → h4 a = h1 a := fun a a1 a2 a3 => r0 a (by omega) (by omega) (by omega) (by omega) (by omega) (by omega)
  refine ⟨⟨?_, ?_, ?_, ?_, ?_, ?_⟩, ?_, ?_, ?_, fun s' t0 t3 => ?_, ?_, ?_, ?_, ?_⟩
  · rw [rr f (by omega) (by omega) (by omega)]; exact p1.1.trans st1.symm
  · rw [rr f (by omega) (by omega) (by omega)]; exact p1.2.1.trans st2.symm
  · rw [rr f (by omega) (by omega) (by omega)]; exact p1.2.2.1
  · rw [rr f (by omega) (by omega) (by omega)]; exact p1.2.2.2.1.trans st3.symm
  · rw [rr f (by omega) (by omega) (by omega)]; exact p1.2.2.2.2.1.trans st4.symm
  · rw [rr f (by omega) (by omega) (by omega)]; exact p1.2.2.2.2.2.trans st5.symm
  · simp only []
    rw [rr (f + 4) (by omega) (by omega) (by omega), st4, st6]; exact p2
  · simp only []
    rw [rr (f + 5) (by omega) (by omega) (by omega), st4, st7]; exact p3
  · simp only []
    rw [rr (f + 1) (by omega) (by omega) (by omega), rr (f + 2) (by omega) (by omega) (by omega), rr (f + 3) (by omega) (by omega) (by omega), st3, st8]; exact p4
  · simp only []
    rw [gt_st s0 s3 t0 t3]
    by_cases z : s' = s
    · subst z
      rw [if_pos rfl]
      refine Or.inr ⟨c.1, by rw [k8, b8s]; exact dp, by rw [k8, b8s, k9s], by rw [k9s, k3]; exact Int.le_refl _, fun j hj => ?_⟩
      rw [k8, b8s, k7]
      exact L2.2 j hj
    · rw [if_neg z]
      refine (p5 s' t0 t3).to (by rw [k8]; exact b8 s' z) (k9 s' z) (fun i hi => ?_) (by rw [k3, p6]; omega)
      rw [k7, f2.2.2.1 i (by rw [l3]; omega), br _ (by omega) (by omega) (by omega)]
  · simp only []
    rw [k3, dlen_st s0 s3 e0]
  · rw [rr (f + 10) (by omega) (by omega) (by omega)]; exact p7
  · rw [rr (f + 10 + 1) (by omega) (by omega) (by omega)]; exact p8
  · simp only []
    rw [rr (f + 10 + 2) (by omega) (by omega) (by omega), rr (f + 10 + 3) (by omega) (by omega) (by omega), rr (f + 10 + 4) (by omega) (by omega) (by omega), rr (f + 10 + 5) (by omega) (by omega) (by omega), st4]; exact p9
theorem Y_sumR {q0 : aQ} {s sc : Int} (hf : f = 11 ∨ f = 28) (hs : (s = 0 ∧ sc = 1) ∨ (s = 1 ∧ sc = 63) ∨ (s = 2 ∧ sc = 127)) (hk : tK T q0 ≠ 0) (o : okD D) (t2 : T.2 ≤ 1600) (dl : dlen D.1 ≤ q0.1) (P : DXx f g0 h0 T n q0 D g h) (hE : ∀ e, rulS T D q0 s = .error e → ∀ g' h', FXx f g0 h0 e g' h' → K 0 g' h') (hO : ∀ x, rulS T D q0 s = .ok x → ∀ g' h', FINx C l f g0 h0 T n x g' h' → K 0 g' h') : xM C l 4 YX2_beginRule [(2, 45), (0, s), (0, sc)] g h (fun r22 g23 h24 => ((r22 = 0 → K 0 g23 h24) ∧ (¬ r22 = 0 → xM C l 64 YX7_readSum [(2, 10), (0, 0)] g23 h24 (fun r25 g26 h27 => K 0 g26 h27)))) := by
  have q1 := P.lx.2.1.2
  have tp := tN_pos q1 hk
  have dp : 0 ≤ dlen D.1 := by unfold dlen; omega
  refine Y_begin hf (by decide) (by omega) (by omega) hk P (fun ne h1 F1 => ⟨fun _ => hE _ (by unfold rulS; rw [if_pos ne]) g h1 F1, fun z => absurd rfl z⟩) (fun e0 h1 P1 g' h' B => ⟨fun z => absurd z (by decide), fun _ => ?_⟩)
  have p := Y_pst (C := C) (l := l) hf (by omega) (by omega) hk o t2 dl q1 e0 P1 B hE hO
  have ec : cdsS T s (tN T q0) = rdS T (scK (kdC s)) 4000 true 0 0 0 (tN T q0) := by unfold cdsS; rw [if_neg (by omega)]; rfl
  rw [ec] at p
  obtain ⟨eg, br, b6, b64, b8, b8s, b10⟩ := B
  refine X_readSum (e := 63) (b := dlen D.1) (cs := []) (scf := scK (kdC s)) (scf hf) (by rw [eg, up_self]) dp (by decide) (by decide) (by decide) (scpN b10 ?_) (P1.lx.to (fun a ha => br a (by omega) (by omega) (by omega))) (by rw [br 5 (by omega) (by omega) (by decide)]; exact P1.b0) ⟨?_, fun j hj => absurd hj (by simp)⟩ (by simp only [List.length_nil]; omega) p
  · rcases hs with ⟨rfl, rfl⟩ | ⟨rfl, rfl⟩ | ⟨rfl, rfl⟩
    · exact Or.inl ⟨rfl, rfl⟩
    · exact Or.inr (Or.inl ⟨rfl, rfl⟩)
    · exact Or.inr (Or.inr ⟨rfl, rfl⟩)
  · rw [b6 3 (by decide), P1.dR.2.2.2.2.2.1]; simp
theorem Y_tstR {q0 : aQ} (hf : f = 11 ∨ f = 28) (hk : tK T q0 ≠ 0) (o : okD D) (t2 : T.2 ≤ 1600) (dl : dlen D.1 ≤ q0.1) (P : DXx f g0 h0 T n q0 D g h) (hE : ∀ e, rulS T D q0 3 = .error e → ∀ g' h', FXx f g0 h0 e g' h' → K 0 g' h') (hO : ∀ x, rulS T D q0 3 = .ok x → ∀ g' h', FINx C l f g0 h0 T n x g' h' → K 0 g' h') : xM C l 4 YX2_beginRule [(2, 45), (0, 3), (0, 63)] g h (fun r22 g23 h24 => ((r22 = 0 → K 0 g23 h24) ∧ (¬ r22 = 0 → xM C l 125 YX7_readTest [(2, 10), (0, 0)] g23 h24 (fun r25 g26 h27 => K 0 g26 h27)))) := by
  have q1 := P.lx.2.1.2
  have tp := tN_pos q1 hk
  have dp : 0 ≤ dlen D.1 := by unfold dlen; omega
  refine Y_begin hf (by decide) (by decide) (by decide) hk P (fun ne h1 F1 => ⟨fun _ => hE _ (by unfold rulS; rw [if_pos ne]) g h1 F1, fun z => absurd rfl z⟩) (fun e0 h1 P1 g' h' B => ⟨fun z => absurd z (by decide), fun _ => ?_⟩)
  have p := Y_pst (C := C) (l := l) hf (by decide) (by decide) hk o t2 dl q1 e0 P1 B hE hO
  have ec : cdsS T 3 (tN T q0) = rtS T (scK 1) 4000 true 0 0 0 (tN T q0) := by unfold cdsS; rw [if_pos rfl]; rfl
  rw [ec] at p
  obtain ⟨eg, br, b6, b64, b8, b8s, b10⟩ := B
  refine X_readTest (e := 124) (b := dlen D.1) (cs := []) (scf := scK 1) (scf hf) (by rw [eg, up_self]) dp (by decide) (scpN b10 (Or.inr (Or.inl ⟨rfl, rfl⟩))) (P1.lx.to (fun a ha => br a (by omega) (by omega) (by omega))) (by rw [br 5 (by omega) (by omega) (by decide)]; exact P1.b0) ⟨?_, fun j hj => absurd hj (by simp)⟩ (by simp only [List.length_nil]; omega) p
  rw [b6 3 (by decide), P1.dR.2.2.2.2.2.1]; simp
theorem Y_size (hf : f = 11 ∨ f = 28) (hd : 5 ≤ d) (P : DXx f g0 h0 T n (0, false) (D0 0 0) g h) (hx : tX T (0, false) = 16) (hE : ∀ e, szS T = .error e → ∀ h', FXx f g0 h0 e g h' → K 0 g h') (hO : ∀ z, szS T = .ok z → ∀ h', DXx f g0 h0 T n z.1 (D0 z.2.1 z.2.2) g h' → K 0 g h') : xM C l d YX2_readSize [(2, 45)] g h K := by
  have hw : wrdS T (0, false) 16 = .ok (tN T (0, false)) := by unfold wrdS; rw [if_pos hx]
  unfold szS at hE hO
  rw [hw, exB_o] at hE hO
  refine wX2_readSize (by omega) (X_step (by decide) P.lx (tX_ne (by omega)) (fun h1 X1 f1 => ?_))
  have P1 := P.lex hf f1.1 X1 (by rw [f1.2.1]; exact P.b0)
  refine Y_num hf (by decide) P1 (fun e he h2 F2 => X_passWB (by decide) F2.ne (G_num (by decide) F2 (fun h3 F3 => ⟨fun _ => hE e (by rw [he]; rfl) h3 F3, fun z => absurd z F3.ne⟩))) (fun a ha h2 P2 _ => ?_)
  rw [ha, exB_o] at hE hO
  refine Y_wrd (k := 17) hf (by decide) (by decide) P2 (fun e he h3 F3 => ?_) (fun y hy h3 P3 => ?_)
  · replace he : wrdS T a.1 17 = .error e := he
    exact G_num (by decide) F3 (fun h4 F4 => ⟨fun _ => hE e (by rw [he]; rfl) h4 F4, fun z => absurd z F4.ne⟩)
  replace hy : wrdS T a.1 17 = .ok y := hy
  rw [hy, exB_o] at hE hO
  refine Y_num hf (by decide) P3 (fun e he h4 F4 => ⟨fun _ => hE e (by rw [he]; rfl) h4 F4, fun z => absurd z F4.ne⟩) (fun b hb h4 P4 _ => ⟨fun z => absurd P4.b0 z, fun _ => ?_⟩)
  rw [hb, exB_o] at hE hO
  rw [P4.g3]
  refine ⟨isf hf, fun h5 e5 h6 e6 => hO _ rfl h6 ?_⟩
  have r : ∀ a, a ≠ f → h6 a = h4 a := fun a ha => by rw [e6, up_row ha, e5, up_row ha]
  have c : ∀ k, k ≠ 8 → k ≠ 9 → h6 f k = h4 f k := fun k k1 k2 => by rw [e6, up_col k2, e5, up_col k1]
  obtain ⟨⟨s1, s2, s3, s4, s5, s6⟩, r2, r3, r4, r5, r6, r7, r8, r9⟩ := P4.dR
  refine ⟨P4.1, P4.2.1.tr (fun x _ _ _ q4 => r x (by omega)), P4.lx.to (fun x hx => r x (by omega)), by rw [r 5 (by omega)]; exact P4.b0, ⟨⟨by rw [e6, up_col (by decide), e5, up_self]; rfl, by rw [e6, up_self]; rfl, by rw [c 10 (by decide) (by decide)]; exact s3, by rw [c 11 (by decide) (by decide)]; exact s4, by rw [c 12 (by decide) (by decide)]; exact s5, by rw [c 13 (by decide) (by decide)]; exact s6⟩, fun b b0 b1 => absurd b1 (by show ¬ b < 0; omega), fun b b0 b1 => absurd b1 (by show ¬ b < 0; omega), fun w w0 w1 => absurd w1 (by show ¬ w < 0; omega), fun s t0 t3 => (r5 s t0 t3).to (by rw [r (f + 6 + 2) (by omega)]) (by rw [r (f + 6 + 3) (by omega)]) (fun i _ => by rw [r (f + 6 + 1) (by omega)]) (by rw [r (f + 6) (by omega)]; exact Int.le_refl _), by rw [r (f + 6) (by omega)]; exact r6, by rw [r (f + 10) (by omega)]; exact r7, by rw [r (f + 10 + 1) (by omega)]; exact r8, fun b b0 b1 => absurd b1 (by show ¬ b < 0; omega)⟩, by rw [c 7 (by decide) (by decide)]; exact P4.2.2.2.2.2.1, by rw [r (f + 6) (by omega)]; exact P4.2.2.2.2.2.2⟩
/-- which word begins a statement -/
theorem Y_first {k : Int} (hd : 126 ≤ d) (X : lxX T q h) (hK : BX2_readStatement_29 C l d K k (tX T q) g h) : xM C l d YX2_readStatement [(2, 45), (0, k)] g h K := by
  refine wX2_readStatement (by omega) ?_
  rw [X.2.2.1]
  refine ⟨fun z => ?_, fun z => X_find X z hK⟩
  have : tX T q = -1 := by unfold tX; rw [if_neg z]
  rw [this] at hK
  exact hK
theorem Y_stm0 (hf : f = 11 ∨ f = 28) (hd : 126 ≤ d) (P : DXx f g0 h0 T n (0, false) (D0 0 0) g h) (hE : ∀ e, szS T = .error e → ∀ g' h', FXx f g0 h0 e g' h' → K 0 g' h') (hO : ∀ z, szS T = .ok z → ∀ g' h', FINx C l f g0 h0 T n (z.1, D0 z.2.1 z.2.2) g' h' → K 0 g' h') : xM C l d YX2_readStatement [(2, 45), (0, 0)] g h K := by
  refine Y_first hd P.lx (vX2_readStatement_29 ⟨fun z => absurd rfl z, fun _ => ⟨fun z => ?_, fun z => ?_⟩⟩)
  · refine vX2_readStatement_50 hd ⟨fun y => absurd y (by decide), fun _ => x_fail P.b0 (fun h1 F1 f1 _ => ?_)⟩
    rw [P.lx.2.2.2.1] at F1
    exact hE _ (by unfold szS wrdS; rw [if_neg z]; rfl) g h1 (P.bad hf f1 F1 (by decide))
  · refine vX2_readStatement_50 hd ⟨fun _ => ⟨fun _ => Y_size hf (by decide) P z (fun e he h1 F1 => hE e he g h1 F1) (fun x hx h1 P1 => hO x hx g h1 (P1.fin hf)), fun y => absurd y (by omega), fun y => absurd y (by omega), fun y => absurd y (by omega), fun y => absurd y (by omega), fun y => absurd y (by omega), fun y => absurd y (by omega), fun y => absurd y (by omega), fun y => absurd y (by omega), fun y => absurd y (by omega), fun y => absurd y (by omega), fun y => absurd y (by omega), fun y => absurd y (by omega)⟩, fun y => absurd rfl y⟩
theorem Y_stm {k : Int} (hf : f = 11 ∨ f = 28) (hd : 126 ≤ d) (k1 : ¬ k = 0) (o : okD D) (t2 : T.2 ≤ 1600) (dl : dlen D.1 ≤ q.1) (P : DXx f g0 h0 T n q D g h) (hE : ∀ e, stmS T D q = .error e → ∀ g' h', FXx f g0 h0 e g' h' → K 0 g' h') (hO : ∀ x, stmS T D q = .ok x → ∀ g' h', FINx C l f g0 h0 T n x g' h' → K 0 g' h') : xM C l d YX2_readStatement [(2, 45), (0, k)] g h K := by
  have wrong : ¬ (18 ≤ tX T q ∧ tX T q ≤ 20) → ¬ (23 ≤ tX T q ∧ tX T q ≤ 27) → xM C l 0 YX9_fail [(2, 5), (0, 1), (0, h 5 3)] g h (fun r54 g55 h56 => K 0 g55 h56) := by
    intro w1 w2
    rw [P.lx.2.2.2.1]
    exact x_fail P.b0 (fun h1 F1 f1 _ => hE _ (by unfold stmS; rw [if_neg (by omega), if_neg (by omega), if_neg (by omega), if_neg (by omega), if_neg (by omega)]) g h1 (P.bad hf f1 F1 (by decide)))
  have rul : ∀ s, 0 ≤ s → s ≤ 3 → tX T q = s + 23 → stmS T D q = rulS T D q s := fun s s0 s3 e => by
    unfold stmS
    rw [if_neg (by omega), if_neg (by omega), if_neg (by omega), if_pos (by omega), show tX T q - 23 = s by omega]
  refine Y_first hd P.lx (vX2_readStatement_29 ⟨fun _ => ⟨fun z => ?_, fun z => ?_⟩, fun z => absurd z k1⟩)
  · refine vX2_readStatement_50 hd ⟨fun _ => ⟨fun y => absurd y z, fun y => wrong (by omega) (by omega), fun y => ?_, fun y => ?_, fun y => ?_, fun y => wrong (by omega) (by omega), fun y => wrong (by omega) (by omega), fun y => ?_, fun y => ?_, fun y => ?_, fun y => ?_, fun y => ?_, fun y => wrong (by omega) (by omega)⟩, fun y => absurd rfl y⟩
    · have es : stmS T D q = gloS T D q := by unfold stmS; rw [if_pos y]
      exact Y_gloss hf (by decide) o (tX_ne (by omega)) P (fun e he h1 F1 => hE e (by rw [es]; exact he) g h1 F1) (fun x hx h1 P1 => hO x (by rw [es]; exact hx) g h1 (P1.fin hf))
    · have es : stmS T D q = worS T D q := by unfold stmS; rw [if_neg (by omega), if_pos y]
      exact Y_worm hf (by decide) o (tX_ne (by omega)) P (fun e he h1 F1 => hE e (by rw [es]; exact he) g h1 F1) (fun x hx h1 P1 => hO x (by rw [es]; exact hx) g h1 (P1.fin hf))
    · have es : stmS T D q = beiS T D q := by unfold stmS; rw [if_neg (by omega), if_neg (by omega), if_pos y]
      exact Y_being hf (by decide) o (tX_ne (by omega)) P (fun e he h1 F1 => hE e (by rw [es]; exact he) g h1 F1) (fun x hx h1 P1 => hO x (by rw [es]; exact hx) g h1 (P1.fin hf))
    · have es := rul 0 (by decide) (by decide) (by omega)
      exact Y_sumR hf (Or.inl ⟨rfl, rfl⟩) (tX_ne (by omega)) o t2 dl P (fun e he => hE e (by rw [es]; exact he)) (fun x hx => hO x (by rw [es]; exact hx))
    · have es := rul 1 (by decide) (by decide) (by omega)
      exact Y_sumR hf (Or.inr (Or.inl ⟨rfl, rfl⟩)) (tX_ne (by omega)) o t2 dl P (fun e he => hE e (by rw [es]; exact he)) (fun x hx => hO x (by rw [es]; exact hx))
    · have es := rul 2 (by decide) (by decide) (by omega)
      exact Y_sumR hf (Or.inr (Or.inr ⟨rfl, rfl⟩)) (tX_ne (by omega)) o t2 dl P (fun e he => hE e (by rw [es]; exact he)) (fun x hx => hO x (by rw [es]; exact hx))
    · have es := rul 3 (by decide) (by decide) (by omega)
      exact Y_tstR hf (tX_ne (by omega)) o t2 dl P (fun e he => hE e (by rw [es]; exact he)) (fun x hx => hO x (by rw [es]; exact hx))
    · have es : stmS T D q = thuS T D q := by unfold stmS; rw [if_neg (by omega), if_neg (by omega), if_neg (by omega), if_neg (by omega), if_pos y]
      rw [es] at hE hO
      unfold thuS at hE hO
      refine X_step (by decide) P.lx (tX_ne (by omega)) (fun h1 X1 f1 => ?_)
      have P1 := P.lex hf f1.1 X1 (by rw [f1.2.1]; exact P.b0)
      have put : ∀ v (h2 h3 : mf_M), h3 = mf_up h2 (g 45 3) 13 v → h3 = mf_up h2 f 13 v := fun v h2 h3 e3 => by rw [P.g3] at e3; exact e3
      refine Y_num hf (by decide) P1 (fun e he h2 F2 => ⟨by rw [P.g3]; exact isf hf, fun h3 e3 => ?_⟩) (fun v hv h2 P2 _ => ⟨by rw [P.g3]; exact isf hf, fun h3 e3 => ?_⟩)
      · replace e3 := put _ _ _ e3
        exact hE e (by rw [he]; rfl) g h3 (F2.to (fun a _ _ _ q4 => by rw [e3, up_row (by omega)]) (by rw [e3, up_row (by omega)]))
      · replace e3 := put _ _ _ e3
        rw [hv, exB_o] at hO
        refine hO _ rfl g h3 (DXx.fin hf ?_)
        have r : ∀ a, a ≠ f → h3 a = h2 a := fun a ha => by rw [e3, up_row ha]
        have c : ∀ k, k ≠ 13 → h3 f k = h2 f k := fun k k1 => by rw [e3, up_col k1]
        obtain ⟨⟨s1, s2, s3, s4, s5, s6⟩, r2, r3, r4, r5, r6, r7, r8, r9⟩ := P2.dR
        exact ⟨P2.1, P2.2.1.tr (fun x _ _ _ q4 => r x (by omega)), P2.lx.to (fun x hx => r x (by omega)), by rw [r 5 (by omega)]; exact P2.b0, ⟨⟨by rw [c 8 (by decide)]; exact s1, by rw [c 9 (by decide)]; exact s2, by rw [c 10 (by decide)]; exact s3, by rw [c 11 (by decide)]; exact s4, by rw [c 12 (by decide)]; exact s5, by rw [e3, up_self]; rfl⟩, by rw [r (f + 4) (by omega)]; exact r2, by rw [r (f + 5) (by omega)]; exact r3, by rw [r (f + 1) (by omega), r (f + 2) (by omega), r (f + 3) (by omega)]; exact r4, fun s t0 t3 => (r5 s t0 t3).to (by rw [r (f + 6 + 2) (by omega)]) (by rw [r (f + 6 + 3) (by omega)]) (fun i _ => by rw [r (f + 6 + 1) (by omega)]) (by rw [r (f + 6) (by omega)]; exact Int.le_refl _), by rw [r (f + 6) (by omega)]; exact r6, by rw [r (f + 10) (by omega)]; exact r7, by rw [r (f + 10 + 1) (by omega)]; exact r8, by rw [r (f + 10 + 2) (by omega), r (f + 10 + 3) (by omega), r (f + 10 + 4) (by omega), r (f + 10 + 5) (by omega)]; exact r9⟩, by rw [c 7 (by decide)]; exact P2.2.2.2.2.2.1, by rw [r (f + 6) (by omega)]; exact P2.2.2.2.2.2.2⟩
  · exact vX2_readStatement_50 hd ⟨fun y => absurd y (by decide), fun _ => wrong (by omega) (by omega)⟩
end FoX3
