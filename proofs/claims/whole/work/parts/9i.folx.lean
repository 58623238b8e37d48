/-! a folio told in the class -/
def gOK (f : Int) (g0 g : mf_M) : Prop := g 45 3 = f ∧ ∀ a, a ≠ 10 → a ≠ 45 → g a = g0 a
def frPx (f : Int) (h h' : mf_M) : Prop := ∀ a, a ≠ 5 → a ≠ 10 → a ≠ 45 → ¬ (f ≤ a ∧ a ≤ f + 16) → h' a = h a
theorem frPx.rf (f : Int) (h : mf_M) : frPx f h h := fun _ _ _ _ _ => rfl
theorem frPx.tr {f : Int} {a b c : mf_M} (x : frPx f a b) (y : frPx f b c) : frPx f a c := fun r q1 q2 q3 q4 => (y r q1 q2 q3 q4).trans (x r q1 q2 q3 q4)
def tldX (h : mf_M) (a s : Int) (cs : List Int) : Prop := (cs = [] ∧ h (a + 3) s ≤ h (a + 2) s) ∨ (cs ≠ [] ∧ 0 ≤ h (a + 2) s ∧ h (a + 2) s + cs.length = h (a + 3) s ∧ h (a + 3) s ≤ h a 3 ∧ ∀ j : Nat, j < cs.length → h (a + 1) (h (a + 2) s + j) = clC (cs.getD j 0))
theorem tldX.to {h h' : mf_M} {a s : Int} {cs : List Int} (t : tldX h a s cs) (e3 : h' (a + 2) s = h (a + 2) s) (e4 : h' (a + 3) s = h (a + 3) s) (e5 : ∀ i, i < h a 3 → h' (a + 1) i = h (a + 1) i) (e52 : h a 3 ≤ h' a 3) : tldX h' a s cs := by
  rcases t with ⟨x, y⟩ | ⟨x, b0, b1, b2, b3⟩
  · exact Or.inl ⟨x, by rw [e3, e4]; exact y⟩
  · refine Or.inr ⟨x, by rw [e3]; exact b0, by rw [e3, e4]; exact b1, by rw [e4]; omega, fun j hj => ?_⟩
    rw [e3, e5 _ (by omega)]; exact b3 j hj
def dRX (D : aW) (f : Int) (h : mf_M) : Prop := (h f 8 = D.1.nl ∧ h f 9 = D.1.nc ∧ h f 10 = D.2.2 ∧ h f 11 = D.1.nw ∧ h f 12 = D.1.nb ∧ h f 13 = D.1.th) ∧ (∀ b, 0 ≤ b → b < D.1.nb → h (f + 4) b = pkP (D.1.nm b)) ∧ (∀ b, 0 ≤ b → b < D.1.nb → h (f + 5) b = D.1.tr b) ∧ (∀ w, 0 ≤ w → w < D.1.nw → h (f + 1) w = D.1.wm (3 * w) ∧ h (f + 2) w = D.1.wm (3 * w + 1) ∧ h (f + 3) w = D.1.wm (3 * w + 2)) ∧ (∀ s, 0 ≤ s → s ≤ 3 → tldX h (f + 6) s (gtC D.1 s)) ∧ h (f + 6) 3 = dlen D.1 ∧ (h (f + 10) 7 = 0 ∧ h (f + 10) 6 = 0) ∧ (∀ k, 0 ≤ k → k < 6 → h (f + 10 + 1) k = D.2.1 1 k) ∧ ∀ b, 0 ≤ b → b < D.1.nb → h (f + 10 + 2) b = D.2.1 2 b ∧ h (f + 10 + 3) b = D.2.1 3 b ∧ h (f + 10 + 4) b = D.2.1 4 b ∧ h (f + 10 + 5) b = D.2.1 5 b
theorem dRX.to {D : aW} {f : Int} {h h' : mf_M} (R : dRX D f h) (r : ∀ a, f ≤ a → a ≤ f + 15 → a ≠ f + 6 → h' a = h a) (e3 : h' (f + 6) 3 = h (f + 6) 3) : dRX D f h' := by
  obtain ⟨r1, r2, r3, r4, r5, r6, r7, r8, r9⟩ := R
  exact ⟨by rw [r f (by omega) (by omega) (by omega)]; exact r1, by rw [r (f + 4) (by omega) (by omega) (by omega)]; exact r2, by rw [r (f + 5) (by omega) (by omega) (by omega)]; exact r3, by rw [r (f + 1) (by omega) (by omega) (by omega), r (f + 2) (by omega) (by omega) (by omega), r (f + 3) (by omega) (by omega) (by omega)]; exact r4, fun s s0 s3 => (r5 s s0 s3).to (by rw [r (f + 6 + 2) (by omega) (by omega) (by omega)]) (by rw [r (f + 6 + 3) (by omega) (by omega) (by omega)]) (fun i _ => by rw [r (f + 6 + 1) (by omega) (by omega) (by omega)]) (by rw [e3]; exact Int.le_refl _), by rw [e3]; exact r6, by rw [r (f + 10) (by omega) (by omega) (by omega)]; exact r7, by rw [r (f + 10 + 1) (by omega) (by omega) (by omega)]; exact r8, by rw [r (f + 10 + 2) (by omega) (by omega) (by omega), r (f + 10 + 3) (by omega) (by omega) (by omega), r (f + 10 + 4) (by omega) (by omega) (by omega), r (f + 10 + 5) (by omega) (by omega) (by omega)]; exact r9⟩
def DXx (f : Int) (g0 h0 : mf_M) (T : aT) (n : Int) (q : aQ) (D : aW) (g h : mf_M) : Prop := gOK f g0 g ∧ frPx f h0 h ∧ lxX T q h ∧ h 5 8 = 0 ∧ dRX D f h ∧ h f 7 = n ∧ h (f + 6) 4 = -1
def FXx (f : Int) (g0 h0 : mf_M) (e : Int × Int) (g h : mf_M) : Prop := gOK f g0 g ∧ frPx f h0 h ∧ flX e h ∧ ¬ h 5 8 = 0
theorem isf10 {f : Int} (hf : f = 11 ∨ f = 28) : mf_is 319 (f + 10) 6 := by rcases hf with rfl | rfl; exact is21; exact is38
theorem scf {f : Int} (hf : f = 11 ∨ f = 28) : scO (f + 6) := by rcases hf with rfl | rfl; exact Or.inr (Or.inl rfl); exact Or.inr (Or.inr rfl)
section FoX
variable {C : mf_G} {l : Launch} {d : Nat} {K : mf_Kt} {f : Int} {g0 h0 g h h' : mf_M} {T : aT} {n : Int} {q : aQ} {D : aW} {e : Int × Int}
theorem DXx.g3 (P : DXx f g0 h0 T n q D g h) : g 45 3 = f := P.1.1
theorem DXx.lx (P : DXx f g0 h0 T n q D g h) : lxX T q h := P.2.2.1
theorem DXx.b0 (P : DXx f g0 h0 T n q D g h) : h 5 8 = 0 := P.2.2.2.1
theorem DXx.dR (P : DXx f g0 h0 T n q D g h) : dRX D f h := P.2.2.2.2.1
theorem FXx.g3 (F : FXx f g0 h0 e g h) : g 45 3 = f := F.1.1
theorem FXx.ne (F : FXx f g0 h0 e g h) : ¬ h 5 8 = 0 := F.2.2.2
theorem fr5.px (hf : f = 11 ∨ f = 28) (x : fr5 h h') : frPx f h h' := fun a q1 _ _ _ => x a q1
theorem DXx.lex {q' : aQ} (hf : f = 11 ∨ f = 28) (P : DXx f g0 h0 T n q D g h) (x : fr5 h h') (X : lxX T q' h') (b : h' 5 8 = 0) : DXx f g0 h0 T n q' D g h' := ⟨P.1, P.2.1.tr (fr5.px hf x), X, b, P.dR.to (fun a a1 a2 _ => x a (by omega)) (by rw [x (f + 6) (by omega)]), by rw [x f (by omega)]; exact P.2.2.2.2.2.1, by rw [x (f + 6) (by omega)]; exact P.2.2.2.2.2.2⟩
theorem DXx.bad {k p : Int} (hf : f = 11 ∨ f = 28) (P : DXx f g0 h0 T n q D g h) (x : fr5 h h') (F : flX (k, p) h') (hk : k ≠ 0) : FXx f g0 h0 (k, p) g h' := ⟨P.1, P.2.1.tr (fr5.px hf x), F, F.ne hk⟩
theorem FXx.to (F : FXx f g0 h0 e g h) (x : frPx f h h') (e5 : h' 5 = h 5) : FXx f g0 h0 e g h' := ⟨F.1, F.2.1.tr x, F.2.2.1.to e5, by rw [e5]; exact F.ne⟩
theorem FXx.to5 (F : FXx f g0 h0 e g h) (x : fr5 h h') (e8 : h' 5 8 = h 5 8) (e9 : h' 5 9 = h 5 9) : FXx f g0 h0 e g h' := ⟨F.1, F.2.1.tr (fun a q1 _ _ _ => x a q1), ⟨e8.trans F.2.2.1.1, e9.trans F.2.2.1.2⟩, fun z => F.ne (e8.symm.trans z)⟩
theorem G_num {lo hi : Int} (hd : 3 ≤ d) (F : FXx f g0 h0 e g h) (hK : ∀ h', FXx f g0 h0 e g h' → K (-1) g h') : xM C l d YX9_passNumber [(2, 5), (0, lo), (0, hi)] g h K := X_passNB hd F.ne (fun h1 x e8 e9 => hK h1 (F.to5 x e8 e9))
theorem Y_num {lo hi : Int} (hf : f = 11 ∨ f = 28) (hd : 3 ≤ d) (P : DXx f g0 h0 T n q D g h) (hE : ∀ e, numS T q lo hi = .error e → ∀ h', FXx f g0 h0 e g h' → K (-1) g h') (hO : ∀ x, numS T q lo hi = .ok x → ∀ h', DXx f g0 h0 T n x.1 D g h' → h' 5 7 = tA T q → K x.2 g h') : xM C l d YX9_passNumber [(2, 5), (0, lo), (0, hi)] g h K := by
  refine X_passNumber hd P.lx P.b0 (fun k2 k4 r h2 X2 b2 f2 n2 => hO (tN T q, tV T q) ?_ h2 (P.lex hf f2 X2 b2) n2) (fun k2 k4 no h2 F2 f2 => hE _ ?_ h2 (P.bad hf f2 F2 (by decide))) (fun no h2 F2 f2 => hE _ ?_ h2 (P.bad hf f2 F2 (by decide)))
  · unfold numS; rw [if_pos ⟨k2, k4⟩, if_pos r]
  · unfold numS; rw [if_pos ⟨k2, k4⟩, if_neg no]
  · unfold numS; rw [if_neg no]
theorem Y_wrd {k : Nat} (hf : f = 11 ∨ f = 28) (hk : k < 34) (hd : 3 ≤ d) (P : DXx f g0 h0 T n q D g h) (hE : ∀ e, wrdS T q (k : Int) = .error e → ∀ h', FXx f g0 h0 e g h' → K 0 g h') (hO : ∀ y, wrdS T q (k : Int) = .ok y → ∀ h', DXx f g0 h0 T n y D g h' → K 0 g h') : xM C l d YX9_passWord [(2, 5), (0, (k : Int))] g h K := by
  refine X_passWord hk hd P.lx P.b0 (fun a h1 X1 b1 f1 => hO (tN T q) ?_ h1 (P.lex hf f1.1 X1 b1)) (fun a h1 F1 f1 => hE _ ?_ h1 (P.bad hf f1 F1 (by decide)))
  · unfold wrdS; rw [if_pos a]
  · unfold wrdS; rw [if_neg a]
theorem Y_may {t m : Int} (hf : f = 11 ∨ f = 28) (hd : 3 ≤ d) (P : DXx f g0 h0 T n q D g h) (hk : tK T q ≠ 0) (h1 : t < m → ∀ h', DXx f g0 h0 T n (tN T q) D g h' → K 1 g h') (hF : ¬ t < m → ∀ h', FXx f g0 h0 (5, tA T q) g h' → K 0 g h') : xM C l d YX2_mayBegin [(2, 45), (0, t), (0, m)] g h K := by
  refine wX2_mayBegin hd ⟨fun z => X_step (by decide) P.lx hk (fun h2 X2 f2 => h1 z h2 (P.lex hf f2.1 X2 (by rw [f2.2.1]; exact P.b0))), fun z => x_fail P.b0 (fun h2 F2 f2 _ => ?_)⟩
  rw [P.lx.2.2.2.1] at F2
  exact hF z h2 (P.bad hf f2 F2 (by decide))
theorem G_cell {a : Int} (hf : f = 11 ∨ f = 28) (hd : 5 ≤ d) (F : FXx f g0 h0 e g h) (hK : ∀ h', FXx f g0 h0 e g h' → ∀ v, K v g h') : xM C l d YX2_readFreeCell [(2, 45), (0, a)] g h K := by
  refine wX2_readFreeCell (by omega) ?_
  rw [F.g3]
  exact ⟨isf hf, G_num (by decide) F (fun h1 F1 => ⟨fun _ => hK h1 F1 _, fun z => absurd z F1.ne⟩)⟩
theorem Y_cell {a : Int} (hf : f = 11 ∨ f = 28) (hd : 5 ≤ d) (o : okD D) (a0 : 0 ≤ a) (a6 : a < 6) (P : DXx f g0 h0 T n q D g h) (hE : ∀ e, celS T D q a = .error e → ∀ h', FXx f g0 h0 e g h' → ∀ v, K v g h') (hO : ∀ x, celS T D q a = .ok x → ∀ h', DXx f g0 h0 T n x.1 D g h' → K x.2 g h') : xM C l d YX2_readFreeCell [(2, 45), (0, a)] g h K := by
  have nb8 := o.1.b8
  have nb0 := o.1.b0
  have c8 := o.1.c8
  have c0 := o.1.c0
  unfold celS at hE hO
  refine wX2_readFreeCell (by omega) ?_
  rw [P.g3, P.dR.1.2.1, w_id (by omega) (by omega)]
  refine ⟨isf hf, Y_num hf (by decide) P (fun e he h1 F1 => ⟨fun _ => hE e (by rw [he]; rfl) h1 F1 _, fun z => absurd z F1.ne⟩) (fun x hx h1 P1 a4 => ⟨fun z => absurd P1.b0 z, fun _ => ?_⟩)⟩
  rw [hx, exB_o] at hE hO
  rw [P1.g3, P1.dR.1.2.2.2.2.1]
  refine ⟨isf hf, ?_⟩
  have no : ¬ freeB D.2.1 D.1.nb a x.2 = true → xM C l 0 YX9_fail [(2, 5), (0, 2), (0, h1 5 7)] g h1 (fun r9 g10 h11 => K x.2 g10 h11) := fun nf => x_fail P1.b0 (fun h2 F2 f2 _ => by
    rw [a4] at F2
    rw [if_neg nf] at hE
    exact hE _ rfl h2 (P1.bad hf f2 F2 (by decide)) _)
  have gl : h1 (f + 10 + 1) a = D.2.1 1 a := P1.dR.2.2.2.2.2.2.2.1 a a0 a6
  have wh : findN (fun b => decide (h1 (f + 10 + 2) b = a) && decide (h1 (f + 10 + 3) b = x.2)) D.1.nb.toNat 0 = whoS D.2.1 D.1.nb a x.2 := by
    unfold whoS
    refine findN_congr _ _ (fun i i1 i2 => ?_)
    have := P1.dR.2.2.2.2.2.2.2.2 i i1 (by omega)
    rw [this.1, this.2.1]
  refine wX6_isFree (by decide) ⟨isf10 hf, x_gloss (isf10 hf) a0 a6 ?_⟩
  rw [gl]
  by_cases hg : bitS (D.2.1 1 a) x.2 = 1
  · have e1 : biS (bitS (D.2.1 1 a) x.2 = 1) = 1 := by unfold biS; rw [if_pos hg]
    rw [e1]
    exact ⟨fun _ => ⟨fun z => absurd rfl z, fun _ => no (fun w => (freeB_iff.mp w).1 hg)⟩, fun z => absurd z (by decide)⟩
  · have e1 : biS (bitS (D.2.1 1 a) x.2 = 1) = 0 := by unfold biS; rw [if_neg hg]
    rw [e1]
    refine ⟨fun z => absurd rfl z, fun _ => x_who (isf10 hf) nb8 ?_⟩
    rw [wh]
    refine ⟨fun z => ⟨fun w => absurd rfl w, fun _ => no (fun w => z (freeB_iff.mp w).2)⟩, fun z => ⟨fun _ => ?_, fun w => absurd w (by decide)⟩⟩
    rw [if_pos (freeB_iff.mpr ⟨hg, z⟩)] at hO
    exact hO x rfl h1 P1
theorem Y_gloss {q0 : aQ} (hf : f = 11 ∨ f = 28) (hd : 6 ≤ d) (o : okD D) (hk : tK T q0 ≠ 0) (P : DXx f g0 h0 T n q0 D g h) (hE : ∀ e, gloS T D q0 = .error e → ∀ h', FXx f g0 h0 e g h' → K 0 g h') (hO : ∀ x, gloS T D q0 = .ok x → ∀ h', DXx f g0 h0 T n x.1 x.2 g h' → K 0 g h') : xM C l d YX2_readGloss [(2, 45)] g h K := by
  have l6 := o.1.l6
  have l1 := o.2.1
  unfold gloS at hE hO
  refine wX2_readGloss hd ?_
  rw [P.g3, P.dR.1.2.2.1]
  refine ⟨isf hf, Y_may hf (by decide) P hk (fun g20 h1 P1 => ⟨fun _ => ?_, fun z => absurd z (by decide)⟩) (fun g20 h1 F1 => ⟨fun z => absurd rfl z, fun _ => ?_⟩)⟩
  · rw [if_neg (by omega)] at hE hO
    rw [P1.g3, P1.dR.1.1, w_id (by omega) (by omega)]
    refine ⟨isf hf, Y_num hf (by decide) P1 (fun e he h2 F2 => G_cell hf (by decide) F2 (fun h3 F3 _ => ⟨fun _ => hE e (by rw [he]; rfl) h3 F3, fun z => absurd z F3.ne⟩)) (fun a ha h2 P2 _ => ?_)⟩
    rw [ha, exB_o] at hE hO
    have q1 := (tN_pos P.lx.2.1.2 hk).2
    have na := num_ok q1 ha
    refine Y_cell hf (by decide) o na.2.2.2.1 (by omega) P2 (fun e he h3 F3 _ => ⟨fun _ => hE e (by rw [he]; rfl) h3 F3, fun z => absurd z F3.ne⟩) (fun c hc h3 P3 => ⟨fun z => absurd P3.b0 z, fun _ => ?_⟩)
    rw [hc, exB_o] at hE hO
    rw [P3.g3]
    refine ⟨isf hf, wX6_writeGloss ⟨fun z => absurd z (by omega), fun _ => ⟨isf10 hf, fun z => absurd z (by omega), fun _ => ⟨na.2.2.2.1, by omega, fun h4 e4 => ?_⟩⟩⟩⟩
    rw [P3.g3]
    refine ⟨isf hf, fun h5 e5 => ?_⟩
    have g10 : h4 f 10 = D.2.2 := by rw [e4, up_row (by omega)]; exact P3.dR.1.2.2.1
    have oG := o.2.2.2.2.1
    rw [g10, w_id (by omega) (by omega)] at e5
    have r5 : ∀ x, x ≠ f → x ≠ f + 10 + 1 → h5 x = h3 x := fun x q1 q2 => by rw [e5, up_row q1, e4, up_row q2]
    have c5 : ∀ k, k ≠ 10 → h5 f k = h3 f k := fun k hk => by rw [e5, up_col hk, e4, up_row (by omega)]
    obtain ⟨⟨s1, s2, s3, s4, s5, s6⟩, r2, r3, r4, r5', r6, r7, r8, r9⟩ := P3.dR
    refine hO _ rfl h5 ⟨P3.1, P3.2.1.tr (fun x _ _ _ q4 => r5 x (by omega) (by omega)), P3.lx.to (fun x hx => r5 x (by omega) (by omega)), by rw [r5 5 (by omega) (by omega)]; exact P3.b0, ⟨⟨by rw [c5 8 (by decide)]; exact s1, by rw [c5 9 (by decide)]; exact s2, by rw [e5, up_self], by rw [c5 11 (by decide)]; exact s4, by rw [c5 12 (by decide)]; exact s5, by rw [c5 13 (by decide)]; exact s6⟩, by rw [r5 (f + 4) (by omega) (by omega)]; exact r2, by rw [r5 (f + 5) (by omega) (by omega)]; exact r3, by rw [r5 (f + 1) (by omega) (by omega), r5 (f + 2) (by omega) (by omega), r5 (f + 3) (by omega) (by omega)]; exact r4, fun s t0 t3 => (r5' s t0 t3).to (by rw [r5 (f + 6 + 2) (by omega) (by omega)]) (by rw [r5 (f + 6 + 3) (by omega) (by omega)]) (fun i _ => by rw [r5 (f + 6 + 1) (by omega) (by omega)]) (by rw [r5 (f + 6) (by omega) (by omega)]; exact Int.le_refl _), by rw [r5 (f + 6) (by omega) (by omega)]; exact r6, by rw [r5 (f + 10) (by omega) (by omega)]; exact r7, fun k k0 k1 => ?_, fun b b0 b1 => ?_⟩, by rw [c5 7 (by decide)]; exact P3.2.2.2.2.2.1, by rw [r5 (f + 6) (by omega) (by omega)]; exact P3.2.2.2.2.2.2⟩
    · show h5 (f + 10 + 1) k = mf_up D.2.1 1 a.2 (mf_or (D.2.1 1 a.2) (mf_shl 1 c.2)) 1 k
      rw [e5, up_row (by omega), e4]
      by_cases z : k = a.2
      · rw [z, up_self, up_self, r8 a.2 na.2.2.2.1 (by omega)]
      · rw [up_col z, up_col z]; exact r8 k k0 k1
    · show h5 (f + 10 + 2) b = mf_up D.2.1 1 a.2 (mf_or (D.2.1 1 a.2) (mf_shl 1 c.2)) 2 b ∧ h5 (f + 10 + 3) b = mf_up D.2.1 1 a.2 (mf_or (D.2.1 1 a.2) (mf_shl 1 c.2)) 3 b ∧ h5 (f + 10 + 4) b = mf_up D.2.1 1 a.2 (mf_or (D.2.1 1 a.2) (mf_shl 1 c.2)) 4 b ∧ h5 (f + 10 + 5) b = mf_up D.2.1 1 a.2 (mf_or (D.2.1 1 a.2) (mf_shl 1 c.2)) 5 b
      rw [r5 (f + 10 + 2) (by omega) (by omega), r5 (f + 10 + 3) (by omega) (by omega), r5 (f + 10 + 4) (by omega) (by omega), r5 (f + 10 + 5) (by omega) (by omega), up_row (by decide), up_row (by decide), up_row (by decide), up_row (by decide)]
      exact r9 b b0 b1
  · rw [if_pos (by omega)] at hE
    exact hE _ rfl h1 F1
theorem Y_worm {q0 : aQ} (hf : f = 11 ∨ f = 28) (hd : 5 ≤ d) (o : okD D) (hk : tK T q0 ≠ 0) (P : DXx f g0 h0 T n q0 D g h) (hE : ∀ e, worS T D q0 = .error e → ∀ h', FXx f g0 h0 e g h' → K 0 g h') (hO : ∀ x, worS T D q0 = .ok x → ∀ h', DXx f g0 h0 T n x.1 x.2 g h' → K 0 g h') : xM C l d YX2_readWorm [(2, 45)] g h K := by
  have l6 := o.1.l6
  have l1 := o.2.1
  have c8 := o.1.c8
  have c0 := o.1.c0
  have w0 := o.1.w0
  have w12 := o.1.w12
  have last : ∀ e, worS T D q0 = .error e → ∀ a b h', FXx f g0 h0 e g h' → BX2_readWorm_73 C l d K a b g h' := fun e he a b h' F => vX2_readWorm_73 (by omega) (by
    rw [F.g3]
    exact ⟨isf hf, G_num (by decide) F (fun h2 F2 => ⟨fun _ => hE e he h2 F2, fun z => absurd z F2.ne⟩)⟩)
  have both : ∀ e, worS T D q0 = .error e → ∀ a b h', FXx f g0 h0 e g h' → (¬ b = a → BX2_readWorm_73 C l d K a b g h') ∧ (b = a → xM C l 0 YX9_fail [(2, 5), (0, 2), (0, h' 5 7)] g h' (fun r13 g14 h15 => BX2_readWorm_73 C l d K a b g14 h15)) := fun e he a b h' F => ⟨fun _ => last e he a b h' F, fun _ => x_failB F.ne (last e he a b h' F)⟩
  unfold worS at hE hO last both
  refine wX2_readWorm (by omega) ?_
  rw [P.g3, P.dR.1.2.2.2.1]
  refine ⟨isf hf, Y_may hf (by decide) P hk (fun g20 h1 P1 => ⟨fun _ => ?_, fun z => absurd z (by decide)⟩) (fun g20 h1 F1 => ⟨fun z => absurd rfl z, fun _ => ?_⟩)⟩
  · rw [if_neg (by omega)] at hE hO last both
    have q1 := (tN_pos P.lx.2.1.2 hk).2
    rw [P1.g3, P1.dR.1.1, w_id (by omega) (by omega)]
    refine ⟨isf hf, Y_num hf (by decide) P1 (fun e he h2 F2 => ?_) (fun a ha h2 P2 _ => ?_)⟩
    · rw [F2.g3]
      exact ⟨isf hf, G_num (by decide) F2 (fun h3 F3 => both e (by rw [he]; rfl) _ _ h3 F3)⟩
    rw [ha, exB_o] at hE hO last both
    have na := num_ok q1 ha
    rw [P2.g3, P2.dR.1.1, w_id (by omega) (by omega)]
    refine ⟨isf hf, Y_num hf (by decide) P2 (fun e he h3 F3 => both e (by rw [he]; rfl) _ _ h3 F3) (fun b hb h3 P3 a4 => ?_)⟩
    rw [hb, exB_o] at hE hO last both
    have nb := num_ok na.2.2.1 hb
    refine ⟨fun ne => ?_, fun eq => x_fail P3.b0 (fun h4 F4 f4 _ => ?_)⟩
    · rw [if_neg (fun z => ne z.symm)] at hE hO last both
      refine vX2_readWorm_73 (by omega) ?_
      rw [P3.g3, P3.dR.1.2.1, w_id (by omega) (by omega)]
      refine ⟨isf hf, Y_num hf (by decide) P3 (fun e he h4 F4 => ⟨fun _ => hE e (by rw [he]; rfl) h4 F4, fun z => absurd z F4.ne⟩) (fun c hc h4 P4 _ => ⟨fun z => absurd P4.b0 z, fun _ => ?_⟩)⟩
      rw [hc, exB_o] at hE hO
      rw [P4.g3]
      have g11 : h4 f 11 = D.1.nw := P4.dR.1.2.2.2.1
      refine ⟨isf hf, wX1_addWorm ?_⟩
      rw [g11]
      refine ⟨isf hf, fun z => absurd z (by omega), fun _ => ⟨w0, by omega, fun h5 e5 => ?_⟩⟩
      have k5 : h5 f 11 = D.1.nw := by rw [e5, up_row (by omega)]; exact g11
      rw [k5]
      refine ⟨w0, by omega, fun h6 e6 => ?_⟩
      have k6 : h6 f 11 = D.1.nw := by rw [e6, up_row (by omega)]; exact k5
      rw [k6]
      refine ⟨w0, by omega, fun h7 e7 h8 e8 => ?_⟩
      have k7 : h7 f 11 = D.1.nw := by rw [e7, up_row (by omega)]; exact k6
      rw [k7, w_id (by omega) (by omega)] at e8
      have r8 : ∀ x, x ≠ f → x ≠ f + 1 → x ≠ f + 2 → x ≠ f + 3 → h8 x = h4 x := fun x q1 q2 q3 q4 => by rw [e8, up_row q1, e7, up_row q4, e6, up_row q3, e5, up_row q2]
      have cc : ∀ k, k ≠ 11 → h8 f k = h4 f k := fun k hk => by rw [e8, up_col hk, e7, up_row (by omega), e6, up_row (by omega), e5, up_row (by omega)]
      obtain ⟨⟨s1, s2, s3, s4, s5, s6⟩, r2, r3, r4, r5', r6, r7, r8', r9⟩ := P4.dR
      refine hO _ rfl h8 ⟨P4.1, P4.2.1.tr (fun x _ _ _ q4 => r8 x (by omega) (by omega) (by omega) (by omega)), P4.lx.to (fun x hx => r8 x (by omega) (by omega) (by omega) (by omega)), by rw [r8 5 (by omega) (by omega) (by omega) (by omega)]; exact P4.b0, ⟨⟨by rw [cc 8 (by decide)]; exact s1, by rw [cc 9 (by decide)]; exact s2, by rw [cc 10 (by decide)]; exact s3, by rw [e8, up_self]; rfl, by rw [cc 12 (by decide)]; exact s5, by rw [cc 13 (by decide)]; exact s6⟩, by rw [r8 (f + 4) (by omega) (by omega) (by omega) (by omega)]; exact r2, by rw [r8 (f + 5) (by omega) (by omega) (by omega) (by omega)]; exact r3, fun w t0 t1 => ?_, fun s t0 t3 => (r5' s t0 t3).to (by rw [r8 (f + 6 + 2) (by omega) (by omega) (by omega) (by omega)]) (by rw [r8 (f + 6 + 3) (by omega) (by omega) (by omega) (by omega)]) (fun i _ => by rw [r8 (f + 6 + 1) (by omega) (by omega) (by omega) (by omega)]) (by rw [r8 (f + 6) (by omega) (by omega) (by omega) (by omega)]; exact Int.le_refl _), by rw [r8 (f + 6) (by omega) (by omega) (by omega) (by omega)]; exact r6, by rw [r8 (f + 10) (by omega) (by omega) (by omega) (by omega)]; exact r7, by rw [r8 (f + 10 + 1) (by omega) (by omega) (by omega) (by omega)]; exact r8', by rw [r8 (f + 10 + 2) (by omega) (by omega) (by omega) (by omega), r8 (f + 10 + 3) (by omega) (by omega) (by omega) (by omega), r8 (f + 10 + 4) (by omega) (by omega) (by omega) (by omega), r8 (f + 10 + 5) (by omega) (by omega) (by omega) (by omega)]; exact r9⟩, by rw [cc 7 (by decide)]; exact P4.2.2.2.2.2.1, by rw [r8 (f + 6) (by omega) (by omega) (by omega) (by omega)]; exact P4.2.2.2.2.2.2⟩
      have wm : ∀ i, (addW D.1 a.2 b.2 c.2).wm i = if i = 3 * D.1.nw then a.2 else if i = 3 * D.1.nw + 1 then b.2 else if i = 3 * D.1.nw + 2 then c.2 else D.1.wm i := fun i => rfl
      have t1' : w < D.1.nw + 1 := t1
      show h8 (f + 1) w = (addW D.1 a.2 b.2 c.2).wm (3 * w) ∧ h8 (f + 2) w = (addW D.1 a.2 b.2 c.2).wm (3 * w + 1) ∧ h8 (f + 3) w = (addW D.1 a.2 b.2 c.2).wm (3 * w + 2)
      rw [wm, wm, wm]
      have m1 : h8 (f + 1) = h5 (f + 1) := by rw [e8, up_row (by omega), e7, up_row (by omega), e6, up_row (by omega)]
      have m2 : h8 (f + 2) = h6 (f + 2) := by rw [e8, up_row (by omega), e7, up_row (by omega)]
      have m3 : h8 (f + 3) = h7 (f + 3) := by rw [e8, up_row (by omega)]
      rw [m1, m2, m3]
      by_cases z : w = D.1.nw
      · rw [z, if_pos rfl, if_neg (by omega), if_pos rfl, if_neg (by omega), if_neg (by omega), if_pos rfl, e5, up_self, e6, up_self, e7, up_self]
        exact ⟨rfl, rfl, rfl⟩
      · rw [if_neg (by omega), if_neg (by omega), if_neg (by omega), if_neg (by omega), if_neg (by omega), if_neg (by omega), if_neg (by omega), if_neg (by omega), if_neg (by omega), e5, up_col z, e6, up_col z, e7, up_col z, e6, up_row (by omega), e5, up_row (by omega), up_row (by omega)]
        exact r4 w t0 (by omega)
    · rw [if_pos eq.symm] at last
      rw [a4] at F4
      exact last _ rfl _ _ h4 (P3.bad hf f4 F4 (by decide))
  · rw [if_pos (by omega)] at hE
    exact hE _ rfl h1 F1
end FoX
