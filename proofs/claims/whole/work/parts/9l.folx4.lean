/-! a folio told in the class: the whole call -/
theorem okS.fol {S : aS} {D : aW} (ro : okS S) (o : okD D) : okS (S.fol D) := ⟨o.1, o.2.2.1, by show (0 : Int) ≤ 0; decide, by show (0 : Int) ≤ 1600; decide, ro.tp, by show ([] : List (mf_M × List (Int × Int × Int))).length ≤ 20; simp, fun q hq => absurd hq (by show ¬ q ∈ []; simp), ro.nx0, ro.nx1, by show ([] : List (Int × Int)).length ≤ 16; simp, fun q hq => absurd hq (by show ¬ q ∈ []; simp), ro.sd0, ro.sd1, ro.oc⟩
section FoX4
variable {C : mf_G} {l : Launch} {d : Nat} {K : mf_Kt} {f : Int} {g0 h0 g h h' : mf_M} {T : aT} {n : Int} {q : aQ} {D : aW} {e : Int × Int}
theorem DXx.up7 {v : Int} (hf : f = 11 ∨ f = 28) (P : DXx f g0 h0 T n q D g h) (e1 : h' = mf_up h f 7 v) : DXx f g0 h0 T v q D g h' := by
  have r : ∀ a, a ≠ f → h' a = h a := fun a ha => by rw [e1, up_row ha]
  have c : ∀ k, k ≠ 7 → h' f k = h f k := fun k k1 => by rw [e1, up_col k1]
  obtain ⟨⟨s1, s2, s3, s4, s5, s6⟩, r2, r3, r4, r5, r6, r7, r8, r9⟩ := P.dR
  exact ⟨P.1, P.2.1.tr (fun x _ _ _ q4 => r x (by omega)), P.lx.to (fun x hx => r x (by omega)), by rw [r 5 (by omega)]; exact P.b0, ⟨⟨by rw [c 8 (by decide)]; exact s1, by rw [c 9 (by decide)]; exact s2, by rw [c 10 (by decide)]; exact s3, by rw [c 11 (by decide)]; exact s4, by rw [c 12 (by decide)]; exact s5, by rw [c 13 (by decide)]; exact s6⟩, by rw [r (f + 4) (by omega)]; exact r2, by rw [r (f + 5) (by omega)]; exact r3, by rw [r (f + 1) (by omega), r (f + 2) (by omega), r (f + 3) (by omega)]; exact r4, fun s t0 t3 => (r5 s t0 t3).to (by rw [r (f + 6 + 2) (by omega)]) (by rw [r (f + 6 + 3) (by omega)]) (fun i _ => by rw [r (f + 6 + 1) (by omega)]) (by rw [r (f + 6) (by omega)]; exact Int.le_refl _), by rw [r (f + 6) (by omega)]; exact r6, by rw [r (f + 10) (by omega)]; exact r7, by rw [r (f + 10 + 1) (by omega)]; exact r8, by rw [r (f + 10 + 2) (by omega), r (f + 10 + 3) (by omega), r (f + 10 + 4) (by omega), r (f + 10 + 5) (by omega)]; exact r9⟩, by rw [e1, up_self], by rw [r (f + 6) (by omega)]; exact P.2.2.2.2.2.2⟩
theorem R_bad (hf : f = 11 ∨ f = 28) (hd : 127 ≤ d) {k : Int} (F : FXx f g0 h0 e g h) (hE : ∀ g' h', FXx f g0 h0 e g' h' → K 0 g' h') : BX2_read_21 C l d K k g h :=
  vX2_read_21 hd ⟨fun _ => ⟨by rw [F.g3]; exact isf hf, fun _ => hE g h F, fun _ => x_failB F.ne (hE g h F)⟩, fun _ => ⟨fun _ => ⟨by rw [F.g3]; exact isf hf, fun _ => hE g h F, fun _ => x_failB F.ne (hE g h F)⟩, fun z => absurd z F.ne⟩⟩
theorem G_semi (hf : f = 11 ∨ f = 28) (hd : 127 ≤ d) {k : Int} (F : FXx f g0 h0 e g h) (hE : ∀ g' h', FXx f g0 h0 e g' h' → K 0 g' h') : mf_is 319 (g 45 3) 1 ∧ xM C l 0 YX4_finish [(2, g 45 3 + 6)] g h (fun r13 g14 h15 => xM C l 3 YX9_passSign [(2, 5), (0, 59)] g14 h15 (fun r16 g17 h18 => mf_is 319 (g17 45 3) 1 ∧ (∀ h20 : mf_M, h20 = mf_up h18 (g17 45 3) 7 (mf_w32 ((h18 (g17 45 3) 7) + 1)) → (∀ v21 : Int, v21 = mf_w32 (k + 1) → BX2_read_21 C l d K v21 g17 h20)))) := by
  rw [F.g3]
  refine ⟨isf hf, F.fin hf (fun h1 F1 => X_passB (by decide) F1.ne ?_)⟩
  rw [F1.g3]
  exact ⟨isf hf, fun h2 e2 v _ => R_bad hf hd (F1.to (fun a _ _ _ q4 => by rw [e2, up_row (by omega)]) (by rw [e2, up_row (by omega)])) hE⟩
theorem Y_semi (hf : f = 11 ∨ f = 28) (hd : 127 ≤ d) {k : Int} {x : aQ × aW} (k0 : 0 ≤ k) (k8 : k ≤ 80) (I : FINx C l f g0 h0 T k x g h) (hY : sgB T x.1 59 = true → ∀ h', DXx f g0 h0 T (k + 1) (tN T x.1) x.2 g h' → BX2_read_21 C l d K (k + 1) g h') (hE : sgB T x.1 59 = false → ∀ g' h', FXx f g0 h0 (1, tA T x.1) g' h' → K 0 g' h') : mf_is 319 (g 45 3) 1 ∧ xM C l 0 YX4_finish [(2, g 45 3 + 6)] g h (fun r13 g14 h15 => xM C l 3 YX9_passSign [(2, 5), (0, 59)] g14 h15 (fun r16 g17 h18 => mf_is 319 (g17 45 3) 1 ∧ (∀ h20 : mf_M, h20 = mf_up h18 (g17 45 3) 7 (mf_w32 ((h18 (g17 45 3) 7) + 1)) → (∀ v21 : Int, v21 = mf_w32 (k + 1) → BX2_read_21 C l d K v21 g17 h20)))) := by
  rw [I.1]
  refine ⟨isf hf, I.2 _ (fun h1 P1 => X_passSign (by decide) P1.lx P1.b0 (fun s h2 X2 b2 f2 => ?_) (fun s h2 F2 f2 => ?_))⟩
  · have P2 := P1.lex hf f2.1 X2 b2
    rw [P2.g3, P2.2.2.2.2.2.1, w_id (by omega) (by omega)]
    refine ⟨isf hf, fun h3 e3 v ev => ?_⟩
    rw [ev]
    exact hY s h3 (P2.up7 hf e3)
  · have F := P1.bad hf f2 F2 (by decide)
    rw [F.g3]
    exact ⟨isf hf, fun h3 e3 v _ => R_bad hf hd (F.to (fun a _ _ _ q4 => by rw [e3, up_row (by omega)]) (by rw [e3, up_row (by omega)])) (hE s)⟩
theorem R_lop (hf : f = 11 ∨ f = 28) (hd : 127 ≤ d) (t2 : T.2 ≤ 1600) {r : Except (Int × Int) (aW × Int)} (hE : ∀ e, r = .error e → ∀ g' h', FXx f g0 h0 e g' h' → K 0 g' h') (hO : ∀ x, r = .ok x → ∀ (q : aQ) (g' h' : mf_M), DXx f g0 h0 T x.2 q x.1 g' h' → K 0 g' h') : ∀ (m : Nat) (k : Int) (q : aQ) (D : aW) (g h : mf_M), k + m = 80 → 1 ≤ k → okD D → dlen D.1 ≤ q.1 → DXx f g0 h0 T k q D g h → lopS T m k q D = r → BX2_read_21 C l d K k g h := by
  intro m
  induction m with
  | zero =>
    intro k q D g h km k1 o dl P hr
    unfold lopS at hr
    have ek := P.lx.2.2.1
    refine vX2_read_21 hd ⟨fun z => absurd z (by omega), fun _ => ⟨fun z => absurd P.b0 z, fun _ => ⟨fun z => ⟨fun y => absurd (by omega) y, fun _ => ?_⟩, fun z => ?_⟩⟩⟩
    · rw [if_neg (by rw [← ek]; exact z)] at hr
      rw [P.lx.2.2.2.1]
      exact x_fail P.b0 (fun h1 F1 f1 _ v _ => R_bad hf hd (P.bad hf f1 F1 (by decide)) (hE _ hr.symm))
    · rw [if_pos (by rw [← ek]; exact z)] at hr
      rw [P.g3, P.2.2.2.2.2.1]
      exact ⟨isf hf, fun _ => hO _ hr.symm q g h P, fun y => absurd y (by omega)⟩
  | succ m ih =>
    intro k q D g h km k1 o dl P hr
    unfold lopS at hr
    have ek := P.lx.2.2.1
    refine vX2_read_21 hd ⟨fun z => absurd z (by omega), fun _ => ⟨fun z => absurd P.b0 z, fun _ => ⟨fun z => ⟨fun y => ?_, fun y => absurd y (by omega)⟩, fun z => ?_⟩⟩⟩
    · rw [if_neg (by rw [← ek]; exact z)] at hr
      refine Y_stm hf (by decide) (by omega) o t2 dl P (fun e he g1 h1 F1 => G_semi hf hd F1 (hE e (by rw [← hr]; unfold semS; rw [he]; rfl))) (fun x hx g1 h1 I1 => Y_semi hf hd (by omega) (by omega) I1 (fun s h2 P2 => ?_) (fun s => hE _ (by rw [← hr]; unfold semS; rw [hx, exB_o, if_neg (by rw [s]; decide)]; rfl)))
      have oz := okD_stm o P.lx.2.1.2 hx
      have kz : tK T x.1 ≠ 0 := fun w => by
        unfold sgB at s
        rw [w] at s
        exact absurd s (by simp)
      have tz := tN_pos oz.2.2.1 kz
      refine ih (k + 1) (tN T x.1) x.2 g1 h2 (by omega) (by omega) oz.1 (by omega) P2 ?_
      rw [← hr]
      unfold semS
      rw [hx, exB_o, if_pos s]
      rfl
    · rw [if_pos (by rw [← ek]; exact z)] at hr
      rw [P.g3, P.2.2.2.2.2.1]
      exact ⟨isf hf, fun _ => hO _ hr.symm q g h P, fun y => absurd y (by omega)⟩
theorem x_forget6 {a : Int} (ia : mf_is 319 a 6) (hK : ∀ h', (∀ x, x ≠ a → x ≠ a + 1 → h' x = h x) → h' a 7 = 0 → h' a 6 = 0 → (∀ k, 0 ≤ k → k < 6 → h' (a + 1) k = 0) → K 0 g h') : xM C l d YX6_forget [(2, a)] g h K := by
  refine wX6_forget ⟨ia, fun h2 e2 h3 e3 => ?_⟩
  refine loop1 (N := 6) (r := a + 1) (o := 0) (w := fun _ => 0) (B := fun k h => BX6_forget_12 C l d K a k g h) (E := fun h => K 0 g h) (by decide) (fun k h' k0 k2 f c e go => vX6_forget_12 ⟨ia, fun z => e (by omega), fun z => ⟨k0, by omega, fun h4 e4 v5 e5 => ?_⟩⟩) (fun h4 r4 c4 => ?_)
  · rw [w_id (by omega) (by omega)] at e5
    have g := go (by omega) 0 rfl
    rw [Int.zero_add] at g
    rw [e4, e5]
    exact g
  · refine hK h4 (fun x q1 q2 => by rw [r4 x q2, e3, up_row q1, e2, up_row q1]) (by rw [r4 a (by omega), e3, up_col (by decide), e2, up_self]) (by rw [r4 a (by omega), e3, up_self]) (fun k k0 k1 => ?_)
    have := c4.2 k k0 k1
    rw [Int.zero_add] at this
    exact this
theorem x_forget1 (hf : f = 11 ∨ f = 28) (hd : 1 ≤ d) (hK : ∀ h', (∀ x, ¬ (f ≤ x ∧ x ≤ f + 16) → h' x = h x) → (∀ k, 7 ≤ k → k ≤ 13 → h' f k = 0) → (h' (f + 6) 3 = 0 ∧ h' (f + 6) 4 = -1) → (∀ j, 0 ≤ j → j < 4 → h' (f + 6 + 2) j = 0 ∧ h' (f + 6 + 3) j = 0) → (h' (f + 10) 7 = 0 ∧ h' (f + 10) 6 = 0) → (∀ k, 0 ≤ k → k < 6 → h' (f + 10 + 1) k = 0) → K 0 g h') : xM C l d YX1_forget [(2, f)] g h K := by
  refine wX1_forget hd ⟨isf hf, fun h2 e2 h3 e3 h4 e4 h5 e5 h6 e6 h7 e7 h8 e8 => X_forgetS (scf hf) (fun h9 r9 a3 a4 z9 => x_forget6 (isf10 hf) (fun h10 r10 b7 b6 z10 => ?_))⟩
  have r8 : ∀ x, x ≠ f → h8 x = h x := fun x q => by rw [e8, up_row q, e7, up_row q, e6, up_row q, e5, up_row q, e4, up_row q, e3, up_row q, e2, up_row q]
  have z8 : ∀ k, 7 ≤ k → k ≤ 13 → h8 f k = 0 := by
    intro k k0 k1
    have ks : k = 7 ∨ k = 8 ∨ k = 9 ∨ k = 10 ∨ k = 11 ∨ k = 12 ∨ k = 13 := by omega
    rw [e8, e7, e6, e5, e4, e3, e2]
    rw [up_if, up_if, up_if, up_if, up_if, up_if, up_if]
    rcases ks with rfl | rfl | rfl | rfl | rfl | rfl | rfl <;> simp
  refine hK h10 (fun x hx => by rw [r10 x (by omega) (by omega), r9 x (by omega) (by omega) (by omega), r8 x (by omega)]) (fun k k0 k1 => by rw [r10 f (by omega) (by omega), r9 f (by omega) (by omega) (by omega)]; exact z8 k k0 k1) ⟨by rw [r10 _ (by omega) (by omega)]; exact a3, by rw [r10 _ (by omega) (by omega)]; exact a4⟩ (fun j j0 j1 => by rw [r10 _ (by omega) (by omega), r10 _ (by omega) (by omega)]; exact z9 j j0 j1) ⟨b7, b6⟩ z10
theorem X_read (hf : f = 11 ∨ f = 28) (hd : 127 ≤ d) (X : txX T h) (hE : ∀ e, folS T = .error e → ∀ g' h', FXx f g h e g' h' → K 0 g' h') (hO : ∀ x, folS T = .ok x → ∀ (q : aQ) (g' h' : mf_M), DXx f g h T x.2 q x.1 g' h' → K 0 g' h') : xM C l d YX2_read [(2, 45), (2, f)] g h K := by
  have t2 : T.2 ≤ 1600 := X.1.2
  have t0 : 0 ≤ T.2 := X.1.1
  refine wX2_read (by omega) (fun g1 eg => ?_)
  have g3 : g1 45 3 = f := by rw [eg, up_self]
  rw [g3]
  refine ⟨isf hf, x_forget1 hf (by decide) (fun h1 r1 z1 a1 b1 c1 d1 => X_start (by decide) ⟨X.1, X.2.1, by rw [r1 3 (by omega)]; exact X.2.2.1, by rw [r1 4 (by omega)]; exact X.2.2.2.1, X.2.2.2.2.keep (r1 2 (by omega))⟩ (fun h2 X2 b2 _ f2 => ?_))⟩
  have P : DXx f g h T 0 (0, false) (D0 0 0) g1 h2 := by
    refine ⟨⟨g3, fun a _ q2 => by rw [eg, up_row q2]⟩, fun a q1 _ _ q4 => by rw [f2 a q1, r1 a q4], X2, b2, ⟨⟨?_, ?_, ?_, ?_, ?_, ?_⟩, fun b b0 b1 => absurd b1 (by show ¬ b < 0; omega), fun b b0 b1 => absurd b1 (by show ¬ b < 0; omega), fun w w0 w1 => absurd w1 (by show ¬ w < 0; omega), fun s s0 s3 => Or.inl ⟨?_, ?_⟩, ?_, ?_, fun k k0 k1 => ?_, fun b b0 b1 => absurd b1 (by show ¬ b < 0; omega)⟩, ?_, ?_⟩
    · rw [f2 f (by omega)]; exact z1 8 (by decide) (by decide)
    · rw [f2 f (by omega)]; exact z1 9 (by decide) (by decide)
    · rw [f2 f (by omega)]; exact z1 10 (by decide) (by decide)
    · rw [f2 f (by omega)]; exact z1 11 (by decide) (by decide)
    · rw [f2 f (by omega)]; exact z1 12 (by decide) (by decide)
    · rw [f2 f (by omega)]; exact z1 13 (by decide) (by decide)
    · unfold gtC
      split
      · rfl
      · split
        · rfl
        · split <;> rfl
    · rw [f2 _ (by omega), f2 _ (by omega), (b1 s s0 (by omega)).1, (b1 s s0 (by omega)).2]; exact Int.le_refl _
    · rw [f2 _ (by omega)]; exact a1.1
    · rw [f2 _ (by omega)]; exact c1
    · rw [f2 _ (by omega)]; exact d1 k k0 k1
    · rw [f2 f (by omega)]; exact z1 7 (by decide) (by decide)
    · rw [f2 _ (by omega)]; exact a1.2
  have fe : ∀ e, szS T = .error e → folS T = .error e := fun e he => by unfold folS semS; rw [he]; rfl
  have ek := P.lx.2.2.1
  refine vX2_read_21 hd ⟨fun z => absurd z (by decide), fun _ => ⟨fun z => absurd P.b0 z, fun _ => ⟨fun z => ⟨fun _ => ?_, fun y => absurd y (by decide)⟩, fun z => ?_⟩⟩⟩
  · refine Y_stm0 hf (by decide) P (fun e he g2 h3 F3 => G_semi hf hd F3 (hE e (fe e he))) (fun x hx g2 h3 I3 => Y_semi hf hd (by decide) (by decide) I3 (fun s h4 P4 => ?_) (fun s => hE _ ?_))
    · have sm : semS T (szS T) = .ok (tN T x.1, x.2) := by
        unfold semS
        rw [hx, exB_o]
        simp only [] at s
        rw [if_pos s]
      have sz := sz_ok t0 sm
      refine R_lop hf hd t2 hE hO 79 1 (tN T x.1) (D0 x.2.1 x.2.2) g2 h4 (by decide) (by decide) (okD_D0 sz.1.1 sz.1.2 sz.2.1.1 sz.2.1.2) (by show (0 : Int) ≤ (tN T x.1).1; exact sz.2.2.1) P4 ?_
      unfold folS
      rw [sm, exB_o]
    · unfold folS semS
      rw [hx, exB_o]
      simp only [] at s
      rw [if_neg (by rw [s]; decide)]
      rfl
  · have nx : ¬ tX T (0, false) = 16 := fun y => tX_ne (T := T) (q := (0, false)) (by omega) (by rw [← ek]; exact z)
    rw [P.g3, P.2.2.2.2.2.1, P.lx.2.2.2.1]
    exact ⟨isf hf, fun y => absurd rfl y, fun _ => x_fail P.b0 (fun h3 F3 f3 _ => hE _ (fe _ (by unfold szS wrdS; rw [if_neg nx]; rfl)) g1 h3 (P.bad hf f3 F3 (by decide)))⟩
theorem X_folio {S : aS} (hd : 128 ≤ d) (R : RX S g h) (hK : ∀ g' h', RX (folioS S).2 g' h' → frH h h' → (∀ a, a ≠ 0 → a ≠ 10 → a ≠ 45 → g' a = g a) → K (folioS S).1 g' h') : xM C l d YX11_folio [(2, 0)] g h K := by
  have o := R.ok
  have cf := R.cf
  have hf : g 0 13 = 11 ∨ g 0 13 = 28 := by omega
  have X : txX (S.tp, S.tn) h := ⟨⟨o.tn0, o.tn1⟩, o.tp, R.tn, R.tp, R.wd⟩
  unfold folioS at hK
  refine wX11_folio hd (X_read hf (by decide) X (fun e he g2 h3 F => ?_) (fun x hx q g2 h3 P => ?_))
  · rw [he] at hK
    simp only [] at hK
    have g0 : g2 0 = g 0 := F.1.2 0 (by decide) (by decide)
    refine X_takeFault (e := e) ⟨F.2.2.1.1, fun _ => F.2.2.1.2, fun z => absurd (F.2.2.1.1.trans z) F.ne⟩ (fun h6 r6 c6 a17 a18 a3 => ⟨fun z => absurd (F.2.2.1.1.trans (a17.symm.trans z)) F.ne, fun _ h7 e7 => ?_⟩)
    have r : ∀ a, a ≠ 0 → a ≠ 3 → a ≠ 5 → a ≠ 10 → a ≠ 45 → ¬ (g 0 13 ≤ a ∧ a ≤ g 0 13 + 16) → h6 a = h a := fun a q1 q2 q3 q4 q5 q6 => by rw [r6 a q1 q2]; exact F.2.1 a q3 q4 q5 q6
    have c0 : ∀ k, k ≠ 17 → k ≠ 18 → h6 0 k = h 0 k := fun k k1 k2 => by rw [c6 k k1 k2, F.2.1 0 (by decide) (by decide) (by decide) (by omega)]
    have R6 : RX (S.flt e) g2 h6 := by
      refine ⟨o.flt e, by rw [g0]; exact cf, a3, fun i i0 i1 => absurd i1 (by show ¬ i < (0 : Int); omega), a17, a18, by rw [r 243 (by decide) (by decide) (by decide) (by decide) (by decide) (by omega)]; exact R.rf, R.wd.keep (r 2 (by decide) (by decide) (by decide) (by decide) (by decide) (by omega)), by rw [g0]; exact R.fo.keep (fun x h1 h2 => r x (by omega) (by omega) (by omega) (by omega) (by omega) (by omega)), R.vik (fun a a1 a2 => r a (by omega) (by omega) (by omega) (by omega) (by omega) (by omega)), R.kp.keep (by rw [r 88 (by decide) (by decide) (by decide) (by decide) (by decide) (by omega)]) (r _ (by decide) (by decide) (by decide) (by decide) (by decide) (by omega)), by rw [r 88 (by decide) (by decide) (by decide) (by decide) (by decide) (by omega)]; exact R.kb, by rw [c0 15 (by decide) (by decide)]; exact R.un, by rw [c0 16 (by decide) (by decide)]; exact R.nx, R.usk (fun a a1 a2 => r a (by omega) (by omega) (by omega) (by omega) (by omega) (by omega)), by rw [r 51 (by decide) (by decide) (by decide) (by decide) (by decide) (by omega)]; exact R.sn, by rw [r 65 (by decide) (by decide) (by decide) (by decide) (by decide) (by omega), r 66 (by decide) (by decide) (by decide) (by decide) (by decide) (by omega)]; exact R.ss, by rw [c0 19 (by decide) (by decide)]; exact R.sd, by rw [c0 14 (by decide) (by decide)]; exact R.oc, by rw [r 244 (by decide) (by decide) (by decide) (by decide) (by decide) (by omega)]; exact R.os, R.trk (fun a a1 a2 => r a (by omega) (by omega) (by omega) (by omega) (by omega) (by omega))⟩
    have R7 := R6.ref (i := 1) (by decide) (by decide)
    rw [← e7] at R7
    exact hK g2 h7 R7 (fun a ha => by rw [e7, up_row (by omega), r a (by omega) (by omega) (by omega) (by omega) (by omega) (by omega)]) (fun a _ a2 a3 => F.1.2 a a2 a3)
  · have hx' := hx
    unfold folS at hx'
    obtain ⟨z, w1, w2⟩ := exB_ok hx'
    have sz := sz_ok (T := (S.tp, S.tn)) o.tn0 w1
    have oD := okD_lop 79 1 z.1 (D0 z.2.1 z.2.2) x (okD_D0 sz.1.1 sz.1.2 sz.2.1.1 sz.2.1.2) sz.2.2.2 (by show (0 : Int) ≤ z.1.1; exact sz.2.2.1) w2
    have t2 : (S.tp, S.tn).2 ≤ 1600 := o.tn1
    rw [hx] at hK
    simp only [] at hK
    have g0 : g2 0 = g 0 := P.1.2 0 (by decide) (by decide)
    refine X_takeFault (e := (0, -1)) ⟨P.b0, fun z => absurd rfl z, fun _ => rfl⟩ (fun h6 r6 c6 a17 a18 a3 => ⟨fun _ g7 e7 g8 e8 => ?_, fun z => absurd a17 z⟩)
    have r : ∀ a, a ≠ 0 → a ≠ 3 → a ≠ 5 → a ≠ 10 → a ≠ 45 → ¬ (g 0 13 ≤ a ∧ a ≤ g 0 13 + 16) → h6 a = h a := fun a q1 q2 q3 q4 q5 q6 => by rw [r6 a q1 q2]; exact P.2.1 a q3 q4 q5 q6
    have c0 : ∀ k, k ≠ 17 → k ≠ 18 → h6 0 k = h 0 k := fun k k1 k2 => by rw [c6 k k1 k2, P.2.1 0 (by decide) (by decide) (by decide) (by omega)]
    have g12 : g8 0 12 = g 0 13 := by rw [e8, up_col (by decide), e7, up_self, g0]
    have g13 : g8 0 13 = g 0 12 := by rw [e8, up_self, g0]
    rw [g12]
    have hb : g 0 13 + 10 + 7 ≤ 88 := by omega
    refine ⟨isf hf, x_copyAll (nb := x.1.1.nb) (by decide) (isf10 hf) is88 (Or.inl hb) oD.1.1.b8 (fun h12 r12 d7 d6 vv kk h13 e13 h14 e14 => ?_)⟩
    rw [g12]
    have r14 : ∀ a, a ≠ 0 → a ≠ 51 → ¬ (88 ≤ a ∧ a ≤ 94) → h14 a = h6 a := fun a q1 q2 q3 => by rw [e14, up_row q1, e13, up_row q2, r12 a (by omega)]
    have c14 : ∀ k, k ≠ 15 → h14 0 k = h6 0 k := fun k hk => by rw [e14, up_col hk, e13, up_row (by decide), r12 0 (by decide)]
    have rd : ∀ a, g 0 13 ≤ a → a ≤ g 0 13 + 16 → h6 a = h3 a := fun a a1 a2 => r6 a (by omega) (by omega)
    have r88 : ∀ a, 88 ≤ a → a ≤ 94 → h14 a = h12 a := fun a a1 a2 => by rw [e14, up_row (by omega), e13, up_row (by omega)]
    obtain ⟨⟨s1, s2, s3, s4, s5, s6⟩, p2, p3, p4, p5, p6, p7, p8, p9⟩ := P.dR
    have dp : h3 (g 0 13 + 6) 3 ≤ 1600 := by rw [p6]; omega
    have e7' : h14 (g 0 13) 7 = x.2 := by rw [r14 _ (by omega) (by omega) (by omega), rd _ (by omega) (by omega)]; exact P.2.2.2.2.2.1
    have rf14 : ∀ a, g 0 13 ≤ a → a ≤ g 0 13 + 16 → h14 a = h3 a := fun a a1 a2 => by rw [r14 a (by omega) (by omega) (by omega), rd a a1 a2]
    have tl : ∀ s, 0 ≤ s → s ≤ 3 → scrX h14 (g 0 13 + 6) s (gtC x.1.1 s) := by
      intro s s0 s3
      have t := p5 s s0 s3
      unfold scrX
      rw [rf14 (g 0 13 + 6 + 1) (by omega) (by omega), rf14 (g 0 13 + 6 + 2) (by omega) (by omega), rf14 (g 0 13 + 6 + 3) (by omega) (by omega)]
      rcases t with y | ⟨y, b0, b1, b2, b3⟩
      · exact Or.inl y
      · exact Or.inr ⟨y, b0, b1, by omega, b3⟩
    have fo : folX x.1.1 (g 0 13) h14 := by
      refine ⟨?_, ?_, ?_, ?_, ?_, ?_, ?_, ?_, tl 0 (by decide) (by decide), tl 1 (by decide) (by decide), tl 2 (by decide) (by decide), tl 3 (by decide) (by decide)⟩
      · rw [rf14 _ (by omega) (by omega)]; exact s1
      · rw [rf14 _ (by omega) (by omega)]; exact s2
      · rw [rf14 _ (by omega) (by omega)]; exact s4
      · rw [rf14 _ (by omega) (by omega)]; exact s5
      · rw [rf14 _ (by omega) (by omega)]; exact s6
      · rw [rf14 (g 0 13 + 4) (by omega) (by omega)]; exact p2
      · rw [rf14 (g 0 13 + 5) (by omega) (by omega)]; exact p3
      · rw [rf14 (g 0 13 + 1) (by omega) (by omega), rf14 (g 0 13 + 2) (by omega) (by omega), rf14 (g 0 13 + 3) (by omega) (by omega)]; exact p4
    have v3 : vX h6 (g 0 13 + 10) x.1.1.nb = x.1.2.1 := by
      funext j k
      show (if j = 0 then (if k = 0 then h6 (g 0 13 + 10) 7 else 0) else if j = 1 then (if 0 ≤ k ∧ k < 6 then h6 (g 0 13 + 10 + 1) k else 0) else if 2 ≤ j ∧ j ≤ 5 ∧ 0 ≤ k ∧ k < x.1.1.nb then h6 (g 0 13 + 10 + j) k else 0) = x.1.2.1 j k
      have can := oD.1.2.2.2.1 j k
      by_cases j0 : j = 0
      · rw [if_pos j0]
        by_cases k0 : k = 0
        · rw [if_pos k0, rd _ (by omega) (by omega), p7.1, j0, k0]; exact oD.1.2.2.2.2.2.symm
        · rw [if_neg k0]
          rcases can with y | y | y | y
          · exact absurd y.2 k0
          · exact absurd y.1 (by omega)
          · exact absurd y.1 (by omega)
          · exact y.symm
      · rw [if_neg j0]
        by_cases j1 : j = 1
        · rw [if_pos j1]
          by_cases k0 : 0 ≤ k ∧ k < 6
          · rw [if_pos k0, rd _ (by omega) (by omega), p8 k k0.1 k0.2, j1]
          · rw [if_neg k0]
            rcases can with y | y | y | y
            · exact absurd y.1 j0
            · exact absurd y.2 k0
            · exact absurd y.1 (by omega)
            · exact y.symm
        · rw [if_neg j1]
          by_cases k0 : 2 ≤ j ∧ j ≤ 5 ∧ 0 ≤ k ∧ k < x.1.1.nb
          · rw [if_pos k0]
            obtain ⟨q1, q2, q3, q4⟩ := k0
            rw [rd _ (by omega) (by omega)]
            have c := p9 k q3 q4
            have js : j = 2 ∨ j = 3 ∨ j = 4 ∨ j = 5 := by omega
            rcases js with rfl | rfl | rfl | rfl
            · exact c.1
            · exact c.2.1
            · exact c.2.2.1
            · exact c.2.2.2
          · rw [if_neg k0]
            rcases can with y | y | y | y
            · exact absurd y.1 j0
            · exact absurd y.1 j1
            · exact absurd y k0
            · exact y.symm
    have k6 : h6 (g 0 13 + 10) 6 = 0 := by rw [rd _ (by omega) (by omega)]; exact p7.2
    have k7 : h6 (g 0 13 + 10) 7 = 0 := by rw [rd _ (by omega) (by omega)]; exact p7.1
    have kp3 : kpX h6 (g 0 13 + 10) [] := ⟨by rw [k6]; exact Int.le_refl _, by rw [k6]; rfl, fun k hk => absurd hk (by show ¬ k < 0; omega)⟩
    have kp14 : kpX h14 88 [] := (kk [] kp3).keep (by rw [r88 88 (by decide) (by decide)]) (r88 _ (by decide) (by decide))
    have v14 : vX h14 88 x.1.1.nb = x.1.2.1 := by
      have : vX h14 88 x.1.1.nb = vX h12 88 x.1.1.nb := by
        unfold vX
        funext j k
        rw [r88 88 (by decide) (by decide), r88 (88 + 1) (by decide) (by decide)]
        by_cases y : 2 ≤ j ∧ j ≤ 5 ∧ 0 ≤ k ∧ k < x.1.1.nb
        · rw [r88 (88 + j) (by omega) (by omega)]
        · rw [if_neg y, if_neg y]
      rw [this, vv, v3]
    have rr : ∀ a, a ≠ 0 → a ≠ 3 → a ≠ 5 → a ≠ 10 → a ≠ 45 → a ≠ 51 → ¬ (88 ≤ a ∧ a ≤ 94) → ¬ (g 0 13 ≤ a ∧ a ≤ g 0 13 + 16) → h14 a = h a := fun a q1 q2 q3 q4 q5 q6 q7 q8 => by rw [r14 a q1 q6 q7, r a q1 q2 q3 q4 q5 q8]
    rw [e7']
    refine ⟨isf hf, hK g8 h14 ⟨o.fol oD.1, by rw [g12, g13]; omega, by rw [r14 3 (by decide) (by decide) (by decide)]; exact a3, fun i i0 i1 => absurd i1 (by show ¬ i < (0 : Int); omega), by rw [c14 17 (by decide)]; exact a17, by rw [c14 18 (by decide)]; exact a18, by rw [rr 243 (by decide) (by decide) (by decide) (by decide) (by decide) (by decide) (by decide) (by omega)]; exact R.rf, R.wd.keep (rr 2 (by decide) (by decide) (by decide) (by decide) (by decide) (by decide) (by decide) (by omega)), by rw [g12]; exact fo, v14, kp14, by rw [r88 88 (by decide) (by decide), d6, d7, k6, k7]; decide, by rw [e14, up_self]; rfl, by rw [c14 16 (by decide), c0 16 (by decide) (by decide)]; exact R.nx, fun j hj => absurd hj (by show ¬ j < 0; omega), by rw [e14, up_row (by decide), e13, up_self]; rfl, fun j hj => absurd hj (by show ¬ j < 0; omega), by rw [c14 19 (by decide), c0 19 (by decide) (by decide)]; exact R.sd, by rw [c14 14 (by decide), c0 14 (by decide) (by decide)]; exact R.oc, by rw [rr 244 (by decide) (by decide) (by decide) (by decide) (by decide) (by decide) (by decide) (by omega)]; exact R.os, R.trk (fun a a1 a2 => rr a (by omega) (by omega) (by omega) (by omega) (by omega) ?_ (by omega) (by omega))⟩ (fun a ha => rr a (by omega) (by omega) (by omega) (by omega) (by omega) (by omega) (by omega) (by omega)) (fun a q1 q2 q3 => by rw [e8, up_row q1, e7, up_row q1]; exact P.1.2 a q2 q3)⟩
    omega
end FoX4
