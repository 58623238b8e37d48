/-! statements of a folio in the class -/
theorem scpN {h : mf_M} {k v : Int} (e : h 10 3 = v) (hk : (k = 0 ∧ v = 1) ∨ (k = 1 ∧ v = 63) ∨ (k = 2 ∧ v = 127)) : scpX (scK k) h := by
  intro w w0 w9
  rw [e]
  have k0 : ∀ n : Fin 10, (mf_and (mf_shr 1 (n.val : Int)) 1 = 0 ↔ scK 0 (n.val : Int) = false) := by decide +kernel
  have k1 : ∀ n : Fin 10, (mf_and (mf_shr 63 (n.val : Int)) 1 = 0 ↔ scK 1 (n.val : Int) = false) := by decide +kernel
  have k2 : ∀ n : Fin 10, (mf_and (mf_shr 127 (n.val : Int)) 1 = 0 ↔ scK 2 (n.val : Int) = false) := by decide +kernel
  have ew : ((w.toNat : Nat) : Int) = w := by omega
  rcases hk with ⟨rfl, rfl⟩ | ⟨rfl, rfl⟩ | ⟨rfl, rfl⟩
  · have h1 := k0 ⟨w.toNat, by omega⟩
    simp only [] at h1
    rw [ew] at h1
    exact h1
  · have h1 := k1 ⟨w.toNat, by omega⟩
    simp only [] at h1
    rw [ew] at h1
    exact h1
  · have h1 := k2 ⟨w.toNat, by omega⟩
    simp only [] at h1
    rw [ew] at h1
    exact h1
theorem tX_long {T : aT} {q : aQ} (h : 0 ≤ tX T q) : tE T q - tA T q ≤ 6 := by
  have r := tX_range T q
  have e := (tX_iff (T := T) (q := q) (k := (tX T q).toNat) (by omega)).mp (by omega)
  have s := (wdX_short ⟨(tX T q).toNat, by omega⟩).1
  have ln : (tL T q).length = (tE T q - tA T q).toNat := lnL_len _ _ _
  simp only [] at s
  rw [← e.2] at s
  omega
def FINx (C : mf_G) (l : Launch) (f : Int) (g0 h0 : mf_M) (T : aT) (n : Int) (x : aQ × aW) (g h : mf_M) : Prop := g 45 3 = f ∧ ∀ (K : mf_Kt), (∀ h', DXx f g0 h0 T n x.1 x.2 g h' → K 0 g h') → xM C l 0 YX4_finish [(2, f + 6)] g h K
section FoX2
variable {C : mf_G} {l : Launch} {d : Nat} {K : mf_Kt} {f : Int} {g0 h0 g h h' : mf_M} {T : aT} {n : Int} {q : aQ} {D : aW} {e : Int × Int}
theorem DXx.fin (hf : f = 11 ∨ f = 28) (P : DXx f g0 h0 T n q D g h) : FINx C l f g0 h0 T n (q, D) g h := by
  have bg : h (f + 6) 4 = -1 := P.2.2.2.2.2.2
  refine ⟨P.g3, fun K' hK => wX4_finish ⟨isf6 hf, fun z h2 e2 => hK h2 ?_, fun z => absurd (by rw [bg]; decide) z⟩⟩
  have r : ∀ a, a ≠ f + 6 → h2 a = h a := fun a ha => by rw [e2, up_row ha]
  exact ⟨P.1, P.2.1.tr (fun a _ _ _ q4 => r a (by omega)), P.lx.to (fun a ha => r a (by omega)), by rw [r 5 (by omega)]; exact P.b0, P.dR.to (fun a _ _ a3 => r a a3) (by rw [e2, up_col (by decide)]), by rw [r f (by omega)]; exact P.2.2.2.2.2.1, by rw [e2, up_self]⟩
theorem FXx.fin (hf : f = 11 ∨ f = 28) (F : FXx f g0 h0 e g h) (hK : ∀ h', FXx f g0 h0 e g h' → K 0 g h') : xM C l d YX4_finish [(2, f + 6)] g h K := by
  have one : ∀ h2 : mf_M, h2 = mf_up h (f + 6) 4 (-1) → K 0 g h2 := fun h2 e2 => hK h2 (F.to (fun a _ _ _ q4 => by rw [e2, up_row (by omega)]) (by rw [e2, up_row (by omega)]))
  exact wX4_finish ⟨isf6 hf, fun z h2 e2 => one h2 e2, fun z => ⟨fun y h3 e3 => one h3 e3, fun y => ⟨by omega, by omega, fun h6 e6 h7 e7 => hK h7 (F.to (fun a _ _ _ q4 => by rw [e7, up_row (by omega), e6, up_row (by omega)]) (by rw [e7, up_row (by omega), e6, up_row (by omega)]))⟩⟩⟩
theorem x_hasName {w : List Int} {v : Int} (hf : f = 11 ∨ f = 28) (o : okD D) (R : dRX D f h) (hv : v = pkP w) (w6 : w.length ≤ 6) (wl : ∀ x ∈ w, 1 ≤ x ∧ x ≤ 26) (h1 : hasN D.1 w D.1.nb.toNat = true → K 1 g h) (hn : ¬ hasN D.1 w D.1.nb.toNat = true → K 0 g h) : xM C l d YX1_hasName [(2, f), (0, v)] g h K := by
  have nb8 := o.1.b8
  have nb0 := o.1.b0
  have e12 : h f 12 = D.1.nb := R.1.2.2.2.2.1
  have loop : ∀ (m k : Nat), (k : Int) + m = D.1.nb → ¬ hasN D.1 w k = true → BX1_hasName_2 C l d K f v k g h := by
    intro m
    induction m with
    | zero =>
      intro k km hk
      exact vX1_hasName_2 ⟨isf hf, fun _ => hn (by rw [show D.1.nb.toNat = k by omega]; exact hk), fun z => absurd (by rw [e12]; omega) z⟩
    | succ m ih =>
      intro k km hk
      have e4 := R.2.1 k (by omega) (by omega)
      have nmk := o.1.nm k (by omega) (by omega)
      refine vX1_hasName_2 ⟨isf hf, fun z => absurd (by rw [e12] at z; omega) (fun y : False => y), fun _ => ⟨fun z => absurd z (by omega), fun _ => ⟨by omega, by omega, fun ne v4 e4' => ?_, fun eq => ?_⟩⟩⟩
      · rw [w_id (by omega) (by omega)] at e4'
        rw [e4']
        have g1 : ¬ hasN D.1 w (k + 1) = true := by
          intro y
          unfold hasN at y
          rcases Bool.or_eq_true _ _ ▸ y with z | z
          · exact hk z
          · have z' : D.1.nm k = w := of_decide_eq_true z
            exact ne (by rw [e4, z', hv])
        have := ih (k + 1) (by omega) g1
        rw [show ((k + 1 : Nat) : Int) = (k : Int) + 1 by omega] at this
        exact this
      · have eq' : D.1.nm k = w := pkP_inj nmk.2.2 wl nmk.2.1 w6 (by rw [← e4, eq, hv])
        have g1 : hasN D.1 w (k + 1) = true := by
          unfold hasN
          rw [show decide (D.1.nm k = w) = true from decide_eq_true eq']
          simp
        exact h1 (hasN_le (k + 1) D.1.nb.toNat (by omega) g1)
  exact wX1_hasName (loop D.1.nb.toNat 0 (by omega) (by simp [hasN]))
theorem Y_name (hf : f = 11 ∨ f = 28) (hd : 3 ≤ d) (o : okD D) (P : DXx f g0 h0 T n q D g h) (hE : ∀ e, namS T D.1 q = .error e → ∀ h', FXx f g0 h0 e g h' → ∀ v, K v g h') (hO : ∀ y, namS T D.1 q = .ok y → ∀ h', DXx f g0 h0 T n y D g h' → K (pkP (tL T q)) g h') : xM C l d YX2_readName [(2, 45)] g h K := by
  have a3 := P.lx.2.2.2.1
  have al := P.lx.2.1
  have ta := tA_le T al.2
  have tg := tA_ge T q
  have tl := P.lx.1.1
  have bad : ∀ (k p v : Int), namS T D.1 q = .error (k, p) → k ≠ 0 → xM C l 0 YX9_fail [(2, 5), (0, k), (0, p)] g h (fun _ g16 h17 => K v g16 h17) := fun k p v he hk => x_fail P.b0 (fun h2 F2 f2 _ => hE _ he h2 (P.bad hf f2 F2 hk) v)
  unfold namS at hE hO bad
  refine wX2_readName hd (fun v1 e1 => ?_)
  subst e1
  rw [a3, P.lx.2.2.1]
  refine ⟨fun k1 => ?_, fun k1 => bad 1 (tA T q) _ (by rw [if_neg (fun z => k1 z.1)]) (by decide)⟩
  have e4 : h 5 4 = tE T q - tA T q := P.lx.2.2.2.2.2.1 (by rw [k1]; decide)
  have e5 : h 5 5 = pkV (tL T q) := P.lx.2.2.2.2.2.2.2.1 k1
  rw [e4]
  refine ⟨fun len => ?_, fun len => ?_⟩
  · have ln : (tL T q).length = (tE T q - tA T q).toNat := lnL_len _ _ _
    have l6 : (tL T q).length ≤ 6 := by omega
    have ev : h 5 5 = pkP (tL T q) := by rw [e5]; unfold pkV; rw [if_pos l6]
    have own : ¬ (0 ≤ tX T q ∧ tX T q < 28) → mf_is 319 (g 45 3) 1 ∧ xM C l 0 YX1_hasName [(2, g 45 3), (0, h 5 5)] g h (fun r5 g6 h7 => ((r5 = 0 → xM C l 2 YX9_step [(2, 5)] g6 h7 (fun r9 g10 h11 => K (h 5 5) g10 h11)) ∧ (¬ r5 = 0 → xM C l 0 YX9_fail [(2, 5), (0, 3), (0, h7 5 3)] g6 h7 (fun r12 g13 h14 => K (h 5 5) g13 h14)))) := by
      intro nw
      rw [if_pos ⟨k1, nw⟩, if_neg (by omega)] at hE hO bad
      rw [P.g3]
      refine ⟨isf hf, x_hasName hf o P.dR ev l6 (tL_range k1) (fun hs => ⟨fun z => absurd z (by decide), fun _ => ?_⟩) (fun hs => ⟨fun _ => X_step (by decide) P.lx (by rw [k1]; decide) (fun h2 X2 f2 => ?_), fun z => absurd rfl z⟩)⟩
      · rw [a3]
        exact bad 3 (tA T q) _ (by rw [if_pos hs]) (by decide)
      · rw [if_neg hs] at hO
        rw [ev]
        exact hO _ rfl h2 (P.lex hf f2.1 X2 (by rw [f2.2.1]; exact P.b0))
    refine wX2_isOwnWord (by decide) (X_find P.lx k1 ⟨fun z => ⟨fun _ => own (by omega), fun y => absurd rfl y⟩, fun z => ⟨fun y => ⟨fun _ => own (by omega), fun w => absurd rfl w⟩, fun y => ⟨fun w => absurd w (by decide), fun _ => ?_⟩⟩⟩)
    rw [a3]
    exact bad 1 (tA T q) _ (by rw [if_neg (fun w => w.2 ⟨by omega, by omega⟩)]) (by decide)
  · have nx : ¬ (0 ≤ tX T q ∧ tX T q < 28) := fun w => len (tX_long w.1)
    rw [w_id (by omega) (by omega)]
    exact bad 1 (tA T q + 6) _ (by rw [if_pos ⟨k1, nx⟩, if_pos (by omega)]) (by decide)
theorem Y_being {q0 : aQ} (hf : f = 11 ∨ f = 28) (hd : 6 ≤ d) (o : okD D) (hk : tK T q0 ≠ 0) (P : DXx f g0 h0 T n q0 D g h) (hE : ∀ e, beiS T D q0 = .error e → ∀ h', FXx f g0 h0 e g h' → K 0 g h') (hO : ∀ x, beiS T D q0 = .ok x → ∀ h', DXx f g0 h0 T n x.1 x.2 g h' → K 0 g h') : xM C l d YX2_readBeing [(2, 45)] g h K := by
  have l6 := o.1.l6
  have l1 := o.2.1
  have nb0 := o.1.b0
  have nb8 := o.1.b8
  unfold beiS at hE hO
  refine wX2_readBeing hd ?_
  rw [P.g3, P.dR.1.2.2.2.2.1]
  refine ⟨isf hf, Y_may hf (by decide) P hk (fun g20 h1 P1 => ⟨fun _ => ?_, fun z => absurd z (by decide)⟩) (fun g20 h1 F1 => ⟨fun z => absurd rfl z, fun _ => ?_⟩)⟩
  · rw [if_neg (by omega)] at hE hO
    have q1 := (tN_pos P.lx.2.1.2 hk).2
    refine Y_name hf (by decide) o P1 (fun e he h2 F2 v => ?_) (fun y1 hy1 h2 P2 => ?_)
    · exact X_passWB (by decide) F2.ne (by
        rw [F2.g3]
        exact ⟨isf hf, G_num (by decide) F2 (fun h3 F3 => X_passWB (by decide) F3.ne (G_cell hf (by decide) F3 (fun h4 F4 _ => X_passWB (by decide) F4.ne (G_num (by decide) F4 (fun h5 F5 => ⟨fun _ => hE e (by rw [he]; rfl) h5 F5, fun z => absurd z F5.ne⟩)))))⟩)
    rw [hy1, exB_o] at hE hO
    have n1 := nam_ok q1 hy1
    refine Y_wrd (k := 21) hf (by decide) (by decide) P2 (fun e he h3 F3 => ?_) (fun y2 hy2 h3 P3 => ?_)
    · replace he : wrdS T y1 21 = .error e := he
      rw [F3.g3]
      exact ⟨isf hf, G_num (by decide) F3 (fun h3 F3 => X_passWB (by decide) F3.ne (G_cell hf (by decide) F3 (fun h4 F4 _ => X_passWB (by decide) F4.ne (G_num (by decide) F4 (fun h5 F5 => ⟨fun _ => hE e (by rw [he]; rfl) h5 F5, fun z => absurd z F5.ne⟩)))))⟩
    replace hy2 : wrdS T y1 21 = .ok y2 := hy2
    rw [hy2, exB_o] at hE hO
    have n2 := wrd_ok (by decide) n1.2.2.1 hy2
    rw [P3.g3, P3.dR.1.1, w_id (by omega) (by omega)]
    refine ⟨isf hf, Y_num hf (by decide) P3 (fun e he h3 F3 => X_passWB (by decide) F3.ne (G_cell hf (by decide) F3 (fun h4 F4 _ => X_passWB (by decide) F4.ne (G_num (by decide) F4 (fun h5 F5 => ⟨fun _ => hE e (by rw [he]; rfl) h5 F5, fun z => absurd z F5.ne⟩))))) (fun a ha h4 P4 _ => ?_)⟩
    rw [ha, exB_o] at hE hO
    have na := num_ok n2.2.2 ha
    refine Y_wrd (k := 22) hf (by decide) (by decide) P4 (fun e he h3 F3 => ?_) (fun y3 hy3 h5 P5 => ?_)
    · replace he : wrdS T a.1 22 = .error e := he
      exact G_cell hf (by decide) F3 (fun h4 F4 _ => X_passWB (by decide) F4.ne (G_num (by decide) F4 (fun h5 F5 => ⟨fun _ => hE e (by rw [he]; rfl) h5 F5, fun z => absurd z F5.ne⟩)))
    replace hy3 : wrdS T a.1 22 = .ok y3 := hy3
    rw [hy3, exB_o] at hE hO
    have n3 := wrd_ok (by decide) na.2.2.1 hy3
    refine Y_cell hf (by decide) o na.2.2.2.1 (by omega) P5 (fun e he h4 F4 _ => X_passWB (by decide) F4.ne (G_num (by decide) F4 (fun h5 F5 => ⟨fun _ => hE e (by rw [he]; rfl) h5 F5, fun z => absurd z F5.ne⟩))) (fun c hc h6 P6 => ?_)
    rw [hc, exB_o] at hE hO
    have nc := cel_ok n3.2.2 hc
    refine Y_wrd (k := 3) hf (by decide) (by decide) P6 (fun e he h3 F3 => ?_) (fun y4 hy4 h7 P7 => ?_)
    · replace he : wrdS T c.1 3 = .error e := he
      exact G_num (by decide) F3 (fun h5 F5 => ⟨fun _ => hE e (by rw [he]; rfl) h5 F5, fun z => absurd z F5.ne⟩)
    replace hy4 : wrdS T c.1 3 = .ok y4 := hy4
    rw [hy4, exB_o] at hE hO
    refine Y_num hf (by decide) P7 (fun e he h5 F5 => ⟨fun _ => hE e (by rw [he]; rfl) h5 F5, fun z => absurd z F5.ne⟩) (fun t ht h8 P8 _ => ⟨fun z => absurd P8.b0 z, fun _ => ?_⟩)
    rw [ht, exB_o] at hE hO
    rw [P8.g3]
    have g12 : h8 f 12 = D.1.nb := P8.dR.1.2.2.2.2.1
    refine ⟨isf hf, wX1_addBeing ?_⟩
    rw [g12]
    refine ⟨isf hf, fun z => absurd z (by omega), fun _ => ⟨nb0, by omega, fun i1 e1 => ?_⟩⟩
    have k1 : i1 f 12 = D.1.nb := by rw [e1, up_row (by omega)]; exact g12
    rw [k1]
    refine ⟨nb0, by omega, fun i2 e2 => ?_⟩
    have k2 : i2 f 12 = D.1.nb := by rw [e2, up_row (by omega)]; exact k1
    rw [k2]
    refine ⟨nb0, by omega, fun i3 e3 => ?_⟩
    have k3 : i3 f 12 = D.1.nb := by rw [e3, up_row (by omega)]; exact k2
    rw [k3]
    refine ⟨nb0, by omega, fun i4 e4 => ?_⟩
    have k4 : i4 f 12 = D.1.nb := by rw [e4, up_row (by omega)]; exact k3
    rw [k4]
    refine ⟨nb0, by omega, fun i5 e5 => ?_⟩
    have k5 : i5 f 12 = D.1.nb := by rw [e5, up_row (by omega)]; exact k4
    rw [k5]
    refine ⟨nb0, by omega, fun i6 e6 i7 e7 => ?_⟩
    have k6 : i6 f 12 = D.1.nb := by rw [e6, up_row (by omega)]; exact k5
    rw [k6, w_id (by omega) (by omega)] at e7
    have r7 : ∀ x, x ≠ f → x ≠ f + 4 → x ≠ f + 5 → x ≠ f + 10 + 2 → x ≠ f + 10 + 3 → x ≠ f + 10 + 4 → x ≠ f + 10 + 5 → i7 x = h8 x := fun x q1 q2 q3 q4 q5 q6 q7 => by rw [e7, up_row q1, e6, up_row q7, e5, up_row q6, e4, up_row q5, e3, up_row q4, e2, up_row q3, e1, up_row q2]
    have cc : ∀ k, k ≠ 12 → i7 f k = h8 f k := fun k hk => by rw [e7, up_col hk, e6, up_row (by omega), e5, up_row (by omega), e4, up_row (by omega), e3, up_row (by omega), e2, up_row (by omega), e1, up_row (by omega)]
    have m4 : i7 (f + 4) = i1 (f + 4) := by rw [e7, up_row (by omega), e6, up_row (by omega), e5, up_row (by omega), e4, up_row (by omega), e3, up_row (by omega), e2, up_row (by omega)]
    have m5 : i7 (f + 5) = i2 (f + 5) := by rw [e7, up_row (by omega), e6, up_row (by omega), e5, up_row (by omega), e4, up_row (by omega), e3, up_row (by omega)]
    have m12 : i7 (f + 10 + 2) = i3 (f + 10 + 2) := by rw [e7, up_row (by omega), e6, up_row (by omega), e5, up_row (by omega), e4, up_row (by omega)]
    have m13 : i7 (f + 10 + 3) = i4 (f + 10 + 3) := by rw [e7, up_row (by omega), e6, up_row (by omega), e5, up_row (by omega)]
    have m14 : i7 (f + 10 + 4) = i5 (f + 10 + 4) := by rw [e7, up_row (by omega), e6, up_row (by omega)]
    have m15 : i7 (f + 10 + 5) = i6 (f + 10 + 5) := by rw [e7, up_row (by omega)]
    obtain ⟨⟨s1, s2, s3, s4, s5, s6⟩, r2, r3, r4, r5', r6, r7', r8, r9⟩ := P8.dR
    have st : ∀ j k, (addB D (tL T (tN T q0)) a.2 c.2 t.2).2.1 j k = mf_up (mf_up (mf_up (mf_up D.2.1 2 D.1.nb a.2) 3 D.1.nb c.2) 4 D.1.nb 5) 5 D.1.nb 0 j k := fun j k => rfl
    refine hO _ rfl i7 ⟨P8.1, P8.2.1.tr (fun x _ _ _ q4 => r7 x (by omega) (by omega) (by omega) (by omega) (by omega) (by omega) (by omega)), P8.lx.to (fun x hx => r7 x (by omega) (by omega) (by omega) (by omega) (by omega) (by omega) (by omega)), by rw [r7 5 (by omega) (by omega) (by omega) (by omega) (by omega) (by omega) (by omega)]; exact P8.b0, ⟨⟨by rw [cc 8 (by decide)]; exact s1, by rw [cc 9 (by decide)]; exact s2, by rw [cc 10 (by decide)]; exact s3, by rw [cc 11 (by decide)]; exact s4, by rw [e7, up_self]; rfl, by rw [cc 13 (by decide)]; exact s6⟩, fun b b0 b1 => ?_, fun b b0 b1 => ?_, by rw [r7 (f + 1) (by omega) (by omega) (by omega) (by omega) (by omega) (by omega) (by omega), r7 (f + 2) (by omega) (by omega) (by omega) (by omega) (by omega) (by omega) (by omega), r7 (f + 3) (by omega) (by omega) (by omega) (by omega) (by omega) (by omega) (by omega)]; exact r4, fun s t0 t3 => (r5' s t0 t3).to (by rw [r7 (f + 6 + 2) (by omega) (by omega) (by omega) (by omega) (by omega) (by omega) (by omega)]) (by rw [r7 (f + 6 + 3) (by omega) (by omega) (by omega) (by omega) (by omega) (by omega) (by omega)]) (fun i _ => by rw [r7 (f + 6 + 1) (by omega) (by omega) (by omega) (by omega) (by omega) (by omega) (by omega)]) (by rw [r7 (f + 6) (by omega) (by omega) (by omega) (by omega) (by omega) (by omega) (by omega)]; exact Int.le_refl _), by rw [r7 (f + 6) (by omega) (by omega) (by omega) (by omega) (by omega) (by omega) (by omega)]; exact r6, by rw [r7 (f + 10) (by omega) (by omega) (by omega) (by omega) (by omega) (by omega) (by omega)]; exact r7', fun k k0 k1 => ?_, fun b b0 b1 => ?_⟩, by rw [cc 7 (by decide)]; exact P8.2.2.2.2.2.1, by rw [r7 (f + 6) (by omega) (by omega) (by omega) (by omega) (by omega) (by omega) (by omega)]; exact P8.2.2.2.2.2.2⟩
    · have b1' : b < D.1.nb + 1 := b1
      show i7 (f + 4) b = pkP (if b = D.1.nb then tL T (tN T q0) else D.1.nm b)
      rw [m4, e1]
      by_cases z : b = D.1.nb
      · rw [z, up_self, if_pos rfl]
      · rw [up_col z, if_neg z]; exact r2 b b0 (by omega)
    · have b1' : b < D.1.nb + 1 := b1
      show i7 (f + 5) b = if b = D.1.nb then t.2 else D.1.tr b
      rw [m5, e2]
      by_cases z : b = D.1.nb
      · rw [z, up_self, if_pos rfl]
      · rw [up_col z, if_neg z, e1, up_row (by omega)]; exact r3 b b0 (by omega)
    · rw [r7 (f + 10 + 1) (by omega) (by omega) (by omega) (by omega) (by omega) (by omega) (by omega), st, up_row (by decide), up_row (by decide), up_row (by decide), up_row (by decide)]
      exact r8 k k0 k1
    · have b1' : b < D.1.nb + 1 := b1
      rw [m12, m13, m14, m15, st, st, st, st]
      by_cases z : b = D.1.nb
      · rw [z]
        refine ⟨?_, ?_, ?_, ?_⟩
        · rw [e3, up_self, up_row (by decide), up_row (by decide), up_row (by decide), up_self]
        · rw [e4, up_self, up_row (by decide), up_row (by decide), up_self]
        · rw [e5, up_self, up_row (by decide), up_self]
        · rw [e6, up_self, up_self]
      · have old := r9 b b0 (by omega)
        refine ⟨?_, ?_, ?_, ?_⟩
        · rw [e3, up_col z, e2, up_row (by omega), e1, up_row (by omega), up_row (by decide), up_row (by decide), up_row (by decide), up_col z]; exact old.1
        · rw [e4, up_col z, e3, up_row (by omega), e2, up_row (by omega), e1, up_row (by omega), up_row (by decide), up_row (by decide), up_col z, up_row (by decide)]; exact old.2.1
        · rw [e5, up_col z, e4, up_row (by omega), e3, up_row (by omega), e2, up_row (by omega), e1, up_row (by omega), up_row (by decide), up_col z, up_row (by decide), up_row (by decide)]; exact old.2.2.1
        · rw [e6, up_col z, e5, up_row (by omega), e4, up_row (by omega), e3, up_row (by omega), e2, up_row (by omega), e1, up_row (by omega), up_col z, up_row (by decide), up_row (by decide), up_row (by decide)]; exact old.2.2.2
  · rw [if_pos (by omega)] at hE
    exact hE _ rfl h1 F1
end FoX2
