/-! tests in the reference: all -/
section SpT2
variable {C : mf_G} {l : Launch} {d : Nat} {K : Int → mf_M → Prop} {h0 : mf_M} {T : aT} {kd : Int}
theorem m_qCodeW {x : Int} {e : Int × Int} {L : Int → mf_M → Prop} {dd : Nat} {h : mf_M} (F : FMm h0 e h) (hK : ∀ h', FWm h0 e h' → L 0 h') : mM C l dd YX12_qCode [(2, 245), (0, x)] h L := by
  have h95 := F.2.2.2
  refine wX12_qCode ⟨h95.1, by omega, fun h3 e3 h4 e4 => ?_⟩
  have f3 : fr3 h h3 := by rw [e3]; exact fr3.up315 _ _ _
  have f4 : fr3 h3 h4 := by rw [e4]; exact fr3.up (by decide)
  have f := f3.tr f4
  have e5 := f.2 5 (by decide) (by decide) (by decide) (by decide)
  have e6 := f.2 6 (by decide) (by decide) (by decide) (by decide)
  exact hK h4 ⟨⟨by rw [e5]; exact F.1.1, by rw [e6]; exact F.1.2⟩, by rw [e5]; exact F.2.1, F.2.2.1.tr f.Q⟩
theorem FWm.at {h : mf_M} {e : Int × Int} {v : Int} (F : FWm h0 e h) : FWm h0 e (mf_up h 245 2 v) := ⟨⟨by rw [up_col (by decide)]; exact F.1.1, by rw [up_col (by decide)]; exact F.1.2⟩, by rw [up_col (by decide)]; exact F.2.1, F.2.2.tr (frL.up (by decide)).Q⟩
theorem ts_tp {V : List Int} (h : tsO V) : tpO V := by
  intro x hx
  have := h x (List.mem_of_mem_head? hx)
  omega
/-- a sum in a test -/
theorem M_qSumsT {q : aQ} {V cs : List Int} {h : mf_M} {L : Int → mf_M → Prop} {dd : Nat} (hd : 6 ≤ dd) (t2 : T.2 ≤ 1600) (hkd : kd = 0 ∨ kd = 1 ∨ kd = 2 ∨ kd = 3) (hV : tsO V) (P : PSm h0 T kd q V [] (cnV V) cs h) (hl : (V.length : Int) + cs.length ≤ q.1) (hc : cnV V ≤ 6) (hE : ∀ e, rdS T (scK kd) 4000 true (cnV V) 0 0 q = .error e → ∀ h', FMm h0 e h' → L 0 h') (hO : ∀ x, rdS T (scK kd) 4000 true (cnV V) 0 0 q = .ok x → ∀ h', PSm h0 T kd x.1 V [] (cnV V) (cs ++ x.2) h' → L 0 h') : mM C l dd YX12_qSums [(2, 245)] h L := by
  have e : V ++ [] = V := List.append_nil V
  refine M_qSums (W0 := V) (B := []) hd t2 hkd (by rw [e]; exact ts_tp hV) (by rw [e]; exact P) (by simp only [List.length_nil]; omega) (by rw [e]; exact hc) (by rw [e]; exact hE) (by rw [e]; exact hO)
def factT (C : mf_G) (l : Launch) (d : Nat) (K : Int → mf_M → Prop) (h0 : mf_M) (T : aT) (kd : Int) (n : Nat) : Prop := ∀ (q : aQ) (V cs : List Int), 2 * (T.2 - q.1) + 1 ≤ n → 0 ≤ q.1 → q.1 ≤ T.2 → tsO V → (V.length : Int) + cs.length ≤ q.1 → cnV V ≤ 6 → (∀ e, rtS T (scK kd) n false (cnV V) 0 0 q = .error e → TFm K h0 e) → (∀ x, rtS T (scK kd) n false (cnV V) 0 0 q = .ok x → TEm C l d K h0 T kd x.1 V (cs ++ x.2)) → TAm C l d K h0 T kd q V cs
def testT (C : mf_G) (l : Launch) (d : Nat) (K : Int → mf_M → Prop) (h0 : mf_M) (T : aT) (kd : Int) (n : Nat) : Prop := ∀ (q : aQ) (V cs : List Int) (p s : Int), 2 * (T.2 - q.1) + 2 ≤ n → 0 ≤ q.1 → q.1 ≤ T.2 → (V = [] ∨ ∃ V', V = 25 :: V') → tsO V → (p = 0 ∨ p = 10) → (s = 0 ∨ s = 11) → ((lsS p ++ lsS s ++ V).length : Int) + cs.length ≤ q.1 → cnV V ≤ 6 → (∀ e, rtS T (scK kd) n true (cnV V) p s q = .error e → TFm K h0 e) → (∀ x A cs', rtS T (scK kd) n true (cnV V) p s q = .ok x → x.2 = cs' ++ A → (∀ y ∈ A, y = 10 ∨ y = 11) → ¬ tX T x.1 = 13 → ¬ tX T x.1 = 12 → TBm C l d K h0 T kd x.1 (A ++ V) (cs ++ cs')) → TAm C l d K h0 T kd q (lsS p ++ lsS s ++ V) cs
theorem m_testL (t2 : T.2 ≤ 1600) (n : Nat) (ihP : factT C l d K h0 T kd n) (ihS : testT C l d K h0 T kd n) : testT C l d K h0 T kd (n + 1) := by
  intro q V cs p s hf q0 q1 hV hts hp hs hl hc hE hO
  have mem := ls_ops hp hs
  have ec : cnV (lsS p ++ lsS s ++ V) = cnV V := cnV_ops _ _ (fun y hy => by have := mem y hy; omega)
  have hts2 : tsO (lsS p ++ lsS s ++ V) := fun x hx => by
    rcases List.mem_append.mp hx with z | z
    · have := mem x z; omega
    · exact hts x z
  have h12 : ∀ x, (lsS p ++ lsS s ++ V).head? = some x → x ≠ 12 := by
    intro x hx
    cases hpp : lsS p ++ lsS s with
    | nil =>
      rw [hpp] at hx
      rcases hV with rfl | ⟨V', rfl⟩
      · exact absurd hx (by simp)
      · have : (25 : Int) = x := by simpa using hx
        omega
    | cons y W =>
      rw [hpp] at hx
      have h1 : y = x := by simpa using hx
      have := mem y (by rw [hpp]; exact List.mem_cons_self)
      omega
  have l0 : (lsS 0) = [] := rfl
  refine ihP q (lsS p ++ lsS s ++ V) cs (by omega) q0 q1 hts2 hl (by rw [ec]; exact hc) (fun e he => hE e ?_) (fun x hx => ?_)
  · rw [ec] at he
    unfold rtS
    rw [he]; rfl
  · rw [ec] at hx
    obtain ⟨r1, r2, r3, r4⟩ := rt_len T (scK kd) n false _ 0 0 q x q1 hx
    simp only [Bool.false_eq_true, if_false] at r4
    have lcx : (cs ++ x.2).length = cs.length + x.2.length := List.length_append
    show TBm C l d K h0 T kd x.1 (spn (lsS p ++ lsS s ++ V) (cs ++ x.2)).1 (spn (lsS p ++ lsS s ++ V) (cs ++ x.2)).2
    rw [spn_id h12]
    show TBm C l d K h0 T kd x.1 (lsS p ++ lsS s ++ V) (cs ++ x.2)
    have lens : ((lsS p ++ lsS s ++ V).length : Int) = (lsS p).length + (lsS s).length + V.length := by simp only [List.length_append]; omega
    by_cases z : tX T x.1 = 13
    · have tn := tN_pos r2 (tX_ne (by omega : 0 ≤ tX T x.1))
      have lp : lsS 10 = [10] := rfl
      refine TB_and hp hs hV (by omega) z ?_
      have := ihS (tN T x.1) V (cs ++ x.2 ++ lsS p) 10 s (by omega) (by omega) tn.2 hV hts (Or.inr rfl) hs (by rw [lp]; simp only [List.length_append, List.length_cons, List.length_nil] at *; omega) hc (fun e he => hE e ?_) (fun y A cs' hy hA1 hA2 hA3 hA4 => ?_)
      · rw [lp] at this; exact this
      · unfold rtS
        rw [hx, bnd_o, if_pos z, he]; rfl
      · have := hO (y.1, x.2 ++ lsS p ++ y.2) A (x.2 ++ lsS p ++ cs') (by unfold rtS; rw [hx, bnd_o, if_pos z, hy]; rfl) (by simp only [hA1, List.append_assoc]) hA2 hA3 hA4
        simp only [List.append_assoc] at this ⊢
        exact this
    · by_cases w : tX T x.1 = 12
      · have tn := tN_pos r2 (tX_ne (by omega : 0 ≤ tX T x.1))
        have lp : lsS 11 = [11] := rfl
        refine TB_or hp hs hV (by omega) w ?_
        have := ihS (tN T x.1) V (cs ++ x.2 ++ lsS p ++ lsS s) 0 11 (by omega) (by omega) tn.2 hV hts (Or.inl rfl) (Or.inr rfl) (by rw [lp, l0]; simp only [List.length_append, List.length_cons, List.length_nil] at *; omega) hc (fun e he => hE e ?_) (fun y A cs' hy hA1 hA2 hA3 hA4 => ?_)
        · rw [lp] at this; exact this
        · unfold rtS
          rw [hx, bnd_o, if_neg z, if_pos w, he]; rfl
        · have := hO (y.1, x.2 ++ lsS p ++ lsS s ++ y.2) A (x.2 ++ lsS p ++ lsS s ++ cs') (by unfold rtS; rw [hx, bnd_o, if_neg z, if_pos w, hy]; rfl) (by simp only [hA1, List.append_assoc]) hA2 hA3 hA4
          simp only [List.append_assoc] at this ⊢
          exact this
      · exact hO (x.1, x.2 ++ lsS p ++ lsS s) (lsS p ++ lsS s) x.2 (by unfold rtS; rw [hx, bnd_o, if_neg z, if_neg w]) (by simp only [List.append_assoc]) mem z w
theorem m_factL (hd : 8 ≤ d) (t2 : T.2 ≤ 1600) (hkd : kd = 0 ∨ kd = 1 ∨ kd = 2 ∨ kd = 3) (n : Nat) (ihP : factT C l d K h0 T kd n) (ihS : testT C l d K h0 T kd n) : factT C l d K h0 T kd (n + 1) := by
  intro q V cs hf q0 q1 hts hl hc hE hO h P
  have c0 := cnV_ge V
  have l0 : (lsS 0) = [] := rfl
  have sg := look_sg (T := T) (q := q) (c := 91) (by decide) (by decide) (by decide)
  -- behind a fact
  have bad : ∀ e, TFm K h0 e → ∀ h', FWm h0 e h' → mM C l 2 YX12_qDropsNots [(2, 245)] h' (fun r10 h12 => ((¬ h12 245 5 = 0 → BX12_qTest_2 C l d K 0 h12) ∧ (h12 245 5 = 0 → mM C l 3 YX12_qGoesOnTest [(2, 245)] h12 (fun r13 h15 => ((r13 = 0 → BX12_qTest_2 C l d K 0 h15) ∧ (¬ r13 = 0 → BX12_qTest_2 C l d K 1 h15)))))) := fun e E h' F => m_notsF (by decide) F ⟨fun _ => m_TAF hd F E, fun z => absurd z F.2.1⟩
  have good : ∀ (q2 : aQ) (cs2 : List Int) (h' : mf_M), V.length + cs2.length ≤ 1680 → TEm C l d K h0 T kd q2 V cs2 → PSm h0 T kd q2 V [] (cnV V) cs2 h' → mM C l 2 YX12_qDropsNots [(2, 245)] h' (fun r10 h12 => ((¬ h12 245 5 = 0 → BX12_qTest_2 C l d K 0 h12) ∧ (h12 245 5 = 0 → mM C l 3 YX12_qGoesOnTest [(2, 245)] h12 (fun r13 h15 => ((r13 = 0 → BX12_qTest_2 C l d K 0 h15) ∧ (¬ r13 = 0 → BX12_qTest_2 C l d K 1 h15)))))) := fun q2 cs2 h' l2 E P' => m_dropsNots (by decide) P' l2 (fun h2 P2 => ⟨fun z => absurd P2.b0 z, fun _ => wX12_qGoesOnTest (E h2 P2)⟩)
  refine vX12_qTest_2 hd ⟨fun z => absurd z (by decide), fun _ => ⟨fun z => absurd P.b0 z, fun _ => m_look P.lx (fun h1 X1 f1 => ⟨fun z91 => ?_, fun z91 => ?_⟩)⟩⟩
  · have s91 : ¬ sgB T q 91 = true := fun z => z91 (sg.mpr z)
    have P1 := P.lt f1 X1
    refine M_isHere (k := 14) (by decide) (by decide) X1.1 (fun (a14 : tX T q = 14) h2 X2 f2 => ⟨fun z => absurd z (by decide), fun _ => ?_⟩) (fun (a14 : ¬ tX T q = 14) h2 X2 f2 => ⟨fun _ => ?_, fun z => absurd rfl z⟩)
    · -- not
      have P2 := P1.lt f2 X2
      have hk1 := tX_word (T := T) (q := q) (by omega)
      have tn := tN_pos q1 (tX_ne (by omega : 0 ≤ tX T q))
      have key : rtS T (scK kd) (n + 1) false (cnV V) 0 0 q = (if 6 ≤ cnV V then .error (4, tA T q) else bnd (rtS T (scK kd) n false (cnV V + 1) 0 0 (tN T q)) (fun q1 c => .ok (q1, c ++ [12]))) := by
        rw [rtS, if_neg (by omega), if_pos a14]
      rw [key] at hE hO
      refine m_qOpens (by decide) P2 ⟨c0, hc⟩ (by simp only [List.length_nil]; omega) (by omega) (fun c6 h3 F3 f3 => ?_) (fun c6 h3 P3 f3 => ?_)
      · rw [if_pos (by omega)] at hE
        rw [X2.2] at F3
        exact wX12_asks (by decide) ⟨fun _ => m_TAF hd F3.w (hE _ rfl), fun z => absurd z F3.2.1⟩
      · rw [if_neg (by omega)] at hE hO
        refine M_asks (k := 14) (by decide) (by decide) P3.lx (fun _ h4 X4 f4 => ?_) (fun z => absurd a14 z)
        have P4 := P3.lex f4 X4
        rw [← cnV_nt (x := 12) (V := V) (Or.inl rfl)] at P4
        refine ihP (tN T q) (12 :: V) cs (by omega) (by omega) tn.2 (fun x hx => ?_) (by simp only [List.length_cons]; omega) (by rw [cnV_nt (Or.inl rfl)]; omega) (fun e he => hE e ?_) (fun x hx => ?_) h4 P4
        · rcases List.mem_cons.mp hx with y | y
          · omega
          · exact hts x y
        · rw [cnV_nt (Or.inl rfl)] at he
          rw [he]; rfl
        · rw [cnV_nt (Or.inl rfl)] at hx
          have := hO (x.1, x.2 ++ [12]) (by rw [hx]; rfl)
          simp only [] at this
          rw [← List.append_assoc] at this
          exact this
    · -- a fact alone
      have P2 := P1.lt f2 X2
      refine wX12_qFact (by decide) (M_takes (k := 15) (by decide) (by decide) X2.1 (fun (a15 : tX T q = 15) h3 X3 f3 => ⟨fun z => absurd z (by decide), fun _ => ?_⟩) (fun (a15 : ¬ tX T q = 15) h3 X3 f3 => ⟨fun _ => ?_, fun z => absurd rfl z⟩))
      · have P3 := P2.lex f3 X3
        exact m_qCode P3 (by omega) (fun h4 P4 f4 => good _ _ h4 (by simp only [List.length_append, List.length_cons, List.length_nil]; omega) (hO (tN T q, [13]) (by rw [rtS, if_pos a15])) P4)
      · have P3 := P2.lt f3 X3
        have key : rtS T (scK kd) (n + 1) false (cnV V) 0 0 q = bnd (rdS T (scK kd) 4000 true (cnV V) 0 0 q) (fun q1 c1 => if cmpS T q1 ≠ 0 then bnd (rdS T (scK kd) 4000 true (cnV V) 0 0 (tN T q1)) (fun q2 c2 => .ok (q2, c1 ++ c2 ++ [cmpS T q1])) else .error (1, tA T q1)) := by
          rw [rtS, if_neg a15, if_neg a14, if_neg s91]
        rw [key] at hE hO
        refine M_qSumsT (by decide) t2 hkd hts P3 hl hc (fun e he h4 F4 => ⟨fun z => absurd z F4.2.1, fun _ => bad e (hE e (by rw [he]; rfl)) h4 F4.w⟩) (fun x hx h4 P4 => ⟨fun _ => m_look P4.lx (fun h5 X5 f5 => ?_), fun z => absurd P4.b0 z⟩)
        rw [hx, bnd_o] at hE hO
        obtain ⟨r1, r2, r3, r4⟩ := rd_len T (scK kd) 4000 true _ 0 0 q x q1 hx
        simp only [if_true, l0, List.length_nil] at r4
        have P5 := P4.lt f5 X5
        have lcx : (cs ++ x.2).length = cs.length + x.2.length := List.length_append
        -- behind the sign that compares
        have go : ∀ c : Int, cmpS T x.1 ≠ 0 → sgB T x.1 c = true → (cmpS T x.1 = if c = 60 then 7 else if c = 62 then 8 else 9) → BX12_qFact_63 C l 7 (fun r7 h9 => mM C l 2 YX12_qDropsNots [(2, 245)] h9 (fun r10 h12 => ((¬ h12 245 5 = 0 → BX12_qTest_2 C l d K 0 h12) ∧ (h12 245 5 = 0 → mM C l 3 YX12_qGoesOnTest [(2, 245)] h12 (fun r13 h15 => ((r13 = 0 → BX12_qTest_2 C l d K 0 h15) ∧ (¬ r13 = 0 → BX12_qTest_2 C l d K 1 h15))))))) c h5 := by
          intro c hcm hsg hcv
          rw [if_pos hcm] at hE hO
          have k3 := (sgB_iff.mp hsg).1
          have tn := tN_pos r2 (cmp_ne hcm)
          have tl := tA_le T r2
          have ag := tA_ge T x.1
          refine vX12_qFact_63 (by decide) (fun h6 e6 => ?_)
          rw [X5.2, w_id (by omega) (by omega)] at e6
          have f6 : frL h5 h6 := by rw [e6]; exact frL.up (by decide)
          have X6 := lxM.sg X5 f6 k3 (by rw [e6, up_col (by decide)]; exact X5.1.2.2.1) (by rw [e6, up_self]) (by rw [e6, up_col (by decide)]) (by rw [e6, up_col (by decide)])
          have P6 := P5.lex f6 X6
          refine M_qSumsT (by decide) t2 hkd hts P6 (by omega) hc (fun e he h7 F7 => ?_) (fun y hy h7 P7 => ?_)
          · have E := hE e (by rw [he]; rfl)
            exact ⟨fun _ => ⟨fun _ => m_qCodeW F7 (fun h8 F8 => bad e E h8 F8), fun _ => m_qCodeW F7 (fun h8 F8 => bad e E h8 F8)⟩, fun _ => m_qCodeW F7 (fun h8 F8 => bad e E h8 F8)⟩
          · obtain ⟨u1, u2, u3, u4⟩ := rd_len T (scK kd) 4000 true _ 0 0 _ y tn.2 hy
            simp only [if_true, l0, List.length_nil] at u4
            have fin : ∀ v : Int, v = cmpS T x.1 → mM C l 0 YX12_qCode [(2, 245), (0, v)] h7 (fun r5 h7 => mM C l 2 YX12_qDropsNots [(2, 245)] h7 (fun r10 h12 => ((¬ h12 245 5 = 0 → BX12_qTest_2 C l d K 0 h12) ∧ (h12 245 5 = 0 → mM C l 3 YX12_qGoesOnTest [(2, 245)] h12 (fun r13 h15 => ((r13 = 0 → BX12_qTest_2 C l d K 0 h15) ∧ (¬ r13 = 0 → BX12_qTest_2 C l d K 1 h15))))))) := by
              intro v hv
              refine m_qCode P7 (by simp only [List.length_append]; omega) (fun h8 P8 f8 => good _ _ h8 (by simp only [List.length_append, List.length_cons, List.length_nil]; omega) ?_ P8)
              have := hO (y.1, x.2 ++ y.2 ++ [cmpS T x.1]) (by rw [hy]; rfl)
              rw [hv]
              simp only [List.append_assoc] at this ⊢
              exact this
            refine ⟨fun z => ⟨fun w => fin 9 ?_, fun w => fin 8 ?_⟩, fun z => fin 7 ?_⟩
            · rw [hcv, if_neg z, if_neg w]
            · rw [hcv, if_neg z, if_pos w]
            · rw [hcv, if_pos z]
        have sgc : ∀ c : Int, 0 ≤ c → ltB c = false → dgB c = false → ((if tA T x.1 < T.2 then tB T x.1 else -1) = c ↔ sgB T x.1 c = true) := fun c a1 a2 a3 => look_sg a1 a2 a3
        have nsg : ∀ {c : Int}, ¬ sgB T x.1 c = true → sgB T x.1 c = false := fun {c} z => by
          cases e : sgB T x.1 c with
          | false => rfl
          | true => exact absurd e z
        refine ⟨fun z => ?_, fun z => ⟨fun y => ?_, fun y => ⟨fun w => ?_, fun w => ?_⟩⟩⟩
        · have s := (sgc 60 (by decide) (by decide) (by decide)).mp z
          have cv : cmpS T x.1 = 7 := by unfold cmpS; rw [s]; rfl
          have := go 60 (by rw [cv]; decide) s (by rw [cv]; rfl)
          rw [z]; exact this
        · have s := (sgc 62 (by decide) (by decide) (by decide)).mp y
          have n60 := nsg (fun v => z ((sgc 60 (by decide) (by decide) (by decide)).mpr v))
          have cv : cmpS T x.1 = 8 := by unfold cmpS; rw [n60, s]; rfl
          have := go 62 (by rw [cv]; decide) s (by rw [cv]; rfl)
          rw [y]; exact this
        · have s := (sgc 61 (by decide) (by decide) (by decide)).mp w
          have n60 := nsg (fun v => z ((sgc 60 (by decide) (by decide) (by decide)).mpr v))
          have n62 := nsg (fun v => y ((sgc 62 (by decide) (by decide) (by decide)).mpr v))
          have cv : cmpS T x.1 = 9 := by unfold cmpS; rw [n60, n62, s]; rfl
          have := go 61 (by rw [cv]; decide) s (by rw [cv]; rfl)
          rw [w]; exact this
        · have n60 := nsg (fun v => z ((sgc 60 (by decide) (by decide) (by decide)).mpr v))
          have n62 := nsg (fun v => y ((sgc 62 (by decide) (by decide) (by decide)).mpr v))
          have n61 := nsg (fun v => w ((sgc 61 (by decide) (by decide) (by decide)).mpr v))
          have cv : cmpS T x.1 = 0 := by unfold cmpS; rw [n60, n62, n61]; rfl
          rw [if_neg (fun v => v cv)] at hE
          refine m_fail P5.b0 (fun h6 F6 f6 => bad _ (hE _ rfl) h6 ?_)
          rw [X5.2] at F6
          exact (P5.bad f6 F6 (by decide) (by omega)).w
  · -- in square brackets
    have s91 := sg.mp z91
    have k3 := (sgB_iff.mp s91).1
    have nx : ∀ k : Int, 0 ≤ k → ¬ tX T q = k := fun k hk z => by have := tX_word (T := T) (q := q) (by omega); rw [k3] at this; exact absurd this (by decide)
    have P1 := P.lt f1 X1
    have tn := tN_pos q1 (sg_ne s91)
    have tl := tA_le T q1
    have ag := tA_ge T q
    have key : rtS T (scK kd) (n + 1) false (cnV V) 0 0 q = (if 6 ≤ cnV V then .error (4, tA T q) else bnd (rtS T (scK kd) n true (cnV V + 1) 0 0 (tN T q)) (fun q2 c => if sgB T q2 93 then .ok (tN T q2, c) else .error (1, tA T q2))) := by
      rw [rtS, if_neg (nx 15 (by decide)), if_neg (nx 14 (by decide)), if_pos s91]
    rw [key] at hE hO
    refine m_qOpens (by decide) P1 ⟨c0, hc⟩ (by simp only [List.length_nil]; omega) (by omega) (fun c6 h2 F2 f2 h3 e3 => ?_) (fun c6 h2 P2 f2 h3 e3 => ?_)
    · rw [if_pos (by omega)] at hE
      rw [X1.2] at F2
      rw [e3]
      exact m_TAF hd F2.w.at (hE _ rfl)
    · rw [if_neg (by omega)] at hE hO
      have X2 := X1.f3 f2
      rw [X2.2, w_id (by omega) (by omega)] at e3
      have f3 : frL h2 h3 := by rw [e3]; exact frL.up (by decide)
      have X3 := lxM.sg X2 f3 k3 (by rw [e3, up_col (by decide)]; exact X2.1.2.2.1) (by rw [e3, up_self]) (by rw [e3, up_col (by decide)]) (by rw [e3, up_col (by decide)])
      have P3 := P2.lex f3 X3
      have e25 : cnV (25 :: V) = cnV V + 1 := cnV_nt (Or.inr (by decide))
      rw [← e25] at P3
      have := ihS (tN T q) (25 :: V) cs 0 0 (by omega) (by omega) tn.2 (Or.inr ⟨V, rfl⟩) (fun x hx => ?_) (Or.inl rfl) (Or.inl rfl) (by rw [l0]; simp only [List.nil_append, List.length_cons]; omega) (by rw [e25]; omega) (fun e he => hE e ?_) (fun x A cs' hx hA1 hA2 hA3 hA4 => ?_)
      · rw [l0] at this
        exact this h3 P3
      · rcases List.mem_cons.mp hx with y | y
        · omega
        · exact hts x y
      · rw [e25] at he
        rw [he]; rfl
      · rw [e25] at hx
        rw [hx, bnd_o] at hE hO
        obtain ⟨r1, r2, r3, r4⟩ := rt_len T (scK kd) n true _ 0 0 _ x tn.2 hx
        simp only [if_true, l0, List.length_nil] at r4
        have l4 := r4
        rw [hA1, List.length_append] at l4
        have lcc : (cs ++ cs').length = cs.length + cs'.length := List.length_append
        cases s93 : sgB T x.1 93 with
        | true =>
          rw [if_pos s93] at hO
          refine TB_close hA2 (by omega) s93 ?_
          have := hO _ rfl
          simp only [] at this
          rw [hA1, ← List.append_assoc] at this
          exact this
        | false =>
          rw [if_neg (by rw [s93]; decide)] at hE
          exact TB_bad hd hA2 (by omega) s93 hA3 hA4 (hE _ rfl)
theorem m_tests (hd : 8 ≤ d) (t2 : T.2 ≤ 1600) (hkd : kd = 0 ∨ kd = 1 ∨ kd = 2 ∨ kd = 3) : ∀ n, factT C l d K h0 T kd n ∧ testT C l d K h0 T kd n
  | 0 => ⟨fun q W cs hf q0 q1 => absurd hf (by omega), fun q W cs p s hf q0 q1 => absurd hf (by omega)⟩
  | n + 1 => ⟨m_factL hd t2 hkd n (m_tests hd t2 hkd n).1 (m_tests hd t2 hkd n).2, m_testL t2 n (m_tests hd t2 hkd n).1 (m_tests hd t2 hkd n).2⟩
theorem M_qTest {q : aQ} {h : mf_M} (hd : 8 ≤ d) (t2 : T.2 ≤ 1600) (hkd : kd = 0 ∨ kd = 1 ∨ kd = 2 ∨ kd = 3) (P : PSm h0 T kd q [] [] 0 [] h) (hE : ∀ e, rtS T (scK kd) 4000 true 0 0 0 q = .error e → ∀ h', FWm h0 e h' → K 0 h') (hO : ∀ x, rtS T (scK kd) 4000 true 0 0 0 q = .ok x → ∀ h', PSm h0 T kd x.1 [] [] 0 x.2 h' → K 0 h') : mM C l d YX12_qTest [(2, 245)] h K := by
  have q0 := P.lx.2.1
  have l0 : (lsS 0) = [] := rfl
  have := (m_tests (C := C) (l := l) (d := d) (K := K) (h0 := h0) (T := T) (kd := kd) hd t2 hkd 4000).2 q [] [] 0 0 (by omega) q0.1 q0.2 (Or.inl rfl) (fun x hx => absurd hx (by simp)) (Or.inl rfl) (Or.inl rfl) (by rw [l0]; simp; omega) (by decide) (fun e he => hE e he) (fun x A cs' hx hA1 hA2 hA3 hA4 => ?_)
  · exact wX12_qTest (this h P)
  · obtain ⟨r1, r2, r3, r4⟩ := rt_len T (scK kd) 4000 true _ 0 0 q x q0.2 hx
    simp only [if_true, l0, List.length_nil] at r4
    rw [hA1, List.length_append] at r4
    rw [List.append_nil]
    refine TB_end hd hA2 (by simp only [List.nil_append]; omega) hA3 hA4 (fun h' P' => hO x hx h' ?_)
    rw [hA1]; exact P'
end SpT2
