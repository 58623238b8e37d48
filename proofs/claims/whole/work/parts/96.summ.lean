/-! sums in the reference -/
theorem cnV_br {x : Int} {V : List Int} (h : 20 ≤ x) : cnV (x :: V) = cnV V + 1 := by
  show (if x = 12 ∨ 20 ≤ x then 1 else 0) + cnV V = _
  rw [if_pos (Or.inr h)]; omega
theorem stp_id {W cs : List Int} (h : ∀ x, W.head? = some x → x < 60) : stp W cs = (W, cs) := by
  match W, h with
  | [], _ => rfl
  | x :: W, h =>
    show (if 60 ≤ x then stp W (cs ++ [x]) else (x :: W, cs)) = _
    rw [if_neg (by have := h x rfl; omega)]
theorem FMm.at {h0 h : mf_M} {e : Int × Int} {v : Int} (F : FMm h0 e h) : FMm h0 e (mf_up h 245 2 v) := ⟨⟨by rw [up_col (by decide)]; exact F.1.1, by rw [up_col (by decide)]; exact F.1.2⟩, by rw [up_col (by decide)]; exact F.2.1, F.2.2.1.tr (frL.up (by decide)).Q, by rw [up_col (by decide)]; exact F.2.2.2.1, by rw [up_col (by decide)]; exact F.2.2.2.2⟩
section SpSm
variable {C : mf_G} {l : Launch} {d : Nat} {K : Int → mf_M → Prop} {x1 : Int} {h0 : mf_M} {T : aT} {kd : Int} {B : List Int}
theorem m_AF {e : Int × Int} {h : mf_M} {x : Int} (F : FMm h0 e h) (E : PFm C l d K x1 h0 e) : BX12_qPartTold_2 C l 5 (KAm C l d K x1) x h := by
  have a : BX12_qPartTold_186 C l 5 (KAm C l d K x1) h := vX12_qPartTold_186 (by decide) ⟨fun z => absurd z F.2.1, fun _ => ⟨fun _ => E h F, fun z => absurd z F.2.1⟩⟩
  exact vX12_qPartTold_2 (by decide) ⟨fun _ => a, fun _ => ⟨fun _ => a, fun z => absurd z F.2.1⟩⟩
/-- which way a part begins -/
theorem m_A {q : aQ} {W cs : List Int} {L : Int → mf_M → Prop} {h : mf_M} {c : Int} (hkd : kd = 0 ∨ kd = 1 ∨ kd = 2 ∨ kd = 3) (P : PSm h0 T kd q W B c cs h) (c40 : sgB T q 40 = true → ∀ h', PSm h0 T kd q W B c cs h' → ltM T q h' → mM C l 1 YX12_qOpens [(2, 245), (0, 20), (0, h' 245 2)] h' (fun r19 h21 => (∀ h22 : mf_M, h22 = mf_up h21 245 2 (mf_w32 ((h21 245 2) + 1)) → BX12_qPartTold_2 C l 5 L 1 h22))) (c2 : tX T q = 10 ∨ tX T q = 11 → ∀ h', PSm h0 T kd q W B c cs h' → ltM T q h' → BX12_qPartTold_78 C l 5 L 1 h') (cof : tX T q = 9 → scK kd 9 = true → ∀ h', PSm h0 T kd q W B c cs h' → ltM T q h' → mM C l 1 YX12_qOpens [(2, 245), (0, 60), (0, h' 245 2)] h' (fun r13 h15 => mM C l 4 YX12_qAsksWord [(2, 245), (0, 9)] h15 (fun r16 h18 => BX12_qPartTold_2 C l 5 L 1 h18))) (cel : sgB T q 40 = false → ¬ (tX T q = 10 ∨ tX T q = 11) → ¬ (tX T q = 9 ∧ scK kd 9 = true) → ∀ h', PSm h0 T kd q W B c cs h' → ltM T q h' → BX12_qPartTold_186 C l 5 L h') : BX12_qPartTold_2 C l 5 L 1 h := by
  refine vX12_qPartTold_2 (by decide) ⟨fun z => absurd z (by decide), fun _ => ⟨fun z => absurd P.b0 z, fun _ => m_look P.lx (fun h1 X1 f1 => ?_)⟩⟩
  have sg := look_sg (T := T) (q := q) (c := 40) (by decide) (by decide) (by decide)
  have P1 := P.lt f1 X1
  -- whether a word of a part behind it stands here
  have rest : ∀ (r : Int) (h2 : mf_M), (r = -1 ∧ ¬ (tX T q = 9 ∧ scK kd 9 = true)) ∨ (r = 9 ∧ tX T q = 9 ∧ scK kd 9 = true) → ltM T q h2 → PSm h0 T kd q W B c cs h2 → ((¬ (if tA T q < T.2 then tB T q else -1) = 40 → mM C l 1 YX12_isHere [(2, 245), (2, 303)] h2 (fun r7 h9 => ((¬ r7 = 0 → BX12_qPartTold_78 C l 5 L 1 h9) ∧ (r7 = 0 → mM C l 1 YX12_isHere [(2, 245), (2, 304)] h9 (fun r10 h12 => ((r10 = 0 → ((r = (-1) → BX12_qPartTold_2 C l 5 L 0 h12) ∧ (¬ r = (-1) → mM C l 1 YX12_qOpens [(2, 245), (0, mf_w32 ((mf_w32 (60 + r)) - 9)), (0, h12 245 2)] h12 (fun r13 h15 => mM C l 4 YX12_qAsksWord [(2, 245), (0, r)] h15 (fun r16 h18 => BX12_qPartTold_2 C l 5 L 1 h18))))) ∧ (¬ r10 = 0 → BX12_qPartTold_78 C l 5 L 1 h12))))))) ∧ ((if tA T q < T.2 then tB T q else -1) = 40 → mM C l 1 YX12_qOpens [(2, 245), (0, 20), (0, h2 245 2)] h2 (fun r19 h21 => (∀ h22 : mf_M, h22 = mf_up h21 245 2 (mf_w32 ((h21 245 2) + 1)) → BX12_qPartTold_2 C l 5 L 1 h22)))) := by
    intro r h2 hr X2 P2
    refine ⟨fun z => ?_, fun z => c40 (sg.mp z) h2 P2 X2⟩
    have n40 : sgB T q 40 = false := by
      cases e : sgB T q 40 with
      | false => rfl
      | true => exact absurd (sg.mpr e) z
    refine M_isHere (k := 10) (by decide) (by decide) X2.1 (fun (a10 : tX T q = 10) h3 X3 f3 => ⟨fun _ => c2 (Or.inl a10) h3 (P2.lt f3 X3) X3, fun y => absurd y (by decide)⟩) (fun (a10 : ¬ tX T q = 10) h3 X3 f3 => ⟨fun y => absurd rfl y, fun _ => M_isHere (k := 11) (by decide) (by decide) X3.1 (fun (a11 : tX T q = 11) h4 X4 f4 => ⟨fun y => absurd y (by decide), fun _ => c2 (Or.inr a11) h4 ((P2.lt f3 X3).lt f4 X4) X4⟩) (fun (a11 : ¬ tX T q = 11) h4 X4 f4 => ⟨fun _ => ⟨fun y => ?_, fun y => ?_⟩, fun y => absurd rfl y⟩)⟩)
    · rcases hr with hr | hr
      · exact vX12_qPartTold_2 (by decide) ⟨fun _ => cel n40 (by omega) hr.2 h4 ((P2.lt f3 X3).lt f4 X4) X4, fun w => absurd rfl w⟩
      · omega
    · rcases hr with hr | hr
      · exact absurd hr.1 y
      · have := cof hr.2.1 hr.2.2 h4 ((P2.lt f3 X3).lt f4 X4) X4
        rw [hr.1]
        exact this
  refine m_wordOf (by decide) X1.1 P1.ki hkd (by decide) (by decide) (fun a1 a2 a3 h2 X2 f2 => ?_) (fun a1 h2 X2 f2 => ?_)
  · have e9 : tX T q = 9 := by omega
    rw [e9] at a3
    exact rest (tX T q) h2 (Or.inr ⟨e9, e9, a3⟩) X2 (P1.lt f2 X2)
  · exact rest (-1) h2 (Or.inl ⟨rfl, fun z => a1 ⟨by omega, by omega, by rw [z.1]; exact z.2⟩⟩) X2 (P1.lt f2 X2)
def partM (C : mf_G) (l : Launch) (d : Nat) (K : Int → mf_M → Prop) (x1 : Int) (h0 : mf_M) (T : aT) (kd : Int) (B : List Int) (n : Nat) : Prop := ∀ (q : aQ) (W cs : List Int), 2 * (T.2 - q.1) + 1 ≤ n → 0 ≤ q.1 → q.1 ≤ T.2 → (W.length : Int) + B.length + cs.length ≤ q.1 → cnV (W ++ B) ≤ 6 → (∀ e, rdS T (scK kd) n false (cnV (W ++ B)) 0 0 q = .error e → PFm C l d K x1 h0 e) → (∀ x, rdS T (scK kd) n false (cnV (W ++ B)) 0 0 q = .ok x → PEm C l d K x1 h0 T kd B x.1 W (cs ++ x.2)) → PAm C l d K x1 h0 T kd B q W cs
def sumM (C : mf_G) (l : Launch) (d : Nat) (K : Int → mf_M → Prop) (x1 : Int) (h0 : mf_M) (T : aT) (kd : Int) (B : List Int) (n : Nat) : Prop := ∀ (q : aQ) (W cs : List Int) (p s : Int), 2 * (T.2 - q.1) + 2 ≤ n → 0 ≤ q.1 → q.1 ≤ T.2 → (W = [] ∨ ∃ br W', W = br :: W' ∧ 20 ≤ br ∧ br ≤ 24) → (p = 0 ∨ p = 3 ∨ p = 4) → (s = 0 ∨ s = 1 ∨ s = 2) → ((lsS p ++ lsS s ++ W).length : Int) + B.length + cs.length ≤ q.1 → cnV (W ++ B) ≤ 6 → (∀ e, rdS T (scK kd) n true (cnV (W ++ B)) p s q = .error e → PFm C l d K x1 h0 e) → (∀ x A cs', rdS T (scK kd) n true (cnV (W ++ B)) p s q = .ok x → x.2 = cs' ++ A → (∀ y ∈ A, 1 ≤ y ∧ y ≤ 4) → prdS T x.1 = 0 → smS T x.1 = 0 → PBm C l d K x1 h0 T kd B x.1 (A ++ W) (cs ++ cs')) → PAm C l d K x1 h0 T kd B q (lsS p ++ lsS s ++ W) cs
theorem m_sumL (hd : 6 ≤ d) (t2 : T.2 ≤ 1600) (hB : tpO B) (n : Nat) (ihP : partM C l d K x1 h0 T kd B n) (ihS : sumM C l d K x1 h0 T kd B n) : sumM C l d K x1 h0 T kd B (n + 1) := by
  intro q W cs p s hf q0 q1 hW hp hs hl hc hE hO
  have mem : ∀ y ∈ lsS p ++ lsS s, 1 ≤ y ∧ y ≤ 4 := fun y hy => by
    rcases List.mem_append.mp hy with z | z
    · exact ls_mem (P := fun y => 1 ≤ y ∧ y ≤ 4) (fun _ => by omega) y z
    · exact ls_mem (P := fun y => 1 ≤ y ∧ y ≤ 4) (fun _ => by omega) y z
  have ec : cnV ((lsS p ++ lsS s ++ W) ++ B) = cnV (W ++ B) := by
    rw [List.append_assoc (lsS p ++ lsS s)]
    exact cnV_ops _ _ (fun y hy => by have := mem y hy; omega)
  have tW : tpO (W ++ B) := by
    rcases hW with rfl | ⟨br, W', rfl, hb⟩
    · exact hB
    · intro x hx
      have : br = x := by simpa using hx
      omega
  have h60 : ∀ x, (lsS p ++ lsS s ++ W).head? = some x → x < 60 := by
    intro x hx
    rcases hW with rfl | ⟨br, W', rfl, hb⟩
    · rw [List.append_nil] at hx
      have := mem x (List.mem_of_mem_head? hx)
      omega
    · have hm := List.mem_of_mem_head? hx
      rcases List.mem_append.mp hm with z | z
      · have := mem x z; omega
      · cases hpp : lsS p ++ lsS s with
        | nil => rw [hpp] at hx
                 have : br = x := by simpa using hx
                 omega
        | cons y V => rw [hpp] at hx
                      have h1 : y = x := by simpa using hx
                      have := mem y (by rw [hpp]; exact List.mem_cons_self)
                      omega
  have l0 : (lsS 0) = [] := rfl
  refine ihP q (lsS p ++ lsS s ++ W) cs (by omega) q0 q1 hl (by rw [ec]; exact hc) (fun e he => hE e ?_) (fun x hx => ?_)
  · rw [ec] at he
    unfold rdS
    rw [he]; rfl
  · rw [ec] at hx
    obtain ⟨r1, r2, r3, r4⟩ := rd_len T (scK kd) n false _ 0 0 q x q1 hx
    simp only [Bool.false_eq_true, if_false] at r4
    have hl' : ((lsS p ++ lsS s ++ W).length : Int) + B.length + (cs ++ x.2).length ≤ x.1.1 := by
      rw [show (cs ++ x.2).length = cs.length + x.2.length from List.length_append]; omega
    show PBm C l d K x1 h0 T kd B x.1 (stp (lsS p ++ lsS s ++ W) (cs ++ x.2)).1 (stp (lsS p ++ lsS s ++ W) (cs ++ x.2)).2
    rw [stp_id h60]
    show PBm C l d K x1 h0 T kd B x.1 (lsS p ++ lsS s ++ W) (cs ++ x.2)
    have lens : ((lsS p ++ lsS s ++ W).length : Int) = (lsS p).length + (lsS s).length + W.length := by simp only [List.length_append]; omega
    have pr := prd_range T x.1
    have sr := sm_range T x.1
    by_cases z : prdS T x.1 ≠ 0
    · have tn := tN_pos r2 (prd_ne z)
      have lp : lsS (prdS T x.1) = [prdS T x.1] := by unfold lsS; rw [if_neg z]
      refine B_prod hd hp hs tW (by omega) z ?_
      have := ihS (tN T x.1) W (cs ++ x.2 ++ lsS p) (prdS T x.1) s (by omega) (by omega) tn.2 hW (by omega) hs (by rw [lp]; simp only [List.length_append, List.length_cons, List.length_nil] at *; omega) hc (fun e he => hE e ?_) (fun y A cs' hy hA1 hA2 hA3 hA4 => ?_)
      · rw [lp] at this; exact this
      · unfold rdS
        rw [hx, bnd_o, if_pos z, he]; rfl
      · have := hO (y.1, x.2 ++ lsS p ++ y.2) A (x.2 ++ lsS p ++ cs') (by unfold rdS; rw [hx, bnd_o, if_pos z, hy]; rfl) (by simp only [hA1, List.append_assoc]) hA2 hA3 hA4
        simp only [List.append_assoc] at this ⊢
        exact this
    · have z0 : prdS T x.1 = 0 := by omega
      by_cases w : smS T x.1 ≠ 0
      · have tn := tN_pos r2 (sm_ne w)
        have lp : lsS (smS T x.1) = [smS T x.1] := by unfold lsS; rw [if_neg w]
        refine B_sum hd hp hs tW (by omega) z0 w ?_
        have := ihS (tN T x.1) W (cs ++ x.2 ++ lsS p ++ lsS s) 0 (smS T x.1) (by omega) (by omega) tn.2 hW (Or.inl rfl) (by omega) (by rw [lp, l0]; simp only [List.length_append, List.length_cons, List.length_nil] at *; omega) hc (fun e he => hE e ?_) (fun y A cs' hy hA1 hA2 hA3 hA4 => ?_)
        · rw [lp] at this; exact this
        · unfold rdS
          rw [hx, bnd_o, if_neg z, if_pos w, he]; rfl
        · have := hO (y.1, x.2 ++ lsS p ++ lsS s ++ y.2) A (x.2 ++ lsS p ++ lsS s ++ cs') (by unfold rdS; rw [hx, bnd_o, if_neg z, if_pos w, hy]; rfl) (by simp only [hA1, List.append_assoc]) hA2 hA3 hA4
          simp only [List.append_assoc] at this ⊢
          exact this
      · have w0 : smS T x.1 = 0 := by omega
        exact hO (x.1, x.2 ++ lsS p ++ lsS s) (lsS p ++ lsS s) x.2 (by unfold rdS; rw [hx, bnd_o, if_neg z, if_neg w]) (by simp only [List.append_assoc]) mem z0 w0
theorem m_partL (hd : 6 ≤ d) (t2 : T.2 ≤ 1600) (hkd : kd = 0 ∨ kd = 1 ∨ kd = 2 ∨ kd = 3) (n : Nat) (ihP : partM C l d K x1 h0 T kd B n) (ihS : sumM C l d K x1 h0 T kd B n) : partM C l d K x1 h0 T kd B (n + 1) := by
  intro q W cs hf q0 q1 hl hc hE hO h P
  have c0 := cnV_ge (W ++ B)
  have h00 : (lsS 0) = [] := rfl
  have e20 : ∀ x : Int, 20 ≤ x → cnV ((x :: W) ++ B) = cnV (W ++ B) + 1 := fun x hx => cnV_br hx
  -- a sum in brackets
  have sumX : ∀ (q2 : aQ) (cs2 : List Int) (br : Int), q.1 + 1 ≤ q2.1 → q2.1 ≤ T.2 → 20 ≤ br → br ≤ 24 → (W.length : Int) + 1 + B.length + cs2.length ≤ q2.1 → cnV (W ++ B) < 6 → (∀ e, rdS T (scK kd) n true (cnV (W ++ B) + 1) 0 0 q2 = .error e → PFm C l d K x1 h0 e) → (∀ x A cs', rdS T (scK kd) n true (cnV (W ++ B) + 1) 0 0 q2 = .ok x → x.2 = cs' ++ A → (∀ y ∈ A, 1 ≤ y ∧ y ≤ 4) → prdS T x.1 = 0 → smS T x.1 = 0 → A.length + W.length + B.length + (cs2 ++ cs').length ≤ 1680 → PBm C l d K x1 h0 T kd B x.1 (A ++ br :: W) (cs2 ++ cs')) → PAm C l d K x1 h0 T kd B q2 (br :: W) cs2 := by
    intro q2 cs2 br a1 a2 b1 b2 a3 a4 aE aO
    have := ihS q2 (br :: W) cs2 0 0 (by omega) (by omega) a2 (Or.inr ⟨br, W, rfl, b1, b2⟩) (Or.inl rfl) (Or.inl rfl) (by rw [h00]; simp only [List.nil_append, List.length_cons]; omega) (by rw [e20 br b1]; omega) (by rw [e20 br b1]; exact aE) (by
      rw [e20 br b1]
      intro x A cs' hx hA1 hA2 hA3 hA4
      obtain ⟨r1, r2, r3, r4⟩ := rd_len T (scK kd) n true _ 0 0 q2 x a2 hx
      simp only [if_true, h00, List.length_nil] at r4
      rw [hA1, List.length_append] at r4
      exact aO x A cs' hx hA1 hA2 hA3 hA4 (by rw [List.length_append]; omega))
    rw [h00] at this
    exact this
  refine m_A hkd P (fun s40 h1 P1 X1 => ?_) (fun hx h1 P1 X1 => ?_) (fun x9 s9 h1 P1 X1 => ?_) (fun n40 nx nof h1 P1 X1 => ?_)
  · -- in round brackets
    have k3 := (sgB_iff.mp s40).1
    have hk2 : ¬ tK T q = 2 := by rw [k3]; decide
    have hx : ¬ (tX T q = 10 ∨ tX T q = 11) := fun z => by have := tX_word (T := T) (q := q) (by omega); rw [k3] at this; exact absurd this (by decide)
    have key : rdS T (scK kd) (n + 1) false (cnV (W ++ B)) 0 0 q = if 6 ≤ cnV (W ++ B) then .error (4, tA T q) else bnd (rdS T (scK kd) n true (cnV (W ++ B) + 1) 0 0 (tN T q)) (fun q2 c1 => if sgB T q2 41 then .ok (tN T q2, c1) else .error (1, tA T q2)) := by
      rw [rdS, if_neg hk2, if_neg hx, if_pos s40]
    rw [key] at hE hO
    have tn := tN_pos q1 (sg_ne s40)
    have tl := tA_le T q1
    have ag := tA_ge T q
    refine m_qOpens (by decide) P1 ⟨c0, hc⟩ (by omega) (by omega) (fun c6 h2 F2 f2 h3 e3 => ?_) (fun c6 h2 P2 f2 h3 e3 => ?_)
    · rw [if_pos (by omega)] at hE
      rw [X1.2] at F2
      rw [e3]
      exact m_AF F2.at (hE _ rfl)
    · rw [if_neg (by omega)] at hE hO
      have X2 := X1.f3 f2
      rw [X2.2, w_id (by omega) (by omega)] at e3
      have f3 : frL h2 h3 := by rw [e3]; exact frL.up (by decide)
      have X3 := lxM.sg X2 f3 k3 (by rw [e3, up_col (by decide)]; exact X2.1.2.2.1) (by rw [e3, up_self]) (by rw [e3, up_col (by decide)]) (by rw [e3, up_col (by decide)])
      have P3 := P2.lex f3 X3
      rw [← e20 20 (by decide)] at P3
      refine sumX (tN T q) cs 20 tn.1 tn.2 (by decide) (by decide) (by omega) c6 (fun e he => hE e (by rw [he]; rfl)) (fun x A cs' hx hA1 hA2 hA3 hA4 hA5 => ?_) h3 P3
      rw [hx, bnd_o] at hE hO
      cases s41 : sgB T x.1 41 with
      | true =>
        rw [if_pos s41] at hO
        refine B_close (Or.inl rfl) hA2 hA5 s41 ?_
        have := hO _ rfl
        simp only [] at this
        rw [hA1, ← List.append_assoc] at this
        rw [if_pos rfl, List.append_nil]
        exact this
      | false =>
        rw [if_neg (by rw [s41]; decide)] at hE
        exact B_bad (Or.inl rfl) hA2 hA5 s41 hA3 hA4 (hE _ rfl)
  · -- min, max
    have hk1 := tX_word (T := T) (q := q) (by omega)
    have hk2 : ¬ tK T q = 2 := by rw [hk1]; decide
    have tn := tN_pos q1 (tX_ne (by omega : 0 ≤ tX T q))
    have key : rdS T (scK kd) (n + 1) false (cnV (W ++ B)) 0 0 q = (if sgB T (tN T q) 40 then (if 6 ≤ cnV (W ++ B) then .error (4, tA T (tN T q)) else bnd (rdS T (scK kd) n true (cnV (W ++ B) + 1) 0 0 (tN T (tN T q))) (fun q2 c1 => if sgB T q2 44 then bnd (rdS T (scK kd) n true (cnV (W ++ B) + 1) 0 0 (tN T q2)) (fun q3 c2 => if sgB T q3 41 then .ok (tN T q3, c1 ++ c2 ++ [if tX T q = 10 then 5 else 6]) else .error (1, tA T q3)) else .error (1, tA T q2))) else .error (1, tA T (tN T q))) := by
      rw [rdS, if_neg hk2, if_pos hx]
    rw [key] at hE hO
    -- behind the word
    have go : ∀ (x4 : Int) (h2 : mf_M), (x4 = 0 ↔ tX T q = 11) → PSm h0 T kd (tN T q) W B (cnV (W ++ B)) cs h2 → ltM T (tN T q) h2 → ((¬ (if tA T (tN T q) < T.2 then tB T (tN T q) else -1) = 40 → BX12_qPartTold_118 C l 5 (KAm C l d K x1) 1 x4 (-1) h2) ∧ ((if tA T (tN T q) < T.2 then tB T (tN T q) else -1) = 40 → BX12_qPartTold_118 C l 5 (KAm C l d K x1) 1 x4 (h2 245 2) h2)) := by
      intro x4 h2 hx4 P2 X2
      have sg := look_sg (T := T) (q := tN T q) (c := 40) (by decide) (by decide) (by decide)
      refine ⟨fun z => ?_, fun z => ?_⟩
      · have s40 : sgB T (tN T q) 40 = false := by
          cases e : sgB T (tN T q) 40 with
          | false => rfl
          | true => exact absurd (sg.mpr e) z
        rw [if_neg (by rw [s40]; decide)] at hE
        refine vX12_qPartTold_118 (by decide) ⟨fun _ => M_asksSign (by decide) (by decide) (by decide) (by decide) P2.lx (fun s => absurd (s40.symm.trans s) (by decide)) (fun _ h3 F3 f3 => m_AF (P2.bad f3 F3 (by decide) (by omega)) (hE _ rfl)), fun y => absurd rfl y⟩
      · have s40 := sg.mp z
        rw [if_pos s40] at hE hO
        have tn2 := tN_pos tn.2 (sg_ne s40)
        have ag2 := tA_ge T (tN T q)
        rw [X2.2]
        have br : ∀ b : Int, (b = 21 ∨ b = 22) → (b = 21 ↔ tX T q = 10) → mM C l 1 YX12_qOpens [(2, 245), (0, b), (0, tA T (tN T q))] h2 (fun r4 h6 => mM C l 2 YX12_asksSign [(2, 245), (0, 40)] h6 (fun r7 h9 => BX12_qPartTold_2 C l 5 (KAm C l d K x1) 1 h9)) := by
          intro b hb hbx
          refine m_qOpens (by decide) P2 ⟨c0, hc⟩ (by omega) (by omega) (fun c6 h3 F3 f3 => ?_) (fun c6 h3 P3 f3 => ?_)
          · rw [if_pos (by omega)] at hE
            exact wX12_asksSign (by decide) ⟨fun _ => m_AF F3 (hE _ rfl), fun y => absurd y F3.2.1⟩
          · rw [if_neg (by omega)] at hE hO
            refine M_asksSign (by decide) (by decide) (by decide) (by decide) P3.lx (fun _ h4 X4 f4 => ?_) (fun s => absurd (s40.symm.trans s) (by decide))
            have P4 := P3.lex f4 X4
            rw [← e20 b (by omega)] at P4
            refine sumX (tN T (tN T q)) cs b (by omega) tn2.2 (by omega) (by omega) (by omega) c6 (fun e he => hE e (by rw [he]; rfl)) (fun x A cs' hx1 hA1 hA2 hA3 hA4 hA5 => ?_) h4 P4
            rw [hx1, bnd_o] at hE hO
            obtain ⟨r1, r2, r3, r4⟩ := rd_len T (scK kd) n true _ 0 0 _ x tn2.2 hx1
            simp only [if_true, h00, List.length_nil] at r4
            refine B_comma hd hb hA2 hA5 hA3 hA4 (fun s44 => ?_) (fun s44 => ?_)
            · rw [if_pos s44] at hE hO
              have tn3 := tN_pos r2 (sg_ne s44)
              have ex : cs ++ cs' ++ A = cs ++ x.2 := by rw [hA1, List.append_assoc]
              rw [ex]
              refine sumX (tN T x.1) (cs ++ x.2) (b + 2) (by omega) tn3.2 (by omega) (by omega) (by rw [List.length_append]; omega) c6 (fun e he => hE e (by rw [he]; rfl)) (fun y A2 cs2 hy hD1 hD2 hD3 hD4 hD5 => ?_)
              rw [hy, bnd_o] at hE hO
              cases s41 : sgB T y.1 41 with
              | true =>
                rw [if_pos s41] at hO
                refine B_close (by omega) hD2 hD5 s41 ?_
                have := hO _ rfl
                simp only [] at this
                rw [hD1] at this
                rw [if_neg (by omega : ¬ b + 2 = 20)]
                have ev : (if b + 2 = 23 then (5 : Int) else 6) = (if tX T q = 10 then 5 else 6) := by
                  by_cases e : tX T q = 10
                  · rw [if_pos e, if_pos (by omega)]
                  · rw [if_neg e, if_neg (fun w => e (hbx.mp (by omega)))]
                rw [ev]
                simp only [List.append_assoc] at this ⊢
                exact this
              | false =>
                rw [if_neg (by rw [s41]; decide)] at hE
                exact B_bad (by omega) hD2 hD5 s41 hD3 hD4 (hE _ rfl)
            · rw [if_neg (by rw [s44]; decide)] at hE
              exact hE _ rfl
        exact vX12_qPartTold_118 (by decide) ⟨fun y => absurd y (by omega), fun _ => ⟨fun y => br 22 (Or.inr rfl) (by omega), fun y => br 21 (Or.inl rfl) (by omega)⟩⟩
    refine vX12_qPartTold_78 (by decide) (M_takes (k := 10) (by decide) (by decide) X1.1 (fun (a10 : tX T q = 10) h2 X2 f2 => ⟨fun _ => m_look X2 (fun h3 X3 f3 => go 1 h3 (by omega) ((P1.lex f2 X2).lt f3 X3) X3), fun z => absurd z (by decide)⟩) (fun (a10 : ¬ tX T q = 10) h2 X2 f2 => ⟨fun z => absurd rfl z, fun _ => M_asks (k := 11) (by decide) (by decide) X2.1 (fun (a11 : tX T q = 11) h3 X3 f3 => m_look X3 (fun h4 X4 f4 => go 0 h4 (by omega) ((P1.lex (f2.tr f3) X3).lt f4 X4) X4)) (fun (a11 : ¬ tX T q = 11) => absurd hx (by omega))⟩))
  · -- whether it meets
    have hk1 := tX_word (T := T) (q := q) (by omega)
    have hk2 : ¬ tK T q = 2 := by rw [hk1]; decide
    have n40 : ¬ sgB T q 40 = true := fun z => by have := (sgB_iff.mp z).1; rw [hk1] at this; exact absurd this (by decide)
    have tn := tN_pos q1 (tX_ne (by omega : 0 ≤ tX T q))
    have key : rdS T (scK kd) (n + 1) false (cnV (W ++ B)) 0 0 q = if 6 ≤ cnV (W ++ B) then .error (4, tA T q) else bnd (rdS T (scK kd) n false (cnV (W ++ B) + 1) 0 0 (tN T q)) (fun q1 c => .ok (q1, c ++ [60])) := by
      rw [rdS, if_neg hk2, if_neg (by omega), if_neg n40, if_pos ⟨by omega, by omega, by rw [x9]; exact s9⟩, if_pos x9]
    rw [key] at hE hO
    refine m_qOpens (by decide) P1 ⟨c0, hc⟩ (by omega) (by omega) (fun c6 h2 F2 f2 => ?_) (fun c6 h2 P2 f2 => ?_)
    · rw [if_pos (by omega)] at hE
      rw [X1.2] at F2
      have one : ∀ x : Int, mM C l 3 YX12_asks [(2, 245), (2, x)] h2 (fun r1 h3 => BX12_qPartTold_2 C l 5 (KAm C l d K x1) 1 h3) := fun x => wX12_asks (by decide) ⟨fun _ => m_AF F2 (hE _ rfl), fun z => absurd z F2.2.1⟩
      exact wX12_qAsksWord (by decide) ⟨fun _ => one _, fun _ => one _, fun _ => one _, fun _ => one _, fun _ => one _, fun _ => one _, fun _ => one _, fun _ => one _, fun _ => one _, fun _ => one _⟩
    · rw [if_neg (by omega)] at hE hO
      have := m_asksWord (C := C) (l := l) (d := 4) (L := fun r16 h18 => BX12_qPartTold_2 C l 5 (KAm C l d K x1) 1 h18) (by decide) P2.lx (by omega) (by omega) (fun h3 X3 f3 => ?_)
      · rw [x9] at this; exact this
      · have P3 := P2.lex f3 X3
        rw [← e20 60 (by decide)] at P3
        refine ihP (tN T q) (60 :: W) cs (by omega) (by omega) tn.2 (by simp only [List.length_cons]; omega) (by rw [e20 60 (by decide)]; omega) (fun e he => hE e ?_) (fun x hx => ?_) h3 P3
        · rw [e20 60 (by decide)] at he
          rw [he]; rfl
        · rw [e20 60 (by decide)] at hx
          have := hO (x.1, x.2 ++ [60]) (by rw [hx]; rfl)
          simp only [] at this
          rw [← List.append_assoc] at this
          exact this
  · -- one part alone
    have fin : ∀ (h2 : mf_M) (cs2 : List Int) (q2 : aQ), PSm h0 T kd q2 W B (cnV (W ++ B)) cs2 h2 → (W.length : Int) + B.length + cs2.length ≤ 1601 → PEm C l d K x1 h0 T kd B q2 W cs2 → mM C l 2 YX12_qEndsPart [(2, 245)] h2 (fun r13 h15 => KAm C l d K x1 0 h15) := fun h2 cs2 q2 P2 l2 E2 => m_qEndsPart (by decide) P2 rfl (by omega) (fun h3 P3 f3 => ⟨fun z => absurd P3.b0 z, fun _ => wX12_qGoesOn (E2 h3 P3)⟩)
    refine vX12_qPartTold_186 (by decide) ⟨fun _ => m_wordOf (by decide) X1.1 P1.ki hkd (by decide) (by decide) (fun a1 a2 a3 h2 X2 f2 => ⟨fun z => absurd z (by omega), fun _ => m_asksWord (by decide) X2.1 (by omega) (by omega) (fun h3 X3 f3 => ?_)⟩) (fun a1 h2 X2 f2 => ⟨fun _ => ?_, fun z => absurd rfl z⟩), fun z => absurd P1.b0 z⟩
    · have hk1 := tX_word (T := T) (q := q) (by omega)
      have hk2 : ¬ tK T q = 2 := by rw [hk1]; decide
      have key : rdS T (scK kd) (n + 1) false (cnV (W ++ B)) 0 0 q = .ok (tN T q, [40 + tX T q]) := by
        rw [rdS, if_neg hk2, if_neg nx, if_neg (by rw [n40]; decide), if_pos ⟨by omega, by omega, a3⟩, if_neg (by omega)]
      have P3 := (P1.lt f2 X2).lex f3 X3
      refine vX12_qPartTold_212 (by decide) ⟨fun z => absurd z (by omega), fun _ => ?_⟩
      rw [w_id (by omega) (by omega)]
      exact m_qCode P3 (by omega) (fun h4 P4 f4 => fin h4 _ _ P4 (by rw [List.length_append]; simp only [List.length_cons, List.length_nil]; omega) (hO _ key))
    · have P2 := P1.lt f2 X2
      refine vX12_qPartTold_212 (by decide) ⟨fun _ => M_number (by decide) X2.1 (fun k2 k4 _ _ h3 X3 _ f3 => ?_) (fun k2 k4 nr => absurd (tV_range k2 k4) nr) (fun no h3 F3 f3 => ?_), fun z => absurd rfl z⟩
      · have key : rdS T (scK kd) (n + 1) false (cnV (W ++ B)) 0 0 q = .ok (tN T q, [1000 + tV T q]) := by
          rw [rdS, if_pos k2, if_neg (by omega)]
        have v := tV_range k2 k4
        rw [w_id (by omega) (by omega)]
        exact m_qCode (P2.lex f3 X3) (by omega) (fun h4 P4 f4 => fin h4 _ _ P4 (by rw [List.length_append]; simp only [List.length_cons, List.length_nil]; omega) (hO _ key))
      · have FM := P2.bad f3 F3 (by decide) (by omega)
        have key : rdS T (scK kd) (n + 1) false (cnV (W ++ B)) 0 0 q = .error (1, if tK T q = 2 then tA T q + 4 else tA T q) := by
          by_cases k2 : tK T q = 2
          · rw [rdS, if_pos k2, if_pos (by omega), if_pos k2]
          · rw [rdS, if_neg k2, if_neg nx, if_neg (by rw [n40]; decide), if_neg (fun z => ?_), if_neg k2]
            by_cases x9 : tX T q = 9
            · exact nof ⟨x9, by rw [← x9]; exact z.2.2⟩
            · exact a1 ⟨z.1, by omega, z.2.2⟩
        have e95 : h3 245 95 = cs.length := by rw [f3.2 95 (by decide) (by decide) (by decide) (by decide) (by decide) (by decide)]; exact P2.cd
        exact m_qCodeF FM (by omega) (fun h4 F4 => m_endsF (by decide) F4 ⟨fun _ => hE _ key h4 F4, fun z => absurd z F4.2.1⟩)
theorem m_sums (hd : 6 ≤ d) (t2 : T.2 ≤ 1600) (hkd : kd = 0 ∨ kd = 1 ∨ kd = 2 ∨ kd = 3) (hB : tpO B) : ∀ n, partM C l d K x1 h0 T kd B n ∧ sumM C l d K x1 h0 T kd B n
  | 0 => ⟨fun q W cs hf q0 q1 => absurd hf (by omega), fun q W cs p s hf q0 q1 => absurd hf (by omega)⟩
  | n + 1 => ⟨m_partL hd t2 hkd n (m_sums hd t2 hkd hB n).1 (m_sums hd t2 hkd hB n).2, m_sumL hd t2 hB n (m_sums hd t2 hkd hB n).1 (m_sums hd t2 hkd hB n).2⟩
theorem M_qSums {q : aQ} {cs : List Int} {W0 : List Int} {h : mf_M} (hd : 6 ≤ d) (t2 : T.2 ≤ 1600) (hkd : kd = 0 ∨ kd = 1 ∨ kd = 2 ∨ kd = 3) (hB : tpO (W0 ++ B)) (P : PSm h0 T kd q W0 B (cnV (W0 ++ B)) cs h) (hl : (W0.length : Int) + B.length + cs.length ≤ q.1) (hc : cnV (W0 ++ B) ≤ 6) (hE : ∀ e, rdS T (scK kd) 4000 true (cnV (W0 ++ B)) 0 0 q = .error e → ∀ h', FMm h0 e h' → K 0 h') (hO : ∀ x, rdS T (scK kd) 4000 true (cnV (W0 ++ B)) 0 0 q = .ok x → ∀ h', PSm h0 T kd x.1 W0 B (cnV (W0 ++ B)) (cs ++ x.2) h' → K 0 h') : mM C l d YX12_qSums [(2, 245)] h K := by
  have q0 := P.lx.2.1
  have h00 : (lsS 0) = [] := rfl
  have e97 := P.wn
  refine wX12_qSums (fun v1 e1 h2 e2 => ?_)
  rw [P.bs] at e1
  have f2 : fr3 h h2 := by rw [e2]; exact fr3.up (by decide)
  have c2 : ∀ k, k ≠ 99 → h2 245 k = h 245 k := fun k hk => by rw [e2, up_col hk]
  have r2 : ∀ a, a ≠ 245 → h2 a = h a := fun a ha => by rw [e2, up_row ha]
  have P2 : PSm h0 T kd q [] (W0 ++ B) (cnV ([] ++ (W0 ++ B))) cs h2 := by
    refine ⟨P.fr.tr f2.Q, P.lx.f3 f2, ⟨by rw [c2 95 (by decide)]; exact P.cd, by rw [r2 315 (by decide)]; exact P.cj⟩, ?_, by rw [e2, up_self, e97, List.length_append]; omega, by rw [c2 98 (by decide)]; exact P.op, by rw [c2 55 (by decide)]; exact P.ki⟩
    rw [c2 97 (by decide)]
    exact P.wt.keep (fun i _ _ => by rw [r2 316 (by decide)])
  have := (m_sums (C := C) (l := l) (d := d) (K := K) (x1 := v1) (h0 := h0) (T := T) (kd := kd) (B := W0 ++ B) hd t2 hkd hB 4000).2 q [] cs 0 0 (by omega) q0.1 q0.2 (Or.inl rfl) (Or.inl rfl) (Or.inl rfl) (by rw [h00]; simp only [List.nil_append, List.length_nil, List.length_append]; omega) hc (fun e he => m_sumF hd (hE e he)) (fun x A cs' hx hA1 hA2 hA3 hA4 => ?_)
  · rw [h00] at this
    exact m_sum1 hd this P2
  · obtain ⟨r1, r2', r3, r4⟩ := rd_len T (scK kd) 4000 true _ 0 0 q x q0.2 hx
    simp only [if_true, h00, List.length_nil] at r4
    rw [List.append_nil]
    have l4 := r4
    rw [hA1, List.length_append] at l4
    refine B_end hd hA2 (by simp only [List.length_append]; omega) hA3 hA4 (fun h3 h4 P3 e4 => hO x hx h4 ?_)
    have f4 : fr3 h3 h4 := by rw [e4]; exact fr3.up (by decide)
    have c4 : ∀ k, k ≠ 99 → h4 245 k = h3 245 k := fun k hk => by rw [e4, up_col hk]
    have r4' : ∀ a, a ≠ 245 → h4 a = h3 a := fun a ha => by rw [e4, up_row ha]
    rw [hA1, ← List.append_assoc]
    refine ⟨P3.fr.tr f4.Q, P3.lx.f3 f4, ⟨by rw [c4 95 (by decide)]; exact P3.cd, by rw [r4' 315 (by decide)]; exact P3.cj⟩, ?_, by rw [e4, up_self, e1], by rw [c4 98 (by decide)]; exact P3.op, by rw [c4 55 (by decide)]; exact P3.ki⟩
    rw [c4 97 (by decide)]
    have w := P3.wt
    rw [List.nil_append] at w
    exact w.keep (fun i _ _ => by rw [r4' 316 (by decide)])
end SpSm
