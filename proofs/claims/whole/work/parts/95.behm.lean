/-! behind a part, in the reference -/
abbrev KBm (C : mf_G) (l : Launch) (d : Nat) (K : Int → mf_M → Prop) (x1 : Int) : Int → mf_M → Prop := fun r4 h6 => ((r4 = 0 → BX12_qSums_15 C l d K x1 0 h6) ∧ (¬ r4 = 0 → BX12_qSums_15 C l d K x1 1 h6))
abbrev KAm (C : mf_G) (l : Launch) (d : Nat) (K : Int → mf_M → Prop) (x1 : Int) : Int → mf_M → Prop := fun _ h3 => ((¬ h3 245 5 = 0 → BX12_qSums_15 C l d K x1 0 h3) ∧ (h3 245 5 = 0 → mM C l 3 YX12_qGoesOn [(2, 245)] h3 (fun r4 h6 => ((r4 = 0 → BX12_qSums_15 C l d K x1 0 h6) ∧ (¬ r4 = 0 → BX12_qSums_15 C l d K x1 1 h6)))))
def PAm (C : mf_G) (l : Launch) (d : Nat) (K : Int → mf_M → Prop) (x1 : Int) (h0 : mf_M) (T : aT) (kd : Int) (B : List Int) (q : aQ) (W cs : List Int) : Prop := ∀ h, PSm h0 T kd q W B (cnV (W ++ B)) cs h → BX12_qPartTold_2 C l 5 (KAm C l d K x1) 1 h
def PBm (C : mf_G) (l : Launch) (d : Nat) (K : Int → mf_M → Prop) (x1 : Int) (h0 : mf_M) (T : aT) (kd : Int) (B : List Int) (q : aQ) (W cs : List Int) : Prop := ∀ h, PSm h0 T kd q W B (cnV (W ++ B)) cs h → BX12_qGoesOn_0 C l 3 (KBm C l d K x1) h
def PFm (C : mf_G) (l : Launch) (d : Nat) (K : Int → mf_M → Prop) (x1 : Int) (h0 : mf_M) (e : Int × Int) : Prop := ∀ h, FMm h0 e h → BX12_qSums_15 C l d K x1 0 h
def PEm (C : mf_G) (l : Launch) (d : Nat) (K : Int → mf_M → Prop) (x1 : Int) (h0 : mf_M) (T : aT) (kd : Int) (B : List Int) (q : aQ) (W cs : List Int) : Prop := PBm C l d K x1 h0 T kd B q (stp W cs).1 (stp W cs).2
def tpO (V : List Int) : Prop := ∀ x, V.head? = some x → ¬ (1 ≤ x ∧ x ≤ 4)
theorem brk_app : ∀ (A R : List Int), (∀ x ∈ A, ¬ (20 ≤ x ∧ x ≤ 24)) → brk (A ++ R) = brk R
  | [], R, _ => rfl
  | x :: A, R, h => by
    show (if 20 ≤ x ∧ x ≤ 24 then x else brk (A ++ R)) = _
    rw [if_neg (h x List.mem_cons_self)]
    exact brk_app A R (fun y hy => h y (List.mem_cons_of_mem _ hy))
theorem brk_cons {x : Int} {R : List Int} (h : 20 ≤ x ∧ x ≤ 24) : brk (x :: R) = x := by
  show (if 20 ≤ x ∧ x ≤ 24 then x else brk R) = x
  rw [if_pos h]
theorem FMm.f3 {h0 h h' : mf_M} {e : Int × Int} (F : FMm h0 e h) (f : fr3 h h') (e95 : h' 245 95 = h 245 95) : FMm h0 e h' := by
  have e5 := f.2 5 (by decide) (by decide) (by decide) (by decide)
  have e6 := f.2 6 (by decide) (by decide) (by decide) (by decide)
  exact ⟨⟨by rw [e5]; exact F.1.1, by rw [e6]; exact F.1.2⟩, by rw [e5]; exact F.2.1, F.2.2.1.tr f.Q, by rw [e95]; exact F.2.2.2.1, by rw [e95]; exact F.2.2.2.2⟩
section SpBe
variable {C : mf_G} {l : Launch} {d : Nat} {K : Int → mf_M → Prop} {x1 : Int} {h0 : mf_M} {T : aT} {kd : Int} {B : List Int} {q : aQ} {W cs : List Int}
theorem m_sumF {e : Int × Int} (hd : 6 ≤ d) (hK : ∀ h', FMm h0 e h' → K 0 h') : PFm C l d K x1 h0 e := by
  intro h F
  refine vX12_qSums_15 hd ⟨fun _ => vX12_qSums_53 (by omega) ⟨fun _ h1 e1 => hK h1 (F.f3 (by rw [e1]; exact fr3.up (by decide)) (by rw [e1, up_col (by decide)])), fun z => absurd z F.2.1⟩, fun z => absurd rfl z⟩
theorem m_sum1 (hd : 6 ≤ d) (A : PAm C l d K x1 h0 T kd B q W cs) {h : mf_M} (P : PSm h0 T kd q W B (cnV (W ++ B)) cs h) : BX12_qSums_15 C l d K x1 1 h :=
  vX12_qSums_15 hd ⟨fun z => absurd z (by decide), fun _ => ⟨fun z => absurd P.b0 z, fun _ => wX12_qPartTold (A h P)⟩⟩
/-- nothing but signs of its own goes on -/
theorem no41 {c : Int} (h : sgB T q c = true) (hc : c ≠ 41) : ¬ (if tA T q < T.2 then tB T q else -1) = 41 := by
  intro z
  have := (look_sg (T := T) (q := q) (c := 41) (by decide) (by decide) (by decide)).mp z
  exact hc ((sgB_iff.mp h).2.symm.trans (sgB_iff.mp this).2)
theorem m_top {x : Int} {c : Int} {h h' : mf_M} (P : PSm h0 T kd q W B c cs h) (hl : W.length + B.length < 1690) (e12 : ∃ h12, h12 = mf_up h 316 (h 245 97) x ∧ h' = mf_up h12 245 97 (mf_w32 (h12 245 97 + 1))) : PSm h0 T kd q (x :: W) B c cs h' := by
  obtain ⟨h12, e1, e2⟩ := e12
  have e97 := P.wn
  rw [e1, up_row (by decide), e97, w_id (by omega) (by omega)] at e2
  rw [e97] at e1
  have f1 : fr3 h (mf_up h 316 (W.length + B.length) x) := fr3.up316 _ _ _
  have f2 : fr3 h h' := by rw [e2]; exact f1.tr (fr3.up (by decide))
  have c2 : ∀ k, k ≠ 97 → h' 245 k = h 245 k := fun k hk => by rw [e2, up_col hk, up_row (by decide)]
  refine ⟨P.fr.tr f2.Q, P.lx.f3 f2, ⟨by rw [c2 95 (by decide)]; exact P.cd, ?_⟩, ?_, by rw [c2 99 (by decide)]; exact P.bs, by rw [c2 98 (by decide)]; exact P.op, by rw [c2 55 (by decide)]; exact P.ki⟩
  · rw [e2, up_row (by decide), up_row (by decide)]; exact P.cj
  · rw [e2, up_self]
    refine ⟨?_, by omega, ?_⟩
    · rw [up_row (by decide), show (W.length : Int) + B.length + 1 - 1 = W.length + B.length by omega, up_self]
    · rw [show (W.length : Int) + B.length + 1 - 1 = W.length + B.length by omega]
      have w := P.wt
      rw [e97] at w
      exact w.keep (fun i _ hi => by rw [up_row (by decide), up_col (by omega)])
theorem m_162 {x c : Int} {L : Int → mf_M → Prop} (hd : 2 ≤ d) (hx : ∀ y, (W ++ B).head? = some y → ¬ (y = 3 ∨ y = 4)) : ∀ (A cs : List Int) (h : mf_M), (∀ y ∈ A, y = 3 ∨ y = 4) → PSm h0 T kd q (A ++ W) B c cs h → A.length + W.length + B.length + cs.length ≤ 1680 → (∀ h', PSm h0 T kd q (x :: W) B c (cs ++ A) h' → L 1 h') → BX12_qGoesOn_162 C l d L x h
  | [], cs, h, hA, P, hl, hK => by
    have w := P.wt
    have e97 := P.wn
    simp only [List.nil_append, List.length_nil] at w e97 hl
    refine vX12_qGoesOn_162 hd (m_qIsOn w (by rw [List.length_append]; omega) (fun z => absurd (Or.inl rfl) (hx 3 z)) (fun _ => ⟨fun z => absurd rfl z, fun _ => m_qIsOn w (by rw [List.length_append]; omega) (fun z => absurd (Or.inr rfl) (hx 4 z)) (fun _ => ⟨fun _ => ⟨by omega, by omega, fun h12 e12 h13 e13 => hK h13 ?_⟩, fun z => absurd rfl z⟩)⟩))
    rw [List.append_nil]
    exact m_top P (by omega) ⟨h12, e12, e13⟩
  | y :: A, cs, h, hA, P, hl, hK => by
    have w := P.wt
    have hy := hA y List.mem_cons_self
    simp only [List.cons_append, List.length_cons] at w hl
    have dr : mM C l 1 YX12_qDrops [(2, 245)] h (fun r4 h6 => BX12_qGoesOn_162 C l d L x h6) := m_qDrops (W := A ++ W) (by decide) P (by simp only [List.length_append]; omega) (fun h2 P2 f2 => m_162 hd hx A (cs ++ [y]) h2 (fun z hz => hA z (List.mem_cons_of_mem _ hz)) P2 (by simp only [List.length_append, List.length_cons, List.length_nil]; omega) (fun h3 P3 => hK h3 (by rw [List.append_assoc] at P3; exact P3)))
    refine vX12_qGoesOn_162 hd (m_qIsOn w (by simp only [List.length_cons, List.length_append]; omega) (fun _ => ⟨fun _ => dr, fun z => absurd z (by decide)⟩) (fun n3 => ⟨fun z => absurd rfl z, fun _ => m_qIsOn w (by simp only [List.length_cons, List.length_append]; omega) (fun _ => ⟨fun z => absurd z (by decide), fun _ => dr⟩) (fun n4 => ?_)⟩))
    simp only [List.head?_cons, Option.some.injEq] at n3 n4
    omega
theorem m_247 {x c : Int} {L : Int → mf_M → Prop} (hd : 2 ≤ d) (hx : tpO (W ++ B)) : ∀ (A cs : List Int) (h : mf_M), (∀ y ∈ A, 1 ≤ y ∧ y ≤ 4) → PSm h0 T kd q (A ++ W) B c cs h → A.length + W.length + B.length + cs.length ≤ 1680 → (∀ h', PSm h0 T kd q (x :: W) B c (cs ++ A) h' → L 1 h') → BX12_qGoesOn_247 C l d L x h
  | [], cs, h, hA, P, hl, hK => by
    have w := P.wt
    have e97 := P.wn
    simp only [List.nil_append, List.length_nil] at w e97 hl
    have lw : (W ++ B).length ≤ 1700 := by rw [List.length_append]; omega
    refine vX12_qGoesOn_247 hd (m_qIsOn w lw (fun z => absurd (by decide) (hx 3 z)) (fun _ => ⟨fun z => absurd rfl z, fun _ => m_qIsOn w lw (fun z => absurd (by decide) (hx 4 z)) (fun _ => ⟨fun z => absurd rfl z, fun _ => m_qIsOn w lw (fun z => absurd (by decide) (hx 1 z)) (fun _ => ⟨fun z => absurd rfl z, fun _ => m_qIsOn w lw (fun z => absurd (by decide) (hx 2 z)) (fun _ => ⟨fun _ => ⟨by omega, by omega, fun h12 e12 h13 e13 => hK h13 ?_⟩, fun z => absurd rfl z⟩)⟩)⟩)⟩))
    rw [List.append_nil]
    exact m_top P (by omega) ⟨h12, e12, e13⟩
  | y :: A, cs, h, hA, P, hl, hK => by
    have w := P.wt
    have hy := hA y List.mem_cons_self
    simp only [List.cons_append, List.length_cons] at w hl
    have lw : (y :: (A ++ W ++ B)).length ≤ 1700 := by simp only [List.length_cons, List.length_append]; omega
    have dr : mM C l 1 YX12_qDrops [(2, 245)] h (fun r4 h6 => BX12_qGoesOn_247 C l d L x h6) := m_qDrops (W := A ++ W) (by decide) P (by simp only [List.length_append]; omega) (fun h2 P2 f2 => m_247 hd hx A (cs ++ [y]) h2 (fun z hz => hA z (List.mem_cons_of_mem _ hz)) P2 (by simp only [List.length_append, List.length_cons, List.length_nil]; omega) (fun h3 P3 => hK h3 (by rw [List.append_assoc] at P3; exact P3)))
    refine vX12_qGoesOn_247 hd (m_qIsOn w lw (fun _ => ⟨fun _ => dr, fun z => absurd z (by decide)⟩) (fun n3 => ⟨fun z => absurd rfl z, fun _ => m_qIsOn w lw (fun _ => ⟨fun _ => dr, fun z => absurd z (by decide)⟩) (fun n4 => ⟨fun z => absurd rfl z, fun _ => m_qIsOn w lw (fun _ => ⟨fun _ => dr, fun z => absurd z (by decide)⟩) (fun n1 => ⟨fun z => absurd rfl z, fun _ => m_qIsOn w lw (fun _ => ⟨fun z => absurd z (by decide), fun _ => dr⟩) (fun n2 => ?_)⟩)⟩)⟩))
    simp only [List.head?_cons, Option.some.injEq] at n3 n4 n1 n2
    omega
theorem ls_mem {x : Int} {P : Int → Prop} (h : x ≠ 0 → P x) : ∀ y ∈ lsS x, P y := by
  intro y hy
  unfold lsS at hy
  split at hy
  · exact absurd hy (by simp)
  · next hz => have : y = x := by simpa using hy
               rw [this]; exact h hz
/-- a product goes on -/
theorem B_prod {p s : Int} (hd : 6 ≤ d) (hp : p = 0 ∨ p = 3 ∨ p = 4) (hs : s = 0 ∨ s = 1 ∨ s = 2) (hW : tpO (W ++ B)) (hl : (lsS p ++ lsS s ++ W).length + B.length + cs.length ≤ 1680) (hpr : prdS T q ≠ 0) (A : PAm C l d K x1 h0 T kd B (tN T q) (prdS T q :: (lsS s ++ W)) (cs ++ lsS p)) : PBm C l d K x1 h0 T kd B q (lsS p ++ lsS s ++ W) cs := by
  intro h P
  have pr := prd_range T q
  have ec : cnV ((lsS p ++ lsS s ++ W) ++ B) = cnV ((prdS T q :: (lsS s ++ W)) ++ B) := by
    have e1 : cnV ((lsS p ++ lsS s ++ W) ++ B) = cnV (W ++ B) := by
      rw [List.append_assoc (lsS p ++ lsS s)]
      exact cnV_ops _ _ (fun y hy => by
        rcases List.mem_append.mp hy with z | z
        · exact ls_mem (P := fun y => y ≠ 12 ∧ y < 20) (fun _ => by omega) y z
        · exact ls_mem (P := fun y => y ≠ 12 ∧ y < 20) (fun _ => by omega) y z)
    have e2 : cnV ((prdS T q :: (lsS s ++ W)) ++ B) = cnV (W ++ B) := by
      have := cnV_ops (prdS T q :: lsS s) (W ++ B) (fun y hy => by
        rcases List.mem_cons.mp hy with z | z
        · omega
        · exact ls_mem (P := fun y => y ≠ 12 ∧ y < 20) (fun _ => by omega) y z)
      rw [← List.append_assoc] at this
      exact this
    rw [e1, e2]
  have hsg : sgB T q 42 = true ∨ (sgB T q 42 = false ∧ sgB T q 47 = true) := by
    unfold prdS at hpr
    cases e : sgB T q 42 with
    | true => exact Or.inl rfl
    | false =>
      rw [e] at hpr
      cases e2 : sgB T q 47 with
      | true => exact Or.inr ⟨rfl, rfl⟩
      | false => rw [e2] at hpr; exact absurd rfl hpr
  have k3 : tK T q = 3 := by rcases hsg with z | z; exact (sgB_iff.mp z).1; exact (sgB_iff.mp z.2).1
  have n41 : ¬ (if tA T q < T.2 then tB T q else -1) = 41 := by rcases hsg with z | z; exact no41 z (by decide); exact no41 z.2 (by decide)
  -- behind the sign
  have go : ∀ h1, lxM T (tN T q) h1 → h1 245 2 = tA T q + 1 → frL h h1 → BX12_qGoesOn_140 C l 3 (KBm C l d K x1) h1 := by
    intro h1 X1 a1 f1
    have t1 := X1.1
    have t2 := t1.1
    have q1 := P.lx.2.1
    have hlt := (tK_sign.mp k3).1
    have ag := tA_ge T q
    have e246 : h1 246 (tA T q) = tB T q := t1.2.2.2.1 _ (by omega) hlt
    refine vX12_qGoesOn_140 ?_
    rw [a1, w_id (by omega) (by omega), show tA T q + 1 - 1 = tA T q by omega, e246]
    have P1 := P.lex f1 X1
    have fin : BX12_qGoesOn_162 C l 3 (KBm C l d K x1) (prdS T q) h1 := by
      rw [List.append_assoc] at P1
      rw [List.append_assoc, List.length_append] at hl
      refine m_162 (W := lsS s ++ W) (by decide) (fun y hy => ?_) (lsS p) cs h1 (ls_mem (fun z => by omega)) P1 hl (fun h2 P2 => ⟨fun z => absurd z (by decide), fun _ => m_sum1 hd A ?_⟩)
      · by_cases e : s = 0
        · rw [e] at hy
          intro z
          exact hW y hy (by omega)
        · have : y = s := by
            unfold lsS at hy
            rw [if_neg e] at hy
            simpa using hy.symm
          omega
      · rw [← List.append_assoc, ec] at P2; exact P2
    refine ⟨by omega, by omega, fun z => ?_, fun z => ?_⟩
    · have : prdS T q = 4 := by
        rcases hsg with y | y
        · exact absurd (sgB_iff.mp y).2 z
        · unfold prdS; rw [y.1, y.2]; rfl
      rw [this] at fin; exact fin
    · have : prdS T q = 3 := by
        have s42 : sgB T q 42 = true := sgB_iff.mpr ⟨k3, z⟩
        unfold prdS; rw [s42]; rfl
      rw [this] at fin; exact fin
  refine vX12_qGoesOn_0 (by decide) ⟨fun z => absurd P.b0 z, fun _ => m_look P.lx (fun h1 X1 f1 => ⟨fun _ => ?_, fun z => absurd z n41⟩)⟩
  refine vX12_qGoesOn_122 (by decide) (M_takesSign (by decide) (by decide) (by decide) (by decide) X1.1 (fun s42 h2 X2 a2 f2 => ⟨fun _ => go h2 X2 a2 (f1.tr f2), fun z => absurd z (by decide)⟩) (fun s42 h2 X2 f2 => ⟨fun z => absurd rfl z, fun _ => M_takesSign (by decide) (by decide) (by decide) (by decide) X2.1 (fun s47 h3 X3 a3 f3 => ⟨fun z => absurd z (by decide), fun _ => go h3 X3 a3 ((f1.tr f2).tr f3)⟩) (fun s47 h3 X3 f3 => ?_)⟩))
  rcases hsg with z | z
  · rw [s42] at z; exact absurd z (by decide)
  · rw [s47] at z; exact absurd z.2 (by decide)
/-- a sum goes on -/
theorem B_sum {p s : Int} (hd : 6 ≤ d) (hp : p = 0 ∨ p = 3 ∨ p = 4) (hs : s = 0 ∨ s = 1 ∨ s = 2) (hW : tpO (W ++ B)) (hl : (lsS p ++ lsS s ++ W).length + B.length + cs.length ≤ 1680) (hpr : prdS T q = 0) (hsm : smS T q ≠ 0) (A : PAm C l d K x1 h0 T kd B (tN T q) (smS T q :: W) (cs ++ lsS p ++ lsS s)) : PBm C l d K x1 h0 T kd B q (lsS p ++ lsS s ++ W) cs := by
  intro h P
  have pr := sm_range T q
  have mem : ∀ y ∈ lsS p ++ lsS s, 1 ≤ y ∧ y ≤ 4 := fun y hy => by
    rcases List.mem_append.mp hy with z | z
    · exact ls_mem (P := fun y => 1 ≤ y ∧ y ≤ 4) (fun _ => by omega) y z
    · exact ls_mem (P := fun y => 1 ≤ y ∧ y ≤ 4) (fun _ => by omega) y z
  have ec : cnV ((lsS p ++ lsS s ++ W) ++ B) = cnV ((smS T q :: W) ++ B) := by
    have e1 : cnV ((lsS p ++ lsS s ++ W) ++ B) = cnV (W ++ B) := by
      rw [List.append_assoc (lsS p ++ lsS s)]
      exact cnV_ops _ _ (fun y hy => by have := mem y hy; omega)
    have e2 : cnV ((smS T q :: W) ++ B) = cnV (W ++ B) := cnV_ops [smS T q] (W ++ B) (fun y hy => by
      have : y = smS T q := by simpa using hy
      omega)
    rw [e1, e2]
  have hsg : sgB T q 43 = true ∨ (sgB T q 43 = false ∧ sgB T q 45 = true) := by
    unfold smS at hsm
    cases e : sgB T q 43 with
    | true => exact Or.inl rfl
    | false =>
      rw [e] at hsm
      cases e2 : sgB T q 45 with
      | true => exact Or.inr ⟨rfl, rfl⟩
      | false => rw [e2] at hsm; exact absurd rfl hsm
  have k3 : tK T q = 3 := by rcases hsg with z | z; exact (sgB_iff.mp z).1; exact (sgB_iff.mp z.2).1
  have n41 : ¬ (if tA T q < T.2 then tB T q else -1) = 41 := by rcases hsg with z | z; exact no41 z (by decide); exact no41 z.2 (by decide)
  have go : ∀ h1, lxM T (tN T q) h1 → h1 245 2 = tA T q + 1 → frL h h1 → BX12_qGoesOn_225 C l 3 (KBm C l d K x1) h1 := by
    intro h1 X1 a1 f1
    have t1 := X1.1
    have t2 := t1.1
    have q1 := P.lx.2.1
    have hlt := (tK_sign.mp k3).1
    have ag := tA_ge T q
    have e246 : h1 246 (tA T q) = tB T q := t1.2.2.2.1 _ (by omega) hlt
    refine vX12_qGoesOn_225 ?_
    rw [a1, w_id (by omega) (by omega), show tA T q + 1 - 1 = tA T q by omega, e246]
    have P1 := P.lex f1 X1
    have fin : BX12_qGoesOn_247 C l 3 (KBm C l d K x1) (smS T q) h1 := by
      rw [List.length_append] at hl
      refine m_247 (W := W) (by decide) hW (lsS p ++ lsS s) cs h1 mem P1 hl (fun h2 P2 => ⟨fun z => absurd z (by decide), fun _ => m_sum1 hd A ?_⟩)
      rw [← List.append_assoc, ec] at P2; exact P2
    refine ⟨by omega, by omega, fun z => ?_, fun z => ?_⟩
    · have : smS T q = 2 := by
        rcases hsg with y | y
        · exact absurd (sgB_iff.mp y).2 z
        · unfold smS; rw [y.1, y.2]; rfl
      rw [this] at fin; exact fin
    · have : smS T q = 1 := by
        have s42 : sgB T q 43 = true := sgB_iff.mpr ⟨k3, z⟩
        unfold smS; rw [s42]; rfl
      rw [this] at fin; exact fin
  have n42 : sgB T q 42 = false ∧ sgB T q 47 = false := by
    unfold prdS at hpr
    cases e : sgB T q 42 with
    | true => rw [e] at hpr; simp at hpr
    | false =>
      cases e2 : sgB T q 47 with
      | true => rw [e, e2] at hpr; exact absurd hpr (by decide)
      | false => exact ⟨rfl, rfl⟩
  refine vX12_qGoesOn_0 (by decide) ⟨fun z => absurd P.b0 z, fun _ => m_look P.lx (fun h1 X1 f1 => ⟨fun _ => ?_, fun z => absurd z n41⟩)⟩
  refine vX12_qGoesOn_122 (by decide) (M_takesSign (by decide) (by decide) (by decide) (by decide) X1.1 (fun s42 => absurd (n42.1.symm.trans s42) (by decide)) (fun s42 h2 X2 f2 => ⟨fun z => absurd rfl z, fun _ => M_takesSign (by decide) (by decide) (by decide) (by decide) X2.1 (fun s47 => absurd (n42.2.symm.trans s47) (by decide)) (fun s47 h3 X3 f3 => ⟨fun _ => M_takesSign (by decide) (by decide) (by decide) (by decide) X3.1 (fun s43 h4 X4 a4 f4 => ⟨fun _ => go h4 X4 a4 (((f1.tr f2).tr f3).tr f4), fun z => absurd z (by decide)⟩) (fun s43 h4 X4 f4 => ⟨fun z => absurd rfl z, fun _ => M_takesSign (by decide) (by decide) (by decide) (by decide) X4.1 (fun s45 h5 X5 a5 f5 => ⟨fun z => absurd z (by decide), fun _ => go h5 X5 a5 ((((f1.tr f2).tr f3).tr f4).tr f5)⟩) (fun s45 h5 X5 f5 => ?_)⟩), fun z => absurd rfl z⟩)⟩))
  rcases hsg with z | z
  · rw [s43] at z; exact absurd z (by decide)
  · rw [s45] at z; exact absurd z.2 (by decide)
/-- no sign of a product or of a sum: what is open then -/
theorem m_noOp {h : mf_M} {L : Int → mf_M → Prop} (hpr : prdS T q = 0) (hsm : smS T q = 0) {c : Int} (P : PSm h0 T kd q W B c cs h) (hl : W.length + B.length ≤ 1700) (hcs : cs.length ≤ 1690) (h21 : (brk W = 21 ∨ brk W = 22) → ∀ h', PSm h0 T kd q W B c cs h' → ltM T q h' → BX12_qGoesOn_326 C l 3 L h') (hno : brk W = -1 → ∀ h', PSm h0 T kd q W B c cs h' → L 0 h') (hbr : ¬ brk W = -1 → ¬ (brk W = 21 ∨ brk W = 22) → ∀ h', FMm h0 (1, tA T q) h' → L 0 h') : BX12_qGoesOn_122 C l 3 L h := by
  have n42 : sgB T q 42 = false ∧ sgB T q 47 = false := by
    unfold prdS at hpr
    cases e : sgB T q 42 with
    | true => rw [e] at hpr; simp at hpr
    | false =>
      cases e2 : sgB T q 47 with
      | true => rw [e, e2] at hpr; exact absurd hpr (by decide)
      | false => exact ⟨rfl, rfl⟩
  have n43 : sgB T q 43 = false ∧ sgB T q 45 = false := by
    unfold smS at hsm
    cases e : sgB T q 43 with
    | true => rw [e] at hsm; simp at hsm
    | false =>
      cases e2 : sgB T q 45 with
      | true => rw [e, e2] at hsm; exact absurd hsm (by decide)
      | false => exact ⟨rfl, rfl⟩
  refine vX12_qGoesOn_122 (by decide) (M_takesSign (by decide) (by decide) (by decide) (by decide) P.lx (fun s42 => absurd (n42.1.symm.trans s42) (by decide)) (fun s42 h2 X2 f2 => ⟨fun z => absurd rfl z, fun _ => M_takesSign (by decide) (by decide) (by decide) (by decide) X2.1 (fun s47 => absurd (n42.2.symm.trans s47) (by decide)) (fun s47 h3 X3 f3 => ⟨fun _ => M_takesSign (by decide) (by decide) (by decide) (by decide) X3.1 (fun s43 => absurd (n43.1.symm.trans s43) (by decide)) (fun s43 h4 X4 f4 => ⟨fun z => absurd rfl z, fun _ => M_takesSign (by decide) (by decide) (by decide) (by decide) X4.1 (fun s45 => absurd (n43.2.symm.trans s45) (by decide)) (fun s45 h5 X5 f5 => ?_)⟩), fun z => absurd rfl z⟩)⟩))
  have f := ((f2.tr f3).tr f4).tr f5
  have P5 := P.lt f X5
  refine ⟨fun _ => m_qBracket (by decide) P5 hl ⟨fun z => h21 (Or.inl z) h5 P5 X5, fun z => m_qBracket (by decide) P5 hl ⟨fun y => m_qBracket (by decide) P5 hl ⟨fun w => hno w h5 P5, fun w => ⟨fun v => absurd P5.b0 v, fun _ => m_fail P5.b0 (fun h6 F6 f6 => hbr w (fun v => v.elim z y) h6 (P5.bad f6 ?_ (by decide) hcs))⟩⟩, fun y => h21 (Or.inr y) h5 P5 X5⟩⟩, fun z => absurd rfl z⟩
  rw [X5.2] at F6; exact F6
/-- a bracket closes -/
theorem B_close {A : List Int} {br : Int} (hbr : br = 20 ∨ br = 23 ∨ br = 24) (hA : ∀ x ∈ A, 1 ≤ x ∧ x ≤ 4) (hl : A.length + W.length + B.length + cs.length ≤ 1680) (s41 : sgB T q 41 = true) (E : PEm C l d K x1 h0 T kd B (tN T q) W (cs ++ A ++ (if br = 20 then [] else [if br = 23 then 5 else 6]))) : PBm C l d K x1 h0 T kd B q (A ++ br :: W) cs := by
  intro h P
  have hb : 20 ≤ br ∧ br ≤ 24 := by omega
  have hA2 : ∀ x ∈ A, ¬ (20 ≤ x ∧ x ≤ 24) := fun x hx => by have := hA x hx; omega
  have ebr : brk (A ++ br :: W) = br := by rw [brk_app _ _ hA2, brk_cons hb]
  have ec : cnV ((A ++ br :: W) ++ B) = cnV (W ++ B) + 1 := by
    rw [List.append_assoc, cnV_ops A _ (fun y hy => by have := hA y hy; omega)]
    show (if br = 12 ∨ 20 ≤ br then 1 else 0) + cnV (W ++ B) = _
    rw [if_pos (Or.inr hb.1)]; omega
  have cg := cnV_ge (W ++ B)
  have cb : cnV (W ++ B) ≤ 2000 := by
    have key : ∀ V : List Int, cnV V ≤ V.length := by
      intro V
      induction V with
      | nil => exact Int.le_refl _
      | cons y V iv =>
        show (if y = 12 ∨ 20 ≤ y then 1 else 0) + cnV V ≤ _
        simp only [List.length_cons]
        split <;> omega
    have := key (W ++ B)
    rw [List.length_append] at this
    omega
  have e41 := (look_sg (T := T) (q := q) (c := 41) (by decide) (by decide) (by decide)).mpr s41
  have k3 := (sgB_iff.mp s41).1
  have lw : (A ++ br :: W).length + B.length ≤ 1700 := by simp only [List.length_append, List.length_cons]; omega
  have go : ∀ h1, PSm h0 T kd q (A ++ br :: W) B (cnV ((A ++ br :: W) ++ B)) cs h1 → ltM T q h1 → BX12_qGoesOn_43 C l 3 (KBm C l d K x1) h1 := by
    intro h1 P1 X1
    have q1 := X1.1.2.1
    have t1 := X1.1.1.1
    have tl := tA_le T q1.2
    have ag := tA_ge T q
    refine vX12_qGoesOn_43 (by decide) (fun h2 e2 => ?_)
    rw [X1.2, w_id (by omega) (by omega)] at e2
    have f2 : frL h1 h2 := by rw [e2]; exact frL.up (by decide)
    have X2 := lxM.sg X1 f2 k3 (by rw [e2, up_col (by decide)]; exact X1.1.2.2.1) (by rw [e2, up_self]) (by rw [e2, up_col (by decide)]) (by rw [e2, up_col (by decide)])
    have P2 := P1.lex f2 X2
    refine m_qDropsTo (R := br :: W) (A := A) (by decide) (Or.inr ⟨br, W, rfl, hb⟩) hA2 P2 (by simp only [List.length_cons]; omega) (fun h4 P4 f4 h5 e5 h6 e6 => ?_)
    have e97 := P4.wn
    have e98 := P4.op
    simp only [List.length_cons] at e97
    have w4 := P4.wt
    rw [e97, w_id (by omega) (by omega), show ((W.length + 1 : Nat) : Int) + B.length - 1 = W.length + B.length by omega] at e5
    have s5 : h5 245 98 = h4 245 98 := by rw [e5, up_col (by decide)]
    rw [s5, e98, ec, w_id (by omega) (by omega), show cnV (W ++ B) + 1 - 1 = cnV (W ++ B) by omega] at e6
    have s6 : h6 245 97 = W.length + B.length := by rw [e6, up_col (by decide), e5, up_self]
    have r6 : ∀ a, a ≠ 245 → h6 a = h4 a := fun a ha => by rw [e6, up_row ha, e5, up_row ha]
    have c6 : ∀ k, k ≠ 97 → k ≠ 98 → h6 245 k = h4 245 k := fun k k1 k2 => by rw [e6, up_col k2, e5, up_col k1]
    have f6 : fr3 h4 h6 := ⟨fun a q1 _ _ => r6 a q1, fun k _ q2 q3 _ => c6 k q2 q3⟩
    have wb := w4.1
    rw [e97, show ((W.length + 1 : Nat) : Int) + B.length - 1 = W.length + B.length by omega] at wb
    have P6 : PSm h0 T kd (tN T q) W B (cnV (W ++ B)) (cs ++ A) h6 := by
      refine ⟨P4.fr.tr f6.Q, P4.lx.f3 f6, ⟨by rw [c6 95 (by decide) (by decide)]; exact P4.cd, by rw [r6 315 (by decide)]; exact P4.cj⟩, ?_, by rw [c6 99 (by decide) (by decide)]; exact P4.bs, by rw [e6, up_self], by rw [c6 55 (by decide) (by decide)]; exact P4.ki⟩
      have w2 := w4.2.2
      rw [e97, show ((W.length + 1 : Nat) : Int) + B.length - 1 = W.length + B.length by omega] at w2
      rw [s6]
      exact w2.keep (fun i _ _ => by rw [r6 316 (by decide)])
    rw [s6, r6 316 (by decide), wb]
    refine ⟨by omega, by omega, fun z => ?_, fun z => ?_⟩
    · rw [if_pos z, List.append_nil] at E
      exact m_qEndsPart (by decide) P6 rfl (by simp only [List.length_append]; omega) (fun h7 P7 f7 => E h7 P7)
    · rw [if_neg z] at E
      have one : ∀ v : Int, v = (if br = 23 then 5 else 6) → mM C l 0 YX12_qCode [(2, 245), (0, v)] h6 (fun r12 h14 => mM C l 2 YX12_qEndsPart [(2, 245)] h14 (fun r15 h17 => BX12_qGoesOn_0 C l 3 (KBm C l d K x1) h17)) := by
        intro v hv
        refine m_qCode P6 (by simp only [List.length_append]; omega) (fun h7 P7 f7 => m_qEndsPart (by decide) P7 rfl (by simp only [List.length_append, List.length_cons, List.length_nil]; omega) (fun h8 P8 f8 => ?_))
        rw [hv] at P8
        exact E h8 P8
      exact ⟨fun y => one 6 (by rw [if_neg y]), fun y => one 5 (by rw [if_pos y])⟩
  refine vX12_qGoesOn_0 (by decide) ⟨fun z => absurd P.b0 z, fun _ => m_look P.lx (fun h1 X1 f1 => ⟨fun z => absurd e41 z, fun _ => ?_⟩)⟩
  have P1 := P.lt f1 X1
  refine m_qBracket (by decide) P1 lw ?_
  rw [ebr]
  refine ⟨fun _ => go h1 P1 X1, fun z => m_qBracket (by decide) P1 lw ?_⟩
  rw [ebr]
  refine ⟨fun _ => go h1 P1 X1, fun y => m_qBracket (by decide) P1 lw ?_⟩
  rw [ebr]
  exact ⟨fun w => absurd (by omega) w, fun _ => go h1 P1 X1⟩
theorem B_bad {A : List Int} {br : Int} (hbr : br = 20 ∨ br = 23 ∨ br = 24) (hA : ∀ x ∈ A, 1 ≤ x ∧ x ≤ 4) (hl : A.length + W.length + B.length + cs.length ≤ 1680) (s41 : sgB T q 41 = false) (hpr : prdS T q = 0) (hsm : smS T q = 0) (E : PFm C l d K x1 h0 (1, tA T q)) : PBm C l d K x1 h0 T kd B q (A ++ br :: W) cs := by
  intro h P
  have hb : 20 ≤ br ∧ br ≤ 24 := by omega
  have hA2 : ∀ x ∈ A, ¬ (20 ≤ x ∧ x ≤ 24) := fun x hx => by have := hA x hx; omega
  have ebr : brk (A ++ br :: W) = br := by rw [brk_app _ _ hA2, brk_cons hb]
  have lw : (A ++ br :: W).length + B.length ≤ 1700 := by simp only [List.length_append, List.length_cons]; omega
  refine vX12_qGoesOn_0 (by decide) ⟨fun z => absurd P.b0 z, fun _ => m_look P.lx (fun h1 X1 f1 => ⟨fun _ => m_noOp hpr hsm (P.lt f1 X1) lw (by omega) (fun z => absurd z (by rw [ebr]; omega)) (fun z => absurd z (by rw [ebr]; omega)) (fun _ _ h2 F2 => ⟨fun _ => E h2 F2, fun z => absurd rfl z⟩), fun z => ?_⟩)⟩
  rw [(look_sg (T := T) (q := q) (c := 41) (by decide) (by decide) (by decide)).mp z] at s41
  exact absurd s41 (by decide)
/-- behind a comma -/
theorem B_326 {A : List Int} {br : Int} (hd : 6 ≤ d) (hbr : br = 21 ∨ br = 22) (hA : ∀ x ∈ A, 1 ≤ x ∧ x ≤ 4) (hl : A.length + W.length + B.length + cs.length ≤ 1680) (E1 : sgB T q 44 = true → PAm C l d K x1 h0 T kd B (tN T q) ((br + 2) :: W) (cs ++ A)) (E0 : sgB T q 44 = false → PFm C l d K x1 h0 (1, tA T q)) {h : mf_M} (P : PSm h0 T kd q (A ++ br :: W) B (cnV ((A ++ br :: W) ++ B)) cs h) : BX12_qGoesOn_326 C l 3 (KBm C l d K x1) h := by
  have hb : 20 ≤ br ∧ br ≤ 24 := by omega
  have hA2 : ∀ x ∈ A, ¬ (20 ≤ x ∧ x ≤ 24) := fun x hx => by have := hA x hx; omega
  have ec : cnV ((A ++ br :: W) ++ B) = cnV (((br + 2) :: W) ++ B) := by
    rw [List.append_assoc, cnV_ops A _ (fun y hy => by have := hA y hy; omega)]
    show (if br = 12 ∨ 20 ≤ br then 1 else 0) + cnV (W ++ B) = (if br + 2 = 12 ∨ 20 ≤ br + 2 then 1 else 0) + cnV (W ++ B)
    rw [if_pos (Or.inr hb.1), if_pos (Or.inr (by omega))]
  refine vX12_qGoesOn_326 (by decide) (M_asksSign (by decide) (by decide) (by decide) (by decide) P.lx (fun s44 h1 X1 f1 => ?_) (fun s44 h1 F1 f1 => ?_))
  · have P1 := P.lex f1 X1
    refine ⟨fun _ => m_qDropsTo (R := br :: W) (A := A) (by decide) (Or.inr ⟨br, W, rfl, hb⟩) hA2 P1 (by simp only [List.length_cons]; omega) (fun h4 P4 f4 => ?_), fun z => absurd P1.b0 z⟩
    have e97 := P4.wn
    simp only [List.length_cons] at e97
    have w4 := P4.wt
    have wb := w4.1
    rw [w_id (x := h4 245 97 - 1) (by omega) (by omega), wb, w_id (x := br + 2) (by omega) (by omega)]
    refine ⟨by omega, by omega, fun h9 e9 => ⟨fun z => absurd z (by decide), fun _ => m_sum1 hd (E1 s44) ?_⟩⟩
    have f9 : fr3 h4 h9 := by rw [e9]; exact fr3.up316 _ _ _
    have r9 : ∀ a, a ≠ 316 → h9 a = h4 a := fun a ha => by rw [e9, up_row ha]
    rw [← ec]
    refine ⟨P4.fr.tr f9.Q, P4.lx.f3 f9, ⟨by rw [r9 245 (by decide)]; exact P4.cd, by rw [r9 315 (by decide)]; exact P4.cj⟩, ?_, by rw [r9 245 (by decide)]; exact P4.bs, by rw [r9 245 (by decide)]; exact P4.op, by rw [r9 245 (by decide)]; exact P4.ki⟩
    rw [r9 245 (by decide)]
    refine ⟨by rw [e9, up_self], w4.2.1, w4.2.2.keep (fun i _ hi => by rw [e9, up_col (by omega)])⟩
  · have F := P.bad f1 F1 (by decide) (by omega)
    exact ⟨fun z => absurd z F.2.1, fun _ => ⟨fun _ => E0 s44 h1 F, fun z => absurd rfl z⟩⟩
theorem B_comma {A : List Int} {br : Int} (hd : 6 ≤ d) (hbr : br = 21 ∨ br = 22) (hA : ∀ x ∈ A, 1 ≤ x ∧ x ≤ 4) (hl : A.length + W.length + B.length + cs.length ≤ 1680) (hpr : prdS T q = 0) (hsm : smS T q = 0) (E1 : sgB T q 44 = true → PAm C l d K x1 h0 T kd B (tN T q) ((br + 2) :: W) (cs ++ A)) (E0 : sgB T q 44 = false → PFm C l d K x1 h0 (1, tA T q)) : PBm C l d K x1 h0 T kd B q (A ++ br :: W) cs := by
  intro h P
  have hb : 20 ≤ br ∧ br ≤ 24 := by omega
  have hA2 : ∀ x ∈ A, ¬ (20 ≤ x ∧ x ≤ 24) := fun x hx => by have := hA x hx; omega
  have ebr : brk (A ++ br :: W) = br := by rw [brk_app _ _ hA2, brk_cons hb]
  have lw : (A ++ br :: W).length + B.length ≤ 1700 := by simp only [List.length_append, List.length_cons]; omega
  have go : ∀ h1, PSm h0 T kd q (A ++ br :: W) B (cnV ((A ++ br :: W) ++ B)) cs h1 → BX12_qGoesOn_122 C l 3 (KBm C l d K x1) h1 := fun h1 P1 => m_noOp hpr hsm P1 lw (by omega) (fun _ h2 P2 _ => B_326 hd hbr hA hl E1 E0 P2) (fun z => absurd z (by rw [ebr]; omega)) (fun _ z => absurd (by rw [ebr]; exact hbr) z)
  refine vX12_qGoesOn_0 (by decide) ⟨fun z => absurd P.b0 z, fun _ => m_look P.lx (fun h1 X1 f1 => ⟨fun _ => go h1 (P.lt f1 X1), fun z => ?_⟩)⟩
  have P1 := P.lt f1 X1
  refine m_qBracket (by decide) P1 lw ?_
  rw [ebr]
  refine ⟨fun y => absurd y (by omega), fun y => m_qBracket (by decide) P1 lw ?_⟩
  rw [ebr]
  refine ⟨fun y => absurd y (by omega), fun y => m_qBracket (by decide) P1 lw ?_⟩
  rw [ebr]
  exact ⟨fun _ => go h1 P1, fun w => absurd w (by omega)⟩
/-- the end of a sum -/
theorem m_53 (hd : 2 ≤ d) : ∀ (A cs : List Int) (h : mf_M), (∀ x ∈ A, 1 ≤ x ∧ x ≤ 4) → PSm h0 T kd q A B (cnV B) cs h → A.length + B.length + cs.length ≤ 1680 → (∀ h' h'', PSm h0 T kd q [] B (cnV B) (cs ++ A) h' → h'' = mf_up h' 245 99 x1 → K 0 h'') → BX12_qSums_53 C l d K x1 h
  | [], cs, h, hA, P, hl, hK => by
    have e97 := P.wn
    have e99 := P.bs
    simp only [List.length_nil] at e97
    exact vX12_qSums_53 hd ⟨fun z => absurd P.b0 z, fun _ => ⟨fun _ h2 e2 => hK h h2 (by rw [List.append_nil]; exact P) e2, fun z => absurd (by omega) z⟩⟩
  | x :: A, cs, h, hA, P, hl, hK => by
    have e97 := P.wn
    have e99 := P.bs
    simp only [List.length_cons] at e97 hl
    refine vX12_qSums_53 hd ⟨fun z => absurd P.b0 z, fun _ => ⟨fun z => absurd z (by omega), fun _ => m_qDrops (W := A) (by decide) P (by omega) (fun h2 P2 f2 => ?_)⟩⟩
    exact m_53 hd A (cs ++ [x]) h2 (fun y hy => hA y (List.mem_cons_of_mem _ hy)) P2 (by simp only [List.length_append, List.length_cons, List.length_nil]; omega) (fun h3 h4 P3 e3 => hK h3 h4 (by rw [List.append_assoc] at P3; exact P3) e3)
theorem B_end {A : List Int} (hd : 6 ≤ d) (hA : ∀ x ∈ A, 1 ≤ x ∧ x ≤ 4) (hl : A.length + B.length + cs.length ≤ 1680) (hpr : prdS T q = 0) (hsm : smS T q = 0) (hK : ∀ h' h'', PSm h0 T kd q [] B (cnV B) (cs ++ A) h' → h'' = mf_up h' 245 99 x1 → K 0 h'') : PBm C l d K x1 h0 T kd B q A cs := by
  intro h P
  have hA2 : ∀ x ∈ A, ¬ (20 ≤ x ∧ x ≤ 24) := fun x hx => by have := hA x hx; omega
  have ebr : brk A = -1 := by
    have := brk_app A [] hA2
    rw [List.append_nil] at this
    exact this
  have ec : cnV (A ++ B) = cnV B := cnV_ops A B (fun y hy => by have := hA y hy; omega)
  rw [ec] at P
  have go : ∀ h1, PSm h0 T kd q A B (cnV B) cs h1 → BX12_qGoesOn_122 C l 3 (KBm C l d K x1) h1 := fun h1 P1 => m_noOp hpr hsm P1 (by omega) (by omega) (fun z => absurd z (by rw [ebr]; omega)) (fun _ h2 P2 => ⟨fun _ => vX12_qSums_15 hd ⟨fun _ => m_53 (by omega) A cs h2 hA P2 hl hK, fun z => absurd rfl z⟩, fun z => absurd rfl z⟩) (fun z => absurd ebr z)
  refine vX12_qGoesOn_0 (by decide) ⟨fun z => absurd P.b0 z, fun _ => m_look P.lx (fun h1 X1 f1 => ⟨fun _ => go h1 (P.lt f1 X1), fun z => ?_⟩)⟩
  have P1 := P.lt f1 X1
  refine m_qBracket (by decide) P1 (by omega) ?_
  rw [ebr]
  refine ⟨fun y => absurd y (by decide), fun y => m_qBracket (by decide) P1 (by omega) ?_⟩
  rw [ebr]
  refine ⟨fun y => absurd y (by decide), fun y => m_qBracket (by decide) P1 (by omega) ?_⟩
  rw [ebr]
  exact ⟨fun _ => go h1 P1, fun w => absurd w (by decide)⟩
end SpBe
