/-! tests in the reference -/
abbrev KTm (C : mf_G) (l : Launch) (d : Nat) (K : Int → mf_M → Prop) : Int → mf_M → Prop := fun r13 h15 => ((r13 = 0 → BX12_qTest_2 C l d K 0 h15) ∧ (¬ r13 = 0 → BX12_qTest_2 C l d K 1 h15))
def TAm (C : mf_G) (l : Launch) (d : Nat) (K : Int → mf_M → Prop) (h0 : mf_M) (T : aT) (kd : Int) (q : aQ) (V cs : List Int) : Prop := ∀ h, PSm h0 T kd q V [] (cnV V) cs h → BX12_qTest_2 C l d K 1 h
def TBm (C : mf_G) (l : Launch) (d : Nat) (K : Int → mf_M → Prop) (h0 : mf_M) (T : aT) (kd : Int) (q : aQ) (V cs : List Int) : Prop := ∀ h, PSm h0 T kd q V [] (cnV V) cs h → BX12_qGoesOnTest_0 C l 3 (KTm C l d K) h
def FWm (h0 : mf_M) (e : Int × Int) (h : mf_M) : Prop := flM e h ∧ ¬ h 245 5 = 0 ∧ frQs h0 h
theorem FMm.w {h0 h : mf_M} {e : Int × Int} (F : FMm h0 e h) : FWm h0 e h := ⟨F.1, F.2.1, F.2.2.1⟩
def TFm (K : Int → mf_M → Prop) (h0 : mf_M) (e : Int × Int) : Prop := ∀ h, FWm h0 e h → K 0 h
def spn : List Int → List Int → List Int × List Int
  | [], cs => ([], cs)
  | x :: W, cs => if x = 12 then spn W (cs ++ [x]) else (x :: W, cs)
def TEm (C : mf_G) (l : Launch) (d : Nat) (K : Int → mf_M → Prop) (h0 : mf_M) (T : aT) (kd : Int) (q : aQ) (V cs : List Int) : Prop := TBm C l d K h0 T kd q (spn V cs).1 (spn V cs).2
def tsO (V : List Int) : Prop := ∀ x ∈ V, x = 10 ∨ x = 11 ∨ x = 12 ∨ x = 25
theorem spn_id {W cs : List Int} (h : ∀ x, W.head? = some x → x ≠ 12) : spn W cs = (W, cs) := by
  match W, h with
  | [], _ => rfl
  | x :: W, h =>
    show (if x = 12 then spn W (cs ++ [x]) else (x :: W, cs)) = _
    rw [if_neg (h x rfl)]
theorem wt_mem {h : mf_M} {v : Int} : ∀ {V : List Int} {n : Int}, wtM h V n → ((∃ i, 0 ≤ i ∧ i < n ∧ h 316 i = v) ↔ v ∈ V)
  | [], n, w => by
    have : n = 0 := w
    constructor
    · rintro ⟨i, h1, h2, _⟩; omega
    · intro z; exact absurd z (by simp)
  | a :: V, n, w => by
    have ih := wt_mem (v := v) w.2.2
    constructor
    · rintro ⟨i, h1, h2, h3⟩
      by_cases e : i = n - 1
      · rw [e, w.1] at h3
        rw [h3]; exact List.mem_cons_self
      · exact List.mem_cons_of_mem _ (ih.mp ⟨i, h1, by omega, h3⟩)
    · intro z
      have n0 := w.2.1
      rcases List.mem_cons.mp z with z | z
      · exact ⟨n - 1, by omega, by omega, by rw [z]; exact w.1⟩
      · obtain ⟨i, h1, h2, h3⟩ := ih.mpr z
        exact ⟨i, h1, by omega, h3⟩
section SpTs
variable {C : mf_G} {l : Launch} {d : Nat} {K : Int → mf_M → Prop} {h0 : mf_M} {T : aT} {kd : Int} {q : aQ} {V cs : List Int}
theorem m_hasSq {c : Int} {L : Int → mf_M → Prop} {dd : Nat} {h : mf_M} (P : PSm h0 T kd q V [] c cs h) (hl : V.length ≤ 1700) (h1 : 25 ∈ V → L 1 h) (h0' : ¬ 25 ∈ V → L 0 h) : mM C l dd YX12_qHasSquare [(2, 245)] h L := by
  have w := P.wt
  rw [List.append_nil] at w
  have e97 := w.len
  have iff := wt_mem (v := 25) w
  have loop : ∀ (m : Nat) (k : Int), 0 ≤ k → k + m = h 245 97 → (∀ i, 0 ≤ i → i < k → ¬ h 316 i = 25) → BX12_qHasSquare_2 C l dd L k h := by
    intro m
    induction m with
    | zero =>
      intro k k0 km hn
      refine vX12_qHasSquare_2 ⟨fun _ => h0' (fun z => ?_), fun z => absurd (by omega) z⟩
      obtain ⟨i, i0, i1, i2⟩ := iff.mpr z
      exact hn i i0 (by omega) i2
    | succ m ih =>
      intro k k0 km hn
      refine vX12_qHasSquare_2 ⟨fun z => absurd z (by omega), fun _ => ⟨k0, by omega, fun z v3 e3 => ?_, fun z => h1 (iff.mp ⟨k, k0, by omega, z⟩)⟩⟩
      rw [w_id (by omega) (by omega)] at e3
      rw [e3]
      refine ih (k + 1) (by omega) (by omega) (fun i i0 i1 => ?_)
      by_cases e : i = k
      · rw [e]; exact z
      · exact hn i i0 (by omega)
  exact wX12_qHasSquare (loop (h 245 97).toNat 0 (by decide) (by omega) (fun i i0 i1 => absurd i1 (by omega)))
theorem cnV_len : ∀ V : List Int, cnV V ≤ V.length := by
  intro V
  induction V with
  | nil => exact Int.le_refl _
  | cons y V iv =>
    show (if y = 12 ∨ 20 ≤ y then 1 else 0) + cnV V ≤ _
    simp only [List.length_cons]
    split <;> omega
theorem cnV_nt {x : Int} {V : List Int} (h : x = 12 ∨ 20 ≤ x) : cnV (x :: V) = cnV V + 1 := by
  show (if x = 12 ∨ 20 ≤ x then 1 else 0) + cnV V = _
  rw [if_pos h]; omega
/-- one less is open -/
theorem PSm.less {W : List Int} {c c' : Int} {h h' : mf_M} (P : PSm h0 T kd q W [] c cs h) (e : h' = mf_up h 245 98 c') : PSm h0 T kd q W [] c' cs h' := by
  have f3 : fr3 h h' := by rw [e]; exact fr3.up (by decide)
  have c3 : ∀ k, k ≠ 98 → h' 245 k = h 245 k := fun k hk => by rw [e, up_col hk]
  have r3 : ∀ a, a ≠ 245 → h' a = h a := fun a ha => by rw [e, up_row ha]
  refine ⟨P.fr.tr f3.Q, P.lx.f3 f3, ⟨by rw [c3 95 (by decide)]; exact P.cd, by rw [r3 315 (by decide)]; exact P.cj⟩, ?_, by rw [c3 99 (by decide)]; exact P.bs, by rw [e, up_self], by rw [c3 55 (by decide)]; exact P.ki⟩
  rw [c3 97 (by decide)]
  exact P.wt.keep (fun i _ _ => by rw [r3 316 (by decide)])
theorem m_nots {L : Int → mf_M → Prop} {dd : Nat} (hd : 2 ≤ dd) : ∀ (V cs : List Int) (h : mf_M), PSm h0 T kd q V [] (cnV V) cs h → V.length + cs.length ≤ 1680 → (∀ h', PSm h0 T kd q (spn V cs).1 [] (cnV (spn V cs).1) (spn V cs).2 h' → L 0 h') → BX12_qDropsNots_0 C l dd L h
  | [], cs, h, P, hl, hK => vX12_qDropsNots_0 hd ⟨fun z => absurd P.b0 z, fun _ => m_qIsOn P.wt (by simp) (fun z => absurd z (by simp)) (fun _ => ⟨fun _ => hK h P, fun z => absurd rfl z⟩)⟩
  | x :: V, cs, h, P, hl, hK => by
    simp only [List.length_cons] at hl
    have w := P.wt
    refine vX12_qDropsNots_0 hd ⟨fun z => absurd P.b0 z, fun _ => m_qIsOn w (by simp; omega) (fun z => ⟨fun y => absurd y (by decide), fun _ h4 e4 => ?_⟩) (fun z => ⟨fun _ => ?_, fun y => absurd rfl y⟩)⟩
    · have ex : x = 12 := by simpa using z
      subst ex
      have cl := cnV_len V
      have cg := cnV_ge V
      rw [P.op, cnV_nt (Or.inl rfl), w_id (by omega) (by omega), show cnV V + 1 - 1 = cnV V by omega] at e4
      have P4 := P.less e4
      refine m_qDrops (by decide) P4 (by simp; omega) (fun h5 P5 f5 => m_nots hd V (cs ++ [12]) h5 P5 (by simp only [List.length_append, List.length_cons, List.length_nil]; omega) (fun h6 P6 => hK h6 ?_))
      unfold spn
      rw [if_pos rfl]; exact P6
    · have ex : ¬ x = 12 := by simpa using z
      unfold spn at hK
      rw [if_neg ex] at hK
      exact hK h P
theorem m_dropsNots {L : Int → mf_M → Prop} {dd : Nat} {h : mf_M} (hd : 2 ≤ dd) (P : PSm h0 T kd q V [] (cnV V) cs h) (hl : V.length + cs.length ≤ 1680) (hK : ∀ h', PSm h0 T kd q (spn V cs).1 [] (cnV (spn V cs).1) (spn V cs).2 h' → L 0 h') : mM C l dd YX12_qDropsNots [(2, 245)] h L := wX12_qDropsNots (m_nots hd V cs h P hl hK)
theorem m_notsF {e : Int × Int} {L : Int → mf_M → Prop} {dd : Nat} {h : mf_M} (hd : 2 ≤ dd) (F : FWm h0 e h) (hK : L 0 h) : mM C l dd YX12_qDropsNots [(2, 245)] h L := wX12_qDropsNots (vX12_qDropsNots_0 hd ⟨fun _ => hK, fun z => absurd z F.2.1⟩)
theorem m_TAF {e : Int × Int} {h : mf_M} {x : Int} (hd : 8 ≤ d) (F : FWm h0 e h) (E : TFm K h0 e) : BX12_qTest_2 C l d K x h := by
  have a : BX12_qTest_110 C l d K h := vX12_qTest_110 (by omega) ⟨fun _ => E h F, fun z => absurd z F.2.1⟩
  exact vX12_qTest_2 hd ⟨fun _ => a, fun _ => ⟨fun _ => a, fun z => absurd z F.2.1⟩⟩
theorem m_87 {c : Int} {L : Int → mf_M → Prop} {dd : Nat} (hd : 2 ≤ dd) (hx : ∀ y, V.head? = some y → ¬ y = 10) : ∀ (A cs : List Int) (h : mf_M), (∀ y ∈ A, y = 10) → PSm h0 T kd q (A ++ V) [] c cs h → A.length + V.length + cs.length ≤ 1680 → (∀ h', PSm h0 T kd q (10 :: V) [] c (cs ++ A) h' → L 1 h') → BX12_qGoesOnTest_87 C l dd L h
  | [], cs, h, hA, P, hl, hK => by
    have w := P.wt
    have e97 := P.wn
    simp only [List.nil_append, List.length_nil, List.append_nil] at w e97 hl
    refine vX12_qGoesOnTest_87 hd (m_qIsOn w (by omega) (fun z => absurd rfl (hx 10 z)) (fun _ => ⟨fun _ => ⟨by omega, by omega, fun h12 e12 h13 e13 => hK h13 ?_⟩, fun z => absurd rfl z⟩))
    rw [List.append_nil]
    exact m_top P (by simp; omega) ⟨h12, e12, e13⟩
  | y :: A, cs, h, hA, P, hl, hK => by
    have w := P.wt
    have hy := hA y List.mem_cons_self
    simp only [List.cons_append, List.length_cons, List.append_nil] at w hl
    refine vX12_qGoesOnTest_87 hd (m_qIsOn w (by simp only [List.length_cons, List.length_append]; omega) (fun _ => ⟨fun z => absurd z (by decide), fun _ => m_qDrops (W := A ++ V) (by decide) P (by simp only [List.length_append, List.length_nil]; omega) (fun h2 P2 f2 => m_87 hd hx A (cs ++ [y]) h2 (fun z hz => hA z (List.mem_cons_of_mem _ hz)) P2 (by simp only [List.length_append, List.length_cons, List.length_nil]; omega) (fun h3 P3 => hK h3 (by rw [List.append_assoc] at P3; exact P3)))⟩) (fun n3 => absurd (by simp [hy]) n3))
theorem m_137 {c : Int} {L : Int → mf_M → Prop} {dd : Nat} (hd : 2 ≤ dd) (hx : ∀ y, V.head? = some y → ¬ (y = 10 ∨ y = 11)) : ∀ (A cs : List Int) (h : mf_M), (∀ y ∈ A, y = 10 ∨ y = 11) → PSm h0 T kd q (A ++ V) [] c cs h → A.length + V.length + cs.length ≤ 1680 → (∀ h', PSm h0 T kd q (11 :: V) [] c (cs ++ A) h' → L 1 h') → BX12_qGoesOnTest_137 C l dd L h
  | [], cs, h, hA, P, hl, hK => by
    have w := P.wt
    have e97 := P.wn
    simp only [List.nil_append, List.length_nil, List.append_nil] at w e97 hl
    refine vX12_qGoesOnTest_137 hd (m_qIsOn w (by omega) (fun z => absurd (Or.inl rfl) (hx 10 z)) (fun _ => ⟨fun z => absurd rfl z, fun _ => m_qIsOn w (by omega) (fun z => absurd (Or.inr rfl) (hx 11 z)) (fun _ => ⟨fun _ => ⟨by omega, by omega, fun h12 e12 h13 e13 => hK h13 ?_⟩, fun z => absurd rfl z⟩)⟩))
    rw [List.append_nil]
    exact m_top P (by simp; omega) ⟨h12, e12, e13⟩
  | y :: A, cs, h, hA, P, hl, hK => by
    have w := P.wt
    have hy := hA y List.mem_cons_self
    simp only [List.cons_append, List.length_cons, List.append_nil] at w hl
    have lw : (y :: (A ++ V)).length ≤ 1700 := by simp only [List.length_cons, List.length_append]; omega
    have dr : mM C l 1 YX12_qDrops [(2, 245)] h (fun r4 h6 => BX12_qGoesOnTest_137 C l dd L h6) := m_qDrops (W := A ++ V) (by decide) P (by simp only [List.length_append, List.length_nil]; omega) (fun h2 P2 f2 => m_137 hd hx A (cs ++ [y]) h2 (fun z hz => hA z (List.mem_cons_of_mem _ hz)) P2 (by simp only [List.length_append, List.length_cons, List.length_nil]; omega) (fun h3 P3 => hK h3 (by rw [List.append_assoc] at P3; exact P3)))
    refine vX12_qGoesOnTest_137 hd (m_qIsOn w lw (fun _ => ⟨fun _ => dr, fun z => absurd z (by decide)⟩) (fun n3 => ⟨fun z => absurd rfl z, fun _ => m_qIsOn w lw (fun _ => ⟨fun z => absurd z (by decide), fun _ => dr⟩) (fun n4 => ?_)⟩))
    simp only [List.head?_cons, Option.some.injEq] at n3 n4
    omega
theorem no93 (h : tK T q = 1) : ¬ (if tA T q < T.2 then tB T q else -1) = 93 := by
  intro z
  have := (look_sg (T := T) (q := q) (c := 93) (by decide) (by decide) (by decide)).mp z
  have := (sgB_iff.mp this).1
  rw [h] at this
  exact absurd this (by decide)
theorem m_t1 (A : TAm C l d K h0 T kd q V cs) {h : mf_M} (P : PSm h0 T kd q V [] (cnV V) cs h) : KTm C l d K 1 h := ⟨fun z => absurd z (by decide), fun _ => A h P⟩
theorem ls_ops {p s : Int} (hp : p = 0 ∨ p = 10) (hs : s = 0 ∨ s = 11) : ∀ y ∈ lsS p ++ lsS s, y = 10 ∨ y = 11 := fun y hy => by
  rcases List.mem_append.mp hy with z | z
  · exact ls_mem (P := fun y => y = 10 ∨ y = 11) (fun _ => by omega) y z
  · exact ls_mem (P := fun y => y = 10 ∨ y = 11) (fun _ => by omega) y z
theorem TB_and {p s : Int} (hp : p = 0 ∨ p = 10) (hs : s = 0 ∨ s = 11) (hV : V = [] ∨ ∃ V', V = 25 :: V') (hl : (lsS p ++ lsS s ++ V).length + cs.length ≤ 1680) (a13 : tX T q = 13) (A : TAm C l d K h0 T kd (tN T q) (10 :: (lsS s ++ V)) (cs ++ lsS p)) : TBm C l d K h0 T kd q (lsS p ++ lsS s ++ V) cs := by
  intro h P
  have k1 := tX_word (T := T) (q := q) (by omega)
  have ec : cnV (lsS p ++ lsS s ++ V) = cnV (10 :: (lsS s ++ V)) := by
    have e1 : cnV (lsS p ++ lsS s ++ V) = cnV V := cnV_ops _ _ (fun y hy => by have := ls_ops hp hs y hy; omega)
    have e2 : cnV (10 :: (lsS s ++ V)) = cnV V := cnV_ops (10 :: lsS s) V (fun y hy => by
      rcases List.mem_cons.mp hy with z | z
      · omega
      · exact ls_mem (P := fun y => y ≠ 12 ∧ y < 20) (fun _ => by omega) y z)
    rw [e1, e2]
  refine vX12_qGoesOnTest_0 (by decide) ⟨fun z => absurd P.b0 z, fun _ => m_look P.lx (fun h1 X1 f1 => ⟨fun _ => ?_, fun z => absurd z (no93 k1)⟩)⟩
  refine vX12_qGoesOnTest_76 (by decide) (M_takes (k := 13) (by decide) (by decide) X1.1 (fun _ h2 X2 f2 => ⟨fun z => absurd z (by decide), fun _ => ?_⟩) (fun z => absurd a13 z))
  have P2 := P.lex (f1.tr f2) X2
  rw [List.append_assoc] at P2
  rw [List.append_assoc, List.length_append] at hl
  refine m_87 (V := lsS s ++ V) (by decide) (fun y hy => ?_) (lsS p) cs h2 (ls_mem (fun z => by omega)) P2 hl (fun h3 P3 => m_t1 A ?_)
  · by_cases e : s = 0
    · rw [e] at hy
      rcases hV with rfl | ⟨V', rfl⟩
      · exact absurd hy (by simp [lsS])
      · have : y = 25 := by
          have : (25 : Int) = y := by simpa [lsS] using hy
          omega
        omega
    · unfold lsS at hy
      rw [if_neg e] at hy
      have : s = y := by simpa using hy
      omega
  · rw [← List.append_assoc, ec] at P3; exact P3
theorem TB_or {p s : Int} (hp : p = 0 ∨ p = 10) (hs : s = 0 ∨ s = 11) (hV : V = [] ∨ ∃ V', V = 25 :: V') (hl : (lsS p ++ lsS s ++ V).length + cs.length ≤ 1680) (a12 : tX T q = 12) (A : TAm C l d K h0 T kd (tN T q) (11 :: V) (cs ++ lsS p ++ lsS s)) : TBm C l d K h0 T kd q (lsS p ++ lsS s ++ V) cs := by
  intro h P
  have k1 := tX_word (T := T) (q := q) (by omega)
  have ec : cnV (lsS p ++ lsS s ++ V) = cnV (11 :: V) := by
    have e1 : cnV (lsS p ++ lsS s ++ V) = cnV V := cnV_ops _ _ (fun y hy => by have := ls_ops hp hs y hy; omega)
    have e2 : cnV (11 :: V) = cnV V := cnV_ops [11] V (fun y hy => by
      have : y = 11 := by simpa using hy
      omega)
    rw [e1, e2]
  refine vX12_qGoesOnTest_0 (by decide) ⟨fun z => absurd P.b0 z, fun _ => m_look P.lx (fun h1 X1 f1 => ⟨fun _ => ?_, fun z => absurd z (no93 k1)⟩)⟩
  refine vX12_qGoesOnTest_76 (by decide) (M_takes (k := 13) (by decide) (by decide) X1.1 (fun (z : tX T q = 13) => absurd z (by omega)) (fun _ h2 X2 f2 => ⟨fun _ => M_takes (k := 12) (by decide) (by decide) X2.1 (fun _ h3 X3 f3 => ⟨fun z => absurd z (by decide), fun _ => ?_⟩) (fun z => absurd a12 z), fun z => absurd rfl z⟩))
  have P2 := P.lex ((f1.tr f2).tr f3) X3
  rw [List.length_append] at hl
  refine m_137 (V := V) (by decide) (fun y hy => ?_) (lsS p ++ lsS s) cs h3 (ls_ops hp hs) P2 hl (fun h4 P4 => m_t1 A ?_)
  · rcases hV with rfl | ⟨V', rfl⟩
    · exact absurd hy (by simp)
    · have : (25 : Int) = y := by simpa using hy
      omega
  · rw [← List.append_assoc, ec] at P4; exact P4
/-- a square bracket closes -/
theorem m_33 {c : Int} {L : Int → mf_M → Prop} {dd : Nat} (hd : 3 ≤ dd) (hc : c = cnV (25 :: V)) : ∀ (A cs : List Int) (h : mf_M), (∀ y ∈ A, y = 10 ∨ y = 11) → PSm h0 T kd q (A ++ 25 :: V) [] c cs h → A.length + V.length + cs.length ≤ 1670 → (∀ h', PSm h0 T kd q V [] (cnV V) (cs ++ A) h' → mM C l 2 YX12_qDropsNots [(2, 245)] h' (fun r6 h8 => BX12_qGoesOnTest_0 C l dd L h8)) → BX12_qGoesOnTest_33 C l dd L h
  | [], cs, h, hA, P, hl, hKK => by
    have w := P.wt
    have e97 := P.wn
    have e98 := P.op
    simp only [List.nil_append, List.length_nil, List.append_nil, List.length_cons] at w e97 hl
    have cl := cnV_len V
    have cg := cnV_ge V
    have ec : c = cnV V + 1 := by rw [hc]; exact cnV_nt (Or.inr (by decide))
    refine vX12_qGoesOnTest_33 hd (m_qIsOn w (by simp only [List.length_cons]; omega) (fun _ => ⟨fun _ h4 e4 h5 e5 => ?_, fun z => absurd z (by decide)⟩) (fun n => absurd rfl n))
    rw [e97, w_id (by omega) (by omega), show ((V.length + 1 : Nat) : Int) + ((0 : Nat) : Int) - 1 = V.length by omega] at e4
    have s4 : h4 245 98 = h 245 98 := by rw [e4, up_col (by decide)]
    rw [s4, e98, w_id (by omega) (by omega), show c - 1 = cnV V by omega] at e5
    have r5 : ∀ a, a ≠ 245 → h5 a = h a := fun a ha => by rw [e5, up_row ha, e4, up_row ha]
    have c5 : ∀ k, k ≠ 97 → k ≠ 98 → h5 245 k = h 245 k := fun k k1 k2 => by rw [e5, up_col k2, e4, up_col k1]
    have f5 : fr3 h h5 := ⟨fun a q1 _ _ => r5 a q1, fun k _ q2 q3 _ => c5 k q2 q3⟩
    refine hKK h5 ?_
    rw [List.append_nil]
    refine ⟨P.fr.tr f5.Q, P.lx.f3 f5, ⟨by rw [c5 95 (by decide) (by decide)]; exact P.cd, by rw [r5 315 (by decide)]; exact P.cj⟩, ?_, by rw [c5 99 (by decide) (by decide)]; exact P.bs, by rw [e5, up_self], by rw [c5 55 (by decide) (by decide)]; exact P.ki⟩
    rw [e5, up_col (by decide), e4, up_self, List.append_nil]
    have w2 := w.2.2
    rw [e97, show ((V.length + 1 : Nat) : Int) + ((0 : Nat) : Int) - 1 = V.length by omega] at w2
    exact w2.keep (fun i _ _ => by rw [up_row (by decide), up_row (by decide)])
  | y :: A, cs, h, hA, P, hl, hKK => by
    have w := P.wt
    have hy := hA y List.mem_cons_self
    simp only [List.cons_append, List.length_cons, List.append_nil] at w hl
    refine vX12_qGoesOnTest_33 hd (m_qIsOn w (by simp only [List.length_cons, List.length_append]; omega) (fun z => ?_) (fun _ => ⟨fun z => absurd rfl z, fun _ => m_qDrops (W := A ++ 25 :: V) (by decide) P (by simp only [List.length_append, List.length_cons, List.length_nil]; omega) (fun h2 P2 f2 => m_33 hd hc A (cs ++ [y]) h2 (fun z hz => hA z (List.mem_cons_of_mem _ hz)) P2 (by simp only [List.length_append, List.length_cons, List.length_nil]; omega) (fun h3 P3 => hKK h3 (by rw [List.append_assoc] at P3; exact P3)))⟩))
    have : y = 25 := by simpa using z
    omega
theorem TB_close {A : List Int} (hA : ∀ y ∈ A, y = 10 ∨ y = 11) (hl : A.length + V.length + cs.length ≤ 1670) (s93 : sgB T q 93 = true) (E : TEm C l d K h0 T kd (tN T q) V (cs ++ A)) : TBm C l d K h0 T kd q (A ++ 25 :: V) cs := by
  intro h P
  have ec : cnV (A ++ 25 :: V) = cnV (25 :: V) := cnV_ops A _ (fun y hy => by have := hA y hy; omega)
  have e93 := (look_sg (T := T) (q := q) (c := 93) (by decide) (by decide) (by decide)).mpr s93
  have k3 := (sgB_iff.mp s93).1
  refine vX12_qGoesOnTest_0 (by decide) ⟨fun z => absurd P.b0 z, fun _ => m_look P.lx (fun h1 X1 f1 => ⟨fun z => absurd e93 z, fun _ => m_hasSq (P.lt f1 X1) (by simp only [List.length_append, List.length_cons]; omega) (fun _ => ⟨fun z => absurd z (by decide), fun _ h7 e7 => ?_⟩) (fun z => absurd (by simp) z)⟩)⟩
  have q1 := X1.1.2.1
  have t1 := X1.1.1.1
  have tl := tA_le T q1.2
  have ag := tA_ge T q
  rw [X1.2, w_id (by omega) (by omega)] at e7
  have f7 : frL h1 h7 := by rw [e7]; exact frL.up (by decide)
  have X7 := lxM.sg X1 f7 k3 (by rw [e7, up_col (by decide)]; exact X1.1.2.2.1) (by rw [e7, up_self]) (by rw [e7, up_col (by decide)]) (by rw [e7, up_col (by decide)])
  have P7 := (P.lt f1 X1).lex f7 X7
  rw [ec] at P7
  exact m_33 (by decide) rfl A cs h7 hA P7 hl (fun h8 P8 => m_dropsNots (by decide) P8 (by simp only [List.length_append]; omega) (fun h9 P9 => E h9 P9))
/-- neither and nor or -/
theorem m_76 {h : mf_M} {L : Int → mf_M → Prop} {c : Int} (n13 : ¬ tX T q = 13) (n12 : ¬ tX T q = 12) (P : PSm h0 T kd q V [] c cs h) (hl : V.length + cs.length ≤ 1690) (hsq : 25 ∈ V → ∀ h', FMm h0 (1, tA T q) h' → L 0 h') (hno : ¬ 25 ∈ V → ∀ h', PSm h0 T kd q V [] c cs h' → L 0 h') : BX12_qGoesOnTest_76 C l 3 L h := by
  refine vX12_qGoesOnTest_76 (by decide) (M_takes (k := 13) (by decide) (by decide) P.lx (fun z => absurd z n13) (fun _ h2 X2 f2 => ⟨fun _ => M_takes (k := 12) (by decide) (by decide) X2.1 (fun z => absurd z n12) (fun _ h3 X3 f3 => ⟨fun _ => ⟨fun z => absurd X3.1.2.2.1 z, fun _ => ?_⟩, fun z => absurd rfl z⟩), fun z => absurd rfl z⟩))
  have P3 := P.lt (f2.tr f3) X3
  refine m_hasSq P3 (by omega) (fun s => ⟨fun z => absurd z (by decide), fun _ => m_fail P3.b0 (fun h4 F4 f4 => hsq s h4 (P3.bad f4 ?_ (by decide) (by omega)))⟩) (fun s => ⟨fun _ => hno s h3 P3, fun z => absurd rfl z⟩)
  rw [X3.2] at F4; exact F4
theorem TB_bad {A : List Int} (hd : 8 ≤ d) (hA : ∀ y ∈ A, y = 10 ∨ y = 11) (hl : A.length + V.length + cs.length ≤ 1670) (s93 : sgB T q 93 = false) (n13 : ¬ tX T q = 13) (n12 : ¬ tX T q = 12) (E : TFm K h0 (1, tA T q)) : TBm C l d K h0 T kd q (A ++ 25 :: V) cs := by
  intro h P
  refine vX12_qGoesOnTest_0 (by decide) ⟨fun z => absurd P.b0 z, fun _ => m_look P.lx (fun h1 X1 f1 => ⟨fun _ => m_76 n13 n12 (P.lt f1 X1) (by simp only [List.length_append, List.length_cons]; omega) (fun _ h2 F2 => ⟨fun _ => m_TAF hd F2.w E, fun z => absurd rfl z⟩) (fun z => absurd (by simp) z), fun z => ?_⟩)⟩
  rw [(look_sg (T := T) (q := q) (c := 93) (by decide) (by decide) (by decide)).mp z] at s93
  exact absurd s93 (by decide)
theorem m_110 {c : Int} (hd : 2 ≤ d) : ∀ (A cs : List Int) (h : mf_M), PSm h0 T kd q A [] c cs h → A.length + cs.length ≤ 1680 → (∀ h', PSm h0 T kd q [] [] c (cs ++ A) h' → K 0 h') → BX12_qTest_110 C l d K h
  | [], cs, h, P, hl, hK => by
    have e97 := P.wn
    simp only [List.length_nil] at e97
    exact vX12_qTest_110 hd ⟨fun z => absurd P.b0 z, fun _ => ⟨fun _ => hK h (by rw [List.append_nil]; exact P), fun z => absurd (by omega) z⟩⟩
  | x :: A, cs, h, P, hl, hK => by
    have e97 := P.wn
    simp only [List.length_cons, List.length_nil] at e97 hl
    exact vX12_qTest_110 hd ⟨fun z => absurd P.b0 z, fun _ => ⟨fun z => absurd z (by omega), fun _ => m_qDrops (W := A) (by decide) P (by simp only [List.length_nil]; omega) (fun h2 P2 f2 => m_110 hd A (cs ++ [x]) h2 P2 (by simp only [List.length_append, List.length_cons, List.length_nil]; omega) (fun h3 P3 => hK h3 (by rw [List.append_assoc] at P3; exact P3)))⟩⟩
theorem TB_end {A : List Int} (hd : 8 ≤ d) (hA : ∀ y ∈ A, y = 10 ∨ y = 11) (hl : A.length + cs.length ≤ 1670) (n13 : ¬ tX T q = 13) (n12 : ¬ tX T q = 12) (hK : ∀ h', PSm h0 T kd q [] [] 0 (cs ++ A) h' → K 0 h') : TBm C l d K h0 T kd q A cs := by
  intro h P
  have n25 : ¬ 25 ∈ A := fun z => by have := hA 25 z; omega
  have ec : cnV A = 0 := by
    have := cnV_ops A [] (fun y hy => by have := hA y hy; omega)
    rw [List.append_nil] at this
    exact this
  rw [ec] at P
  have go : ∀ h1, PSm h0 T kd q A [] 0 cs h1 → BX12_qGoesOnTest_76 C l 3 (KTm C l d K) h1 := fun h1 P1 => m_76 n13 n12 P1 (by omega) (fun z => absurd z n25) (fun _ h2 P2 => ⟨fun _ => vX12_qTest_2 hd ⟨fun _ => m_110 (by omega) A cs h2 P2 (by omega) hK, fun z => absurd rfl z⟩, fun z => absurd rfl z⟩)
  refine vX12_qGoesOnTest_0 (by decide) ⟨fun z => absurd P.b0 z, fun _ => m_look P.lx (fun h1 X1 f1 => ⟨fun _ => go h1 (P.lt f1 X1), fun z => m_hasSq (P.lt f1 X1) (by omega) (fun z => absurd z n25) (fun _ => ⟨fun _ => go h1 (P.lt f1 X1), fun z => absurd rfl z⟩)⟩)⟩
end SpTs
