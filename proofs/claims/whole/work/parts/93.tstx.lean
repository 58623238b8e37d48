/-! tests in the class -/
def bI (x : Int) : Int := if x = 0 then 0 else 1
theorem bI_none (x : Int) : bI x = 0 ↔ x = 0 := by unfold bI; split <;> simp [*]
section SxTs
variable {C : mf_G} {l : Launch} {g : mf_M} {T : aT} {sc b : Int} {scf : Int → Bool}
theorem X_cmp {d : Nat} {K : mf_Kt} {h : mf_M} {q : aQ} (X : lxX T q h) (hK : K (sI (cmpS T q)) g h) : xM C l d YX7_compareSign [(2, 10)] g h K := by
  have e2 := X.2.2.1
  unfold cmpS at hK
  refine wX7_compareSign ⟨fun z => ?_, fun z => ?_⟩
  · rw [e2] at z
    have sg : ∀ c, sgB T q c = decide (tB T q = c) := fun c => by unfold sgB; rw [z]; simp
    rw [sg, sg, sg] at hK
    rw [X.2.2.2.2.2.2.1 z]
    refine ⟨fun y => ?_, fun y => ?_, fun y => ?_, fun y => ?_⟩
    · rw [y] at hK; exact hK
    · rw [y] at hK; exact hK
    · rw [y] at hK; exact hK
    · rw [if_neg (by simp; omega), if_neg (by simp; omega), if_neg (by simp; omega)] at hK; exact hK
  · have sg : ∀ c, sgB T q c = false := fun c => by
      cases e : sgB T q c with
      | false => rfl
      | true => exact absurd (e2.trans (sgB_iff.mp e).1) z
    rw [sg, sg, sg] at hK; exact hK
theorem X_cmpB {d : Nat} {K : mf_Kt} {h : mf_M} (hK : ∀ v, K v g h) : xM C l d YX7_compareSign [(2, 10)] g h K := wX7_compareSign ⟨fun _ => ⟨fun _ => hK _, fun _ => hK _, fun _ => hK _, fun _ => hK _⟩, fun _ => hK _⟩
def factP (C : mf_G) (l : Launch) (g : mf_M) (T : aT) (sc b : Int) (scf : Int → Bool) (n : Nat) : Prop := ∀ (e : Nat) (o : Int) (q : aQ) (cs : List Int) (h : mf_M) (K : mf_Kt), 2 * (T.2 - q.1) + 1 ≤ n → 64 + 2 * (6 - o) ≤ e → 0 ≤ o → o ≤ 6 → scpX scf h → lxX T q h → h 5 8 = 0 → scL sc b cs h → b + cs.length ≤ q.1 → pstX T sc b K g h cs (rtS T scf n false o 0 0 q) → xM C l (e + 1) YX7_readFact [(2, 10), (0, o)] g h K
def testP (C : mf_G) (l : Launch) (g : mf_M) (T : aT) (sc b : Int) (scf : Int → Bool) (n : Nat) : Prop := ∀ (e : Nat) (o p s k : Int) (q : aQ) (cs : List Int) (h : mf_M) (K : mf_Kt), 2 * (T.2 - q.1) + 2 ≤ n → 65 + 2 * (6 - o) ≤ e → 0 ≤ o → o ≤ 6 → 0 ≤ k → k ≤ q.1 → (p = 0 ∨ p = 10) → (s = 0 ∨ s = 11) → scpX scf h → lxX T q h → h 5 8 = 0 → scL sc b cs h → b + cs.length + (lsS p).length + (lsS s).length ≤ q.1 → pstX T sc b K g h cs (rtS T scf n true o p s q) → BX7_readTest_7 C l (e + 1) K o (bI p) (bI s) k g h
theorem x_factL (o9 : scO sc) (hg : g 10 2 = sc) (b0 : 0 ≤ b) (n : Nat) (ihP : factP C l g T sc b scf n) (ihS : testP C l g T sc b scf n) : factP C l g T sc b scf (n + 1) := by
  intro e o q cs h K hf he o0 o6 P X hb Lc hl hK
  have q0 := X.2.1
  have t2 := X.1.1
  obtain ⟨e', rfl⟩ : ∃ e', e = e' + 1 := ⟨e - 1, by omega⟩
  have w1 : mf_w32 (o + 1) = o + 1 := w_id (by omega) (by omega)
  have h00 : (lsS 0).length = 0 := rfl
  unfold rtS at hK
  refine wX7_readFact (by omega) (X_isWord (k := 15) (by decide) (by decide) X (fun (a15 : tX T q = 15) => ⟨fun z => absurd z (by decide), fun _ => ?_⟩) (fun (a15 : ¬ tX T q = 15) => ⟨fun _ => X_isWord (k := 14) (by decide) (by decide) X (fun (a14 : tX T q = 14) => ⟨fun z => absurd z (by decide), fun _ => ?_⟩) (fun (a14 : ¬ tX T q = 14) => ⟨fun _ => X_isSign X (fun s91 => ⟨fun z => absurd z (by decide), fun _ => ?_⟩) (fun s91 => ⟨fun _ => ?_, fun z => absurd rfl z⟩), fun z => absurd rfl z⟩), fun z => absurd rfl z⟩))
  · rw [if_pos a15] at hK
    have hk := tX_ne (T := T) (q := q) (by omega)
    have tg := tE_gt hk
    have ag := tA_ge T q
    rw [hg]
    exact ⟨isS o9, X_add o9 (c := 13) (by decide) Lc b0 (by omega) (fun h8 L8 f8 r8 => X_step (by decide) (X.to (fun a ha => r8 a (by omega))) hk (fun h9 X9 f9 => hK.ok X9 (f9.2.1.trans (by rw [r8 5 (by decide)]; exact hb)) (L8.to o9 f9.1) (f8.tr (f9.S o9))))⟩
  · rw [if_neg a15, if_pos a14] at hK
    have hk := tX_ne (T := T) (q := q) (by omega)
    have p1 := tN_pos q0.2 hk
    refine X_mayOpen (by decide) X hb (fun ho => ⟨fun z => absurd z (by decide), fun _ => X_step (by decide) X hk (fun h2 X2 f2 => ?_)⟩) (fun ho h' F' f' => ?_)
    · rw [if_neg (by omega)] at hK
      rw [w1]
      refine ihP e' (o + 1) (tN T q) cs h2 _ (by omega) (by omega) (by omega) (by omega) (P.to o9 (f2.S o9)) X2 (f2.2.1.trans hb) (Lc.to o9 f2.1) (by omega) ⟨fun er hr h' F' n' f' => ?_, fun x hr h' X' b' L' f' => ?_⟩
      · rw [hr, bnd_e] at hK
        rw [hg]
        refine ⟨isS o9, X_addF o9 ?_ (fun h8 f8 r8 => hK.er (F'.to (r8 5 (by decide))) (by rw [r8 5 (by decide)]; exact n') (((f2.S o9).tr f').tr f8))⟩
        have := f'.2.2.2; have := (Lc.to o9 f2.1).len b0; omega
      · rw [hr, bnd_o] at hK
        obtain ⟨u1, u2, u3, u4⟩ := rt_len T scf n false (o + 1) 0 0 _ x p1.2 hr
        simp only [Bool.false_eq_true, if_false] at u4
        rw [hg]
        refine ⟨isS o9, X_add o9 (c := 12) (by decide) L' b0 (by rw [List.length_append]; omega) (fun h8 L8 f8 r8 => hK.ok (X'.to (fun a ha => r8 a (by omega))) (by rw [r8 5 (by decide)]; exact b') ?_ (((f2.S o9).tr f').tr f8))⟩
        rw [List.append_assoc] at L8; exact L8
    · rw [if_pos ho] at hK
      exact ⟨fun _ => hK.er F' (F'.ne (by decide)) (f'.S o9), fun z => absurd rfl z⟩
  · rw [if_neg a15, if_neg a14, if_pos s91] at hK
    have hk := sg_ne s91
    have p1 := tN_pos q0.2 hk
    refine X_mayOpen (by decide) X hb (fun ho => ⟨fun z => absurd z (by decide), fun _ => X_step (by decide) X hk (fun h2 X2 f2 => ?_)⟩) (fun ho h' F' f' => ?_)
    · rw [if_neg (by omega)] at hK
      rw [w1]
      have := ihS e' (o + 1) 0 0 0 (tN T q) cs h2 (fun r25 g26 h27 => xM C l 3 YX9_passSign [(2, 5), (0, 93)] g26 h27 (fun r28 g29 h30 => K 0 g29 h30)) (by omega) (by omega) (by omega) (by omega) (by decide) (by omega) (Or.inl rfl) (Or.inl rfl) (P.to o9 (f2.S o9)) X2 (f2.2.1.trans hb) (Lc.to o9 f2.1) (by omega) ⟨fun er hr h' F' n' f' => ?_, fun x hr h' X' b' L' f' => ?_⟩
      · exact wX7_readTest (by omega) this
      · rw [hr, bnd_e] at hK
        exact X_passB (by decide) n' (hK.er F' n' ((f2.S o9).tr f'))
      · rw [hr, bnd_o] at hK
        refine X_passSign (by decide) X' b' (fun s93 h3 X3 b3 f3 => ?_) (fun s93 h3 F3 f3 => ?_)
        · rw [if_pos s93] at hK
          exact hK.ok X3 b3 (L'.to o9 f3.1) (((f2.S o9).tr f').tr (f3.S o9))
        · rw [if_neg (by rw [s93]; decide)] at hK
          exact hK.er F3 (F3.ne (by decide)) (((f2.S o9).tr f').tr (f3.S o9))
    · rw [if_pos ho] at hK
      exact ⟨fun _ => hK.er F' (F'.ne (by decide)) (f'.S o9), fun z => absurd rfl z⟩
  · rw [if_neg a15, if_neg a14, if_neg (by rw [s91]; decide)] at hK
    have bad159 : ∀ (er : Int × Int) (v : Int), pstX T sc b K g h cs (.error er) → ∀ h', flX er h' → ¬ h' 5 8 = 0 → frS sc h h' → BX7_readFact_159 C l (e' + 1 + 1) K o v g h' := fun er v hp h' F' n' f' => vX7_readFact_159 (by omega) ⟨fun _ => hp.er F' n' f', fun z => absurd z n'⟩
    refine X_readSum (e := 63) o9 hg b0 (by decide) o0 o6 P X hb Lc hl ⟨fun er hr h' F' n' f' => ?_, fun x hr h' X' b' L' f' => ?_⟩
    · rw [hr, bnd_e] at hK
      exact X_cmpB (fun v => ⟨fun _ => bad159 er v hK h' F' n' f', fun _ => x_failB n' (bad159 er v hK h' F' n' f')⟩)
    · rw [hr, bnd_o] at hK
      obtain ⟨u1, u2, u3, u4⟩ := rd_len T scf 4000 true o 0 0 _ x q0.2 hr
      simp only [if_true, h00] at u4
      have cr := cmp_range T x.1
      have ncr : sI (cmpS T x.1) = -1 ↔ cmpS T x.1 = 0 := sI_none _ (by omega)
      refine X_cmp X' ?_
      rw [ncr]
      refine ⟨fun z => vX7_readFact_159 (by omega) ⟨fun y => absurd b' y, fun _ => X_step (by decide) X' (cmp_ne z) (fun h2 X2 f2 => ?_)⟩, fun z => x_fail b' (fun h2 F2 f2 _ => ?_)⟩
      · rw [if_pos z] at hK
        have p2 := tN_pos u2 (cmp_ne z)
        have L2 := L'.to o9 f2.1
        refine X_readSum (e := 63) o9 hg b0 (by decide) o0 o6 (P.to o9 (f'.tr (f2.S o9))) X2 (f2.2.1.trans b') L2 (by rw [List.length_append]; omega) ⟨fun er hr2 h3 F3 n3 f3 => ?_, fun y hr2 h3 X3 b3 L3 f3 => ?_⟩
        · rw [hr2, bnd_e] at hK
          rw [hg]
          refine ⟨isS o9, X_addF o9 ?_ (fun h8 f8 r8 => hK.er (F3.to (r8 5 (by decide))) (by rw [r8 5 (by decide)]; exact n3) (((f'.tr (f2.S o9)).tr f3).tr f8))⟩
          have := f3.2.2.2; have := L2.len b0; omega
        · rw [hr2, bnd_o] at hK
          obtain ⟨v1, v2, v3, v4⟩ := rd_len T scf 4000 true o 0 0 _ y p2.2 hr2
          simp only [if_true, h00] at v4
          rw [hg]
          refine ⟨isS o9, X_add o9 (c := cmpS T x.1) ?_ L3 b0 (by simp only [List.length_append]; omega) (fun h8 L8 f8 r8 => hK.ok (X3.to (fun a ha => r8 a (by omega))) (by rw [r8 5 (by decide)]; exact b3) ?_ (((f'.tr (f2.S o9)).tr f3).tr f8))⟩
          · unfold sI
            rw [if_neg z, clC_small (by omega)]
          · simp only [List.append_assoc] at L8 ⊢
            exact L8
      · rw [if_neg (fun w => w z)] at hK
        rw [X'.2.2.2.1] at F2
        exact bad159 _ _ hK h2 F2 (F2.ne (by decide)) (f'.tr (f2.S o9))
theorem x_testL (o9 : scO sc) (hg : g 10 2 = sc) (b0 : 0 ≤ b) (n : Nat) (ihP : factP C l g T sc b scf n) (ihS : testP C l g T sc b scf n) : testP C l g T sc b scf (n + 1) := by
  intro e o p s k q cs h K hf he o0 o6 k0 k1 hp hs P X hb Lc hl hK
  have q0 := X.2.1
  have t2 := X.1.1
  obtain ⟨e', rfl⟩ : ∃ e', e = e' + 1 := ⟨e - 1, by omega⟩
  unfold rtS at hK
  have wait : ∀ (x c : Int) (d : Nat) (K2 : mf_Kt) (cs2 : List Int) (h2 : mf_M), (x = 0 ∨ x = c) → 0 < c → c < 13 → scL sc b cs2 h2 → b + cs2.length + (lsS x).length ≤ 1600 → (∀ h', scL sc b (cs2 ++ lsS x) h' → frS sc h2 h' → (∀ a, a < 6 → h' a = h2 a) → K2 0 g h') → (bI x = 0 → K2 0 g h2) ∧ (¬ bI x = 0 → mf_is 319 (g 10 2) 4 ∧ xM C l d YX4_add [(2, g 10 2), (0, c)] g h2 K2) := by
    intro x c d K2 cs2 h2 hx c0 c1 L2 l2 hk2
    have ad := X_addL (C := C) (l := l) (d := d) (K := K2) (g := g) (x := x) (by omega) o9 L2 b0 l2 hk2
    rw [bI_none, hg]
    refine ⟨ad.1, fun y => ⟨isS o9, ?_⟩⟩
    have := ad.2 y
    unfold sI at this
    rw [if_neg y, show x = c by omega] at this
    exact this
  have go44 : ∀ (x : aQ × List Int) (h1 : mf_M), rtS T scf n false o 0 0 q = .ok x → lxX T x.1 h1 → h1 5 8 = 0 → scL sc b (cs ++ x.2 ++ lsS p) h1 → frS sc h h1 → BX7_readTest_44 C l (e' + 1 + 1) K o (bI s) k g h1 := by
    intro x h1 hr X1 b1 L1 f1
    obtain ⟨r1, r2, r3, r4⟩ := rt_len T scf n false o 0 0 q x q0.2 hr
    simp only [Bool.false_eq_true, if_false] at r4
    rw [hr, bnd_o] at hK
    have ll : ((cs ++ x.2 ++ lsS p).length : Int) = cs.length + x.2.length + (lsS p).length := by simp only [List.length_append]; omega
    refine vX7_readTest_44 (by omega) ?_
    rw [w_id (x := k + 1) (by omega) (by omega)]
    refine X_isWord (k := 13) (by decide) (by decide) X1 (fun (a13 : tX T x.1 = 13) => ⟨fun _ => X_step (by decide) X1 (tX_ne (by omega)) (fun h2 X2 f2 v7 e7 => ?_), fun z => absurd z (by decide)⟩) (fun (a13 : ¬ tX T x.1 = 13) => ⟨fun z => absurd rfl z, fun _ => ?_⟩)
    · rw [if_pos a13] at hK
      have p2 := tN_pos r2 (tX_ne (by omega : 0 ≤ tX T x.1))
      rw [e7]
      have l1 : (lsS 10).length = 1 := rfl
      refine ihS (e' + 1) o 10 s (k + 1) (tN T x.1) (cs ++ x.2 ++ lsS p) h2 K (by omega) (by omega) o0 o6 (by omega) (by omega) (Or.inr rfl) hs (P.to o9 (f1.tr (f2.S o9))) X2 (f2.2.1.trans b1) (L1.to o9 f2.1) (by omega) ⟨fun er hr2 h' F' n' f' => ?_, fun y hr2 h' X' b' L' f' => ?_⟩
      · rw [hr2, bnd_e] at hK
        exact hK.er F' n' ((f1.tr (f2.S o9)).tr f')
      · rw [hr2, bnd_o] at hK
        refine hK.ok X' b' ?_ ((f1.tr (f2.S o9)).tr f')
        simp only [List.append_assoc] at L' ⊢
        exact L'
    · rw [if_neg a13] at hK
      refine wait s 11 0 (fun r15 g16 h17 => xM C l 1 YX9_isWord [(2, 5), (0, 12)] g16 h17 (fun r19 g20 h21 => ((¬ r19 = 0 → xM C l 2 YX9_step [(2, 5)] g20 h21 (fun r22 g23 h24 => (∀ v25 : Int, v25 = k + 1 → BX7_readTest_7 C l (e' + 1 + 1) K o 0 r19 v25 g23 h24))) ∧ (r19 = 0 → K 0 g20 h21)))) _ h1 hs (by decide) (by decide) L1 (by omega) (fun h2 L2 f2 r2' => ?_)
      have X2 := X1.to (h' := h2) (fun a ha => r2' a (by omega))
      have b2 : h2 5 8 = 0 := by rw [r2' 5 (by decide)]; exact b1
      have ll2 : ((cs ++ x.2 ++ lsS p ++ lsS s).length : Int) = cs.length + x.2.length + (lsS p).length + (lsS s).length := by simp only [List.length_append]; omega
      refine X_isWord (k := 12) (by decide) (by decide) X2 (fun (a12 : tX T x.1 = 12) => ⟨fun _ => X_step (by decide) X2 (tX_ne (by omega)) (fun h3 X3 f3 v25 e25 => ?_), fun z => absurd z (by decide)⟩) (fun (a12 : ¬ tX T x.1 = 12) => ⟨fun z => absurd rfl z, fun _ => ?_⟩)
      · rw [if_pos a12] at hK
        have p2 := tN_pos r2 (tX_ne (by omega : 0 ≤ tX T x.1))
        rw [e25]
        have l1 : (lsS 11).length = 1 := rfl
        have l0 : (lsS 0).length = 0 := rfl
        refine ihS (e' + 1) o 0 11 (k + 1) (tN T x.1) (cs ++ x.2 ++ lsS p ++ lsS s) h3 K (by omega) (by omega) o0 o6 (by omega) (by omega) (Or.inl rfl) (Or.inr rfl) (P.to o9 ((f1.tr f2).tr (f3.S o9))) X3 (f3.2.1.trans b2) (L2.to o9 f3.1) (by omega) ⟨fun er hr2 h' F' n' f' => ?_, fun w hr2 h' X' b' L' f' => ?_⟩
        · rw [hr2, bnd_e] at hK
          exact hK.er F' n' (((f1.tr f2).tr (f3.S o9)).tr f')
        · rw [hr2, bnd_o] at hK
          refine hK.ok X' b' ?_ (((f1.tr f2).tr (f3.S o9)).tr f')
          simp only [List.append_assoc] at L' ⊢
          exact L'
      · rw [if_neg a12] at hK
        refine hK.ok X2 b2 ?_ (f1.tr f2)
        simp only [List.append_assoc] at L2 ⊢
        exact L2
  refine vX7_readTest_7 (by omega) ⟨fun z => absurd z (by omega), fun _ => ?_⟩
  refine ihP e' o q cs h _ (by omega) (by omega) o0 o6 P X hb Lc (by omega) ⟨fun er hr h' F' n' f' => ⟨fun z => absurd z n', fun _ => ?_⟩, fun x hr h' X' b' L' f' => ⟨fun _ => ?_, fun z => absurd b' z⟩⟩
  · rw [hr, bnd_e] at hK
    exact hK.er F' n' f'
  · obtain ⟨r1, r2, r3, r4⟩ := rt_len T scf n false o 0 0 q x q0.2 hr
    simp only [Bool.false_eq_true, if_false] at r4
    exact wait p 10 0 (fun r4 g5 h6 => BX7_readTest_44 C l (e' + 1 + 1) K o (bI s) k g5 h6) _ h' hp (by decide) (by decide) L' (by simp only [List.length_append]; omega) (fun h2 L2 f2 r2' => go44 x h2 hr (X'.to (fun a ha => r2' a (by omega))) (by rw [r2' 5 (by decide)]; exact b') L2 (f'.tr f2))
theorem x_tests (o9 : scO sc) (hg : g 10 2 = sc) (b0 : 0 ≤ b) : ∀ n, factP C l g T sc b scf n ∧ testP C l g T sc b scf n
  | 0 => ⟨fun e o q cs h K hf he o0 o6 P X => absurd hf (by have := X.2.1; omega), fun e o p s k q cs h K hf he o0 o6 k0 k1 hp hs P X => absurd hf (by have := X.2.1; omega)⟩
  | n + 1 => ⟨x_factL o9 hg b0 n (x_tests o9 hg b0 n).1 (x_tests o9 hg b0 n).2, x_testL o9 hg b0 n (x_tests o9 hg b0 n).1 (x_tests o9 hg b0 n).2⟩
theorem X_readTest {e : Nat} {q : aQ} {cs : List Int} {h : mf_M} {K : mf_Kt} (o9 : scO sc) (hg : g 10 2 = sc) (b0 : 0 ≤ b) (he : 77 ≤ e) (P : scpX scf h) (X : lxX T q h) (hb : h 5 8 = 0) (L : scL sc b cs h) (hl : b + cs.length ≤ q.1) (hK : pstX T sc b K g h cs (rtS T scf 4000 true 0 0 0 q)) : xM C l (e + 1) YX7_readTest [(2, 10), (0, 0)] g h K := by
  have q0 := X.2.1
  have t2 := X.1.1
  exact wX7_readTest (by omega) ((x_tests o9 hg b0 4000).2 e 0 0 0 0 q cs h K (by omega) (by omega) (by decide) (by decide) (by decide) (by omega) (Or.inl rfl) (Or.inl rfl) P X hb L (by have : (lsS 0).length = 0 := rfl; omega) hK)
end SxTs
