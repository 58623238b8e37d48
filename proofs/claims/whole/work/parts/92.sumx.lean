/-! sums in the class -/
theorem flX.ne {k p : Int} {h : mf_M} (F : flX (k, p) h) (hk : k ≠ 0) : ¬ h 5 8 = 0 := fun z => hk (F.1.symm.trans z)
def scO (sc : Int) : Prop := sc = 6 ∨ sc = 17 ∨ sc = 34
theorem isS {sc : Int} (h : scO sc) : mf_is 319 sc 4 := by rcases h with rfl | rfl | rfl; exact is6; exact is17; exact is34
def scL (sc b : Int) (cs : List Int) (h : mf_M) : Prop := h sc 3 = b + cs.length ∧ ∀ j : Nat, j < cs.length → h (sc + 1) (b + j) = clC (cs.getD j 0)
def frS (sc : Int) (h h' : mf_M) : Prop := (∀ a, a ≠ 5 → a ≠ sc → a ≠ sc + 1 → h' a = h a) ∧ (∀ k, k ≠ 3 → h' sc k = h sc k) ∧ (∀ i, i < h sc 3 → h' (sc + 1) i = h (sc + 1) i) ∧ h sc 3 ≤ h' sc 3
theorem frS.rf (sc : Int) (h : mf_M) : frS sc h h := ⟨fun _ _ _ _ => rfl, fun _ _ => rfl, fun _ _ => rfl, Int.le_refl _⟩
theorem frS.tr {sc : Int} {a b c : mf_M} (h1 : frS sc a b) (h2 : frS sc b c) : frS sc a c := ⟨fun x q1 q2 q3 => (h2.1 x q1 q2 q3).trans (h1.1 x q1 q2 q3), fun k q => (h2.2.1 k q).trans (h1.2.1 k q), fun i q => (h2.2.2.1 i (by have := h1.2.2.2; omega)).trans (h1.2.2.1 i q), Int.le_trans h1.2.2.2 h2.2.2.2⟩
theorem fr5.S {sc : Int} (o : scO sc) {h h' : mf_M} (f : fr5 h h') : frS sc h h' := by
  unfold scO at o
  exact ⟨fun a q _ _ => f a q, fun k _ => by rw [f sc (by omega)], fun i _ => by rw [f (sc + 1) (by omega)], by rw [f sc (by omega)]; exact Int.le_refl _⟩
theorem frW5.S {sc : Int} (o : scO sc) {h h' : mf_M} (f : frW5 h h') : frS sc h h' := fr5.S o f.1
theorem scL.to {sc b : Int} (o : scO sc) {cs : List Int} {h h' : mf_M} (L : scL sc b cs h) (f : fr5 h h') : scL sc b cs h' := by
  unfold scO at o
  unfold scL at L ⊢
  rw [f sc (by omega), f (sc + 1) (by omega)]; exact L
theorem lxX.to {T : aT} {q : aQ} {h h' : mf_M} (X : lxX T q h) (f : ∀ a, a = 2 ∨ a = 3 ∨ a = 4 ∨ a = 5 → h' a = h a) : lxX T q h' := by
  obtain ⟨⟨h1, h2, h3, h4, h5⟩, X1, X2⟩ := X
  have e5 := f 5 (by decide)
  rw [← e5] at X2
  exact ⟨⟨h1, h2, by rw [f 3 (by decide)]; exact h3, by rw [f 4 (by decide)]; exact h4, h5.keep (f 2 (by decide))⟩, X1, X2⟩
theorem bnd_e (e : Int × Int) (k : aQ → List Int → aR) : bnd (.error e) k = .error e := rfl
theorem bnd_o (x : aQ × List Int) (k : aQ → List Int → aR) : bnd (.ok x) k = k x.1 x.2 := rfl
def pstX (T : aT) (sc b : Int) (K : mf_Kt) (g h : mf_M) (cs : List Int) (r : aR) : Prop := (∀ e, r = .error e → ∀ h', flX e h' → ¬ h' 5 8 = 0 → frS sc h h' → K 0 g h') ∧ (∀ x, r = .ok x → ∀ h', lxX T x.1 h' → h' 5 8 = 0 → scL sc b (cs ++ x.2) h' → frS sc h h' → K 0 g h')
theorem pstX.er {T : aT} {sc b : Int} {K : mf_Kt} {g h : mf_M} {cs : List Int} {e : Int × Int} (p : pstX T sc b K g h cs (.error e)) {h' : mf_M} (F : flX e h') (n : ¬ h' 5 8 = 0) (f : frS sc h h') : K 0 g h' := p.1 e rfl h' F n f
theorem pstX.ok {T : aT} {sc b : Int} {K : mf_Kt} {g h : mf_M} {cs : List Int} {x : aQ × List Int} (p : pstX T sc b K g h cs (.ok x)) {h' : mf_M} (X : lxX T x.1 h') (n : h' 5 8 = 0) (L : scL sc b (cs ++ x.2) h') (f : frS sc h h') : K 0 g h' := p.2 x rfl h' X n L f
def sI (x : Int) : Int := if x = 0 then -1 else x
def scpX (scf : Int → Bool) (h : mf_M) : Prop := ∀ w, 0 ≤ w → w ≤ 9 → (mf_and (mf_shr (h 10 3) w) 1 = 0 ↔ scf w = false)
section SxSu
variable {C : mf_G} {l : Launch} {g : mf_M} {T : aT} {sc b : Int} {scf : Int → Bool}
theorem X_add {d : Nat} {K : mf_Kt} {h : mf_M} {cs : List Int} {c v : Int} (o : scO sc) (hv : v = clC c) (L : scL sc b cs h) (b0 : 0 ≤ b) (hl : b + cs.length < 1600) (hK : ∀ h', scL sc b (cs ++ [c]) h' → frS sc h h' → (∀ a, a < 6 → h' a = h a) → K 0 g h') : xM C l d YX4_add [(2, sc), (0, v)] g h K := by
  have e3 := L.1
  unfold scO at o
  refine wX4_add ⟨isS o, fun z => absurd z (by omega), fun _ => ⟨by omega, by omega, fun h4 e4 h5 e5 => ?_⟩⟩
  rw [e4, up_row (by omega), e3, w_id (by omega) (by omega)] at e5
  rw [e3] at e4
  subst hv
  refine hK h5 ⟨?_, fun j hj => ?_⟩ ⟨fun a _ q2 q3 => ?_, fun k hk => ?_, fun i hi => ?_, ?_⟩ (fun a ha => ?_)
  · rw [e5, up_self, List.length_append]; simp; omega
  · rw [e5, up_row (by omega), up_if]
    by_cases e : j = cs.length
    · rw [if_pos ⟨rfl, by omega⟩, e]; simp
    · rw [List.length_append] at hj
      simp only [List.length_cons, List.length_nil] at hj
      rw [if_neg (fun z => e (by omega)), L.2 j (by omega)]
      congr 1
      rw [List.getD_eq_getElem?_getD, List.getD_eq_getElem?_getD, List.getElem?_append_left (by omega)]
  · rw [e5, up_row q2, up_row q3]
  · rw [e5, up_col hk, up_row (by omega)]
  · rw [e5, up_row (by omega), up_col (by omega)]
  · rw [e5, up_self]; omega
  · rw [e5, up_row (by omega), up_row (by omega)]
theorem X_addF {d : Nat} {K : mf_Kt} {h : mf_M} {v : Int} (o : scO sc) (h0 : 0 ≤ h sc 3) (hK : ∀ h', frS sc h h' → (∀ a, a < 6 → h' a = h a) → K 0 g h') : xM C l d YX4_add [(2, sc), (0, v)] g h K := by
  unfold scO at o
  refine wX4_add ⟨isS o, fun z => hK h (frS.rf sc h) (fun _ _ => rfl), fun _ => ⟨by omega, by omega, fun h4 e4 h5 e5 => ?_⟩⟩
  rw [e4, up_row (by omega), w_id (by omega) (by omega)] at e5
  refine hK h5 ⟨fun a _ q2 q3 => ?_, fun k hk => ?_, fun i hi => ?_, ?_⟩ (fun a ha => ?_)
  · rw [e5, up_row q2, up_row q3]
  · rw [e5, up_col hk, up_row (by omega)]
  · rw [e5, up_row (by omega), up_col (by omega)]
  · rw [e5, up_self]; omega
  · rw [e5, up_row (by omega), up_row (by omega)]
theorem flX.to {e : Int × Int} {h h' : mf_M} (F : flX e h) (f : h' 5 = h 5) : flX e h' := by unfold flX at F ⊢; rw [f]; exact F
theorem X_sumB {e : Nat} {K : mf_Kt} {o : Int} {h : mf_M} (nb : ¬ h 5 8 = 0) (hK : K 0 g h) : xM C l (e + 1) YX7_readSum [(2, 10), (0, o)] g h K :=
  wX7_readSum (by omega) (vX7_readSum_7 (by omega) ⟨fun _ => hK, fun _ => ⟨fun _ => hK, fun z => absurd z nb⟩⟩)
theorem scL.len {cs : List Int} {h : mf_M} (L : scL sc b cs h) (b0 : 0 ≤ b) : 0 ≤ h sc 3 := by rw [L.1]; omega
def partP (C : mf_G) (l : Launch) (g : mf_M) (T : aT) (sc b : Int) (scf : Int → Bool) (n : Nat) : Prop := ∀ (e : Nat) (o : Int) (q : aQ) (cs : List Int) (h : mf_M) (K : mf_Kt), 2 * (T.2 - q.1) + 1 ≤ n → 4 + 2 * (6 - o) ≤ e → 0 ≤ o → o ≤ 6 → scpX scf h → lxX T q h → h 5 8 = 0 → scL sc b cs h → b + cs.length ≤ q.1 → pstX T sc b K g h cs (rdS T scf n false o 0 0 q) → xM C l (e + 1) YX7_readPart [(2, 10), (0, o)] g h K
def sumP (C : mf_G) (l : Launch) (g : mf_M) (T : aT) (sc b : Int) (scf : Int → Bool) (n : Nat) : Prop := ∀ (e : Nat) (o p s k : Int) (q : aQ) (cs : List Int) (h : mf_M) (K : mf_Kt), 2 * (T.2 - q.1) + 2 ≤ n → 5 + 2 * (6 - o) ≤ e → 0 ≤ o → o ≤ 6 → 0 ≤ k → k ≤ q.1 → (p = 0 ∨ p = 3 ∨ p = 4) → (s = 0 ∨ s = 1 ∨ s = 2) → scpX scf h → lxX T q h → h 5 8 = 0 → scL sc b cs h → b + cs.length + (lsS p).length + (lsS s).length ≤ q.1 → pstX T sc b K g h cs (rdS T scf n true o p s q) → BX7_readSum_7 C l (e + 1) K o (sI s) (sI p) k g h
theorem scpX.to {h h' : mf_M} (o : scO sc) (s : scpX scf h) (f : frS sc h h') : scpX scf h' := by
  unfold scO at o
  unfold scpX at s ⊢
  rw [f.1 10 (by decide) (by omega) (by omega)]; exact s
theorem x_partL (o9 : scO sc) (hg : g 10 2 = sc) (b0 : 0 ≤ b) (n : Nat) (ihP : partP C l g T sc b scf n) (ihS : sumP C l g T sc b scf n) : partP C l g T sc b scf (n + 1) := by
  intro e o q cs h K hf he o0 o6 P X hb Lc hl hK
  have q0 := X.2.1
  have t2 := X.1.1
  have hsc : scO sc := o9
  unfold scO at hsc
  obtain ⟨e', rfl⟩ : ∃ e', e = e' + 1 := ⟨e - 1, by omega⟩
  -- sums that are told in brackets
  have sumX : ∀ (q2 : aQ) (cs2 : List Int) (h2 : mf_M) (K2 : mf_Kt), q.1 + 1 ≤ q2.1 → q2.1 ≤ T.2 → o < 6 → frS sc h h2 → lxX T q2 h2 → h2 5 8 = 0 → scL sc b cs2 h2 → b + cs2.length ≤ q2.1 → pstX T sc b K2 g h2 cs2 (rdS T scf n true (o + 1) 0 0 q2) → xM C l (e' + 1) YX7_readSum [(2, 10), (0, o + 1)] g h2 K2 := by
    intro q2 cs2 h2 K2 a1 a2 a3 f2 X2 b2 L2 l2 p2
    exact wX7_readSum (by omega) (ihS e' (o + 1) 0 0 0 q2 cs2 h2 K2 (by omega) (by omega) (by omega) (by omega) (by decide) (by omega) (Or.inl rfl) (Or.inl rfl) (P.to o9 f2) X2 b2 L2 (by have : (lsS 0).length = 0 := rfl; omega) p2)
  have w1 : mf_w32 (o + 1) = o + 1 := w_id (by omega) (by omega)
  -- behind min and max
  have two : ∀ (x2 : Int) (h1 : mf_M), (tX T q = 10 ∨ tX T q = 11) → x2 = tX T q → lxX T (tN T q) h1 → h1 5 8 = 0 → scL sc b cs h1 → frS sc h h1 → tK T q ≠ 2 → BX7_readPart_98 C l (e' + 1 + 1) K o x2 1 g h1 := by
    intro x2 h1 hx ex X1 b1 L1 f1 hk2
    have p1 := tN_pos q0.2 (tX_ne (by omega : 0 ≤ tX T q))
    unfold rdS at hK
    rw [if_neg hk2, if_pos hx] at hK
    refine vX7_readPart_98 (by omega) (X_isSign X1 (fun s40 => ⟨fun z => absurd z (by decide), fun _ => ?_⟩) (fun s40 => ⟨fun _ => ⟨fun _ => x_fail b1 (fun h' F' f' _ => ?_), fun z => absurd z (by decide)⟩, fun z => absurd rfl z⟩))
    · rw [if_pos s40] at hK
      have p2 := tN_pos p1.2 (sg_ne s40)
      refine X_mayOpen (by decide) X1 b1 (fun ho => ?_) (fun ho h' F' f' => ?_)
      · rw [if_neg (by omega)] at hK
        rw [w1]
        refine ⟨fun _ => X_step (by decide) X1 (sg_ne s40) (fun h2 X2 f2 => ?_), fun z => absurd z (by decide)⟩
        have f02 := f1.tr (f2.S o9)
        -- a fault anywhere behind
        have bad3 : ∀ (er : Int × Int), pstX T sc b K g h cs (.error er) → ∀ h', flX er h' → ¬ h' 5 8 = 0 → frS sc h h' → 0 ≤ h' sc 3 → ((¬ x2 = 10 → mf_is 319 (g 10 2) 4 ∧ xM C l 0 YX4_add [(2, g 10 2), (0, 6)] g h' (fun r54 g55 h56 => xM C l 3 YX9_passSign [(2, 5), (0, 41)] g55 h56 (fun r58 g59 h60 => K 0 g59 h60))) ∧ (x2 = 10 → mf_is 319 (g 10 2) 4 ∧ xM C l 0 YX4_add [(2, g 10 2), (0, 5)] g h' (fun r61 g62 h63 => xM C l 3 YX9_passSign [(2, 5), (0, 41)] g62 h63 (fun r65 g66 h67 => K 0 g66 h67)))) := by
          intro er hp h' F' n' f' s'
          rw [hg]
          have one : ∀ v, xM C l 0 YX4_add [(2, sc), (0, v)] g h' (fun r54 g55 h56 => xM C l 3 YX9_passSign [(2, 5), (0, 41)] g55 h56 (fun r58 g59 h60 => K 0 g59 h60)) := fun v => X_addF o9 s' (fun h8 f8 r8 => X_passB (by decide) (by rw [r8 5 (by decide)]; exact n') (hp.er (F'.to (r8 5 (by decide))) (by rw [r8 5 (by decide)]; exact n') (f'.tr f8)))
          exact ⟨fun _ => ⟨isS o9, one 6⟩, fun _ => ⟨isS o9, one 5⟩⟩
        have bad2 : ∀ (er : Int × Int), pstX T sc b K g h cs (.error er) → ∀ h', flX er h' → ¬ h' 5 8 = 0 → frS sc h h' → 0 ≤ h' sc 3 → xM C l 3 YX9_passSign [(2, 5), (0, 44)] g h' (fun r48 g49 h50 => xM C l (e' + 1) YX7_readSum [(2, 10), (0, o + 1)] g49 h50 (fun r51 g52 h53 => ((¬ x2 = 10 → mf_is 319 (g52 10 2) 4 ∧ xM C l 0 YX4_add [(2, g52 10 2), (0, 6)] g52 h53 (fun r54 g55 h56 => xM C l 3 YX9_passSign [(2, 5), (0, 41)] g55 h56 (fun r58 g59 h60 => K 0 g59 h60))) ∧ (x2 = 10 → mf_is 319 (g52 10 2) 4 ∧ xM C l 0 YX4_add [(2, g52 10 2), (0, 5)] g52 h53 (fun r61 g62 h63 => xM C l 3 YX9_passSign [(2, 5), (0, 41)] g62 h63 (fun r65 g66 h67 => K 0 g66 h67)))))) :=
          fun er hp h' F' n' f' s' => X_passB (by decide) n' (X_sumB n' (bad3 er hp h' F' n' f' s'))
        refine sumX (tN T (tN T q)) cs h2 _ (by omega) p2.2 ho f02 X2 (f2.2.1.trans b1) (L1.to o9 f2.1) (by omega) ⟨fun er hr h' F' n' f' => ?_, fun x hr h' X' b' L' f' => ?_⟩
        · rw [hr, bnd_e] at hK
          refine ⟨fun z => absurd z (by decide), fun _ => bad2 er hK h' F' n' (f02.tr f') ?_⟩
          have := f'.2.2.2; have := (L1.to o9 f2.1).len b0; omega
        · rw [hr, bnd_o] at hK
          obtain ⟨r1, r2, r3, r4⟩ := rd_len T scf n true (o + 1) 0 0 _ x p2.2 hr
          have h00 : (lsS 0).length = 0 := rfl
          simp only [if_true, h00] at r4
          refine ⟨fun z => absurd z (by decide), fun _ => X_passSign (by decide) X' b' (fun s44 h3 X3 b3 f3 => ?_) (fun s44 h3 F3 f3 => ?_)⟩
          · rw [if_pos s44] at hK
            have p3 := tN_pos r2 (sg_ne s44)
            have L3 := L'.to o9 f3.1
            refine sumX (tN T x.1) (cs ++ x.2) h3 _ (by omega) p3.2 ho ((f02.tr f').tr (f3.S o9)) X3 b3 L3 (by rw [List.length_append]; omega) ⟨fun er hr2 h4 F4 n4 f4 => ?_, fun y hr2 h4 X4 b4 L4 f4 => ?_⟩
            · rw [hr2, bnd_e] at hK
              refine bad3 er hK h4 F4 n4 (((f02.tr f').tr (f3.S o9)).tr f4) ?_
              have := f4.2.2.2; have := L3.len b0; omega
            · rw [hr2, bnd_o] at hK
              obtain ⟨u1, u2, u3, u4⟩ := rd_len T scf n true (o + 1) 0 0 _ y p3.2 hr2
              simp only [if_true, h00] at u4
              have fin : ∀ v c : Int, v = clC c → c = (if tX T q = 10 then 5 else 6) → xM C l 0 YX4_add [(2, sc), (0, v)] g h4 (fun r54 g55 h56 => xM C l 3 YX9_passSign [(2, 5), (0, 41)] g55 h56 (fun r58 g59 h60 => K 0 g59 h60)) := by
                intro v c hv hc
                refine X_add o9 hv L4 b0 (by simp only [List.length_append]; omega) (fun h5 L5 f5 r5 => ?_)
                have X5 := X4.to (h' := h5) (fun a ha => r5 a (by omega))
                have b5 : h5 5 8 = 0 := by rw [r5 5 (by decide)]; exact b4
                have f05 := ((((f02.tr f').tr (f3.S o9)).tr f4).tr f5)
                refine X_passSign (by decide) X5 b5 (fun s41 h6 X6 b6 f6 => ?_) (fun s41 h6 F6 f6 => ?_)
                · rw [if_pos s41] at hK
                  refine hK.ok X6 b6 ?_ (f05.tr (f6.S o9))
                  have := L5.to o9 f6.1
                  simp only [List.append_assoc] at this ⊢
                  rw [hc] at this; exact this
                · rw [if_neg (by rw [s41]; decide)] at hK
                  exact hK.er F6 (F6.ne (by decide)) (f05.tr (f6.S o9))
              rw [hg]
              refine ⟨fun z => ⟨isS o9, fin 6 6 (by decide) (by rw [if_neg (by omega)])⟩, fun z => ⟨isS o9, fin 5 5 (by decide) (by rw [if_pos (by omega)])⟩⟩
          · rw [if_neg (by rw [s44]; decide)] at hK
            have n3 : ¬ h3 5 8 = 0 := F3.ne (by decide)
            refine X_sumB n3 (bad3 _ hK h3 F3 n3 ((f02.tr f').tr (f3.S o9)) ?_)
            have := (f3.S o9).2.2.2; have := L'.len b0; omega
      · rw [if_pos ho] at hK
        exact ⟨fun z => absurd rfl z, fun _ => hK.er F' (F'.ne (by decide)) (f1.tr (f'.S o9))⟩
    · rw [if_neg (by rw [s40]; decide)] at hK
      rw [X1.2.2.2.1] at F'
      exact hK.er F' (F'.ne (by decide)) (f1.tr (f'.S o9))
  -- all else
  have one : tK T q ≠ 2 → ¬ (tX T q = 10 ∨ tX T q = 11) → BX7_readPart_98 C l (e' + 1 + 1) K o (tX T q) 0 g h := by
    intro hk2 hx
    unfold rdS at hK
    rw [if_neg hk2, if_neg hx] at hK
    refine vX7_readPart_98 (by omega) (X_isSign X (fun s40 => ⟨fun z => absurd z (by decide), fun _ => ?_⟩) (fun s40 => ⟨fun _ => ⟨fun z => absurd rfl z, fun _ => ?_⟩, fun z => absurd rfl z⟩))
    · rw [if_pos s40] at hK
      have p1 := tN_pos q0.2 (sg_ne s40)
      refine X_mayOpen (by decide) X hb (fun ho => ?_) (fun ho h' F' f' => ?_)
      · rw [if_neg (by omega)] at hK
        rw [w1]
        refine ⟨fun _ => X_step (by decide) X (sg_ne s40) (fun h2 X2 f2 => ?_), fun z => absurd z (by decide)⟩
        refine sumX (tN T q) cs h2 _ p1.1 p1.2 ho (f2.S o9) X2 (f2.2.1.trans hb) (Lc.to o9 f2.1) (by omega) ⟨fun er hr h' F' n' f' => ?_, fun x hr h' X' b' L' f' => ?_⟩
        · rw [hr, bnd_e] at hK
          exact ⟨fun _ => X_passB (by decide) n' (hK.er F' n' ((f2.S o9).tr f')), fun z => absurd rfl z⟩
        · rw [hr, bnd_o] at hK
          refine ⟨fun _ => X_passSign (by decide) X' b' (fun s41 h3 X3 b3 f3 => ?_) (fun s41 h3 F3 f3 => ?_), fun z => absurd rfl z⟩
          · rw [if_pos s41] at hK
            exact hK.ok X3 b3 (L'.to o9 f3.1) (((f2.S o9).tr f').tr (f3.S o9))
          · rw [if_neg (by rw [s41]; decide)] at hK
            exact hK.er F3 (F3.ne (by decide)) (((f2.S o9).tr f').tr (f3.S o9))
      · rw [if_pos ho] at hK
        exact ⟨fun z => absurd rfl z, fun _ => hK.er F' (F'.ne (by decide)) (f'.S o9)⟩
    · rw [if_neg (by rw [s40]; decide)] at hK
      have bad : ¬ (0 ≤ tX T q ∧ tX T q ≤ 9 ∧ scf (tX T q) = true) → xM C l 0 YX9_fail [(2, 5), (0, 1), (0, h 5 3)] g h (fun r7 g8 h9 => K 0 g8 h9) := by
        intro z
        rw [if_neg z] at hK
        refine x_fail hb (fun h' F' f' _ => ?_)
        rw [X.2.2.2.1] at F'
        exact hK.er F' (F'.ne (by decide)) (f'.S o9)
      refine ⟨fun z => bad (by omega), fun z => ⟨fun y => bad (by omega), fun y => ?_⟩⟩
      have hs := P (tX T q) (by omega) (by omega)
      refine ⟨fun w => ?_, fun w => bad (fun u => ?_)⟩
      · have su : scf (tX T q) = true := by
          cases e9 : scf (tX T q) with
          | true => rfl
          | false => exact absurd (hs.mpr e9) w
        have p1 := tN_pos q0.2 (tX_ne (by omega : 0 ≤ tX T q))
        rw [if_pos ⟨by omega, by omega, su⟩] at hK
        refine ⟨fun x9 => ?_, fun x9 => ?_⟩
        · rw [if_pos x9] at hK
          refine X_mayOpen (by decide) X hb (fun ho => ?_) (fun ho h' F' f' => ?_)
          · rw [if_neg (by omega)] at hK
            rw [w1]
            refine ⟨fun z => absurd z (by decide), fun _ => X_step (by decide) X (tX_ne (by omega)) (fun h2 X2 f2 => ?_)⟩
            refine ihP e' (o + 1) (tN T q) cs h2 _ (by omega) (by omega) (by omega) (by omega) (P.to o9 (f2.S o9)) X2 (f2.2.1.trans hb) (Lc.to o9 f2.1) (by omega) ⟨fun er hr h' F' n' f' => ?_, fun x hr h' X' b' L' f' => ?_⟩
            · rw [hr, bnd_e] at hK
              rw [hg]
              refine ⟨isS o9, X_addF o9 ?_ (fun h8 f8 r8 => hK.er (F'.to (r8 5 (by decide))) (by rw [r8 5 (by decide)]; exact n') (((f2.S o9).tr f').tr f8))⟩
              have := f'.2.2.2; have := (Lc.to o9 f2.1).len b0; omega
            · rw [hr, bnd_o] at hK
              obtain ⟨u1, u2, u3, u4⟩ := rd_len T scf n false (o + 1) 0 0 _ x p1.2 hr
              simp only [Bool.false_eq_true, if_false] at u4
              rw [hg]
              refine ⟨isS o9, X_add o9 (c := 60) (by decide) L' b0 (by rw [List.length_append]; omega) (fun h8 L8 f8 r8 => hK.ok (X'.to (fun a ha => r8 a (by omega))) (by rw [r8 5 (by decide)]; exact b') ?_ (((f2.S o9).tr f').tr f8))⟩
              rw [List.append_assoc] at L8; exact L8
          · rw [if_pos ho] at hK
            exact ⟨fun _ => hK.er F' (F'.ne (by decide)) (f'.S o9), fun z => absurd rfl z⟩
        · rw [if_neg x9] at hK
          rw [hg]
          have tg := tE_gt (T := T) (q := q) (tX_ne (by omega))
          have ag := tA_ge T q
          refine ⟨isS o9, X_add o9 (c := 40 + tX T q) ?_ Lc b0 (by omega) (fun h8 L8 f8 r8 => X_step (by decide) (X.to (fun a ha => r8 a (by omega))) (tX_ne (by omega)) (fun h9 X9 f9 => hK.ok X9 (f9.2.1.trans (by rw [r8 5 (by decide)]; exact hb)) (L8.to o9 f9.1) (f8.tr (f9.S o9))))⟩
          rw [w_id (by omega) (by omega)]
          unfold clC
          rw [if_neg (by omega), if_neg (by omega), if_pos (by omega)]
          omega
      · rw [hs.mp w] at u
        exact absurd u.2.2 (by decide)
  have all : tK T q ≠ 2 → BX7_readPart_68 C l (e' + 1 + 1) K o (tX T q) g h := by
    intro hk2
    refine vX7_readPart_68 (by omega) ⟨fun z => ⟨fun y => absurd y (by decide), fun _ => X_step (by decide) X (tX_ne (by omega)) (fun h2 X2 f2 => two _ h2 (Or.inl z) rfl X2 (f2.2.1.trans hb) (Lc.to o9 f2.1) (f2.S o9) hk2)⟩, fun z => ⟨fun y => ⟨fun _ => one hk2 (by omega), fun w => absurd rfl w⟩, fun y => ⟨fun w => absurd w (by decide), fun _ => X_step (by decide) X (tX_ne (by omega)) (fun h2 X2 f2 => two _ h2 (Or.inr y) rfl X2 (f2.2.1.trans hb) (Lc.to o9 f2.1) (f2.S o9) hk2)⟩⟩⟩
  have e2 := X.2.2.1
  refine wX7_readPart (by omega) ⟨fun z => ?_, fun z => ?_⟩
  · rw [e2] at z ⊢
    refine ⟨fun y => ?_, fun y => X_find X y (all z)⟩
    have := all z
    rw [show tX T q = -1 by unfold tX; rw [if_neg y]] at this
    exact this
  · rw [e2] at z
    unfold rdS at hK
    rw [if_pos z] at hK
    refine X_passNumber (by decide) X hb (fun _ h4 _ h1 X1 b1 f1 _ => ?_) (fun _ h4 no => (no (by have v := tV_range z h4; omega)).elim) (fun no h1 F1 f1 => ?_)
    · rw [if_neg (by omega)] at hK
      have v := tV_range z h4
      have tg := tE_gt (T := T) (q := q) (by rw [z]; decide)
      have ag := tA_ge T q
      refine x_max ?_
      rw [hg]
      have ev : (if (0 : Int) < tV T q then tV T q else 0) = tV T q := by split <;> omega
      rw [ev]
      refine ⟨isS o9, X_add o9 (c := 1000 + tV T q) ?_ (Lc.to o9 f1) b0 (by omega) (fun h8 L8 f8 r8 => hK.ok (X1.to (fun a ha => r8 a (by omega))) (by rw [r8 5 (by decide)]; exact b1) L8 ((f1.S o9).tr f8))⟩
      rw [w_id (by omega) (by omega)]
      unfold clC
      rw [if_pos (by omega)]
      omega
    · rw [if_pos (by omega)] at hK
      refine x_max ?_
      rw [hg]
      rw [if_pos z] at F1
      exact ⟨isS o9, X_addF o9 ((Lc.to o9 f1).len b0) (fun h8 f8 r8 => hK.er (F1.to (r8 5 (by decide))) (by rw [r8 5 (by decide)]; exact F1.ne (by decide)) ((f1.S o9).tr f8))⟩
theorem X_prod {d : Nat} {K : mf_Kt} {h : mf_M} {q : aQ} (hd : 1 ≤ d) (X : lxX T q h) (hK : K (sI (prdS T q)) g h) : xM C l d YX7_productSign [(2, 10)] g h K := by
  unfold prdS at hK
  refine wX7_productSign hd (X_isSign X (fun s => ⟨fun z => absurd z (by decide), fun _ => ?_⟩) (fun s => ⟨fun _ => X_isSign X (fun s2 => ⟨fun z => absurd z (by decide), fun _ => ?_⟩) (fun s2 => ⟨fun _ => ?_, fun z => absurd rfl z⟩), fun z => absurd rfl z⟩))
  · rw [s] at hK; exact hK
  · rw [s, s2] at hK; exact hK
  · rw [s, s2] at hK; exact hK
theorem X_sumS {d : Nat} {K : mf_Kt} {h : mf_M} {q : aQ} (hd : 1 ≤ d) (X : lxX T q h) (hK : K (sI (smS T q)) g h) : xM C l d YX7_sumSign [(2, 10)] g h K := by
  unfold smS at hK
  refine wX7_sumSign hd (X_isSign X (fun s => ⟨fun z => absurd z (by decide), fun _ => ?_⟩) (fun s => ⟨fun _ => X_isSign X (fun s2 => ⟨fun z => absurd z (by decide), fun _ => ?_⟩) (fun s2 => ⟨fun _ => ?_, fun z => absurd rfl z⟩), fun z => absurd rfl z⟩))
  · rw [s] at hK; exact hK
  · rw [s, s2] at hK; exact hK
  · rw [s, s2] at hK; exact hK
theorem sI_none (x : Int) (h : x = 0 ∨ 0 < x) : sI x = -1 ↔ x = 0 := by unfold sI; split <;> omega
theorem clC_small {x : Int} (h : x < 13) : clC x = x := by
  unfold clC
  rw [if_neg (by omega), if_neg (by omega), if_neg (by omega), if_neg (by omega)]
/-- what waits is told -/
theorem X_addL {d : Nat} {K : mf_Kt} {h : mf_M} {cs : List Int} {x : Int} (hx : x = 0 ∨ (0 < x ∧ x < 13)) (o : scO sc) (L : scL sc b cs h) (b0 : 0 ≤ b) (hl : b + cs.length + (lsS x).length ≤ 1600) (hK : ∀ h', scL sc b (cs ++ lsS x) h' → frS sc h h' → (∀ a, a < 6 → h' a = h a) → K 0 g h') : (x = 0 → K 0 g h) ∧ (¬ x = 0 → xM C l d YX4_add [(2, sc), (0, sI x)] g h K) := by
  refine ⟨fun z => ?_, fun z => ?_⟩
  · refine hK h ?_ (frS.rf sc h) (fun _ _ => rfl)
    unfold lsS
    rw [if_pos z, List.append_nil]; exact L
  · unfold lsS at hl hK
    rw [if_neg z] at hl hK
    unfold sI
    rw [if_neg z]
    simp only [List.length_cons, List.length_nil] at hl
    exact X_add o (c := x) (clC_small (by omega)).symm L b0 (by omega) hK
theorem x_sumL (o9 : scO sc) (hg : g 10 2 = sc) (b0 : 0 ≤ b) (n : Nat) (ihP : partP C l g T sc b scf n) (ihS : sumP C l g T sc b scf n) : sumP C l g T sc b scf (n + 1) := by
  intro e o p s k q cs h K hf he o0 o6 k0 k1 hp hs P X hb Lc hl hK
  have q0 := X.2.1
  have t2 := X.1.1
  obtain ⟨e', rfl⟩ : ∃ e', e = e' + 1 := ⟨e - 1, by omega⟩
  unfold rdS at hK
  have np : sI p = -1 ↔ p = 0 := sI_none p (by omega)
  have ns : sI s = -1 ↔ s = 0 := sI_none s (by omega)
  -- behind a part and what waited for it
  have go54 : ∀ (x : aQ × List Int) (h1 : mf_M), rdS T scf n false o 0 0 q = .ok x → lxX T x.1 h1 → h1 5 8 = 0 → scL sc b (cs ++ x.2 ++ lsS p) h1 → frS sc h h1 → BX7_readSum_54 C l (e' + 1 + 1) K o (sI s) k g h1 := by
    intro x h1 hr X1 b1 L1 f1
    obtain ⟨r1, r2, r3, r4⟩ := rd_len T scf n false o 0 0 q x q0.2 hr
    simp only [Bool.false_eq_true, if_false] at r4
    rw [hr, bnd_o] at hK
    have ll : ((cs ++ x.2 ++ lsS p).length : Int) = cs.length + x.2.length + (lsS p).length := by simp only [List.length_append]; omega
    refine vX7_readSum_54 (by omega) (X_prod (by decide) X1 ?_)
    have pr := prd_range T x.1
    have npr : sI (prdS T x.1) = -1 ↔ prdS T x.1 = 0 := sI_none _ (by omega)
    rw [npr]
    rw [w_id (x := k + 1) (by omega) (by omega)]
    refine ⟨fun z => X_step (by decide) X1 (prd_ne z) (fun h2 X2 f2 v7 e7 => ?_), fun z => ?_⟩
    · rw [if_pos z] at hK
      have p2 := tN_pos r2 (prd_ne z)
      rw [e7]
      have l1 : (lsS (prdS T x.1)).length = 1 := by rw [ls_len, if_neg z]
      refine ihS (e' + 1) o (prdS T x.1) s (k + 1) (tN T x.1) (cs ++ x.2 ++ lsS p) h2 K (by omega) (by omega) o0 o6 (by omega) (by omega) (by omega) hs (P.to o9 (f1.tr (f2.S o9))) X2 (f2.2.1.trans b1) (L1.to o9 f2.1) (by omega) ⟨fun er hr2 h' F' n' f' => ?_, fun y hr2 h' X' b' L' f' => ?_⟩
      · rw [hr2, bnd_e] at hK
        exact hK.er F' n' ((f1.tr (f2.S o9)).tr f')
      · rw [hr2, bnd_o] at hK
        refine hK.ok X' b' ?_ ((f1.tr (f2.S o9)).tr f')
        simp only [List.append_assoc] at L' ⊢
        exact L'
    · rw [if_neg (fun y => y z)] at hK
      have ad := X_addL (C := C) (l := l) (d := 0) (K := fun r15 g16 h17 => xM C l 1 YX7_sumSign [(2, 10)] g16 h17 (fun r19 g20 h21 => ((¬ r19 = (-1) → xM C l 2 YX9_step [(2, 5)] g20 h21 (fun r22 g23 h24 => (∀ v25 : Int, v25 = k + 1 → BX7_readSum_7 C l (e' + 1 + 1) K o r19 (sI (prdS T x.1)) v25 g23 h24))) ∧ (r19 = (-1) → K 0 g20 h21)))) (g := g) (x := s) (by omega) o9 L1 b0 (by omega) (fun h2 L2 f2 r2' => ?_)
      · rw [ns, hg]
        exact ⟨fun y => ad.1 y, fun y => ⟨isS o9, ad.2 y⟩⟩
      · have X2 := X1.to (h' := h2) (fun a ha => r2' a (by omega))
        have b2 : h2 5 8 = 0 := by rw [r2' 5 (by decide)]; exact b1
        refine X_sumS (by decide) X2 ?_
        have sr := sm_range T x.1
        have nsr : sI (smS T x.1) = -1 ↔ smS T x.1 = 0 := sI_none _ (by omega)
        rw [nsr]
        have ll2 : ((cs ++ x.2 ++ lsS p ++ lsS s).length : Int) = cs.length + x.2.length + (lsS p).length + (lsS s).length := by simp only [List.length_append]; omega
        refine ⟨fun y => X_step (by decide) X2 (sm_ne y) (fun h3 X3 f3 v25 e25 => ?_), fun y => ?_⟩
        · rw [if_pos y] at hK
          have p2 := tN_pos r2 (sm_ne y)
          rw [e25, z]
          have l1 : (lsS (smS T x.1)).length = 1 := by rw [ls_len, if_neg y]
          have l0 : (lsS 0).length = 0 := rfl
          refine ihS (e' + 1) o 0 (smS T x.1) (k + 1) (tN T x.1) (cs ++ x.2 ++ lsS p ++ lsS s) h3 K (by omega) (by omega) o0 o6 (by omega) (by omega) (Or.inl rfl) (by omega) (P.to o9 ((f1.tr f2).tr (f3.S o9))) X3 (f3.2.1.trans b2) (L2.to o9 f3.1) (by omega) ⟨fun er hr2 h' F' n' f' => ?_, fun w hr2 h' X' b' L' f' => ?_⟩
          · rw [hr2, bnd_e] at hK
            exact hK.er F' n' (((f1.tr f2).tr (f3.S o9)).tr f')
          · rw [hr2, bnd_o] at hK
            refine hK.ok X' b' ?_ (((f1.tr f2).tr (f3.S o9)).tr f')
            simp only [List.append_assoc] at L' ⊢
            exact L'
        · rw [if_neg (fun w => w y)] at hK
          refine hK.ok X2 b2 ?_ (f1.tr f2)
          simp only [List.append_assoc] at L2 ⊢
          exact L2
  refine vX7_readSum_7 (by omega) ⟨fun z => absurd z (by omega), fun _ => ⟨fun z => absurd hb z, fun _ => ?_⟩⟩
  refine ihP e' o q cs h _ (by omega) (by omega) o0 o6 P X hb Lc (by omega) ⟨fun er hr h' F' n' f' => ⟨fun z => absurd z n', fun _ => ?_⟩, fun x hr h' X' b' L' f' => ⟨fun _ => ?_, fun z => absurd b' z⟩⟩
  · rw [hr, bnd_e] at hK
    exact hK.er F' n' f'
  · obtain ⟨r1, r2, r3, r4⟩ := rd_len T scf n false o 0 0 q x q0.2 hr
    simp only [Bool.false_eq_true, if_false] at r4
    have ad := X_addL (C := C) (l := l) (d := 0) (K := fun r4 g5 h6 => BX7_readSum_54 C l (e' + 1 + 1) K o (sI s) k g5 h6) (g := g) (x := p) (by omega) o9 L' b0 (by simp only [List.length_append]; omega) (fun h2 L2 f2 r2' => go54 x h2 hr (X'.to (fun a ha => r2' a (by omega))) (by rw [r2' 5 (by decide)]; exact b') L2 (f'.tr f2))
    rw [np, hg]
    exact ⟨fun y => ad.1 y, fun y => ⟨isS o9, ad.2 y⟩⟩
theorem x_sums (o9 : scO sc) (hg : g 10 2 = sc) (b0 : 0 ≤ b) : ∀ n, partP C l g T sc b scf n ∧ sumP C l g T sc b scf n
  | 0 => ⟨fun e o q cs h K hf he o0 o6 P X => absurd hf (by have := X.2.1; omega), fun e o p s k q cs h K hf he o0 o6 k0 k1 hp hs P X => absurd hf (by have := X.2.1; omega)⟩
  | n + 1 => ⟨x_partL o9 hg b0 n (x_sums o9 hg b0 n).1 (x_sums o9 hg b0 n).2, x_sumL o9 hg b0 n (x_sums o9 hg b0 n).1 (x_sums o9 hg b0 n).2⟩
theorem X_readSum {e : Nat} {o : Int} {q : aQ} {cs : List Int} {h : mf_M} {K : mf_Kt} (o9 : scO sc) (hg : g 10 2 = sc) (b0 : 0 ≤ b) (he : 17 ≤ e) (o0 : 0 ≤ o) (o6 : o ≤ 6) (P : scpX scf h) (X : lxX T q h) (hb : h 5 8 = 0) (L : scL sc b cs h) (hl : b + cs.length ≤ q.1) (hK : pstX T sc b K g h cs (rdS T scf 4000 true o 0 0 q)) : xM C l (e + 1) YX7_readSum [(2, 10), (0, o)] g h K := by
  have q0 := X.2.1
  have t2 := X.1.1
  exact wX7_readSum (by omega) ((x_sums o9 hg b0 4000).2 e o 0 0 0 q cs h K (by omega) (by omega) o0 o6 (by decide) (by omega) (Or.inl rfl) (Or.inl rfl) P X hb L (by have : (lsS 0).length = 0 := rfl; omega) hK)
end SxSu
