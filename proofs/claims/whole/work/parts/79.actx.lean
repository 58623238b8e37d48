/-! the class: acts -/
theorem vX_pos {h h' : mf_M} {a b nb : Int} (e7 : h' b 7 = h a 7) (e1 : ∀ k, 0 ≤ k → k < 6 → h' (b + 1) k = h (a + 1) k) (ej : ∀ j k, 2 ≤ j → j ≤ 5 → 0 ≤ k → k < 8 → h' (b + j) k = h (a + j) k) (h8 : nb ≤ 8) : vX h' b nb = vX h a nb := by
  funext i m
  unfold vX
  by_cases q0 : i = 0
  · rw [if_pos q0, if_pos q0, e7]
  · rw [if_neg q0, if_neg q0]
    by_cases q1 : i = 1
    · rw [if_pos q1, if_pos q1]
      by_cases q2 : 0 ≤ m ∧ m < 6
      · rw [if_pos q2, if_pos q2, e1 m q2.1 q2.2]
      · rw [if_neg q2, if_neg q2]
    · rw [if_neg q1, if_neg q1]
      by_cases q2 : 2 ≤ i ∧ i ≤ 5 ∧ 0 ≤ m ∧ m < nb
      · rw [if_pos q2, if_pos q2, ej i m q2.1 q2.2.1 q2.2.2.1 (by omega)]
      · rw [if_neg q2, if_neg q2]
section SxA
variable {C : mf_G} {l : Launch} {d : Nat} {K : mf_Kt} {g h : mf_M} {S : aS}
theorem x_copyFolk {a b : Int} (hd : 1 ≤ d) (ia : mf_is 319 a 6) (ib : mf_is 319 b 6) (hab : a + 7 ≤ b ∨ b + 7 ≤ a) (hK : ∀ h', (∀ x, ¬ (b ≤ x ∧ x ≤ b + 5) → h' x = h x) → (∀ k, k ≠ 7 → h' b k = h b k) → h' b 7 = h a 7 → (∀ k, 0 ≤ k → k < 6 → h' (b + 1) k = h (a + 1) k) → (∀ j k, 2 ≤ j → j ≤ 5 → 0 ≤ k → k < 8 → h' (b + j) k = h (a + j) k) → K 0 g h') : xM C l d YX6_copyFolk [(2, b), (2, a)] g h K := by
  refine wX6_copyFolk hd ⟨ia, ib, fun h3 e3 h4 e4 h5 e5 h6 e6 h7 e7 h8 e8 => ?_⟩
  have r3 : ∀ x, x ≠ b → h3 x = h x := fun x q => by rw [e3, up_row q]
  have r4 : ∀ x, x ≠ b + 1 → h4 x = h3 x := fun x q => by rw [e4, cpy_row q]
  have r5 : ∀ x, x ≠ b + 2 → h5 x = h4 x := fun x q => by rw [e5, cpy_row q]
  have r6 : ∀ x, x ≠ b + 3 → h6 x = h5 x := fun x q => by rw [e6, cpy_row q]
  have r7 : ∀ x, x ≠ b + 4 → h7 x = h6 x := fun x q => by rw [e7, cpy_row q]
  have r8 : ∀ x, x ≠ b + 5 → h8 x = h7 x := fun x q => by rw [e8, cpy_row q]
  refine hK h8 (fun x q => by rw [r8 x (by omega), r7 x (by omega), r6 x (by omega), r5 x (by omega), r4 x (by omega), r3 x (by omega)]) (fun k q => by rw [r8 b (by omega), r7 b (by omega), r6 b (by omega), r5 b (by omega), r4 b (by omega), e3, up_col q]) (by rw [r8 b (by omega), r7 b (by omega), r6 b (by omega), r5 b (by omega), r4 b (by omega), e3, up_self]) (fun k k0 k1 => ?_) (fun j k j2 j5 k0 k1 => ?_)
  · rw [r8 _ (by omega), r7 _ (by omega), r6 _ (by omega), r5 _ (by omega), e4, cpy_if, if_pos rfl, if_pos ⟨k0, by omega⟩, r3 _ (by omega)]
    congr 1; omega
  · have hj : j = 2 ∨ j = 3 ∨ j = 4 ∨ j = 5 := by omega
    rcases hj with rfl | rfl | rfl | rfl
    · rw [r8 _ (by omega), r7 _ (by omega), r6 _ (by omega), e5, cpy_if, if_pos rfl, if_pos ⟨k0, by omega⟩, r4 _ (by omega), r3 _ (by omega)]
      congr 1; omega
    · rw [r8 _ (by omega), r7 _ (by omega), e6, cpy_if, if_pos rfl, if_pos ⟨k0, by omega⟩, r5 _ (by omega), r4 _ (by omega), r3 _ (by omega)]
      congr 1; omega
    · rw [r8 _ (by omega), e7, cpy_if, if_pos rfl, if_pos ⟨k0, by omega⟩, r6 _ (by omega), r5 _ (by omega), r4 _ (by omega), r3 _ (by omega)]
      congr 1; omega
    · rw [e8, cpy_if, if_pos rfl, if_pos ⟨k0, by omega⟩, r7 _ (by omega), r6 _ (by omega), r5 _ (by omega), r4 _ (by omega), r3 _ (by omega)]
      congr 1; omega
theorem x_copyAll {a b nb : Int} (hd : 2 ≤ d) (ia : mf_is 319 a 6) (ib : mf_is 319 b 6) (hab : a + 7 ≤ b ∨ b + 7 ≤ a) (h8 : nb ≤ 8) (hK : ∀ h', (∀ x, ¬ (b ≤ x ∧ x ≤ b + 6) → h' x = h x) → h' b 7 = h a 7 → h' b 6 = h a 6 → vX h' b nb = vX h a nb → (∀ ks, kpX h a ks → kpX h' b ks) → K 0 g h') : xM C l d YX6_copyAll [(2, b), (2, a)] g h K := by
  refine wX6_copyAll hd ⟨ib, x_copyFolk (by decide) ia ib hab (fun h3 r3 c3 d3 g3 b3 => ⟨ia, fun h6 e6 h7 e7 => ?_⟩)⟩
  have r6 : ∀ x, x ≠ b + 6 → h6 x = h3 x := fun x q => by rw [e6, cpy_row q]
  have e6a : h6 a 6 = h a 6 := by rw [r6 a (by omega), r3 a (by omega)]
  rw [e6a] at e7
  have r7 : ∀ x, x ≠ b → h7 x = h6 x := fun x q => by rw [e7, up_row q]
  have f7 : h7 b 7 = h a 7 := by rw [e7, up_col (by decide), r6 b (by omega), d3]
  have f6 : h7 b 6 = h a 6 := by rw [e7, up_self]
  have row : ∀ i, 0 ≤ i → i < 40 → h7 (b + 6) i = h (a + 6) i := fun i i0 i1 => by
    rw [r7 _ (by omega), e6, cpy_if, if_pos rfl, if_pos ⟨i0, by omega⟩, r3 _ (by omega)]
    congr 1; omega
  refine hK h7 (fun x q => by rw [r7 x (by omega), r6 x (by omega), r3 x (by omega)]) f7 f6 (vX_pos f7 (fun k k0 k1 => by rw [r7 _ (by omega), r6 _ (by omega), g3 k k0 k1]) (fun j k j2 j5 k0 k1 => by rw [r7 _ (by omega), r6 _ (by omega), b3 j k j2 j5 k0 k1]) h8) (fun ks hk => hk.to f6 row)
theorem isA {i : Int} (h0 : 0 ≤ i) (h1 : i < 20) : mf_is 319 (103 + 7 * i) 6 := by
  have key : ∀ n : Fin 20, (mf_sh (103 + 7 * n.val)).1 = 6 := by decide +kernel
  have := key ⟨i.toNat, by omega⟩
  refine ⟨by omega, by omega, ?_⟩
  rw [show (103 + 7 * i).toNat = 103 + 7 * i.toNat by omega]; exact this
theorem X_save (hd : 3 ≤ d) (R : RX S g h) (hK : ∀ h', RX (savS S) g h' → frH h h' → (∀ a, a ≠ 0 → ¬ (103 ≤ a ∧ a ≤ 242) → h' a = h a) → K 0 g h') : xM C l d YX11_saveAct [(2, 0)] g h K := by
  have n0 := R.ok.nx0
  have n1 := R.ok.nx1
  have u20 := R.ok.un
  refine wX11_saveAct hd ?_
  rw [R.nx]
  refine ⟨n0, n1, x_copyAll (nb := S.F.nb) (by decide) is88 (isA n0 n1) (by omega) R.ok.F.b8 (fun h5 r5 d5 t5 v5 k5 h6 e6 => ?_)⟩
  have z5 : h5 0 = h 0 := r5 0 (by omega)
  rw [z5, R.nx, w_id (by omega) (by omega), Int.tmod_eq_emod_of_nonneg (by omega)] at e6
  have e615 : h6 0 15 = S.un.length := by rw [e6, up_col (by decide), z5, R.un]
  rw [e615, w_id (by omega) (by omega)]
  refine x_mini (fun v7 q7 h10 e10 => ?_)
  have ul : ((savS S).un.length : Int) = if S.un.length < 20 then (S.un.length : Int) + 1 else 20 := by
    show ((((S.st, S.ks) :: S.un.take 19).length : Nat) : Int) = _
    simp only [List.length_cons, List.length_take]
    split <;> omega
  have ev : v7 = ((savS S).un.length : Int) := by rw [ul]; split <;> omega
  have r10 : ∀ a, a ≠ 0 → h10 a = h5 a := fun a q => by rw [e10, up_row q, e6, up_row q]
  have rr : ∀ a, a ≠ 0 → ¬ (103 ≤ a ∧ a ≤ 242) → h10 a = h a := fun a q1 q2 => by rw [r10 a q1, r5 a (by omega)]
  refine hK h10 (R.act R.ok.sav (fun k q1 q2 => by rw [e10, up_col q1, e6, up_col q2, z5]) ?_ ?_ ?_ (by rw [e10, up_self, ev]; rfl) (by rw [e10, up_col (by decide), e6, up_self]) (fun j hj => ?_) (fun a q => rr a q.1 q.2.2)) (fun a ha => rr a (by omega) (by omega)) rr
  · exact R.vik (fun a a1 a2 => rr a (by omega) (by omega))
  · exact R.kp.keep (by rw [rr 88 (by decide) (by decide)]) (rr _ (by decide) (by decide))
  · rw [rr 88 (by decide) (by decide)]; exact R.kb
  · have hj' : j < 20 := by
      have : ((savS S).un.length : Int) ≤ 20 := by rw [ul]; split <;> omega
      have : j < (savS S).un.length := hj
      omega
    cases j with
    | zero =>
      rw [show ((S.nx + 1) % 20 - 1 - ((0 : Nat) : Int)) % 20 = S.nx by omega]
      show vX h10 (103 + 7 * S.nx) S.F.nb = S.st ∧ kpX h10 (103 + 7 * S.nx) S.ks ∧ _
      refine ⟨?_, ?_, ?_⟩
      · rw [vX_row (h := h5) (by rw [r10 _ (by omega)]) (fun i j1 j2 => r10 _ (by omega)), v5, R.vi]
      · exact (k5 _ R.kp).keep (by rw [r10 _ (by omega)]) (r10 _ (by omega))
      · rw [r10 _ (by omega), t5, d5]; exact R.kb
    | succ j =>
      have hj2 : j < S.un.length := by
        have : j + 1 < ((S.st, S.ks) :: S.un.take 19).length := hj
        simp only [List.length_cons, List.length_take] at this
        omega
      have ej : ((S.nx + 1) % 20 - 1 - ((j + 1 : Nat) : Int)) % 20 = (S.nx - 1 - j) % 20 := by omega
      rw [ej]
      have eg : (((S.st, S.ks) :: S.un.take 19).getD (j + 1) aD) = S.un.getD j aD := by
        rw [List.getD_eq_getElem?_getD, List.getD_eq_getElem?_getD, List.getElem?_cons_succ, List.getElem?_take_of_lt (by omega)]
      rw [eg]
      obtain ⟨u1, u2, u3⟩ := R.us j hj2
      have hb : (S.nx - 1 - (j : Int)) % 20 ≠ S.nx := by omega
      generalize hm : (S.nx - 1 - (j : Int)) % 20 = m at u1 u2 u3 hb ⊢
      have b : ∀ i, 0 ≤ i → i ≤ 6 → h10 (103 + 7 * m + i) = h (103 + 7 * m + i) := fun i i0 i6 => by rw [r10 _ (by omega), r5 _ (by omega)]
      have b0 : h10 (103 + 7 * m) = h (103 + 7 * m) := by rw [r10 _ (by omega), r5 _ (by omega)]
      exact ⟨by rw [vX_row (h := h) (by rw [b0]) (fun i j1 j2 => b i (by omega) (by omega))]; exact u1, u2.keep (by rw [b0]) (b 6 (by decide) (by decide)), by rw [b0]; exact u3⟩
theorem okS.undo (o : okS S) (hne : S.un ≠ []) : okS (S.act (S.un.headD aD).1 (S.un.headD aD).2 (S.un.drop 1) ((S.nx + 19) % 20)) := by
  have u := o.un
  have hm : S.un.headD aD ∈ S.un := by
    cases hu : S.un with
    | nil => exact absurd hu hne
    | cons x t => simp
  exact o.act (o.us _ hm) (by simp; omega) (fun q hq => o.us q (List.mem_of_mem_drop hq)) (by omega) (by omega)
theorem X_undo (hd : 3 ≤ d) (R : RX S g h) (hK : ∀ h', RX (undoS S).2 g h' → frH h h' → K (undoS S).1 g h') : xM C l d YX11_undo [(2, 0)] g h K := by
  have n0 := R.ok.nx0
  have n1 := R.ok.nx1
  have u20 := R.ok.un
  unfold undoS at hK
  refine wX11_undo hd ⟨fun q h1 e1 h2 e2 => ?_, fun q h8 e8 => ?_⟩
  · rw [R.un] at q e1
    have hne : S.un ≠ [] := fun z => q (by rw [z]; rfl)
    rw [if_neg hne] at hK
    have hpos : 0 < S.un.length := by omega
    have e116 : h1 0 16 = S.nx := by rw [e1, up_col (by decide), R.nx]
    rw [e116, w_id (x := S.nx + 20) (by omega) (by omega), w_id (by omega) (by omega), Int.tmod_eq_emod_of_nonneg (by omega)] at e2
    have e216 : h2 0 16 = (S.nx - 1) % 20 := by rw [e2, up_self]; omega
    have r2 : ∀ a, a ≠ 0 → h2 a = h a := fun a q => by rw [e2, up_row q, e1, up_row q]
    have c2 : ∀ k, k ≠ 15 → k ≠ 16 → h2 0 k = h 0 k := fun k q1 q2 => by rw [e2, up_col q2, e1, up_col q1]
    have e215 : h2 0 15 = S.un.length - 1 := by rw [e2, up_col (by decide), e1, up_self, w_id (by omega) (by omega)]
    rw [e216]
    refine ⟨by omega, by omega, x_copyAll (nb := S.F.nb) (by decide) (isA (by omega) (by omega)) is88 (by omega) R.ok.F.b8 (fun h7 r7 d7 t7 v7 k7 => ?_)⟩
    obtain ⟨b1, b2, b3⟩ := R.us 0 hpos
    rw [show (S.nx - 1 - ((0 : Nat) : Int)) % 20 = (S.nx - 1) % 20 by omega] at b1 b2 b3
    have eh : S.un.getD 0 aD = S.un.headD aD := by cases S.un <;> rfl
    rw [eh] at b1 b2
    have rr : ∀ a, a ≠ 0 → ¬ (88 ≤ a ∧ a ≤ 94) → h7 a = h a := fun a q1 q2 => by rw [r7 a (by omega), r2 a q1]
    have z7 : h7 0 = h2 0 := r7 0 (by decide)
    generalize hm : (S.nx - 1) % 20 = m at e216 b1 b2 b3 r7 d7 t7 v7 k7
    have rb : ∀ i, 0 ≤ i → i ≤ 6 → h2 (103 + 7 * m + i) = h (103 + 7 * m + i) := fun i i0 i6 => r2 _ (by omega)
    have rb0 : h2 (103 + 7 * m) = h (103 + 7 * m) := r2 _ (by omega)
    refine hK h7 (R.act (R.ok.undo hne) (fun k q1 q2 => by rw [z7, c2 k q1 q2]) ?_ ?_ ?_ ?_ ?_ (fun j hj => ?_) (fun a q => rr a q.1 q.2.1)) (fun a ha => rr a (by omega) (by omega))
    · rw [v7, vX_row (h := h) (by rw [rb0]) (fun i j1 j2 => rb i (by omega) (by omega))]; exact b1
    · exact k7 _ (b2.keep (by rw [rb0]) (rb 6 (by decide) (by decide)))
    · rw [t7, d7, rb0]; exact b3
    · rw [z7, e215, List.length_drop]; omega
    · rw [z7, e216]; omega
    · rw [List.length_drop] at hj
      obtain ⟨u1, u2, u3⟩ := R.us (j + 1) (by omega)
      have ej : ((S.nx + 19) % 20 - 1 - (j : Int)) % 20 = (S.nx - 1 - ((j + 1 : Nat) : Int)) % 20 := by omega
      have eg : (S.un.drop 1).getD j aD = S.un.getD (j + 1) aD := by
        rw [List.getD_eq_getElem?_getD, List.getD_eq_getElem?_getD, List.getElem?_drop, Nat.add_comm]
      rw [ej, eg]
      generalize hm2 : (S.nx - 1 - ((j + 1 : Nat) : Int)) % 20 = m2 at u1 u2 u3 ⊢
      have b : ∀ i, 0 ≤ i → i ≤ 6 → h7 (103 + 7 * m2 + i) = h (103 + 7 * m2 + i) := fun i i0 i6 => rr _ (by omega) (by omega)
      have b0 : h7 (103 + 7 * m2) = h (103 + 7 * m2) := rr _ (by omega) (by omega)
      exact ⟨by rw [vX_row (h := h) (by rw [b0]) (fun i j1 j2 => b i (by omega) (by omega))]; exact u1, u2.keep (by rw [b0]) (b 6 (by decide) (by decide)), by rw [b0]; exact u3⟩
  · rw [R.un] at q
    have hne : S.un = [] := List.length_eq_zero_iff.mp (by omega)
    rw [if_pos hne] at hK
    rw [e8]; exact hK _ (R.ref (by decide) (by decide)) (frH.up (by decide))
theorem X_go {b a c : Int} (hd : 4 ≤ d) (R : RX S g h) (hK : ∀ h', RX (goS2 S b a c).2 g h' → frH h h' → K (goS2 S b a c).1 g h') : xM C l d YX11_go [(2, 0), (0, b), (0, a), (0, c)] g h K := by
  have b8 := R.ok.F.b8
  have l6 := R.ok.F.l6
  have c8 := R.ok.F.c8
  unfold goS2 at hK
  have bad : ¬ ((0 ≤ b ∧ b < S.F.nb) ∧ (0 ≤ a ∧ a < S.F.nl ∧ 0 ≤ c ∧ c < S.F.nc) ∧ freeB S.st S.F.nb a c) → ∀ h4 : mf_M, h4 = mf_up h 243 2 (mf_w32 ((h 243 2) + 1)) → K 0 g h4 := by
    intro q h4 e4
    rw [if_neg q] at hK
    rw [e4]; exact hK _ (R.ref (by decide) (by decide)) (frH.up (by decide))
  refine wX11_go hd (X_isBeing R (fun hb => ⟨fun z => absurd z (by decide), fun _ => X_isCell R (fun hc => ⟨fun z => absurd z (by decide), fun _ => ⟨isf R.fi, ?_⟩⟩) (fun hc => ⟨fun _ => bad (fun z => hc z.2.1), fun z => absurd rfl z⟩)⟩) (fun hb => ⟨fun _ => bad (fun z => hb z.1), fun z => absurd rfl z⟩))
  rw [R.fo.b]
  refine x_isFree (by decide) R.D hc.1 (by omega) ?_
  by_cases hf : freeB S.st S.F.nb a c = true
  · rw [if_pos hf]
    rw [if_pos ⟨hb, hc, hf⟩] at hK
    refine ⟨fun _ => X_save (by decide) R (fun h1 R1 f1 r1 => ⟨hb.1, by omega, fun h18 e18 h19 e19 => ?_⟩), fun z => absurd z (by decide)⟩
    have r19 : ∀ x, x ≠ 90 → x ≠ 91 → h19 x = h1 x := fun x q1 q2 => by rw [e19, up_row q2, e18, up_row q1]
    refine hK h19 (R1.now (R1.ok.act (R.ok.P.go hb.1 hb.2 hc.1 hc.2.1 hc.2.2.1 hc.2.2.2 hf) R1.ok.un R1.ok.us R1.ok.nx0 R1.ok.nx1) ?_ (R1.kp.keep (by rw [r19 88 (by decide) (by decide)]) (r19 _ (by decide) (by decide))) (by rw [r19 88 (by decide) (by decide)]; exact R1.kb) (fun x q => r19 x (by omega) (by omega))) (f1.tr (fun x q => r19 x (by omega) (by omega)))
    have v1 : vX h1 88 S.F.nb = S.st := R1.vi
    show vX h19 88 S.F.nb = _
    rw [e19, show (91 : Int) = 88 + 3 from rfl, vX_up (by decide) (by decide) hb.1 hb.2, e18, show (90 : Int) = 88 + 2 from rfl, vX_up (by decide) (by decide) hb.1 hb.2, v1]
  · rw [if_neg hf]
    exact ⟨fun z => absurd rfl z, fun _ => bad (fun z => hf z.2.2)⟩
theorem x_refuge {a c : Int} (hd : 2 ≤ d) (R : RX S g h) (a0 : 0 ≤ a) (a1 : a < S.F.nl) (c0 : 0 ≤ c) (c1 : c < S.F.nc) : ∀ (n : Nat) (far : Int), 1 ≤ far → far + n = 8 → K (refugeS S a c n far) g h → BX11_findRefuge_2 C l d K a c far g h := by
  have c8 := R.ok.F.c8
  have l6 := R.ok.F.l6
  -- behind the last cell there is none
  have none : ∀ (n : Nat) (far : Int), S.F.nc ≤ far → refugeS S a c n far = -1 := by
    intro n
    induction n with
    | zero => intro far _; rfl
    | succ n ih =>
      intro far hf
      unfold refugeS
      rw [if_neg (by omega), if_neg (by omega)]
      exact ih (far + 1) (by omega)
  intro n
  induction n with
  | zero =>
    intro far h0 hn hK
    refine vX11_findRefuge_2 hd ⟨isf R.fi, ?_⟩
    rw [R.fo.c]
    exact ⟨fun _ => hK, fun q => absurd (by omega) q⟩
  | succ n ih =>
    intro far h0 hn hK
    by_cases hfar : S.F.nc ≤ far
    · rw [none _ far hfar] at hK
      refine vX11_findRefuge_2 hd ⟨isf R.fi, ?_⟩
      rw [R.fo.c]
      exact ⟨fun _ => hK, fun q => absurd hfar q⟩
    · unfold refugeS at hK
      have second : ¬ (0 ≤ c - far ∧ freeB S.st S.F.nb a (c - far) = true) → BX11_findRefuge_44 C l d K a c far g h := by
        intro nq
        rw [if_neg nq] at hK
        refine vX11_findRefuge_44 hd ⟨isf R.fi, ?_⟩
        rw [R.fo.c, R.fo.b, w_id (x := c + far) (by omega) (by omega), w_id (x := far + 1) (by omega) (by omega)]
        refine ⟨fun q v2 e2 => ?_, fun q => x_isFree (by decide) R.D a0 (by omega) ?_⟩
        · rw [if_neg (by omega)] at hK
          rw [e2]; exact ih (far + 1) (by omega) (by omega) hK
        · by_cases hf : freeB S.st S.F.nb a (c + far) = true
          · rw [if_pos ⟨by omega, hf⟩] at hK
            rw [if_pos hf]
            exact ⟨fun z => absurd z (by decide), fun _ => hK⟩
          · rw [if_neg (fun z => hf z.2)] at hK
            rw [if_neg hf]
            exact ⟨fun _ v6 e6 => by rw [e6]; exact ih (far + 1) (by omega) (by omega) hK, fun z => absurd rfl z⟩
      refine vX11_findRefuge_2 hd ⟨isf R.fi, ?_⟩
      rw [R.fo.c, R.fo.b, w_id (x := c - far) (by omega) (by omega)]
      refine ⟨fun q => absurd q hfar, fun _ => ⟨fun q => second (by omega), fun q => x_isFree (by decide) R.D a0 (by omega) ?_⟩⟩
      by_cases hf : freeB S.st S.F.nb a (c - far) = true
      · rw [if_pos hf]
        rw [if_pos ⟨by omega, hf⟩] at hK
        exact ⟨fun z => absurd z (by decide), fun _ => hK⟩
      · rw [if_neg hf]
        exact ⟨fun _ => second (fun z => hf z.2), fun z => absurd rfl z⟩
theorem okP.evict {a c : Int} (o : okS S) (hc : 0 ≤ a ∧ a < S.F.nl ∧ 0 ≤ c ∧ c < S.F.nc) (w : ¬ whoS S.st S.F.nb a c = -1) (q1 : 0 ≤ refugeS S a c 7 1) (q2 : refugeS S a c 7 1 < S.F.nc) (q3 : refugeS S a c 7 1 ≠ c) (q4 : freeB S.st S.F.nb a (refugeS S a c 7 1) = true) : okP S.F (mf_up (mf_up S.st 1 a (mf_or (S.st 1 a) (mf_shl 1 c))) 3 (whoS S.st S.F.nb a c) (refugeS S a c 7 1)) S.ks := by
  obtain ⟨p1, p2, p3, p4⟩ := who_some w
  have g1 := o.P.go p1 p2 hc.1 hc.2.1 q1 q2 q4
  have e2 : mf_up S.st 2 (whoS S.st S.F.nb a c) a = S.st := by
    funext i m
    rw [up_if]
    by_cases e : i = 2 ∧ m = whoS S.st S.F.nb a c
    · rw [if_pos e, e.1, e.2]; exact p3.symm
    · rw [if_neg e]
  rw [e2] at g1
  have g2 := g1.gloss o.F hc.1 hc.2.1 hc.2.2.1 hc.2.2.2 (fun x x0 x1 z => ?_)
  · rw [up_row (by decide)] at g2
    have e3 : mf_up (mf_up S.st 3 (whoS S.st S.F.nb a c) (refugeS S a c 7 1)) 1 a (mf_or (S.st 1 a) (mf_shl 1 c)) = mf_up (mf_up S.st 1 a (mf_or (S.st 1 a) (mf_shl 1 c))) 3 (whoS S.st S.F.nb a c) (refugeS S a c 7 1) := by
      funext i m
      rw [up_if, up_if, up_if, up_if]
      by_cases y1 : i = 1 ∧ m = a
      · rw [if_pos y1, if_neg (by omega), if_pos y1]
      · rw [if_neg y1, if_neg y1]
    rw [e3] at g2; exact g2
  · rw [up_row (by decide), up_if] at z
    by_cases y : x = whoS S.st S.F.nb a c
    · rw [if_pos ⟨rfl, y⟩] at z; exact q3 z.2
    · rw [if_neg (fun v => y v.2)] at z
      exact o.P.ds x _ x0 x1 p1 p2 y ⟨by rw [z.1, p3], by rw [z.2, p4]⟩
theorem vX_upg {h : mf_M} {a nb k v : Int} (h0 : 0 ≤ k) (h1 : k < 6) : vX (mf_up h (a + 1) k v) a nb = mf_up (vX h a nb) 1 k v := by
  funext i m
  rw [up_if]
  unfold vX
  simp only [up_if]
  by_cases e0 : i = 0
  · subst e0
    rw [if_pos rfl, if_pos rfl, if_neg (by omega : ¬ ((0 : Int) = 1 ∧ m = k))]
    by_cases e9 : m = 0
    · rw [if_pos e9, if_pos e9, if_neg (by omega)]
    · rw [if_neg e9, if_neg e9]
  · rw [if_neg e0, if_neg e0]
    by_cases e1 : i = 1
    · subst e1
      rw [if_pos rfl, if_pos rfl]
      by_cases e2 : 0 ≤ m ∧ m < 6
      · rw [if_pos e2, if_pos e2]
        by_cases e3 : m = k
        · subst e3; simp
        · simp [e3]
      · rw [if_neg e2, if_neg e2, if_neg (by omega)]
    · have ne : ¬ (i = 1 ∧ m = k) := fun q => e1 q.1
      rw [if_neg ne, if_neg e1, if_neg e1]
      by_cases e2 : 2 ≤ i ∧ i ≤ 5 ∧ 0 ≤ m ∧ m < nb
      · rw [if_pos e2, if_pos e2, if_neg (by omega)]
      · rw [if_neg e2, if_neg e2]
theorem X_gloss {a c : Int} (hd : 4 ≤ d) (R : RX S g h) (hK : ∀ h', RX (glossS S a c).2 g h' → frH h h' → K (glossS S a c).1 g h') : xM C l d YX11_gloss [(2, 0), (0, a), (0, c)] g h K := by
  have b8 := R.ok.F.b8
  have l6 := R.ok.F.l6
  have c8 := R.ok.F.c8
  unfold glossS at hK
  have ref : (∀ h', RX (refS S 2) g h' → frH h h' → K (-1) g h') → ∀ h4 : mf_M, h4 = mf_up h 243 2 (mf_w32 ((h 243 2) + 1)) → K (-1) g h4 := by
    intro K h4 e4
    rw [e4]; exact K _ (R.ref (by decide) (by decide)) (frH.up (by decide))
  refine wX11_gloss (by omega) (X_isCell R (fun hc => ⟨fun z => absurd z (by decide), fun _ => x_gloss is88 hc.1 (by omega) ?_⟩) (fun hc => ⟨fun _ => ref ?_, fun z => absurd rfl z⟩))
  · rw [R.D.gl hc.1 (by omega)]
    by_cases hg : bitS (S.st 1 a) c = 1
    · have e : biS (bitS (S.st 1 a) c = 1) = 1 := by unfold biS; rw [if_pos hg]
      rw [e]
      rw [if_neg (fun z => z.2 hg)] at hK
      exact ⟨fun z => absurd z (by decide), fun _ => ref hK⟩
    · have e : biS (bitS (S.st 1 a) c = 1) = 0 := by unfold biS; rw [if_neg hg]
      rw [e]
      rw [if_pos ⟨hc, hg⟩] at hK
      refine ⟨fun _ => ⟨isf R.fi, ?_⟩, fun z => absurd rfl z⟩
      rw [R.fo.b]
      refine x_whoD R.D ?_
      -- the gloss is written
      have wr : ∀ x4 : Int, (∀ h1 h6, RX (savS S) g h1 → frH h h1 → h6 = mf_up h1 89 a (mf_or (S.st 1 a) (mf_shl 1 c)) → vX h6 88 S.F.nb = mf_up S.st 1 a (mf_or (S.st 1 a) (mf_shl 1 c)) → ((¬ whoS S.st S.F.nb a c = (-1) → 0 ≤ whoS S.st S.F.nb a c ∧ whoS S.st S.F.nb a c < 8 ∧ (∀ h9 : mf_M, h9 = mf_up h6 91 (whoS S.st S.F.nb a c) x4 → K x4 g h9)) ∧ (whoS S.st S.F.nb a c = (-1) → K 100 g h6))) → BX11_gloss_90 C l d K a c (whoS S.st S.F.nb a c) x4 g h := by
        intro x4 K
        refine vX11_gloss_90 hd (X_save (by decide) R (fun h1 R1 f1 r1 => wX6_writeGloss ⟨fun z => absurd z (by omega), fun _ => ⟨is88, fun z => absurd z (by omega), fun _ => ⟨hc.1, by omega, fun h4 e4 => ?_⟩⟩⟩))
        have v1 : vX h1 88 S.F.nb = S.st := R1.vi
        have e89 : h1 (88 + 1) a = S.st 1 a := by rw [← v1, vX_gl hc.1 (by omega)]
        rw [e89] at e4
        exact K h1 h4 R1 f1 e4 (by rw [e4, vX_upg hc.1 (by omega), v1])
      by_cases w : whoS S.st S.F.nb a c = -1
      · rw [if_pos w] at hK
        refine ⟨fun z => absurd w z, fun _ => vX11_gloss_65 ⟨fun _ => wr (-1) (fun h1 h6 R1 f1 e6 v6 => ⟨fun z => absurd w z, fun _ => ?_⟩), fun z => absurd w z⟩⟩
        have r6 : ∀ x, x ≠ 89 → h6 x = h1 x := fun x q => by rw [e6, up_row q]
        exact hK h6 (R1.now (R1.ok.act (R.ok.P.gloss R.ok.F hc.1 hc.2.1 hc.2.2.1 hc.2.2.2 (fun x x0 x1 => who_none w x0 x1)) R1.ok.un R1.ok.us R1.ok.nx0 R1.ok.nx1) v6 (R1.kp.keep (by rw [r6 88 (by decide)]) (r6 _ (by decide))) (by rw [r6 88 (by decide)]; exact R1.kb) (fun x q => r6 x (by omega))) (f1.tr (fun x q => r6 x (by omega)))
      · rw [if_neg w] at hK
        obtain ⟨p1, p2, p3, p4⟩ := who_some w
        refine ⟨fun _ => wX11_findRefuge (x_refuge (by decide) R hc.1 hc.2.1 hc.2.2.1 hc.2.2.2 7 1 (by decide) (by decide) ?_), fun z => absurd z w⟩
        rcases refuge_range (S := S) (a := a) hc.2.2.1 hc.2.2.2 7 1 (by decide) with e | ⟨q1, q2, q3, q4⟩
        · rw [if_pos e] at hK
          rw [e]
          exact vX11_gloss_65 ⟨fun z => absurd z w, fun _ => ⟨fun z => absurd rfl z, fun _ => ref hK⟩⟩
        · have hne : ¬ refugeS S a c 7 1 = -1 := by omega
          rw [if_neg hne] at hK
          refine vX11_gloss_65 ⟨fun z => absurd z w, fun _ => ⟨fun _ => wr _ (fun h1 h6 R1 f1 e6 v6 => ⟨fun _ => ⟨p1, by omega, fun h9 e9 => ?_⟩, fun z => absurd z w⟩), fun z => absurd z hne⟩⟩
          have r9 : ∀ x, x ≠ 89 → x ≠ 91 → h9 x = h1 x := fun x q1 q2 => by rw [e9, up_row q2, e6, up_row q1]
          have okm := okP.evict (S := S) R.ok hc w q1 q2 q3 q4
          refine hK h9 (R1.now (R1.ok.act okm R1.ok.un R1.ok.us R1.ok.nx0 R1.ok.nx1) ?_ (R1.kp.keep (by rw [r9 88 (by decide) (by decide)]) (r9 _ (by decide) (by decide))) (by rw [r9 88 (by decide) (by decide)]; exact R1.kb) (fun x q => r9 x (by omega) (by omega))) (f1.tr (fun x q => r9 x (by omega) (by omega)))
          show vX h9 88 S.F.nb = _
          rw [e9, show (91 : Int) = 88 + 3 from rfl, vX_up (by decide) (by decide) p1 p2, v6]
  · rw [if_neg (fun z => hc z.1)] at hK; exact hK
end SxA
