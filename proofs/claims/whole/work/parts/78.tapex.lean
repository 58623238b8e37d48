/-! the class: letters, trims, the tape, what is seen -/
theorem pv_range0 : ∀ (r : List Int), (∀ x ∈ r, 0 ≤ x ∧ x ≤ 26) → 0 ≤ pvS r ∧ pvS r < 27 ^ r.length
  | [], _ => ⟨by decide, by decide⟩
  | x :: r, hx => by
    obtain ⟨h1, h3⟩ := pv_range0 r (fun y hy => hx y (List.mem_cons_of_mem _ hy))
    have h4 := hx x List.mem_cons_self
    unfold pvS
    refine ⟨by omega, ?_⟩
    rw [List.length_cons, Int.pow_succ]
    omega
theorem b8_mod (x : Int) : mf_b8 (x % 256) = mf_b8 x := by unfold mf_b8; exact Int.emod_bmod x 256
theorem shr_inr (a b : Int) : inr (mf_shr a b) := by
  unfold mf_shr inr
  have h1 := (Int32.ofInt a >>> (Int32.ofInt b &&& 31)).le_toInt
  have h2 := (Int32.ofInt a >>> (Int32.ofInt b &&& 31)).toInt_lt
  omega
theorem b8_and255 {x : Int} (h : 0 ≤ x ∧ x ≤ 255) : mf_and (mf_b8 x) 255 = x := by
  have key : ∀ n : Fin 256, mf_and (mf_b8 (n.val : Int)) 255 = (n.val : Int) := by decide +kernel
  have := key ⟨x.toNat, by omega⟩
  have e : ((x.toNat : Nat) : Int) = x := by omega
  simp only [e] at this
  exact this
section SxT
variable {C : mf_G} {l : Launch} {d : Nat} {K : mf_Kt} {g h : mf_M} {S : aS}
theorem x_letterL : ∀ (m : Nat) (r : List Int) (x : Int), (∀ y ∈ r, 0 ≤ y ∧ y ≤ 26) → r.length ≤ 6 → x + m = 6 → m < r.length → K (r.getD m 0) g h → BX10_letterOf_6 C l d K (pvS r) x g h := by
  intro m
  induction m with
  | zero =>
    intro r x hr hl hx hm hK
    match r, hr, hl, hm, hK with
    | y :: r, hr, hl, hm, hK =>
      have h1 := (pv_range0 r (fun z hz => hr z (List.mem_cons_of_mem _ hz))).1
      have h4 := hr y List.mem_cons_self
      refine vX10_letterOf_6 ⟨fun _ => ?_, fun q => absurd (by omega) q⟩
      have e : pvS (y :: r) = 27 * pvS r + y := rfl
      rw [e, Int.tmod_eq_emod_of_nonneg (by omega), show (27 * pvS r + y) % 27 = y by omega]
      simpa using hK
  | succ m ih =>
    intro r x hr hl hx hm hK
    match r, hr, hl, hm, hK with
    | y :: r, hr, hl, hm, hK =>
      simp only [List.length_cons] at hl hm
      have h1 := pv_range0 r (fun z hz => hr z (List.mem_cons_of_mem _ hz))
      have h4 := hr y List.mem_cons_self
      have hp := pow27 (n := r.length) (by omega)
      refine vX10_letterOf_6 ⟨fun q => absurd q (by omega), fun _ v1 e1 v2 e2 => ?_⟩
      have e : pvS (y :: r) = 27 * pvS r + y := rfl
      rw [e, Int.tdiv_eq_ediv_of_nonneg (by omega), show (27 * pvS r + y) / 27 = pvS r by omega, w_id (by omega) (by omega)] at e1
      rw [w_id (by omega) (by omega)] at e2
      rw [e1, e2]
      exact ih r (x + 1) (fun z hz => hr z (List.mem_cons_of_mem _ hz)) (by omega) (by omega) (by omega) (by simpa using hK)
theorem X_letter {b k : Int} (hd : 1 ≤ d) (R : RX S g h) (hK : K (letterS S b k) g h) : xM C l d YX11_letter [(2, 0), (0, b), (0, k)] g h K := by
  unfold letterS at hK
  have b8 := R.ok.F.b8
  refine wX11_letter hd (X_isBeing R (fun hb => ⟨fun z => absurd z (by decide), fun _ => ⟨fun q => ?_, fun q => ⟨fun y => ⟨isf R.fi, hb.1, by omega, ?_⟩, fun y => ?_⟩⟩⟩) (fun hb => ⟨fun _ => ?_, fun z => absurd rfl z⟩))
  · rw [if_neg (by omega)] at hK; exact hK
  · rw [if_pos ⟨hb, by omega, by omega⟩] at hK
    obtain ⟨n1, n2, n3⟩ := R.ok.F.nm b hb.1 hb.2
    rw [R.fo.nm b hb.1 hb.2]
    refine wX10_letterOf (fun v1 e1 => ?_)
    rw [w_id (by omega) (by omega)] at e1
    rw [e1]
    unfold pkP
    have er : pkS (S.F.nm b ++ List.replicate (6 - (S.F.nm b).length) 0) = pvS (S.F.nm b ++ List.replicate (6 - (S.F.nm b).length) 0).reverse := by rw [← pk_rev, List.reverse_reverse]
    rw [er]
    have len : (S.F.nm b ++ List.replicate (6 - (S.F.nm b).length) 0).length = 6 := by simp; omega
    have dig : ∀ y ∈ (S.F.nm b ++ List.replicate (6 - (S.F.nm b).length) 0), (0 : Int) ≤ y ∧ y ≤ 26 := by
      intro y hy
      rcases List.mem_append.mp hy with hy | hy
      · have := n3 y hy; omega
      · have := (List.mem_replicate.mp hy).2; omega
    refine x_letterL (5 - k).toNat _ (k + 1) (fun y hy => dig y (List.mem_reverse.mp hy)) (by simp only [List.length_reverse]; omega) (by omega) (by simp only [List.length_reverse]; omega) ?_
    have e : (S.F.nm b ++ List.replicate (6 - (S.F.nm b).length) 0).reverse.getD (5 - k).toNat 0 = (S.F.nm b).getD k.toNat 0 := by
      rw [List.getD_eq_getElem?_getD, List.getElem?_reverse (by omega), len, List.getD_eq_getElem?_getD, show 6 - 1 - (5 - k).toNat = k.toNat by omega]
      by_cases hk : k.toNat < (S.F.nm b).length
      · rw [List.getElem?_append_left hk]
      · rw [List.getElem?_append_right (by omega), List.getElem?_eq_none (l := S.F.nm b) (by omega), List.getElem?_replicate]
        split <;> rfl
    rw [e]; exact hK
  · rw [if_neg (by omega)] at hK; exact hK
  · rw [if_neg (fun z => hb z.1)] at hK; exact hK
theorem x_trim2 {a s c : Int} (hd : 2 ≤ d) (R : RX S g h) (a0 : 0 ≤ a) (a1 : a < S.F.nl) (c0 : 0 ≤ c) (c8 : c < 8) (s0 : 0 ≤ s) (s1 : s ≤ 1000) : ∀ (n : Nat) (f : Int), f + 1 = n → f < c → (fdS (fun x => freeB S.st S.F.nb a x) n f < 0 → K (-1) g h) → (∀ v, v = fdS (fun x => freeB S.st S.F.nb a x) n f → 0 ≤ v → v ≤ f → BX5_findTrim_22 C l d K (g 0 12) 88 a (v - 1) (s + (c - v)) (c + 1) g h) → BX5_findTrim_46 C l d K (g 0 12) 88 a f s c g h := by
  have l6 := R.ok.F.l6
  intro n
  induction n with
  | zero =>
    intro f fn fc hA hB
    refine vX5_findTrim_46 hd ⟨fun _ => ⟨fun q => absurd q (by omega), fun _ => hA (show (-1 : Int) < 0 by decide)⟩, fun q => absurd (by omega) q⟩
  | succ n ih =>
    intro f fn fc hA hB
    unfold fdS at hA hB
    refine vX5_findTrim_46 hd ⟨fun q => absurd q (by omega), fun _ => ⟨isf R.fi, is88, ?_⟩⟩
    rw [R.fo.b]
    refine x_isFree (by decide) R.D a0 (by omega) ?_
    by_cases hf : freeB S.st S.F.nb a f = true
    · rw [if_pos hf]
      refine ⟨fun _ => ⟨fun _ v9 e9 v10 e10 v11 e11 => ?_, fun z => absurd (by omega) z⟩, fun z => absurd z (by decide)⟩
      have := hB f (by rw [if_pos hf]) (by omega) (by omega)
      rw [w_id (x := c - f) (by omega) (by omega), w_id (by omega) (by omega)] at e9
      rw [w_id (by omega) (by omega)] at e10 e11
      rw [e9, e10, e11]; exact this
    · rw [if_neg hf]
      refine ⟨fun z => absurd rfl z, fun _ v12 e12 => ?_⟩
      rw [w_id (by omega) (by omega)] at e12
      rw [e12]
      refine ih (f + -1) (by omega) (by omega) (fun z => hA ?_) (fun v ev v0 vf => hB v ?_ v0 (by omega))
      · rw [if_neg hf]; exact z
      · rw [if_neg hf]; exact ev
theorem x_trim1 {a : Int} (hd : 2 ≤ d) (R : RX S g h) (a0 : 0 ≤ a) (a1 : a < S.F.nl) : ∀ (n : Nat) (c f s : Int), 0 ≤ c → c + n = S.F.nc → -1 ≤ f → f < c → 0 ≤ s → s ≤ 8 * c → K (trS S a n c f s) g h → BX5_findTrim_22 C l d K (g 0 12) 88 a f s c g h := by
  have c8 := R.ok.F.c8
  intro n
  induction n with
  | zero =>
    intro c f s c0 cn f0 f1 s0 s1 hK
    refine vX5_findTrim_22 (by omega) ⟨isf R.fi, ?_⟩
    rw [R.fo.c]
    exact ⟨fun _ => hK, fun q => absurd (by omega) q⟩
  | succ n ih =>
    intro c f s c0 cn f0 f1 s0 s1 hK
    unfold trS at hK
    refine vX5_findTrim_22 (by omega) ⟨isf R.fi, ?_⟩
    rw [R.fo.c, R.fo.b]
    refine ⟨fun q => absurd q (by omega), fun _ => ⟨is88, x_whoD R.D ⟨fun w v6 e6 => ?_, fun w => ?_⟩⟩⟩
    · rw [if_pos w] at hK
      rw [w_id (by omega) (by omega)] at e6
      rw [e6]; exact ih (c + 1) f s (by omega) (by omega) f0 (by omega) s0 (by omega) hK
    · rw [if_neg w] at hK
      refine x_trim2 hd R a0 a1 c0 (by omega) s0 (by omega) (f + 1).toNat f (by omega) f1 (fun q => ?_) (fun v ev v0 vf => ?_)
      · rw [if_pos q] at hK; exact hK
      · rw [if_neg (by omega)] at hK
        rw [← ev] at hK
        exact ih (c + 1) (v - 1) _ (by omega) (by omega) (by omega) (by omega) (by omega) (by omega) hK
theorem X_trim {a m : Int} (hd : 3 ≤ d) (R : RX S g h) (hK : K (trimS S a m) g h) : xM C l d YX11_trim [(2, 0), (0, a), (0, m)] g h K := by
  unfold trimS at hK
  have l0 := R.ok.F.l0
  have l6 := R.ok.F.l6
  have c0 := R.ok.F.c0
  have c8 := R.ok.F.c8
  refine wX11_trim hd ⟨fun q => ?_, fun q => ⟨isf R.fi, ?_⟩⟩
  · rw [if_neg (by omega)] at hK; exact hK
  · rw [R.fo.c]
    refine ⟨fun z => ?_, fun z => X_isCell R (fun hc => ⟨fun _ => wX5_findTrim ⟨isf R.fi, ?_⟩, fun y => absurd y (by decide)⟩) (fun hc => ⟨fun y => absurd rfl y, fun _ => ?_⟩)⟩
    · rw [if_neg (by omega)] at hK; exact hK
    · rw [if_pos ⟨by omega, by omega, by omega, by omega⟩] at hK
      rw [R.fo.c]
      intro v2 e2 v3 e3
      rw [w_id (by omega) (by omega)] at e2
      rw [e2, w_id (by omega) (by omega)] at e3
      rw [e2, e3]
      exact x_trim1 (by decide) R hc.1 hc.2.1 m.toNat (S.F.nc - m) _ 0 (by omega) (by omega) (by omega) (by omega) (by decide) (by omega) hK
    · rw [if_neg (by omega)] at hK; exact hK
theorem x_addL {w t : Int} {h0 : mf_M} (t0 : 0 ≤ t) (t1 : t + 4 ≤ 1600) (hK : ∀ h', (∀ x, x ≠ 3 → x ≠ 4 → h' x = h0 x) → h' 3 1 = t + 4 → (∀ i, i < t → h' 4 i = h0 4 i) → (∀ i, 0 ≤ i → i < 4 → h' 4 (t + i) = mf_b8 (byS w i)) → K 0 g h') : ∀ (n : Nat) (k : Int) (h : mf_M), 0 ≤ k → k + n = 4 → (∀ x, x ≠ 3 → x ≠ 4 → h x = h0 x) → h 3 1 = t + k → (∀ i, i < t → h 4 i = h0 4 i) → (∀ i, 0 ≤ i → i < k → h 4 (t + i) = mf_b8 (byS w i)) → BX8_add_3 C l d K w (24 - 8 * k) g h := by
  intro n
  induction n with
  | zero =>
    intro k h k0 kn f1 f3 f4 f5
    have ek : k = 4 := by omega
    subst ek
    exact vX8_add_3 ⟨fun _ => hK h f1 f3 f4 f5, fun q => absurd (by omega) q⟩
  | succ n ih =>
    intro k h k0 kn f1 f3 f4 f5
    refine vX8_add_3 ⟨fun q => absurd q (by omega), fun _ => ?_⟩
    rw [f3]
    refine ⟨fun q => absurd q (by omega), fun _ => ⟨by omega, by omega, fun h4 e4 h5 e5 v6 e6 => ?_⟩⟩
    have e41 : h4 3 1 = t + k := by rw [e4, up_row (by decide)]; exact f3
    rw [e41, w_id (by omega) (by omega)] at e5
    rw [w_id (by omega) (by omega), show 24 - 8 * k + -8 = 24 - 8 * (k + 1) by omega] at e6
    rw [e6]
    refine ih (k + 1) h5 (by omega) (by omega) (fun x q1 q2 => by rw [e5, up_row q1, e4, up_row q2]; exact f1 x q1 q2) (by rw [e5, up_self]; omega) (fun i q => by rw [e5, up_row (by decide), e4, up_col (by omega)]; exact f4 i q) (fun i q1 q2 => ?_)
    rw [e5, up_row (by decide), e4, up_if]
    by_cases ei : i = k
    · rw [if_pos ⟨rfl, by omega⟩, b8_b8, ei]
      unfold byS
      have hr := shr_inr w (24 - 8 * k)
      rw [show 8 * (3 - k % 4) = 24 - 8 * k by omega, and255 hr.1 hr.2, b8_mod]
    · rw [if_neg (by omega)]; exact f5 i q1 (by omega)
theorem x_add {w t : Int} (t0 : 0 ≤ t) (t1 : t + 4 ≤ 1600) (e : h 3 1 = t) (hK : ∀ h', (∀ x, x ≠ 3 → x ≠ 4 → h' x = h x) → h' 3 1 = t + 4 → (∀ i, i < t → h' 4 i = h 4 i) → (∀ i, 0 ≤ i → i < 4 → h' 4 (t + i) = mf_b8 (byS w i)) → K 0 g h') : xM C l d YX8_add [(2, 3), (0, w)] g h K :=
  wX8_add (x_addL (h0 := h) t0 t1 hK 4 0 h (by decide) (by decide) (fun _ _ _ => rfl) (by omega) (fun _ _ => rfl) (fun i q1 q2 => absurd q2 (by omega)))
theorem X_feed {a b c e f : Int} (hd : 1 ≤ d) (R : RX S g h) (hK : ∀ h', RX (feedS S a b c e f).2 g h' → frH h h' → K (feedS S a b c e f).1 g h') : xM C l d YX11_feed [(2, 0), (0, a), (0, b), (0, c), (0, e), (0, f)] g h K := by
  unfold feedS at hK
  have t0 := R.ok.tn0
  have t1 := R.ok.tn1
  refine wX11_feed hd ?_
  rw [R.tn, w_id (by omega) (by omega)]
  refine ⟨fun q => ?_, fun q h1 e1 => ?_⟩
  · rw [if_neg (by omega)] at hK
    refine x_add t0 (by omega) R.tn (fun h1 r1 c1 l1 n1 => x_add (by omega) (by omega) c1 (fun h2 r2 c2 l2 n2 => x_add (by omega) (by omega) c2 (fun h3 r3 c3 l3 n3 => x_add (by omega) (by omega) c3 (fun h4 r4 c4 l4 n4 => x_add (by omega) (by omega) c4 (fun h5 r5 c5 l5 n5 => ?_)))))
    have e5 : h5 3 1 = S.tn + 20 := by rw [c5]; omega
    rw [e5]
    have rr : ∀ x, x ≠ 3 ∧ x ≠ 4 → h5 x = h x := fun x q => by rw [r5 x q.1 q.2, r4 x q.1 q.2, r3 x q.1 q.2, r2 x q.1 q.2, r1 x q.1 q.2]
    have o := R.ok
    have key : ∀ i, 0 ≤ (if S.tn ≤ i ∧ i < S.tn + 20 then byS (wdS a b c e f (i - S.tn)) (i - S.tn) else S.tp i) ∧ (if S.tn ≤ i ∧ i < S.tn + 20 then byS (wdS a b c e f (i - S.tn)) (i - S.tn) else S.tp i) ≤ 255 := fun i => by
      split
      · exact and_255_range _
      · exact R.ok.tp i
    refine hK h5 (R.tape ⟨o.F, o.P, by show 0 ≤ S.tn + 20; omega, by show S.tn + 20 ≤ 1600; omega, key, o.un, o.us, o.nx0, o.nx1, o.sn, o.ss, o.sd0, o.sd1, o.oc⟩ e5 (fun i i0 i1 => ?_) rr) (fun x hx => rr x (by omega))
    · by_cases ei : S.tn ≤ i
      · rw [if_pos ⟨ei, i1⟩]
        have by4 : ∀ w j k : Int, j = k % 4 → byS w j = byS w k := fun w j k hj => by unfold byS; rw [hj, show k % 4 % 4 = k % 4 by omega]
        by_cases z4 : S.tn + 4 + 4 + 4 + 4 ≤ i
        · have := n5 (i - (S.tn + 4 + 4 + 4 + 4)) (by omega) (by omega)
          rw [show S.tn + 4 + 4 + 4 + 4 + (i - (S.tn + 4 + 4 + 4 + 4)) = i by omega] at this
          rw [this, by4 f _ (i - S.tn) (by omega)]
          unfold wdS; rw [if_neg (by omega), if_neg (by omega), if_neg (by omega), if_neg (by omega)]
        · rw [l5 i (by omega)]
          by_cases z3 : S.tn + 4 + 4 + 4 ≤ i
          · have := n4 (i - (S.tn + 4 + 4 + 4)) (by omega) (by omega)
            rw [show S.tn + 4 + 4 + 4 + (i - (S.tn + 4 + 4 + 4)) = i by omega] at this
            rw [this, by4 e _ (i - S.tn) (by omega)]
            unfold wdS; rw [if_neg (by omega), if_neg (by omega), if_neg (by omega), if_pos (by omega)]
          · rw [l4 i (by omega)]
            by_cases z2 : S.tn + 4 + 4 ≤ i
            · have := n3 (i - (S.tn + 4 + 4)) (by omega) (by omega)
              rw [show S.tn + 4 + 4 + (i - (S.tn + 4 + 4)) = i by omega] at this
              rw [this, by4 c _ (i - S.tn) (by omega)]
              unfold wdS; rw [if_neg (by omega), if_neg (by omega), if_pos (by omega)]
            · rw [l3 i (by omega)]
              by_cases z1 : S.tn + 4 ≤ i
              · have := n2 (i - (S.tn + 4)) (by omega) (by omega)
                rw [show S.tn + 4 + (i - (S.tn + 4)) = i by omega] at this
                rw [this, by4 b _ (i - S.tn) (by omega)]
                unfold wdS; rw [if_neg (by omega), if_pos (by omega)]
              · rw [l2 i (by omega)]
                have := n1 (i - S.tn) (by omega) (by omega)
                rw [show S.tn + (i - S.tn) = i by omega] at this
                rw [this]
                unfold wdS; rw [if_pos (by omega)]
      · rw [if_neg (by omega), l5 i (by omega), l4 i (by omega), l3 i (by omega), l2 i (by omega), l1 i (by omega)]
        exact R.tp i i0 (by omega)
  · rw [if_pos (by omega)] at hK
    rw [e1]; exact hK _ (R.ref (by decide) (by decide)) (frH.up (by decide))
theorem x_byteAt {k n : Int} {tp : Int → Int} (e1 : h 3 1 = n) (n1 : n ≤ 1600) (e2 : ∀ i, 0 ≤ i → i < n → h 4 i = mf_b8 (tp i)) (b : ∀ i, 0 ≤ tp i ∧ tp i ≤ 255) (k0 : 0 ≤ k) (k1 : k < n) (hK : K (tp k) g h) : xM C l d YX8_byteAt [(2, 3), (0, k)] g h K := by
  refine wX8_byteAt ⟨fun q => absurd q (by omega), fun _ => ⟨fun q => absurd q (by omega), fun _ => ⟨fun _ => ⟨k0, by omega, ?_⟩, fun q => absurd q (by omega)⟩⟩⟩
  rw [e2 k k0 k1, b8_and255 (b k)]; exact hK
theorem x_seen2 {N : Int} {tp : Int → Int} {h0 : mf_M} (N0 : 0 ≤ N) (N1 : N ≤ 16) (hd : 1 ≤ d) (n1 : 2 * N ≤ h0 3 1) (n2 : h0 3 1 ≤ 1600) (e2 : ∀ i, 0 ≤ i → i < h0 3 1 → h0 4 i = mf_b8 (tp i)) (b : ∀ i, 0 ≤ tp i ∧ tp i ≤ 255) (e11 : h0 51 11 = N) (hK : ∀ h', (∀ a, a ≠ 65 → a ≠ 66 → h' a = h0 a) → (∀ i, 0 ≤ i → i < N → h' 65 i = tp (2 * i) ∧ h' 66 i = tp (2 * i + 1)) → K 1 g h') : ∀ (n : Nat) (k : Int) (h : mf_M), 0 ≤ k → k + n = N → (∀ a, a ≠ 65 → a ≠ 66 → h a = h0 a) → (∀ i, 0 ≤ i → i < k → h 65 i = tp (2 * i) ∧ h 66 i = tp (2 * i + 1)) → BX5_takeSeen_84 C l d K 3 k g h := by
  intro n
  induction n with
  | zero =>
    intro k h k0 kn f1 f2
    have e : h 51 11 = N := by rw [f1 51 (by decide) (by decide)]; exact e11
    refine vX5_takeSeen_84 hd ⟨fun _ => hK h f1 (fun i q1 q2 => f2 i q1 (by omega)), fun q => absurd (by omega) q⟩
  | succ n ih =>
    intro k h k0 kn f1 f2
    have e : h 51 11 = N := by rw [f1 51 (by decide) (by decide)]; exact e11
    have e3 : ∀ hh : mf_M, (∀ a, a ≠ 65 → a ≠ 66 → hh a = h0 a) → hh 3 1 = h0 3 1 ∧ ∀ i, 0 ≤ i → i < h0 3 1 → hh 4 i = mf_b8 (tp i) := fun hh q => ⟨by rw [q 3 (by decide) (by decide)], by rw [q 4 (by decide) (by decide)]; exact e2⟩
    refine vX5_takeSeen_84 hd ⟨fun q => absurd q (by omega), fun _ => ⟨fun q => absurd q (by omega), fun _ => ⟨is3, ?_⟩⟩⟩
    rw [w_id (x := 2 * k) (by omega) (by omega), w_id (x := 2 * k + 1) (by omega) (by omega)]
    refine x_byteAt (e3 h f1).1 n2 (e3 h f1).2 b (by omega) (by omega) ⟨k0, by omega, fun h7 e7 => ?_⟩
    have f7 : ∀ a, a ≠ 65 → a ≠ 66 → h7 a = h0 a := fun a q1 q2 => by rw [e7, up_row q1]; exact f1 a q1 q2
    refine x_byteAt (e3 h7 f7).1 n2 (e3 h7 f7).2 b (by omega) (by omega) (fun h11 q11 v12 q12 => ?_)
    rw [w_id (by omega) (by omega)] at q12
    rw [q12]
    refine ih (k + 1) h11 (by omega) (by omega) (fun a q1 q2 => by rw [q11, up_row q2]; exact f7 a q1 q2) (fun i q1 q2 => ?_)
    rw [q11, up_row (by decide), e7, up_if, up_if]
    by_cases ei : i = k
    · rw [if_pos ⟨rfl, ei⟩, if_pos ⟨rfl, ei⟩, ei]; exact ⟨rfl, rfl⟩
    · rw [if_neg (by omega), if_neg (by omega), up_row (by decide)]; exact f2 i q1 (by omega)
theorem x_seen1 (hd : 1 ≤ d) (R : RX S g h) (he : S.tn % 2 = 0) (t32 : S.tn ≤ 32) (A : allN (fun k => decide (S.tp (2 * k) < S.F.nb) && decide (S.tp (2 * k + 1) < S.F.nc)) (S.tn / 2).toNat 0 = true → ∀ h2 : mf_M, h2 = mf_up h 51 11 (mf_w32 ((h 3 1).tdiv 2)) → BX5_takeSeen_84 C l d K 3 0 g h2) (B : allN (fun k => decide (S.tp (2 * k) < S.F.nb) && decide (S.tp (2 * k + 1) < S.F.nc)) (S.tn / 2).toNat 0 = false → K 0 g h) : ∀ (n : Nat) (k : Int), 0 ≤ k → 2 * k + 2 * n = S.tn → (∀ i, 0 ≤ i → i < k → (decide (S.tp (2 * i) < S.F.nb) && decide (S.tp (2 * i + 1) < S.F.nc)) = true) → BX5_takeSeen_30 C l d K (g 0 12) 3 (2 * k) g h := by
  intro n
  have t0 := R.ok.tn0
  induction n with
  | zero =>
    intro k k0 kn hp
    refine vX5_takeSeen_30 hd ⟨is3, ?_⟩
    rw [R.tn]
    refine ⟨fun _ => ?_, fun q => absurd (by omega) q⟩
    rw [R.tn] at A
    exact A ((allN_iff _ _ _).mpr (fun i q1 q2 => hp i q1 (by omega)))
  | succ n ih =>
    intro k k0 kn hp
    have no : (decide (S.tp (2 * k) < S.F.nb) && decide (S.tp (2 * k + 1) < S.F.nc)) = false → K 0 g h := fun q => B (by
      cases hq : allN (fun k => decide (S.tp (2 * k) < S.F.nb) && decide (S.tp (2 * k + 1) < S.F.nc)) (S.tn / 2).toNat 0 with
      | false => rfl
      | true => have := (allN_iff _ _ _).mp hq k k0 (by omega); rw [q] at this; exact absurd this (by decide))
    refine vX5_takeSeen_30 hd ⟨is3, ?_⟩
    rw [R.tn]
    refine ⟨fun q => absurd q (by omega), fun _ => x_byteAt R.tn R.ok.tn1 R.tp R.ok.tp (by omega) (by omega) ⟨isf R.fi, ?_⟩⟩
    rw [R.fo.b]
    refine ⟨fun q => no ?_, fun q => ?_⟩
    · rw [decide_eq_false (by omega)]; rfl
    · rw [w_id (x := 2 * k + 1) (by omega) (by omega)]
      refine x_byteAt R.tn R.ok.tn1 R.tp R.ok.tp (by omega) (by omega) ?_
      rw [R.fo.c]
      refine ⟨fun z v10 e10 => ?_, fun z => no ?_⟩
      · rw [w_id (by omega) (by omega), show 2 * k + 2 = 2 * (k + 1) by omega] at e10
        rw [e10]
        refine ih (k + 1) (by omega) (by omega) (fun i q1 q2 => ?_)
        by_cases ei : i = k
        · rw [ei, decide_eq_true (by omega), decide_eq_true z]; rfl
        · exact hp i q1 (by omega)
      · rw [decide_eq_false z, Bool.and_false]
theorem X_see (hd : 2 ≤ d) (R : RX S g h) (hK : ∀ h', RX (seeS S).2 g h' → frH h h' → K (seeS S).1 g h') : xM C l d YX11_see [(2, 0)] g h K := by
  have t0 := R.ok.tn0
  have t1 := R.ok.tn1
  unfold seeS at hK
  have bad : seeB S = false → ∀ h4 : mf_M, h4 = mf_up h 3 1 0 → ((¬ (0 : Int) = 0 → K (h4 51 11) g h4) ∧ ((0 : Int) = 0 → (∀ h5 : mf_M, h5 = mf_up h4 243 1 (mf_w32 ((h4 243 1) + 1)) → K (-1) g h5))) := by
    intro q h4 e4
    refine ⟨fun z => absurd rfl z, fun _ h5 e5 => ?_⟩
    rw [if_neg (by rw [q]; decide)] at hK
    have R4 : RX (S.s_tn 0) g h4 := by rw [e4]; exact R.s_tn (by decide) t0
    rw [e5]; exact hK _ (R4.ref (by decide) (by decide)) ((by rw [e4]; exact frH.up (by decide) : frH h h4).tr (frH.up (by decide)))
  refine wX11_see hd (wX5_takeSeen ⟨is3, ?_⟩)
  rw [R.tn]
  refine ⟨fun q => bad ?_, fun q => ⟨fun z => bad ?_, fun z => ⟨fun y => ?_, fun y => bad ?_⟩⟩⟩
  · unfold seeB; rw [decide_eq_false (by omega)]; rfl
  · unfold seeB; rw [decide_eq_false (by omega : ¬ S.tn ≤ 32)]; simp
  · rw [Int.tmod_eq_emod_of_nonneg t0] at y
    refine x_seen1 (by decide) R y (by omega) (fun A h2 e2 => ?_) (fun B => bad ?_) (S.tn / 2).toNat 0 (by decide) (by omega) (fun i q1 q2 => absurd q2 (by omega))
    · have sb : seeB S = true := by
        unfold seeB; rw [A, decide_eq_true (by omega), decide_eq_true (by omega), decide_eq_true y]; rfl
      rw [if_pos sb] at hK
      rw [R.tn, Int.tdiv_eq_ediv_of_nonneg t0, w_id (by omega) (by omega)] at e2
      have r2 : ∀ a, a ≠ 51 → h2 a = h a := fun a q => by rw [e2, up_row q]
      refine x_seen2 (N := S.tn / 2) (tp := S.tp) (h0 := h2) (by omega) (by omega) (by decide) (by rw [r2 3 (by decide), R.tn]; omega) (by rw [r2 3 (by decide), R.tn]; exact t1) (by rw [r2 3 (by decide), r2 4 (by decide), R.tn]; exact R.tp) R.ok.tp (by rw [e2, up_self]) (fun h3 f1 f2 h4 e4 => ⟨fun _ => ?_, fun z => absurd z (by decide)⟩) (S.tn / 2).toNat 0 h2 (by decide) (by omega) (fun _ _ _ => rfl) (fun i q1 q2 => absurd q2 (by omega))
      have e11 : h4 51 11 = S.tn / 2 := by rw [e4, up_row (by decide), f1 51 (by decide) (by decide), e2, up_self]
      have rr : ∀ a, a ≠ 51 → a ≠ 65 → a ≠ 66 → a ≠ 3 → h4 a = h a := fun a q1 q2 q3 q4 => by rw [e4, up_row q4, f1 a q2 q3, r2 a q1]
      have e3' : h4 3 = mf_up h 3 1 0 3 := by
        funext i
        rw [e4, up_if, up_if, f1 3 (by decide) (by decide), r2 3 (by decide)]
      have R1 := R.s_tn (n := 0) (by decide) t0
      have len : (prsN S.tp (S.tn / 2).toNat 0).length = (S.tn / 2).toNat := prsN_len _ _ _
      have gg := (allN_iff _ _ _).mp A
      rw [e11]
      refine hK h4 (R1.s_sn (R1.ok.s_sn (by rw [len]; omega) (fun p hp => ?_)) (by rw [e11, len]; omega) (fun j hj => ?_) (fun a q => ?_)) (fun a ha => rr a (by omega) (by omega) (by omega) (by omega))
      · obtain ⟨i, i0, i1, ei⟩ := prsN_mem _ _ _ p hp
        have gi := gg i i0 (by omega)
        rw [Bool.and_eq_true, decide_eq_true_eq, decide_eq_true_eq] at gi
        rw [ei]
        exact ⟨(R.ok.tp _).1, gi.1, (R.ok.tp _).1, gi.2⟩
      · rw [len] at hj
        rw [prsN_get _ _ _ _ hj, Int.zero_add, e4, up_row (by decide), up_row (by decide)]
        exact f2 j (by omega) (by omega)
      · by_cases h3' : a = 3
        · rw [h3']; exact e3'
        · rw [rr a q.1 q.2.1 q.2.2 h3', up_row h3']
    · unfold seeB; rw [B, Bool.and_false]
  · rw [Int.tmod_eq_emod_of_nonneg t0] at y
    unfold seeB; rw [decide_eq_false y]; simp
end SxT
