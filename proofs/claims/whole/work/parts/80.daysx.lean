/-! the class: days, chance, images -/
section SxDy
variable {C : mf_G} {l : Launch} {d : Nat} {K : mf_Kt} {g h : mf_M} {S : aS}
theorem RX.day (R : RX S g h) {h' : mf_M} {σ : mf_M} {ks : List (Int × Int × Int)} (fr : frC 88 h h') (ok : okS (S.act σ ks S.un S.nx)) (v : vX h' 88 S.F.nb = σ) (k1 : kpX h' 88 ks) (k2 : h' 88 6 ≤ 64 * h' 88 7) : RX (S.act σ ks S.un S.nx) g h' := by
  obtain ⟨h1, e, e2⟩ : ∃ h1 : mf_M, (∀ a, 88 ≤ a ∧ a ≤ 94 → h1 a = h' a) ∧ ∀ a, ¬ (88 ≤ a ∧ a ≤ 94) → h1 a = h a := ⟨fun a => if 88 ≤ a ∧ a ≤ 94 then h' a else h a, fun a q => if_pos q, fun a q => if_neg q⟩
  have R1 : RX (S.act σ ks S.un S.nx) g h1 := by
    refine R.now ok ?_ (k1.keep (by rw [e 88 (by decide)]) (e _ (by decide))) (by rw [e 88 (by decide)]; exact k2) e2
    rw [vX_row (h := h') (by rw [e 88 (by decide)]) (fun j j1 j2 => e _ (by omega))]; exact v
  refine R1.keep ⟨fun a q1 q2 _ q4 _ _ _ _ => ?_, ?_, fun a ha q => ?_⟩
  · by_cases c : 88 ≤ a ∧ a ≤ 94
    · rw [e a c]
    · rw [e2 a c]; exact fr a q1 q2 q4 c
  · rw [e2 51 (by decide), fr 51 (by decide) (by decide) (by decide) (by decide)]
  · have : a = 53 ∨ a = 67 ∨ a = 74 ∨ a = 81 := by simpa using ha
    rw [e2 a (by omega)] at q
    rw [fr a (by omega) (by omega) (by omega) (by omega)]; exact q
theorem frC.H {a : Int} {h h' : mf_M} (f : frC a h h') (ha : a ≤ 236) : frH h h' := fun x hx => f x (by omega) (by omega) (by omega) (by omega)
theorem X_day {o : Int} (hd : 5 ≤ d) (R : RX S g h) (o1 : -1000 ≤ o) (o2 : o ≤ 1000) (h9 : S.st 0 0 < 999) (hK : ∀ h', RX (dayA S o) g h' → frH h h' → K (prS S.st S.F.nl S.F.nc S.F.nb o) g h') : xM C l d YX0_passDay [(2, 46), (2, g 0 12), (2, 88), (0, o)] g h K := by
  refine x_passDay hd R.D o1 o2 (fun h' fr v kc => ?_)
  have hp := prS_range S.st S.F.nl S.F.nc S.F.nb o R.ok.F.b8
  have el := dy_len S.F o S.st
  have e7 := R.D.day
  have kb := R.kb
  obtain ⟨k1, k2⟩ := kc.2 S.ks R.kp (by rw [el]; omega)
  rw [e7] at k1
  have e7' : h' 88 7 = S.st 0 0 + 1 := by rw [← vX_day h' 88 S.F.nb, v, dy_day]
  exact hK h' (R.day fr (R.ok.act (okP.dayA R.ok h9) R.ok.un R.ok.us R.ok.nx0 R.ok.nx1) v k1 (by rw [k2, e7', el]; omega)) (fr.H (by decide))
theorem x_days {N : Int} (hd : 6 ≤ d) (hN : N ≤ 1000) : ∀ (n : Nat) (k m : Int) (S : aS) (h : mf_M), 0 ≤ k → k + n = N → RX S g h → S.F.nl ≠ 0 → S.st 0 0 + n ≤ 999 → 0 ≤ m → m + 64 * n ≤ 1000000 → (∀ h', RX (runA n S).2 g h' → frH h h' → K (m + (runA n S).1) g h') → BX11_days_39 C l d K N m k g h := by
  intro n
  induction n with
  | zero =>
    intro k m S h k0 kn R hl h9 m0 m1 hK
    have := hK h R (frH.rf h)
    exact vX11_days_39 hd ⟨fun _ => by simpa [runA] using this, fun q => absurd (by omega) q⟩
  | succ n ih =>
    intro k m S h k0 kn R hl h9 m0 m1 hK
    have d0 := R.ok.P.st.2.2.1
    have l6 := R.ok.F.l6
    have hr := opn_range R.ok.F (S.st 0 0)
    have hp := prS_range S.st S.F.nl S.F.nc S.F.nb (opnS S (S.st 0 0)) R.ok.F.b8
    refine vX11_days_39 hd ⟨fun q => absurd q (by omega), fun _ => ?_⟩
    rw [R.D.day]
    refine X_opn (by decide) R d0 (by omega) (fun h1 R1 f1 => X_day (by decide) R1 (by omega) (by omega) (by omega) (fun h2 R2 f2 v7 e7 v8 e8 => ?_))
    rw [w_id (by omega) (by omega)] at e7 e8
    rw [e7, e8]
    have ed : (dayA S (opnS S (S.st 0 0))).st 0 0 = S.st 0 0 + 1 := dy_day _ _ _
    refine ih (k + 1) _ (dayA S (opnS S (S.st 0 0))) h2 (by omega) (by omega) R2 hl (by rw [ed]; omega) (by omega) (by omega) (fun h' R' f' => ?_)
    have := hK h' R' ((f1.N.H.tr f2).tr f')
    have e9 : (runA (n + 1) S).1 = prS S.st S.F.nl S.F.nc S.F.nb (opnS S (S.st 0 0)) + (runA n (dayA S (opnS S (S.st 0 0)))).1 := rfl
    rw [e9, ← Int.add_assoc] at this
    exact this
theorem X_days {n : Int} (hd : 6 ≤ d) (R : RX S g h) (hK : ∀ h', RX (daysS S n).2 g h' → frH h h' → K (daysS S n).1 g h') : xM C l d YX11_days [(2, 0), (0, n)] g h K := by
  unfold daysS at hK
  have bad : ¬ (S.F.nl ≠ 0 ∧ 1 ≤ n ∧ n ≤ 100 ∧ S.st 0 0 + n ≤ 999) → ∀ h1 : mf_M, h1 = mf_up h 243 3 (mf_w32 ((h 243 3) + 1)) → K (-1) g h1 := by
    intro q h1 e1
    rw [if_neg q] at hK
    rw [e1]; exact hK _ (R.ref (by decide) (by decide)) (frH.up (by decide))
  refine wX11_days (by omega) ⟨fun q => bad (by omega), fun q => ⟨fun z => bad (by omega), fun z => X_canPass R (by omega) (by omega) (fun hc => ⟨fun _ => X_save (by decide) R (fun h1 R1 f1 _ => ?_), fun y => absurd y (by decide)⟩) (fun hc => ⟨fun y => absurd rfl y, fun _ => bad (fun y => hc ⟨y.1, y.2.2.2⟩)⟩)⟩⟩
  rw [if_pos ⟨hc.1, by omega, by omega, hc.2⟩] at hK
  refine x_days hd (by omega) n.toNat 0 0 (savS S) h1 (by decide) (by omega) R1 hc.1 (by show S.st 0 0 + _ ≤ 999; omega) (by decide) (by omega) (fun h3 R3 f3 => ?_)
  rw [Int.zero_add]
  exact hK h3 R3 (f1.tr f3)
theorem land31 {x : Int} (h0 : 0 ≤ x) (h1 : x ≤ 9223372036854775807) : mf_land_ x 2147483647 = x % 2147483648 := by
  unfold mf_land_
  have hn : (Int64.ofInt x &&& Int64.ofInt 2147483647).toBitVec.toNat = x.toNat % 2147483648 := by
    rw [Int64.toBitVec_and, BitVec.toNat_and]
    have a1 : (Int64.ofInt x).toBitVec.toNat = x.toNat := by
      rw [Int64.toBitVec_ofInt, BitVec.toNat_ofInt]
      have : x % (2 ^ 64 : Nat) = x := Int.emod_eq_of_lt h0 (by omega)
      rw [this]
    have a2 : (Int64.ofInt 2147483647).toBitVec.toNat = 2 ^ 31 - 1 := by decide
    rw [a1, a2, Nat.and_two_pow_sub_one_eq_mod]
  have hlt : (Int64.ofInt x &&& Int64.ofInt 2147483647).toBitVec.toNat < 2147483648 := by rw [hn]; omega
  rw [Int64.toInt, BitVec.toInt_eq_toNat_of_lt (by omega), hn]
  omega
theorem X_draw {m : Int} (R : RX S g h) (m0 : 0 < m) (m1 : m ≤ 1000) (hK : ∀ h', RX (S.s_sd (drwS S.sd)) g h' → frH h h' → K (drwS S.sd / 64 % m) g h') : xM C l d YX11_draw [(2, 0), (0, m)] g h K := by
  have s0 := R.ok.sd0
  have s1 := R.ok.sd1
  have hr := drw_range S.sd
  have o := R.ok
  refine wX11_draw (fun h1 e1 => ⟨fun q => absurd q (by omega), fun _ => ⟨by omega, ?_⟩⟩)
  have ev : mf_w32 (mf_land_ (mf_w64 ((mf_w64 (1103515245 * (h 0 19))) + 12345)) 2147483647) = drwS S.sd := by
    rw [R.sd, w64_id (x := 1103515245 * S.sd) (by omega) (by omega), w64_id (by omega) (by omega), land31 (by omega) (by omega)]
    exact w_id (by omega) (by omega)
  rw [ev] at e1
  have e19 : h1 0 19 = drwS S.sd := by rw [e1, up_self]
  rw [e19, Int.tdiv_eq_ediv_of_nonneg hr.1, w_id (by omega) (by omega), Int.tmod_eq_emod_of_nonneg (by omega)]
  refine hK h1 (R.s_sd ⟨o.F, o.P, o.tn0, o.tn1, o.tp, o.un, o.us, o.nx0, o.nx1, o.sn, o.ss, hr.1, hr.2, o.oc⟩ (fun k q => by rw [e1, up_col q]) e19 (fun a q => by rw [e1, up_row q])) (by rw [e1]; exact frH.up (by decide))
theorem x_chance {N : Int} (hd : 6 ≤ d) (hN : N ≤ 1000) : ∀ (n : Nat) (k t : Int) (S : aS) (h : mf_M), 0 ≤ k → k + n = N → 0 ≤ t → t + n ≤ 1000 → RX S g h → S.F.nl ≠ 0 → S.st 0 0 + n ≤ 999 → (∀ h', RX (chaA n S).2 g h' → frH h h' → K (t + (chaA n S).1) g h') → BX11_chance_39 C l d K N t k g h := by
  intro n
  induction n with
  | zero =>
    intro k t S h k0 kn t0 tn R hl h9 hK
    have := hK h R (frH.rf h)
    refine vX11_chance_39 (by omega) ⟨fun _ => by simpa [chaA] using this, fun q => absurd (by omega) q⟩
  | succ n ih =>
    intro k t S h k0 kn t0 tn R hl h9 hK
    have d0 := R.ok.P.st.2.2.1
    have l6 := R.ok.F.l6
    have b0 := R.ok.F.b0
    have b8 := R.ok.F.b8
    have hr := opn_range R.ok.F (S.st 0 0)
    have ec : chaA (n + 1) S = ((presS S).1 + (chaA n (dayA (presS S).2 (opnS S (S.st 0 0)))).1, (chaA n (dayA (presS S).2 (opnS S (S.st 0 0)))).2) := rfl
    rw [ec] at hK
    -- the day, behind the thumb
    have day : ∀ (h1 : mf_M) (t1 : Int), t1 = t + (presS S).1 → 0 ≤ t1 → t1 ≤ t + 1 → (presS S).2.F = S.F → (presS S).2.st 0 0 = S.st 0 0 → RX (presS S).2 g h1 → frH h h1 → BX11_chance_100 C l d K N t1 k g h1 := by
      intro h1 t1 e1 t10 t11 eF eD R1 f1
      refine vX11_chance_100 hd ?_
      rw [R1.D.day, eD]
      have eo : opnS (presS S).2 (S.st 0 0) = opnS S (S.st 0 0) := by unfold opnS; rw [eF]
      refine X_opn (by decide) R1 d0 (by omega) (fun h2 R2 hq => ?_)
      rw [eo]
      refine X_day (by decide) R2 (by omega) (by omega) (by rw [eD]; omega) (fun h3 R3 f3 v7 e7 => ?_)
      rw [w_id (by omega) (by omega)] at e7
      rw [e7]
      have ed : (dayA (presS S).2 (opnS S (S.st 0 0))).st 0 0 = S.st 0 0 + 1 := by rw [← eD]; exact dy_day _ _ _
      refine ih (k + 1) t1 _ h3 (by omega) (by omega) t10 (by omega) R3 (by show (presS S).2.F.nl ≠ 0; rw [eF]; exact hl) (by rw [ed]; omega) (fun h' R' f' => ?_)
      have := hK h' R' (((f1.tr hq.N.H).tr f3).tr f')
      rw [← Int.add_assoc, ← e1] at this
      exact this
    refine vX11_chance_39 (by omega) ⟨fun q => absurd q (by omega), fun _ => X_draw R (by decide) (by decide) (fun h1 R1 f1 => ⟨isf R1.fi, ?_⟩)⟩
    rw [R1.fo.t, R1.fo.b]
    refine ⟨fun q => ?_, fun q => ⟨fun y => ?_, fun y => ?_⟩⟩
    · have nq : ¬ (drwS S.sd / 64 % 100 < S.F.th ∧ 0 < S.F.nb) := fun z => by have := z.1; have q2 : S.F.th ≤ drwS S.sd / 64 % 100 := q; omega
      have ep : presS S = (0, S.s_sd (drwS S.sd)) := by unfold presS; rw [if_neg nq]
      exact day h1 t (by rw [ep]; simp) t0 (by omega) (by rw [ep]; rfl) (by rw [ep]; rfl) (by rw [ep]; exact R1) f1
    · have nq : ¬ (drwS S.sd / 64 % 100 < S.F.th ∧ 0 < S.F.nb) := fun z => by have := z.2; have q2 : S.F.nb ≤ 0 := y; omega
      have ep : presS S = (0, S.s_sd (drwS S.sd)) := by unfold presS; rw [if_neg nq]
      exact day h1 t (by rw [ep]; simp) t0 (by omega) (by rw [ep]; rfl) (by rw [ep]; rfl) (by rw [ep]; exact R1) f1
    · have y2 : ¬ S.F.nb ≤ 0 := y
      have q2 : ¬ S.F.th ≤ drwS S.sd / 64 % 100 := q
      have pq : drwS S.sd / 64 % 100 < S.F.th ∧ 0 < S.F.nb := by omega
      refine X_draw R1 (by show 0 < S.F.nb; omega) (by show S.F.nb ≤ 1000; omega) (fun h2 R2 f2 => ?_)
      have ed : (S.s_sd (drwS S.sd)).sd = drwS S.sd := rfl
      rw [ed] at R2 ⊢
      have enb : (S.s_sd (drwS S.sd)).F.nb = S.F.nb := rfl
      rw [enb]
      have q0 := Int.emod_nonneg (drwS (drwS S.sd) / 64) (b := S.F.nb) (by omega)
      have q1 := Int.emod_lt_of_pos (drwS (drwS S.sd) / 64) (b := S.F.nb) (by omega)
      have ps := R.ok.P.st.2.1 (drwS (drwS S.sd) / 64 % S.F.nb) q0 q1
      have ea : h2 92 (drwS (drwS S.sd) / 64 % S.F.nb) = S.st 4 (drwS (drwS S.sd) / 64 % S.F.nb) := R2.D.be (j := 4) (by decide) (by decide) q0 q1
      refine ⟨q0, by omega, fun h10 e10 v11 e11 => ?_⟩
      rw [ea, Int.tdiv_eq_ediv_of_nonneg ps.1, w_id (by omega) (by omega)] at e10
      rw [w_id (by omega) (by omega)] at e11
      rw [e11]
      have ep : presS S = (1, (S.s_sd (drwS (drwS S.sd))).act (mf_up S.st 4 (drwS (drwS S.sd) / 64 % S.F.nb) (S.st 4 (drwS (drwS S.sd) / 64 % S.F.nb) / 2)) S.ks S.un S.nx) := by unfold presS; rw [if_pos pq]
      have v2 : vX h2 88 S.F.nb = S.st := R2.vi
      have r10 : ∀ x, x ≠ 92 → h10 x = h2 x := fun x q => by rw [e10, up_row q]
      refine day h10 (t + 1) (by rw [ep]) (by omega) (by omega) (by rw [ep]; rfl) (by rw [ep]; show mf_up S.st 4 (drwS (drwS S.sd) / 64 % S.F.nb) (S.st 4 (drwS (drwS S.sd) / 64 % S.F.nb) / 2) 0 0 = S.st 0 0; rw [up_row (by decide)]) ?_ ((f1.tr f2).tr (fun x q => r10 x (by omega)))
      rw [ep]
      refine R2.now (R2.ok.act (R.ok.P.purse (by omega) (by omega)) R.ok.un R.ok.us R.ok.nx0 R.ok.nx1) ?_ (R2.kp.keep (by rw [r10 88 (by decide)]) (r10 _ (by decide))) (by rw [r10 88 (by decide)]; exact R2.kb) (fun x q => r10 x (by omega))
      show vX h10 88 S.F.nb = _
      rw [e10, show (92 : Int) = 88 + 4 from rfl, vX_up (by decide) (by decide) q0 q1, v2]
theorem X_chance {n : Int} (hd : 6 ≤ d) (R : RX S g h) (hK : ∀ h', RX (chanceS S n).2 g h' → frH h h' → K (chanceS S n).1 g h') : xM C l d YX11_chance [(2, 0), (0, n)] g h K := by
  unfold chanceS at hK
  have bad : ¬ (S.F.nl ≠ 0 ∧ 1 ≤ n ∧ n ≤ 100 ∧ S.st 0 0 + n ≤ 999) → ∀ h1 : mf_M, h1 = mf_up h 243 3 (mf_w32 ((h 243 3) + 1)) → K (-1) g h1 := by
    intro q h1 e1
    rw [if_neg q] at hK
    rw [e1]; exact hK _ (R.ref (by decide) (by decide)) (frH.up (by decide))
  refine wX11_chance (by omega) ⟨fun q => bad (by omega), fun q => ⟨fun z => bad (by omega), fun z => X_canPass R (by omega) (by omega) (fun hc => ⟨fun _ => X_save (by decide) R (fun h1 R1 f1 _ => ?_), fun y => absurd y (by decide)⟩) (fun hc => ⟨fun y => absurd rfl y, fun _ => bad (fun y => hc ⟨y.1, y.2.2.2⟩)⟩)⟩⟩
  rw [if_pos ⟨hc.1, by omega, by omega, hc.2⟩] at hK
  refine x_chance hd (by omega) n.toNat 0 0 (savS S) h1 (by decide) (by omega) (by decide) (by omega) R1 hc.1 (by show S.st 0 0 + _ ≤ 999; omega) (fun h3 R3 f3 => ?_)
  rw [Int.zero_add]
  exact hK h3 R3 (f1.tr f3)
theorem X_addOctet {xs : List Int} {v : Int} (R : RX (S.s_oc xs) g h) (hx : xs.length < 57) (hK : ∀ h', RX (S.s_oc (xs ++ [v])) g h' → frH h h' → K 0 g h') : xM C l d YX11_addOctet [(2, 0), (0, v)] g h K := by
  have e14 : h 0 14 = xs.length := R.oc
  have o := R.ok
  refine wX11_addOctet ?_
  rw [e14]
  refine ⟨fun q => absurd q (by omega), fun _ => ⟨by omega, by omega, fun h3 e3 h4 e4 => ?_⟩⟩
  have e31 : h3 0 14 = xs.length := by rw [e3, up_row (by decide)]; exact e14
  rw [e31, w_id (by omega) (by omega)] at e4
  have R2 : RX ((S.s_oc xs).s_oc (xs ++ [v])) g h4 := by
    refine R.s_oc ⟨o.F, o.P, o.tn0, o.tn1, o.tp, o.un, o.us, o.nx0, o.nx1, o.sn, o.ss, o.sd0, o.sd1, by show (xs ++ [v]).length ≤ 57; simp; omega⟩ (fun k q => by rw [e4, up_col q, e3, up_row (by decide)]) (by rw [e4, up_self]; simp) (fun j hj => ?_) (fun a q => by rw [e4, up_row q.1, e3, up_row q.2])
    rw [e4, up_row (by decide), e3, up_if]
    by_cases ej : j = xs.length
    · rw [if_pos ⟨rfl, by omega⟩, ej]; simp
    · simp at hj
      rw [if_neg (by omega), List.getD_eq_getElem?_getD, List.getElem?_append_left (by omega), ← List.getD_eq_getElem?_getD]
      exact R.os j (by show j < xs.length; omega)
  exact hK h4 R2 (fun a ha => by rw [e4, up_row (by omega), e3, up_row (by omega)])
theorem X_addOctets {xs : List Int} {v : Int} (hd : 1 ≤ d) (R : RX (S.s_oc xs) g h) (hx : xs.length + 1 < 57) (v0 : 0 ≤ v) (v1 : v ≤ 2147483647) (hK : ∀ h', RX (S.s_oc (xs ++ [v / 256, v % 256])) g h' → frH h h' → K 0 g h') : xM C l d YX11_addOctets [(2, 0), (0, v)] g h K := by
  refine wX11_addOctets hd ?_
  rw [Int.tdiv_eq_ediv_of_nonneg v0, Int.tmod_eq_emod_of_nonneg v0, w_id (by omega) (by omega)]
  refine X_addOctet R (by omega) (fun h1 R1 f1 => X_addOctet R1 (by simp; omega) (fun h2 R2 f2 => hK h2 ?_ (f1.tr f2)))
  rw [List.append_assoc] at R2
  exact R2
theorem x_img3 {xs : List Int} (hd : 1 ≤ d) (R : RX (S.s_oc xs) g h) (hx : xs.length < 57) (hr : ∀ x ∈ xs, 0 ≤ x ∧ x ≤ 255) : ∀ (n : Nat) (k c : Int), 0 ≤ k → k + n = xs.length → 0 ≤ c → c ≤ 255 → (∀ h', RX (S.s_oc (xs ++ [chkF (fun k => xs.getD k.toNat 0) n k c])) g h' → frH h h' → K (xs.length + 1) g h') → BX11_image_124 C l d K c k g h := by
  have e14 : h 0 14 = xs.length := R.oc
  intro n
  induction n with
  | zero =>
    intro k c k0 kn c0 c1 hK
    refine vX11_image_124 hd ⟨fun _ => X_addOctet R hx (fun h1 R1 f1 => ?_), fun q => absurd (by omega) q⟩
    have e1 : h1 0 14 = (xs ++ [c]).length := R1.oc
    rw [e1, List.length_append, List.length_singleton, show ((xs.length + 1 : Nat) : Int) = (xs.length : Int) + 1 by omega]
    exact hK h1 R1 f1
  | succ n ih =>
    intro k c k0 kn c0 c1 hK
    have e2 := R.os k.toNat (by show k.toNat < xs.length; omega)
    rw [show ((k.toNat : Nat) : Int) = k by omega] at e2
    have e2' : h 244 k = xs.getD k.toNat 0 := e2
    have hv : 0 ≤ xs.getD k.toNat 0 ∧ xs.getD k.toNat 0 ≤ 255 := by
      rw [List.getD_eq_getElem?_getD, List.getElem?_eq_getElem (by omega)]
      exact hr _ (List.getElem_mem _)
    refine vX11_image_124 hd ⟨fun q => absurd q (by omega), fun _ => ⟨fun q => absurd q (by omega), fun _ => ⟨k0, by omega, wX8_nextCheck (fun v12 e12 => ?_)⟩⟩⟩
    rw [w_id (by omega) (by omega)] at e12
    rw [e2', e12, w_id (x := 3 * c) (by omega) (by omega), w_id (by omega) (by omega), Int.tmod_eq_emod_of_nonneg (by omega)]
    exact ih (k + 1) _ (by omega) (by omega) (by omega) (by omega) hK
theorem x_img2 (hd : 2 ≤ d) (o : okS S) : ∀ (n : Nat) (b : Int) (xs : List Int) (h : mf_M), 0 ≤ b → b + n = S.F.nb → xs.length + 6 * n ≤ 56 → (∀ x ∈ xs, 0 ≤ x ∧ x ≤ 255) → RX (S.s_oc xs) g h → (∀ h', RX (S.s_oc ((xs ++ beN S.st n b) ++ [chkF (fun k => (xs ++ beN S.st n b).getD k.toNat 0) (xs ++ beN S.st n b).length 0 83])) g h' → frH h h' → K ((xs ++ beN S.st n b).length + 1) g h') → BX11_image_50 C l d K b g h := by
  have b8 := o.F.b8
  have l6 := o.F.l6
  have c8 := o.F.c8
  intro n
  induction n with
  | zero =>
    intro b xs h b0 bn hx hr R hK
    simp only [beN, List.append_nil] at hK
    refine vX11_image_50 hd ⟨isf R.fi, ?_⟩
    rw [R.fo.b]
    refine ⟨fun _ => x_img3 (by omega) R (by omega) hr xs.length 0 83 (by decide) (by omega) (by decide) (by decide) hK, fun q => absurd (show S.F.nb ≤ b by omega) q⟩
  | succ n ih =>
    intro b xs h b0 bn hx hr R hK
    have st := o.P.st.1 b b0 (by omega)
    have st2 := o.P.st.2.1 b b0 (by omega)
    have be : ∀ (ys : List Int) (h' : mf_M), RX (S.s_oc ys) g h' → ∀ j, 2 ≤ j → j ≤ 5 → h' (88 + j) b = S.st j b := fun ys h' R' j q1 q2 => R'.D.be q1 q2 b0 (by show b < S.F.nb; omega)
    refine vX11_image_50 hd ⟨isf R.fi, ?_⟩
    rw [R.fo.b]
    refine ⟨fun q => absurd (show S.F.nb ≤ b from q) (by omega), fun _ => ⟨b0, by omega, ?_⟩⟩
    have e2 := be xs h R 2 (by decide) (by decide)
    rw [show (88 : Int) + 2 = 90 from rfl] at e2
    rw [e2]
    refine X_addOctet R (by omega) (fun h1 R1 f1 => ?_)
    have e3 := be _ h1 R1 3 (by decide) (by decide)
    rw [show (88 : Int) + 3 = 91 from rfl] at e3
    rw [e3]
    refine X_addOctet R1 (by simp; omega) (fun h2 R2 f2 => ?_)
    have e4 := be _ h2 R2 4 (by decide) (by decide)
    rw [show (88 : Int) + 4 = 92 from rfl] at e4
    rw [e4]
    refine X_addOctets (by decide) R2 (by simp; omega) (by omega) (by omega) (fun h3 R3 f3 => ?_)
    have e5 := be _ h3 R3 5 (by decide) (by decide)
    rw [show (88 : Int) + 5 = 93 from rfl] at e5
    rw [e5]
    refine X_addOctets (by decide) R3 (by simp; omega) (by omega) (by omega) (fun h4 R4 f4 v33 e33 => ?_)
    rw [w_id (by omega) (by omega)] at e33
    rw [e33]
    have eq : xs ++ [S.st 2 b] ++ [S.st 3 b] ++ [S.st 4 b / 256, S.st 4 b % 256] ++ [S.st 5 b / 256, S.st 5 b % 256] = xs ++ [S.st 2 b, S.st 3 b, S.st 4 b / 256, S.st 4 b % 256, S.st 5 b / 256, S.st 5 b % 256] := by simp
    rw [eq] at R4
    have eq2 : xs ++ beN S.st (n + 1) b = xs ++ [S.st 2 b, S.st 3 b, S.st 4 b / 256, S.st 4 b % 256, S.st 5 b / 256, S.st 5 b % 256] ++ beN S.st n (b + 1) := by simp [beN]
    rw [eq2] at hK
    refine ih (b + 1) _ h4 (by omega) (by omega) (by simp; omega) (fun x hx2 => ?_) R4 (fun h' R' f' => hK h' R' ((((f1.tr f2).tr f3).tr f4).tr f'))
    rcases List.mem_append.mp hx2 with hx2 | hx2
    · exact hr x hx2
    · simp only [List.mem_cons, List.not_mem_nil, or_false] at hx2
      omega
theorem x_img1 (hd : 2 ≤ d) (o : okS S) : ∀ (n : Nat) (k : Int) (xs : List Int) (h : mf_M), 0 ≤ k → k + n = S.F.nl → xs.length + n ≤ 8 → (∀ x ∈ xs, 0 ≤ x ∧ x ≤ 255) → RX (S.s_oc xs) g h → (∀ h', RX (S.s_oc ((xs ++ glN S.st n k ++ beN S.st S.F.nb.toNat 0) ++ [chkF (fun k' => (xs ++ glN S.st n k ++ beN S.st S.F.nb.toNat 0).getD k'.toNat 0) (xs ++ glN S.st n k ++ beN S.st S.F.nb.toNat 0).length 0 83])) g h' → frH h h' → K ((xs ++ glN S.st n k ++ beN S.st S.F.nb.toNat 0).length + 1) g h') → BX11_image_18 C l d K k g h := by
  have b0 := o.F.b0
  have b8 := o.F.b8
  have l6 := o.F.l6
  intro n
  induction n with
  | zero =>
    intro k xs h k0 kn hx hr R hK
    simp only [glN, List.append_nil] at hK
    refine vX11_image_18 (by omega) ⟨isf R.fi, ?_⟩
    rw [R.fo.l]
    exact ⟨fun _ => x_img2 hd o S.F.nb.toNat 0 xs h (by decide) (by omega) (by omega) hr R hK, fun q => absurd (show S.F.nl ≤ k by omega) q⟩
  | succ n ih =>
    intro k xs h k0 kn hx hr R hK
    have gg := o.gl (k := k) k0 (by omega)
    refine vX11_image_18 (by omega) ⟨isf R.fi, ?_⟩
    rw [R.fo.l]
    refine ⟨fun q => absurd (show S.F.nl ≤ k from q) (by omega), fun _ => ⟨k0, by omega, ?_⟩⟩
    have eg : h 89 k = S.st 1 k := R.D.gl k0 (by omega)
    rw [eg]
    refine X_addOctet R (by omega) (fun h1 R1 f1 v9 e9 => ?_)
    rw [w_id (by omega) (by omega)] at e9
    rw [e9]
    have eq : xs ++ glN S.st (n + 1) k = xs ++ [S.st 1 k] ++ glN S.st n (k + 1) := by simp [glN]
    rw [eq] at hK
    refine ih (k + 1) _ h1 (by omega) (by omega) (by simp; omega) (fun x hx2 => ?_) R1 (fun h' R' f' => hK h' R' (f1.tr f'))
    rcases List.mem_append.mp hx2 with hx2 | hx2
    · exact hr x hx2
    · rw [List.mem_singleton.mp hx2]; omega
theorem X_image (hd : 2 ≤ d) (R : RX S g h) (hK : ∀ h', RX (imageS S).2 g h' → frH h h' → K (imageS S).1 g h') : xM C l d YX11_image [(2, 0)] g h K := by
  have l0 := R.ok.F.l0
  have l6 := R.ok.F.l6
  have d0 := R.ok.P.st.2.2.1
  have d9 := R.ok.P.st.2.2.2
  have o := R.ok
  refine wX11_image hd (fun h1 e1 => ?_)
  have R1 : RX (S.s_oc []) g h1 := R.s_oc ⟨o.F, o.P, o.tn0, o.tn1, o.tp, o.un, o.us, o.nx0, o.nx1, o.sn, o.ss, o.sd0, o.sd1, by show ([] : List Int).length ≤ 57; decide⟩ (fun k q => by rw [e1, up_col q]) (by rw [e1, up_self]; rfl) (fun j hj => absurd hj (by simp)) (fun a q => by rw [e1, up_row q.1])
  have f1 : frH h h1 := by rw [e1]; exact frH.up (by decide)
  have ed : h1 88 7 = S.st 0 0 := R1.D.day
  rw [ed]
  refine X_addOctets (by decide) R1 (by decide) d0 (by omega) (fun h2 R2 f2 => x_img1 hd R.ok S.F.nl.toNat 0 _ h2 (by decide) (by omega) (by simp; omega) (fun x hx => ?_) R2 (fun h' R' f' => ?_))
  · simp only [List.nil_append, List.mem_cons, List.not_mem_nil, or_false] at hx
    omega
  · have eq : [] ++ [S.st 0 0 / 256, S.st 0 0 % 256] ++ glN S.st S.F.nl.toNat 0 ++ beN S.st S.F.nb.toNat 0 = imgB S := by simp [imgB]
    rw [eq] at R' ⊢
    exact hK h' R' ((f1.tr f2).tr f')
end SxDy
