/-! the class's relation where a few cells are written -/
section RXg
variable {S : aS} {g h : mf_M}
theorem RX.vik (R : RX S g h) {h' : mf_M} (r : ∀ a, 88 ≤ a → a ≤ 94 → h' a = h a) : vX h' 88 S.F.nb = S.st := by
  rw [vX_row (h := h) (by rw [r 88 (by decide) (by decide)]) (fun j j1 j2 => r _ (by omega) (by omega))]; exact R.vi
theorem RX.trk (R : RX S g h) {h' : mf_M} (r : ∀ a, 53 ≤ a → a ≤ 87 ∧ a ≠ 65 ∧ a ≠ 66 → h' a = h a) : ∀ a ∈ ([53, 67, 74, 81] : List Int), inr (h' a 6) := by
  intro a ha
  have : a = 53 ∨ a = 67 ∨ a = 74 ∨ a = 81 := by simpa using ha
  rw [r a (by omega) (by omega)]; exact R.tr a ha
theorem RX.usk (R : RX S g h) {h' : mf_M} (r : ∀ a, 103 ≤ a → a ≤ 242 → h' a = h a) : ∀ j : Nat, j < S.un.length → vX h' (103 + 7 * ((S.nx - 1 - j) % 20)) S.F.nb = (S.un.getD j aD).1 ∧ kpX h' (103 + 7 * ((S.nx - 1 - j) % 20)) (S.un.getD j aD).2 ∧ h' (103 + 7 * ((S.nx - 1 - j) % 20)) 6 ≤ 64 * h' (103 + 7 * ((S.nx - 1 - j) % 20)) 7 := by
  intro j hj
  obtain ⟨u1, u2, u3⟩ := R.us j hj
  generalize hb : 103 + 7 * ((S.nx - 1 - (j : Int)) % 20) = b at u1 u2 u3 ⊢
  have e0 : h' b = h b := r b (by omega) (by omega)
  exact ⟨by rw [vX_row (h := h) (by rw [e0]) (fun i j1 j2 => r _ (by omega) (by omega))]; exact u1, u2.keep (by rw [e0]) (r _ (by omega) (by omega)), by rw [e0]; exact u3⟩
theorem RX.tape (R : RX S g h) {h' : mf_M} {tp : Int → Int} {tn : Int} (ok : okS ((S.s_tp tp).s_tn tn)) (e1 : h' 3 1 = tn) (e2 : ∀ i, 0 ≤ i → i < tn → h' 4 i = mf_b8 (tp i)) (r : ∀ a, a ≠ 3 ∧ a ≠ 4 → h' a = h a) : RX ((S.s_tp tp).s_tn tn) g h' := ⟨ok, R.cf, e1, e2, by rw [r 0 (by decide)]; exact R.fa, by rw [r 0 (by decide)]; exact R.pl, by rw [r 243 (by decide)]; exact R.rf, R.wd.keep (r 2 (by decide)), R.fo.keep (fun x h1 h2 => r x (by have := R.fi; omega)), R.vik (fun a a1 a2 => r a (by omega)), R.kp.keep (by rw [r 88 (by decide)]) (r _ (by decide)), by rw [r 88 (by decide)]; exact R.kb, by rw [r 0 (by decide)]; exact R.un, by rw [r 0 (by decide)]; exact R.nx, R.usk (fun a a1 a2 => r a (by omega)), by rw [r 51 (by decide)]; exact R.sn, by rw [r 65 (by decide), r 66 (by decide)]; exact R.ss, by rw [r 0 (by decide)]; exact R.sd, by rw [r 0 (by decide)]; exact R.oc, by rw [r 244 (by decide)]; exact R.os, R.trk (fun a a1 a2 => r a (by omega))⟩
theorem RX.s_sd (R : RX S g h) {h' : mf_M} {n : Int} (ok : okS (S.s_sd n)) (c0 : ∀ k, k ≠ 19 → h' 0 k = h 0 k) (e1 : h' 0 19 = n) (r : ∀ a, a ≠ 0 → h' a = h a) : RX (S.s_sd n) g h' := ⟨ok, R.cf, by rw [r 3 (by decide)]; exact R.tn, by rw [r 4 (by decide)]; exact R.tp, by rw [c0 17 (by decide)]; exact R.fa, by rw [c0 18 (by decide)]; exact R.pl, by rw [r 243 (by decide)]; exact R.rf, R.wd.keep (r 2 (by decide)), R.fo.keep (fun x h1 h2 => r x (by have := R.fi; omega)), R.vik (fun a a1 a2 => r a (by omega)), R.kp.keep (by rw [r 88 (by decide)]) (r _ (by decide)), by rw [r 88 (by decide)]; exact R.kb, by rw [c0 15 (by decide)]; exact R.un, by rw [c0 16 (by decide)]; exact R.nx, R.usk (fun a a1 a2 => r a (by omega)), by rw [r 51 (by decide)]; exact R.sn, by rw [r 65 (by decide), r 66 (by decide)]; exact R.ss, e1, by rw [c0 14 (by decide)]; exact R.oc, by rw [r 244 (by decide)]; exact R.os, R.trk (fun a a1 a2 => r a (by omega))⟩
theorem RX.s_oc (R : RX S g h) {h' : mf_M} {xs : List Int} (ok : okS (S.s_oc xs)) (c0 : ∀ k, k ≠ 14 → h' 0 k = h 0 k) (e1 : h' 0 14 = xs.length) (e2 : ∀ j : Nat, j < xs.length → h' 244 j = xs.getD j 0) (r : ∀ a, a ≠ 0 ∧ a ≠ 244 → h' a = h a) : RX (S.s_oc xs) g h' := ⟨ok, R.cf, by rw [r 3 (by decide)]; exact R.tn, by rw [r 4 (by decide)]; exact R.tp, by rw [c0 17 (by decide)]; exact R.fa, by rw [c0 18 (by decide)]; exact R.pl, by rw [r 243 (by decide)]; exact R.rf, R.wd.keep (r 2 (by decide)), R.fo.keep (fun x h1 h2 => r x (by have := R.fi; omega)), R.vik (fun a a1 a2 => r a (by omega)), R.kp.keep (by rw [r 88 (by decide)]) (r _ (by decide)), by rw [r 88 (by decide)]; exact R.kb, by rw [c0 15 (by decide)]; exact R.un, by rw [c0 16 (by decide)]; exact R.nx, R.usk (fun a a1 a2 => r a (by omega)), by rw [r 51 (by decide)]; exact R.sn, by rw [r 65 (by decide), r 66 (by decide)]; exact R.ss, by rw [c0 19 (by decide)]; exact R.sd, e1, e2, R.trk (fun a a1 a2 => r a (by omega))⟩
theorem RX.s_sn (R : RX S g h) {h' : mf_M} {sn : List (Int × Int)} (ok : okS (S.s_sn sn)) (e1 : h' 51 11 = sn.length) (e2 : ∀ j : Nat, j < sn.length → h' 65 j = (sn.getD j (0, 0)).1 ∧ h' 66 j = (sn.getD j (0, 0)).2) (r : ∀ a, a ≠ 51 ∧ a ≠ 65 ∧ a ≠ 66 → h' a = h a) : RX (S.s_sn sn) g h' := ⟨ok, R.cf, by rw [r 3 (by decide)]; exact R.tn, by rw [r 4 (by decide)]; exact R.tp, by rw [r 0 (by decide)]; exact R.fa, by rw [r 0 (by decide)]; exact R.pl, by rw [r 243 (by decide)]; exact R.rf, R.wd.keep (r 2 (by decide)), R.fo.keep (fun x h1 h2 => r x (by have := R.fi; omega)), R.vik (fun a a1 a2 => r a (by omega)), R.kp.keep (by rw [r 88 (by decide)]) (r _ (by decide)), by rw [r 88 (by decide)]; exact R.kb, by rw [r 0 (by decide)]; exact R.un, by rw [r 0 (by decide)]; exact R.nx, R.usk (fun a a1 a2 => r a (by omega)), e1, e2, by rw [r 0 (by decide)]; exact R.sd, by rw [r 0 (by decide)]; exact R.oc, by rw [r 244 (by decide)]; exact R.os, R.trk (fun a a1 a2 => r a (by omega))⟩
theorem RX.act (R : RX S g h) {h' : mf_M} {σ : mf_M} {ks : List (Int × Int × Int)} {un : List (mf_M × List (Int × Int × Int))} {nx : Int} (ok : okS (S.act σ ks un nx)) (c0 : ∀ k, k ≠ 15 → k ≠ 16 → h' 0 k = h 0 k) (v : vX h' 88 S.F.nb = σ) (k1 : kpX h' 88 ks) (k2 : h' 88 6 ≤ 64 * h' 88 7) (e1 : h' 0 15 = un.length) (e2 : h' 0 16 = nx) (u : ∀ j : Nat, j < un.length → vX h' (103 + 7 * ((nx - 1 - j) % 20)) S.F.nb = (un.getD j aD).1 ∧ kpX h' (103 + 7 * ((nx - 1 - j) % 20)) (un.getD j aD).2 ∧ h' (103 + 7 * ((nx - 1 - j) % 20)) 6 ≤ 64 * h' (103 + 7 * ((nx - 1 - j) % 20)) 7) (r : ∀ a, a ≠ 0 ∧ ¬ (88 ≤ a ∧ a ≤ 94) ∧ ¬ (103 ≤ a ∧ a ≤ 242) → h' a = h a) : RX (S.act σ ks un nx) g h' := ⟨ok, R.cf, by rw [r 3 (by decide)]; exact R.tn, by rw [r 4 (by decide)]; exact R.tp, by rw [c0 17 (by decide) (by decide)]; exact R.fa, by rw [c0 18 (by decide) (by decide)]; exact R.pl, by rw [r 243 (by decide)]; exact R.rf, R.wd.keep (r 2 (by decide)), R.fo.keep (fun x h1 h2 => r x (by have := R.fi; omega)), v, k1, k2, e1, e2, u, by rw [r 51 (by decide)]; exact R.sn, by rw [r 65 (by decide), r 66 (by decide)]; exact R.ss, by rw [c0 19 (by decide) (by decide)]; exact R.sd, by rw [c0 14 (by decide) (by decide)]; exact R.oc, by rw [r 244 (by decide)]; exact R.os, R.trk (fun a a1 a2 => r a (by omega))⟩
theorem RX.now (R : RX S g h) {h' : mf_M} {σ : mf_M} {ks : List (Int × Int × Int)} (ok : okS (S.act σ ks S.un S.nx)) (v : vX h' 88 S.F.nb = σ) (k1 : kpX h' 88 ks) (k2 : h' 88 6 ≤ 64 * h' 88 7) (r : ∀ a, ¬ (88 ≤ a ∧ a ≤ 94) → h' a = h a) : RX (S.act σ ks S.un S.nx) g h' := ⟨ok, R.cf, by rw [r 3 (by decide)]; exact R.tn, by rw [r 4 (by decide)]; exact R.tp, by rw [r 0 (by decide)]; exact R.fa, by rw [r 0 (by decide)]; exact R.pl, by rw [r 243 (by decide)]; exact R.rf, R.wd.keep (r 2 (by decide)), R.fo.keep (fun x h1 h2 => r x (by have := R.fi; omega)), v, k1, k2, by rw [r 0 (by decide)]; exact R.un, by rw [r 0 (by decide)]; exact R.nx, R.usk (fun a a1 a2 => r a (by omega)), by rw [r 51 (by decide)]; exact R.sn, by rw [r 65 (by decide), r 66 (by decide)]; exact R.ss, by rw [r 0 (by decide)]; exact R.sd, by rw [r 0 (by decide)]; exact R.oc, by rw [r 244 (by decide)]; exact R.os, R.trk (fun a a1 a2 => r a (by omega))⟩
end RXg
section SxG
variable {C : mf_G} {l : Launch} {d : Nat} {K : mf_Kt} {g h : mf_M} {S : aS}
theorem X_seed {n : Int} (hn : n < 2147483648) (R : RX S g h) (hK : ∀ h', RX (seedS S n).2 g h' → frH h h' → K (seedS S n).1 g h') : xM C l d YX11_seed [(2, 0), (0, n)] g h K := by
  unfold seedS at hK
  have o := R.ok
  refine wX11_seed ⟨fun q h1 e1 => ?_, fun q h2 e2 => ?_⟩
  · rw [if_neg (by omega)] at hK
    rw [e1]
    exact hK _ (R.s_sd ⟨o.F, o.P, o.tn0, o.tn1, o.tp, o.un, o.us, o.nx0, o.nx1, o.sn, o.ss, q, hn, o.oc⟩ (fun k q => up_col q) (up_self _ _ _ _) (fun a q => up_row q)) (frH.up (by decide))
  · rw [if_pos (by omega)] at hK
    rw [e2]
    exact hK _ (R.ref (by decide) (by decide)) (frH.up (by decide))
theorem X_isBeing {b : Int} (R : RX S g h) (h1 : 0 ≤ b ∧ b < S.F.nb → K 1 g h) (h2 : ¬ (0 ≤ b ∧ b < S.F.nb) → K 0 g h) : xM C l d YX11_isBeing [(2, 0), (0, b)] g h K := by
  refine wX11_isBeing ⟨fun q => h2 (by omega), fun q => ⟨isf R.fi, ?_⟩⟩
  rw [R.fo.b]
  exact ⟨fun z => h2 (by omega), fun z => h1 (by omega)⟩
theorem X_isCell {a c : Int} (R : RX S g h) (h1 : 0 ≤ a ∧ a < S.F.nl ∧ 0 ≤ c ∧ c < S.F.nc → K 1 g h) (h2 : ¬ (0 ≤ a ∧ a < S.F.nl ∧ 0 ≤ c ∧ c < S.F.nc) → K 0 g h) : xM C l d YX11_isCell [(2, 0), (0, a), (0, c)] g h K := by
  refine wX11_isCell ⟨fun q => h2 (by omega), fun q => ⟨isf R.fi, ?_⟩⟩
  rw [R.fo.l, R.fo.c]
  exact ⟨fun z => h2 (by omega), fun z => ⟨fun y => h2 (by omega), fun y => ⟨fun w => h2 (by omega), fun w => h1 (by omega)⟩⟩⟩
theorem X_canPass {n : Int} (R : RX S g h) (n0 : 0 ≤ n) (n1 : n ≤ 1000) (h1 : S.F.nl ≠ 0 ∧ S.st 0 0 + n ≤ 999 → K 1 g h) (h2 : ¬ (S.F.nl ≠ 0 ∧ S.st 0 0 + n ≤ 999) → K 0 g h) : xM C l d YX11_canPass [(2, 0), (0, n)] g h K := by
  have l0 := R.ok.F.l0
  have hd := R.ok.P.st.2.2
  refine wX11_canPass ⟨isf R.fi, ?_⟩
  rw [R.fo.l, R.D.day, w_id (by omega) (by omega)]
  exact ⟨fun z => h2 (by omega), fun z => ⟨fun y => h2 (by omega), fun y => h1 (by omega)⟩⟩
theorem x_glossMany (hd : 1 ≤ d) (R : RX S g h) : ∀ (n : Nat) (k a : Int), 0 ≤ k → k + n = 6 → 0 ≤ a → a ≤ 8 * k → K (a + sumN (fun k => popS (S.st 1 k)) n k) g h → BX6_countGlosses_4 C l d K 88 a k g h := by
  intro n
  induction n with
  | zero =>
    intro k a k0 hk a0 a1 hK
    exact vX6_countGlosses_4 hd ⟨is88, fun _ => by simpa [sumN] using hK, fun q => absurd (by omega) q⟩
  | succ n ih =>
    intro k a k0 hk a0 a1 hK
    have hg := R.ok.gl (k := k) k0 (by omega)
    refine vX6_countGlosses_4 hd ⟨is88, fun q => absurd q (by omega), fun _ => ⟨k0, by omega, ?_⟩⟩
    rw [R.D.gl k0 (by omega)]
    refine x_bits hg.1 hg.2 (fun v7 e7 v8 e8 => ?_)
    have hp := pop_range (w := S.st 1 k)
    rw [w_id (by omega) (by omega)] at e7 e8
    rw [e7, e8]
    refine ih (k + 1) _ (by omega) (by omega) (by omega) (by omega) ?_
    unfold sumN at hK
    rw [Int.add_assoc]; exact hK
theorem x_purses (R : RX S g h) : ∀ (n : Nat) (k a : Int), 0 ≤ k → k + n = S.F.nb → 0 ≤ a → a ≤ 9999 * k → K (a + sumN (fun k => S.st 4 k) n k) g h → BX11_allPurses_4 C l d K a k g h := by
  have b8 := R.ok.F.b8
  intro n
  induction n with
  | zero =>
    intro k a k0 hk a0 a1 hK
    refine vX11_allPurses_4 ⟨isf R.fi, ?_⟩
    rw [R.fo.b]
    exact ⟨fun _ => by simpa [sumN] using hK, fun q => absurd (by omega) q⟩
  | succ n ih =>
    intro k a k0 hk a0 a1 hK
    have hp := R.ok.P.st.2.1 k k0 (by omega)
    refine vX11_allPurses_4 ⟨isf R.fi, ?_⟩
    rw [R.fo.b]
    refine ⟨fun q => absurd q (by omega), fun _ => ⟨k0, by omega, fun v4 e4 v5 e5 => ?_⟩⟩
    have e9 : h 92 k = S.st 4 k := R.D.be (j := 4) (by decide) (by decide) k0 (by omega)
    rw [e9, w_id (by omega) (by omega)] at e4
    rw [w_id (by omega) (by omega)] at e5
    rw [e4, e5]
    refine ih (k + 1) _ (by omega) (by omega) (by omega) (by omega) ?_
    unfold sumN at hK
    rw [Int.add_assoc]; exact hK
theorem X_countKept (hd : 1 ≤ d) (R : RX S g h) (hK : K S.ks.length g h) : xM C l d YX6_countKept [(2, 88)] g h K := by
  refine wX6_countKept hd ⟨is88, x_mini (fun v hv => ?_)⟩
  have e : v = S.ks.length := by
    have := R.kp.2.1
    split at this <;> omega
  rw [e]; exact hK
theorem X_has {w : Int} (hd : 5 ≤ d) (R : RX S g h) (hK : ∀ h', RX S g h' → frH h h' → K (hasS S w) g h') : xM C l d YX11_has [(2, 0), (0, w)] g h K := by
  unfold hasS at hK
  have o := R.ok.F
  have hs := R.ok.P.st
  have k0 := hK h R (frH.rf h)
  refine wX11_has hd ⟨fun q => ⟨isf R.fi, ?_⟩, fun q => ⟨isf R.fi, ?_⟩, fun q => ?_, fun q => ⟨isf R.fi, ?_⟩, fun q => ⟨isf R.fi, ?_⟩, fun q => ?_, fun q => ?_, fun q => ?_, fun q => ?_, fun q => ?_, fun q => ?_, fun q => ?_⟩
  · subst q; rw [R.fo.l]; simpa using k0
  · subst q; rw [R.fo.c]; simpa using k0
  · subst q
    exact wX6_countGlosses (x_glossMany (by decide) R 6 0 0 (by decide) (by decide) (by decide) (by decide) (by simpa using k0))
  · subst q; rw [R.fo.w]; simpa using k0
  · subst q; rw [R.fo.b]; simpa using k0
  · subst q; rw [R.D.day]; simpa using k0
  · subst q
    rw [R.D.day]
    refine X_opn (by decide) R hs.2.2.1 (by have := hs.2.2.2; omega) (fun h' R' f => ?_)
    have := hK h' R' f.N.H
    simpa using this
  · subst q
    exact wX11_allPurses (x_purses R S.F.nb.toNat 0 0 (by decide) (by have := o.b0; omega) (by decide) (by decide) (by simpa using k0))
  · subst q
    exact X_countKept (by decide) R (by simpa using k0)
  · subst q; rw [R.sn]; simpa using k0
  · subst q; rw [R.un]; simpa using k0
  · rw [if_neg (by omega), if_neg (by omega), if_neg (by omega), if_neg (by omega), if_neg (by omega), if_neg (by omega), if_neg (by omega), if_neg (by omega), if_neg (by omega), if_neg (by omega), if_neg (by omega)] at k0
    exact k0
theorem X_being {b w : Int} (hd : 5 ≤ d) (R : RX S g h) (hK : ∀ h', RX S g h' → frH h h' → K (beingS S b w) g h') : xM C l d YX11_being [(2, 0), (0, b), (0, w)] g h K := by
  unfold beingS at hK
  have b8 := R.ok.F.b8
  have hs := R.ok.P.st
  have k0 := hK h R (frH.rf h)
  refine wX11_being hd (X_isBeing R (fun hb => ⟨fun _ => ?_, fun z => absurd z (by decide)⟩) (fun hb => ⟨fun z => absurd rfl z, fun _ => ?_⟩))
  · rw [if_pos hb] at k0 hK
    have e90 : h 90 b = S.st 2 b := R.D.be (j := 2) (by decide) (by decide) hb.1 hb.2
    have e91 : h 91 b = S.st 3 b := R.D.be (j := 3) (by decide) (by decide) hb.1 hb.2
    have e92 : h 92 b = S.st 4 b := R.D.be (j := 4) (by decide) (by decide) hb.1 hb.2
    have e93 : h 93 b = S.st 5 b := R.D.be (j := 5) (by decide) (by decide) hb.1 hb.2
    refine ⟨fun q => ⟨hb.1, by omega, ?_⟩, fun q => ⟨hb.1, by omega, ?_⟩, fun q => ⟨isf R.fi, hb.1, by omega, ?_⟩, fun q => ⟨hb.1, by omega, ?_⟩, fun q => ⟨hb.1, by omega, ?_⟩, fun q => ?_, fun q => ?_⟩
    · subst q; rw [e90]; simpa using k0
    · subst q; rw [e91]; simpa using k0
    · subst q; rw [R.fo.tr b hb.1 hb.2]; simpa using k0
    · subst q; rw [e92]; simpa using k0
    · subst q; rw [e93]; simpa using k0
    · subst q
      rw [R.D.day]
      refine X_opn (by decide) R hs.2.2.1 (by have := hs.2.2.2; omega) (fun h' R' f => ⟨hb.1, by omega, ?_⟩)
      have hr := opn_range R.ok.F (S.st 0 0)
      have l6 := R.ok.F.l6
      have e90' : h' 90 b = S.st 2 b := R'.D.be (j := 2) (by decide) (by decide) hb.1 hb.2
      rw [e90']
      refine x_liesOpen (by omega) (by omega) ?_
      have k1 := hK h' R' f.N.H
      simp at k1
      have hbr := bi_range (S.st 2 b = opnS S (S.st 0 0) - 1 ∨ S.st 2 b = opnS S (S.st 0 0))
      unfold openS at k1 ⊢
      rcases hbr with hbr | hbr
      · rw [hbr] at k1 ⊢; exact ⟨fun _ => k1, fun z => absurd rfl z⟩
      · rw [hbr] at k1 ⊢; exact ⟨fun z => absurd z (by decide), fun _ => k1⟩
    · rw [if_neg (by omega), if_neg (by omega), if_neg (by omega), if_neg (by omega), if_neg (by omega), if_neg (by omega)] at k0
      exact k0
  · rw [if_neg hb] at k0; exact k0
theorem X_leafUpon {a : Int} (hd : 5 ≤ d) (R : RX S g h) (a0 : 0 ≤ a) (a1 : a < S.F.nl) (hK : ∀ h', RX S g h' → frH h h' → K (uponS S a) g h') : xM C l d YX11_leafUpon [(2, 0), (0, a)] g h K := by
  have hs := R.ok.P.st
  have l6 := R.ok.F.l6
  have hr := opn_range R.ok.F (S.st 0 0)
  refine wX11_leafUpon hd ?_
  rw [R.D.day]
  refine X_opn (by decide) R hs.2.2.1 (by have := hs.2.2.2; omega) (fun h' R' f => ?_)
  have k1 := hK h' R' f.N.H
  unfold uponS at k1
  rw [w_id (x := a - 1) (by omega) (by omega), w_id (x := a + 1) (by omega) (by omega)]
  refine x_liesOnNext (by decide) R'.fi R'.fo.l (by omega) (by omega) (by omega) ?_
  by_cases q1 : lieB S.F.nl (opnS S (S.st 0 0)) (a - 1) = true
  · rw [if_pos q1] at k1 ⊢
    exact ⟨fun z => absurd z (by decide), fun _ => k1⟩
  · rw [if_neg q1] at k1 ⊢
    refine ⟨fun _ => x_liesOnNext (by decide) R'.fi R'.fo.l (by omega) (by omega) (by omega) ?_, fun z => absurd rfl z⟩
    by_cases q2 : lieB S.F.nl (opnS S (S.st 0 0)) a = true
    · rw [if_pos q2] at k1 ⊢
      exact ⟨fun z => absurd z (by decide), fun _ => k1⟩
    · rw [if_neg q2] at k1 ⊢
      exact ⟨fun _ => k1, fun z => absurd rfl z⟩
theorem X_cell {a c w : Int} (hd : 6 ≤ d) (R : RX S g h) (hK : ∀ h', RX S g h' → frH h h' → K (cellS S a c w) g h') : xM C l d YX11_cell [(2, 0), (0, a), (0, c), (0, w)] g h K := by
  unfold cellS at hK
  have l6 := R.ok.F.l6
  have c8 := R.ok.F.c8
  have k0 := hK h R (frH.rf h)
  refine wX11_cell hd (X_isCell R (fun hc => ⟨fun _ => ?_, fun z => absurd z (by decide)⟩) (fun hc => ⟨fun z => absurd rfl z, fun _ => ?_⟩))
  · rw [if_pos hc] at k0 hK
    refine ⟨fun q => x_gloss is88 hc.1 (by omega) ?_, fun q => ⟨isf R.fi, ?_⟩, fun q => X_leafUpon (by decide) R hc.1 hc.2.1 (fun h' R' f => ?_), fun q => X_leafUpon (by decide) R hc.1 hc.2.1 (fun h' R' f => ?_), fun q => ?_⟩
    · subst q
      rw [R.D.gl hc.1 (by omega)]
      simp at k0
      have hbr := bi_range (bitS (S.st 1 a) c = 1)
      rcases hbr with hbr | hbr
      · rw [hbr] at k0 ⊢; exact ⟨fun _ => k0, fun z => absurd rfl z⟩
      · rw [hbr] at k0 ⊢; exact ⟨fun z => absurd z (by decide), fun _ => k0⟩
    · subst q
      rw [R.fo.b]
      exact x_whoD R.D (by simpa using k0)
    · subst q
      have := hK h' R' f
      simpa using this
    · subst q
      have k1 := hK h' R' f
      simp at k1
      refine ⟨fun z => ⟨isf R.fi, wX1_mirror ⟨isf R'.fi, ?_⟩⟩, fun z => ?_⟩
      · rw [if_neg z] at k1
        rw [R'.fo.c, w_id (x := S.F.nc - 1) (by omega) (by omega), w_id (by omega) (by omega)]; exact k1
      · rw [if_pos z] at k1; exact k1
    · rw [if_neg (by omega), if_neg (by omega), if_neg (by omega), if_neg (by omega)] at k0
      exact k0
  · rw [if_neg hc] at k0; exact k0
theorem X_kept {k w : Int} (hd : 3 ≤ d) (R : RX S g h) (hK : K (keptS S k w) g h) : xM C l d YX11_kept [(2, 0), (0, k), (0, w)] g h K := by
  unfold keptS at hK
  have hdr := R.ok.P.st.2.2
  have e7 := R.D.day
  have kb := R.kb
  have kp := R.kp
  refine wX11_kept hd ⟨fun q => ?_, fun q => X_countKept (by decide) R ⟨fun z => ?_, fun z => ?_⟩⟩
  · rw [if_neg (by omega)] at hK; exact hK
  · rw [if_pos (by omega)] at hK
    have hlen := R.ok.P.ks.1
    refine wX6_keptAt (by decide) ⟨is88, X_countKept (by decide) R ?_⟩
    have h0 := kp.1
    have hle : (S.ks.length : Int) ≤ h 88 6 := by have := kp.2.1; split at this <;> omega
    rw [w_id (x := h 88 6 - S.ks.length) (by omega) (by omega), w_id (by omega) (by omega)]
    refine x_fmod (by omega) (by omega) (by decide) (by decide) ⟨by omega, by omega, ?_⟩
    have h9 := kp.2.2 k.toNat (by omega)
    rw [show ((k.toNat : Nat) : Int) = k by omega] at h9
    rw [h9]
    obtain ⟨m1, m2, m3, m4, m5, m6⟩ := R.ok.P.ks.2 (S.ks.getD k.toNat (0, 0, 0)) (by
      rw [List.getD_eq_getElem?_getD, List.getElem?_eq_getElem (by omega)]
      exact List.getElem_mem _)
    generalize S.ks.getD k.toNat (0, 0, 0) = t at hK m1 m2 m3 m4 m5 m6
    rw [Int.tdiv_eq_ediv_of_nonneg (by omega), Int.tdiv_eq_ediv_of_nonneg (by omega), Int.tmod_eq_emod_of_nonneg (a := 64 * t.1 + 8 * t.2.1 + t.2.2) (by omega), w_id (x := (64 * t.1 + 8 * t.2.1 + t.2.2) / 64) (by omega) (by omega), w_id (x := (64 * t.1 + 8 * t.2.1 + t.2.2) / 8) (by omega) (by omega), Int.tmod_eq_emod_of_nonneg (by omega)]
    refine ⟨fun y => ?_, fun y => ?_, fun y => ?_, fun y => ?_⟩
    · subst y
      rw [show (64 * t.1 + 8 * t.2.1 + t.2.2) / 64 = t.1 by omega]; simpa using hK
    · subst y
      rw [show (64 * t.1 + 8 * t.2.1 + t.2.2) / 8 % 8 = t.2.1 by omega]; simpa using hK
    · subst y
      rw [show (64 * t.1 + 8 * t.2.1 + t.2.2) % 8 = t.2.2 by omega]; simpa using hK
    · rw [if_neg (by omega), if_neg (by omega), if_neg (by omega)] at hK; exact hK
  · rw [if_neg (by omega)] at hK; exact hK
theorem X_meets {a b : Int} (hd : 5 ≤ d) (R : RX S g h) (hK : ∀ h', RX S g h' → frH h h' → K (meetsS S a b) g h') : xM C l d YX11_meets [(2, 0), (0, a), (0, b)] g h K := by
  unfold meetsS at hK
  have hs := R.ok.P.st
  have l6 := R.ok.F.l6
  have hr := opn_range R.ok.F (S.st 0 0)
  have k0 := hK h R (frH.rf h)
  refine wX11_meets hd (X_isBeing R (fun ha => ⟨fun z => absurd z (by decide), fun _ => X_isBeing R (fun hb => ⟨fun z => absurd z (by decide), fun _ => ⟨fun z => ?_, fun z => ?_⟩⟩) (fun hb => ⟨fun _ => ?_, fun z => absurd rfl z⟩)⟩) (fun ha => ⟨fun _ => ?_, fun z => absurd rfl z⟩))
  · rw [R.D.day]
    refine X_opn (by decide) R hs.2.2.1 (by have := hs.2.2.2; omega) (fun h' R' f => x_meet (by decide) R'.D ha.1 ha.2 hb.1 hb.2 (by omega) (by omega) ?_)
    have k1 := hK h' R' f.N.H
    rw [if_pos ⟨ha, hb, z⟩] at k1
    by_cases hm : metB S.st S.F.nl S.F.nc (opnS S (S.st 0 0)) a b = true
    · rw [if_pos hm] at k1 ⊢; exact ⟨fun y => absurd y (by decide), fun _ => k1⟩
    · rw [if_neg hm] at k1 ⊢; exact ⟨fun _ => k1, fun y => absurd rfl y⟩
  · rw [if_neg (fun y => y.2.2 z)] at k0; exact k0
  · rw [if_neg (fun y => hb y.2.1)] at k0; exact k0
  · rw [if_neg (fun y => ha y.1)] at k0; exact k0
theorem X_pairs {o : Int} (hd : 5 ≤ d) (R : RX S g h) (hK : ∀ h', RX S g h' → frH h h' → K (pairsS S o) g h') : xM C l d YX11_pairs [(2, 0), (0, o)] g h K := by
  unfold pairsS at hK
  have hs := R.ok.P.st
  have l6 := R.ok.F.l6
  have hr := opn_range R.ok.F (S.st 0 0)
  have k0 := hK h R (frH.rf h)
  refine wX11_pairs hd ⟨isf R.fi, ?_⟩
  rw [R.fo.l]
  refine ⟨fun q => ?_, fun q => ⟨fun z => ?_, fun z => ⟨fun y => ⟨fun w => ?_, fun w => ?_⟩, fun y => ?_⟩⟩⟩
  · rw [if_neg (fun y => y.1 q)] at k0; exact k0
  · rw [if_neg (by omega)] at k0; exact k0
  · rw [if_pos ⟨q, by omega, by omega⟩, if_neg w] at k0
    exact x_countPairs (by decide) R.D (by omega) (by omega) k0
  · rw [R.D.day]
    refine X_opn (by decide) R hs.2.2.1 (by have := hs.2.2.2; omega) (fun h' R' f => x_countPairs (by decide) R'.D (by omega) (by omega) ?_)
    have k1 := hK h' R' f.N.H
    rw [if_pos ⟨q, by omega, by omega⟩, if_pos w] at k1
    exact k1
  · rw [if_neg (by omega)] at k0; exact k0
theorem x_apart (hd : 4 ≤ d) (R : RX S g h) : ∀ (n : Nat) (o best : Int), 1 ≤ o → o + n = S.F.nl + 1 → K (apaS S.st S.F.nl S.F.nc S.F.nb n o best) g h → BX5_findApart_13 C l d K (g 0 12) 88 best (prS S.st S.F.nl S.F.nc S.F.nb best) o g h := by
  have l6 := R.ok.F.l6
  intro n
  induction n with
  | zero =>
    intro o best o1 ho hK
    refine vX5_findApart_13 hd ⟨isf R.fi, ?_⟩
    rw [R.fo.l]
    exact ⟨fun _ => by simpa [apaS] using hK, fun q => absurd (by omega) q⟩
  | succ n ih =>
    intro o best o1 ho hK
    refine vX5_findApart_13 hd ⟨isf R.fi, ?_⟩
    rw [R.fo.l]
    refine ⟨fun q => absurd q (by omega), fun _ => x_countPairs (by omega) R.D (by omega) (by omega) ?_⟩
    rw [w_id (by omega) (by omega)]
    unfold apaS at hK
    refine ⟨fun q v5 e5 => ?_, fun q v6 e6 => ?_⟩
    · rw [if_neg (by omega)] at hK
      rw [e5]; exact ih (o + 1) best (by omega) (by omega) hK
    · rw [if_pos (by omega)] at hK
      rw [e6]; exact ih (o + 1) o (by omega) (by omega) hK
theorem X_apart (hd : 5 ≤ d) (R : RX S g h) (hK : K (apartS S) g h) : xM C l d YX11_apart [(2, 0)] g h K := by
  unfold apartS at hK
  have l0 := R.ok.F.l0
  refine wX11_apart hd ⟨isf R.fi, ?_⟩
  rw [R.fo.l]
  refine ⟨fun q => ?_, fun q => ?_⟩
  · rw [if_neg q] at hK
    refine wX5_findApart (by decide) (x_countPairs (by decide) R.D (by decide) (by decide) ?_)
    exact x_apart (by decide) R S.F.nl.toNat 1 0 (by decide) (by omega) hK
  · rw [if_pos q] at hK; exact hK
theorem X_opening {n : Int} (hd : 5 ≤ d) (R : RX S g h) (hK : ∀ h', RX S g h' → frH h h' → K (openingS S n) g h') : xM C l d YX11_opening [(2, 0), (0, n)] g h K := by
  unfold openingS at hK
  have hs := R.ok.P.st.2.2
  have k0 := hK h R (frH.rf h)
  refine wX11_opening hd ⟨fun q => ?_, fun q => ⟨fun z => ?_, fun z => X_canPass R (by omega) (by omega) (fun hc => ⟨fun _ => ?_, fun y => absurd y (by decide)⟩) (fun hc => ⟨fun y => absurd rfl y, fun _ => ?_⟩)⟩⟩
  · rw [if_neg (by omega)] at k0; exact k0
  · rw [if_neg (by omega)] at k0; exact k0
  · rw [R.D.day, w_id (by omega) (by omega)]
    refine X_opn (by decide) R (by omega) (by omega) (fun h' R' f => ?_)
    have k1 := hK h' R' f.N.H
    rw [if_pos ⟨hc.1, by omega, by omega, hc.2⟩] at k1; exact k1
  · rw [if_neg (fun y => hc ⟨y.1, y.2.2.2⟩)] at k0; exact k0
end SxG
