/-! days that go, openings seen -/
def goS (F : aF) : Nat → mf_M → mf_M × List (Int × Int)
  | 0, σ => (σ, [])
  | n + 1, σ => let q := dyS F (openF F.nl F.cO (σ 0 0)) σ; let r := goS F n q.1; (r.1, q.2 ++ r.2)
def laterS (S : aS) (b n w : Int) : Int := if (0 ≤ b ∧ b < S.F.nb) ∧ (S.F.nl ≠ 0 ∧ 0 ≤ n ∧ n ≤ 60 ∧ S.st 0 0 + n ≤ 999) ∧ 0 ≤ w ∧ w ≤ 2 then (if w = 0 then (goS S.F n.toNat S.st).1 3 b else if w = 1 then (goS S.F n.toNat S.st).1 4 b else cntS b (goS S.F n.toNat S.st).2) else -1
def cthS (S : aS) (o b : Int) : Int := (dyS S.F o S.st).1 3 b
def seenB (S : aS) (o : Int) : Bool := S.sn.all (fun q => decide (cthS S o q.1 = q.2))
def setS (S : aS) : Nat → Int → Int → Int
  | 0, _, s => s
  | n + 1, o, s => setS S n (o + 1) (if seenB S o then mf_or s (mf_shl 1 o) else s)
def allS (S : aS) : Int := setS S (S.F.nl + 1).toNat 0 0
def layS (S : aS) (w : Int) : Int := if (S.F.nl ≠ 0 ∧ S.st 0 0 + 1 ≤ 999) ∧ 0 ≤ w ∧ w ≤ 1 then (if w = 0 then popS (allS S) else allS S) else -1
/-- how many of the openings from o on, n of them, leave a being on a cell -/
def lefS (S : aS) (set b c : Int) : Nat → Int → Int
  | 0, _ => 0
  | n + 1, o => (if bitS set o = 1 ∧ cthS S o b = c then 1 else 0) + lefS S set b c n (o + 1)
def mosS (S : aS) (set b : Int) : Nat → Int → Int → Int
  | 0, _, m => m
  | n + 1, c, m => mosS S set b n (c + 1) (if m < lefS S set b c (S.F.nl + 1).toNat 0 then lefS S set b c (S.F.nl + 1).toNat 0 else m)
def fewS (S : aS) (set : Int) : Nat → Int → Int → Int → Int × Int
  | 0, _, best, few => (best, few)
  | n + 1, b, best, few => if best = -1 ∨ mosS S set b S.F.nc.toNat 0 0 < few then fewS S set n (b + 1) b (mosS S set b S.F.nc.toNat 0 0) else fewS S set n (b + 1) best few
def afterS (S : aS) (w : Int) : Int := if (S.F.nl ≠ 0 ∧ S.st 0 0 + 1 ≤ 999) ∧ 0 ≤ w ∧ w ≤ 1 then (if allS S = 0 then -1 else if (fewS S (allS S) S.F.nb.toNat 0 (-1) 0).1 = -1 then -1 else if w = 0 then (fewS S (allS S) S.F.nb.toNat 0 (-1) 0).1 else (fewS S (allS S) S.F.nb.toNat 0 (-1) 0).2) else -1
theorem or_range {s o : Int} (h0 : 0 ≤ s) (h1 : s < 128) (o0 : 0 ≤ o) (o1 : o < 7) : 0 ≤ mf_or s (mf_shl 1 o) ∧ mf_or s (mf_shl 1 o) < 128 := by
  have key : ∀ n : Fin 128, ∀ m : Fin 7, 0 ≤ mf_or (n.val : Int) (mf_shl 1 (m.val : Int)) ∧ mf_or (n.val : Int) (mf_shl 1 (m.val : Int)) < 128 := by decide +kernel
  have := key ⟨s.toNat, by omega⟩ ⟨o.toNat, by omega⟩
  have e1 : ((s.toNat : Nat) : Int) = s := by omega
  have e2 : ((o.toNat : Nat) : Int) = o := by omega
  simp only [e1, e2] at this
  exact this
theorem set_range (S : aS) : ∀ (n : Nat) (o s : Int), 0 ≤ o → o + n ≤ 7 → 0 ≤ s → s < 128 → 0 ≤ setS S n o s ∧ setS S n o s < 128
  | 0, _, _, _, _, h0, h1 => ⟨h0, h1⟩
  | n + 1, o, s, o0, on, h0, h1 => by
    unfold setS
    have h2 := or_range (o := o) h0 h1 o0 (by omega)
    split
    · exact set_range S n (o + 1) _ (by omega) (by omega) h2.1 h2.2
    · exact set_range S n (o + 1) _ (by omega) (by omega) h0 h1
theorem lef_range (S : aS) (set b c : Int) : ∀ (n : Nat) (o : Int), 0 ≤ lefS S set b c n o ∧ lefS S set b c n o ≤ n
  | 0, _ => by simp [lefS]
  | n + 1, o => by
    have := lef_range S set b c n (o + 1)
    unfold lefS
    split <;> omega
section SpLa
variable {C : mf_G} {l : Launch} {d : Nat} {L : Int → mf_M → Prop} {S : aS}
theorem T_daysGo {h0 : mf_M} {N : Int} (hd : 5 ≤ d) (R : RM S h0) (hl : S.F.nl ≠ 0) (hN : N ≤ 1000) : ∀ (n : Nat) (k : Int) (h σ : mf_M), 0 ≤ k → k + n = N → RT S h0 h σ → σ 0 0 + n ≤ 999 → (∀ i, 0 ≤ i → i < 8 → 0 ≤ h 288 i ∧ h 288 i + 64 * n ≤ 1000000) → (∀ h', RT S h0 h' (goS S.F n σ).1 → (∀ i, 0 ≤ i → i < 8 → h' 288 i = h 288 i + cntS i (goS S.F n σ).2) → L 0 h') → BX12_daysGo_2 C l d L N k h := by
  intro n
  induction n with
  | zero =>
    intro k h σ k0 kn T h9 hb hK
    refine vX12_daysGo_2 hd ⟨fun _ => hK h T (fun i _ _ => by simp [goS, cntS]), fun q => absurd (by omega) q⟩
  | succ n ih =>
    intro k h σ k0 kn T h9 hb hK
    refine vX12_daysGo_2 hd ⟨fun q => absurd q (by omega), fun _ => ?_⟩
    have d0 := T.ok.st.2.2.1
    have ed : h 286 0 = σ 0 0 := by rw [← T.vi, vM_day]
    rw [ed]
    refine T_openingOn (by decide) R T d0 (by omega) (fun h1 T1 hq => ?_)
    have hr := opn_range R.ok.F (σ 0 0)
    have l6 := R.ok.F.l6
    refine T_dayBy (by decide) R T1 hl (by omega) (by omega) (by omega) (fun h2 T2 ir mr fr => ?_)
    intro v7 e7
    rw [w_id (by omega) (by omega)] at e7
    rw [e7]
    have hlen : ((dyS S.F (opnS S (σ 0 0)) σ).2.length : Int) ≤ 64 := by
      rw [dy_len]; exact (prS_range _ _ _ _ _ R.ok.F.b8).2
    have e288 : h1 288 = h 288 := hq.1 288 (by decide) (by decide)
    have ir2 := ir (fun i q1 q2 => by rw [e288]; have := hb i q1 q2; omega)
    rw [e288] at ir2
    have hg : goS S.F (n + 1) σ = ((goS S.F n (dyS S.F (opnS S (σ 0 0)) σ).1).1, (dyS S.F (opnS S (σ 0 0)) σ).2 ++ (goS S.F n (dyS S.F (opnS S (σ 0 0)) σ).1).2) := rfl
    rw [hg] at hK
    refine ih (k + 1) h2 _ (by omega) (by omega) T2 (by rw [dy_day]; omega) (fun i q1 q2 => ?_) (fun h' T' hc => hK h' T' (fun i q1 q2 => ?_))
    · rw [ir2 i q1 q2]
      have := cntS_range i (dyS S.F (opnS S (σ 0 0)) σ).2
      have := hb i q1 q2
      omega
    · rw [hc i q1 q2, ir2 i q1 q2, cntS_app]; omega
theorem RT.be {h0 h σ : mf_M} (T : RT S h0 h σ) {j k : Int} (hj : 2 ≤ j) (hj5 : j ≤ 5) (q0 : 0 ≤ k) (q1 : k < S.F.nb) : h 286 (5 + j + 4 * k) = σ j k := by
  rw [← T.vi, vM_be hj hj5 q0 q1]; congr 1
theorem M_later {h : mf_M} {b n w : Int} (hd : 6 ≤ d) (R : RM S h) (hK : ∀ h', RM S h' → frX h h' → L (laterS S b n w) h') : mM C l d YX12_later [(2, 245), (0, b), (0, n), (0, w)] h L := by
  unfold laterS at hK
  have b8 := R.ok.F.b8
  refine wX12_later hd (M_isBeing (by decide) R (fun hb => ⟨fun z => absurd z (by decide), fun _ => M_isAhead (by decide) R (by decide) (by decide) (fun hn => ⟨fun z => absurd z (by decide), fun _ => m_isIn ?_⟩) (fun hn => ?_)⟩) (fun hb => ?_))
  · by_cases hw : 0 ≤ w ∧ w ≤ 2
    · rw [if_pos hw]
      rw [if_pos ⟨hb, hn, hw⟩] at hK
      refine ⟨fun _ => M_putsAside R (fun h1 T1 _ z8 => wX12_daysGo (T_daysGo (by decide) R hn.1 (by omega) n.toNat 0 h1 _ (by decide) (by omega) T1 (by omega) (fun i q1 q2 => by rw [z8 i q1 q2]; omega) (fun h2 T2 hc => ?_))), fun z => absurd z (by decide)⟩
      refine ⟨fun w0 => ⟨fun w1 => ⟨hb.1, by omega, fun v18 e18 => M_takesBack R T2 (fun h3 R3 f3 _ => ?_)⟩, fun w1 => m_purseOf hb.1 (by omega) (M_takesBack R T2 (fun h3 R3 f3 _ => ?_))⟩, fun w0 => m_cellOf hb.1 (by omega) (M_takesBack R T2 (fun h3 R3 f3 _ => ?_))⟩
      · have K0 := hK h3 R3 f3.X
        rw [if_neg w0, if_neg w1] at K0
        rw [hc b hb.1 (by omega), z8 b hb.1 (by omega), Int.zero_add] at e18
        rw [e18]; exact K0
      · have K0 := hK h3 R3 f3.X
        rw [if_neg w0, if_pos w1] at K0
        have := T2.be (j := 4) (by decide) (by decide) hb.1 hb.2
        rw [show (5 : Int) + 4 = 9 from rfl] at this
        rw [this]; exact K0
      · have K0 := hK h3 R3 f3.X
        rw [if_pos w0] at K0
        have := T2.be (j := 3) (by decide) (by decide) hb.1 hb.2
        rw [show (5 : Int) + 3 = 8 from rfl] at this
        rw [this]; exact K0
    · rw [if_neg hw]
      rw [if_neg (fun z => hw z.2.2)] at hK
      exact ⟨fun z => absurd rfl z, fun _ => hK h R (frX.rf h)⟩
  · rw [if_neg (fun z => hn z.2.1)] at hK
    exact ⟨fun _ => hK h R (frX.rf h), fun z => absurd rfl z⟩
  · rw [if_neg (fun z => hb z.1)] at hK
    exact ⟨fun _ => hK h R (frX.rf h), fun z => absurd rfl z⟩
/-- cells written down, for an opening -/
def stdM (S : aS) (h : mf_M) (n : Int) : Prop := ∀ o b, 0 ≤ o → o < n → 0 ≤ b → b < S.F.nb → h 291 (8 * o + b) = cthS S o b
theorem m_seenL {h0 h σ : mf_M} {o : Int} (R : RM S h0) (T : RT S h0 h σ) (o0 : 0 ≤ o) (o6 : o ≤ 6) (hs : stdM S h (o + 1)) : ∀ (n : Nat) (k : Nat), k + n = S.sn.length → (L (if (S.sn.drop k).all (fun q => decide (cthS S o q.1 = q.2)) then 1 else 0) h) → BX12_isAsSeen_2 C l d L o k h := by
  have e65 : h 245 65 = S.sn.length := by rw [T.co 65 (by simp)]; exact R.sn
  have e290 : h 290 = h0 290 := T.fr 290 (by decide) (by decide) (by decide) (by decide) (by decide) (by decide) (by decide) (by decide) (by decide)
  have l16 := R.ok.sn
  have b8 := R.ok.F.b8
  intro n
  induction n with
  | zero =>
    intro k kn hK
    refine vX12_isAsSeen_2 ⟨fun _ => ?_, fun q => absurd (by rw [e65]; omega) q⟩
    rw [List.drop_of_length_le (by omega)] at hK
    simpa using hK
  | succ n ih =>
    intro k kn hK
    obtain ⟨s1, s2⟩ := R.ss k (by omega)
    have hq : S.sn.getD k (0, 0) ∈ S.sn := by
      rw [List.getD_eq_getElem?_getD, List.getElem?_eq_getElem (by omega)]
      exact List.getElem_mem _
    obtain ⟨r1, r2, r3, r4⟩ := R.ok.ss _ hq
    rw [List.drop_eq_getElem_cons (by omega), List.all_cons] at hK
    have eg : S.sn[k]'(by omega) = S.sn.getD k (0, 0) := by rw [List.getD_eq_getElem?_getD, List.getElem?_eq_getElem (by omega)]; rfl
    rw [eg] at hK
    refine vX12_isAsSeen_2 ⟨fun q => absurd q (by rw [e65]; omega), fun _ => ?_⟩
    rw [w_id (x := 2 * (k : Int)) (by omega) (by omega), e290, s1, w_id (x := 8 * o) (by omega) (by omega), w_id (x := 8 * o + _) (by omega) (by omega), w_id (x := 2 * (k : Int) + 1) (by omega) (by omega), s2, hs o _ o0 (by omega) r1 r2]
    refine ⟨by omega, by omega, by omega, by omega, by omega, by omega, fun q v7 e7 => ?_, fun q => ?_⟩
    · rw [w_id (by omega) (by omega)] at e7
      rw [e7]
      have := ih (k + 1) (by omega) (by rw [decide_eq_true q, Bool.true_and] at hK; exact hK)
      rw [show ((k + 1 : Nat) : Int) = (k : Int) + 1 by omega] at this
      exact this
    · rw [decide_eq_false q] at hK
      simpa using hK
theorem m_stood {h0 σ : mf_M} {set o : Int} (hd : 1 ≤ d) (R : RM S h0) (o0 : 0 ≤ o) (o6 : o ≤ 6) (hc : ∀ b, 0 ≤ b → b < S.F.nb → σ 3 b = cthS S o b) : ∀ (n : Nat) (b : Int) (h : mf_M), 0 ≤ b → b + n = S.F.nb → RT S h0 h σ → stdM S h o → (∀ i, 0 ≤ i → i < b → h 291 (8 * o + i) = cthS S o i) → (∀ h', RT S h0 h' S.st → stdM S h' (o + 1) → mM C l 0 YX12_isAsSeen [(2, 245), (0, o)] h' (fun r7 h9 => ((r7 = 0 → (∀ v10 : Int, v10 = mf_w32 (o + 1) → BX12_openingsSeen_8 C l d L set v10 h9)) ∧ (¬ r7 = 0 → (∀ v11 : Int, v11 = mf_or set (mf_shl 1 o) → (∀ v12 : Int, v12 = mf_w32 (o + 1) → BX12_openingsSeen_8 C l d L v11 v12 h9)))))) → BX12_openingsSeen_23 C l d L set o b h := by
  have b8 := R.ok.F.b8
  intro n
  induction n with
  | zero =>
    intro b h b0 bn T hs hi hK
    have fo := RT.fo R T
    refine vX12_openingsSeen_23 hd (wX12_beingMany ⟨fun _ => M_triesAnew R T (fun h1 T1 _ f1 => hK h1 T1 (fun o' b' q1 q2 q3 q4 => ?_)), fun q => absurd (by rw [fo.b]; omega) q⟩)
    rw [f1 291 (by decide) (by decide)]
    by_cases e : o' = o
    · rw [e]; exact hi b' q3 (by omega)
    · exact hs o' b' q1 (by omega) q3 q4
  | succ n ih =>
    intro b h b0 bn T hs hi hK
    have fo := RT.fo R T
    refine vX12_openingsSeen_23 hd (wX12_beingMany ⟨fun q => absurd q (by rw [fo.b]; omega), fun _ => m_cellOf b0 (by omega) ?_⟩)
    rw [w_id (x := 8 * o) (by omega) (by omega), w_id (x := 8 * o + b) (by omega) (by omega)]
    have e3 := T.be (j := 3) (by decide) (by decide) b0 (by omega)
    rw [show (5 : Int) + 3 = 8 from rfl, hc b b0 (by omega)] at e3
    rw [e3]
    refine ⟨by omega, by omega, fun h1 e1 v19 e19 => ?_⟩
    rw [w_id (by omega) (by omega)] at e19
    rw [e19]
    have r1 : ∀ a, a ≠ 291 → h1 a = h a := fun a q => by rw [e1, up_row q]
    refine ih (b + 1) h1 (by omega) (by omega) ⟨fun a q1 q2 q3 q4 q5 q6 q7 q8 q9 => by rw [r1 a q6]; exact T.fr a q1 q2 q3 q4 q5 q6 q7 q8 q9, fun k hk => by rw [r1 245 (by decide)]; exact T.co k hk, by rw [r1 245 (by decide)]; exact T.ao, by rw [r1 245 (by decide)]; exact T.th, by rw [r1 287 (by decide)]; exact T.si, by rw [r1 286 (by decide)]; exact T.hi, by rw [vM_row (r1 286 (by decide))]; exact T.vi, T.ok⟩ (fun o' b' q1 q2 q3 q4 => ?_) (fun i q1 q2 => ?_) hK
    · rw [e1, up_col (by omega)]; exact hs o' b' q1 q2 q3 q4
    · rw [e1, up_if]
      by_cases e : i = b
      · rw [if_pos ⟨rfl, by omega⟩, e]
      · rw [if_neg (by omega)]; exact hi i q1 (by omega)
theorem m_seen {h0 : mf_M} (hd : 5 ≤ d) (R : RM S h0) (hl : S.F.nl ≠ 0) (h9 : S.st 0 0 < 999) (hK : ∀ h', RM S h' → frM h0 h' → stdM S h' (S.F.nl + 1) → L (allS S) h') : ∀ (n : Nat) (o set : Int) (h : mf_M), 0 ≤ o → o + n = S.F.nl + 1 → RT S h0 h S.st → stdM S h o → setS S n o set = allS S → BX12_openingsSeen_8 C l d L set o h := by
  have l6 := R.ok.F.l6
  have b0 := R.ok.F.b0
  intro n
  induction n with
  | zero =>
    intro o set h o0 on T hs he
    have fo := RT.fo R T
    refine vX12_openingsSeen_8 hd (wX12_leaves ⟨fun _ => M_takesBack R T (fun h1 R1 f1 g1 => ?_), fun q => absurd (by rw [fo.l]; omega) q⟩)
    have he2 : set = allS S := he
    rw [he2]
    refine hK h1 R1 f1 (fun o' b' q1 q2 q3 q4 => ?_)
    rw [g1 291 (by decide) (by decide)]; exact hs o' b' q1 (by omega) q3 q4
  | succ n ih =>
    intro o set h o0 on T hs he
    have fo := RT.fo R T
    refine vX12_openingsSeen_8 hd (wX12_leaves ⟨fun q => absurd q (by rw [fo.l]; omega), fun _ => T_dayBy (by decide) R T hl (by omega) (by omega) h9 (fun h1 T1 _ _ f1 => ?_)⟩)
    refine m_stood (by omega) R o0 (by omega) (fun b _ _ => rfl) S.F.nb.toNat 0 h1 (by decide) (by omega) T1 (fun o' b' q1 q2 q3 q4 => by rw [f1 291 (by decide) (by decide) (by decide) (by decide)]; exact hs o' b' q1 q2 q3 q4) (fun i q1 q2 => absurd q2 (by omega)) (fun h2 T2 hs2 => ?_)
    have hz := m_seenL (C := C) (l := l) (d := 0) (L := fun r7 h9 => ((r7 = 0 → (∀ v10 : Int, v10 = mf_w32 (o + 1) → BX12_openingsSeen_8 C l d L set v10 h9)) ∧ (¬ r7 = 0 → (∀ v11 : Int, v11 = mf_or set (mf_shl 1 o) → (∀ v12 : Int, v12 = mf_w32 (o + 1) → BX12_openingsSeen_8 C l d L v11 v12 h9))))) (o := o) R T2 o0 (by omega) hs2 S.sn.length 0 (by omega)
    refine wX12_isAsSeen (hz ?_)
    rw [List.drop_zero]
    have eb : S.sn.all (fun q => decide (cthS S o q.1 = q.2)) = seenB S o := rfl
    rw [eb]
    unfold setS at he
    by_cases g : seenB S o = true
    · rw [if_pos g] at he ⊢
      refine ⟨fun z => absurd z (by decide), fun _ v11 e11 v12 e12 => ?_⟩
      rw [w_id (by omega) (by omega)] at e12
      rw [e11, e12]
      exact ih (o + 1) _ h2 (by omega) (by omega) T2 hs2 he
    · rw [if_neg g] at he ⊢
      refine ⟨fun _ v10 e10 => ?_, fun z => absurd rfl z⟩
      rw [w_id (by omega) (by omega)] at e10
      rw [e10]
      exact ih (o + 1) _ h2 (by omega) (by omega) T2 hs2 he
theorem M_openingsSeen {h : mf_M} (hd : 5 ≤ d) (R : RM S h) (hl : S.F.nl ≠ 0) (h9 : S.st 0 0 < 999) (hK : ∀ h', RM S h' → frM h h' → stdM S h' (S.F.nl + 1) → L (allS S) h') : mM C l d YX12_openingsSeen [(2, 245)] h L := by
  have l0 := R.ok.F.l0
  refine wX12_openingsSeen (by omega) (M_putsAside R (fun h1 T1 _ _ => m_seen hd R hl h9 hK (S.F.nl + 1).toNat 0 0 h1 (by decide) (by omega) T1 (fun o b q1 q2 => absurd q2 (by omega)) rfl))
theorem all_range (R : okF S.F) : 0 ≤ allS S ∧ allS S < 128 := by
  have := R.l0
  have := R.l6
  exact set_range S _ 0 0 (by decide) (by omega) (by decide) (by decide)
theorem M_lay {h : mf_M} {w : Int} (hd : 6 ≤ d) (R : RM S h) (hK : ∀ h', RM S h' → frX h h' → L (layS S w) h') : mM C l d YX12_lay [(2, 245), (0, w)] h L := by
  unfold layS at hK
  refine wX12_lay hd (M_isAhead (by decide) R (by decide) (by decide) (fun hn => ⟨fun z => absurd z (by decide), fun _ => m_isIn ?_⟩) (fun hn => ?_))
  · by_cases hw : 0 ≤ w ∧ w ≤ 1
    · rw [if_pos hw]
      rw [if_pos ⟨⟨hn.1, hn.2.2.2⟩, hw⟩] at hK
      refine ⟨fun _ => M_openingsSeen (by decide) R hn.1 (by omega) (fun h1 R1 f1 _ => ⟨fun w0 => ?_, fun w0 => M_bits (all_range R.ok.F).1 (by have := (all_range R.ok.F).2; omega) ?_⟩), fun z => absurd z (by decide)⟩
      · have K0 := hK h1 R1 f1.X
        rw [if_neg w0] at K0; exact K0
      · have K0 := hK h1 R1 f1.X
        rw [if_pos w0] at K0; exact K0
    · rw [if_neg hw]
      rw [if_neg (fun z => hw z.2)] at hK
      exact ⟨fun z => absurd rfl z, fun _ => hK h R (frX.rf h)⟩
  · rw [if_neg (fun z => hn ⟨z.1.1, by decide, by decide, z.1.2⟩)] at hK
    exact ⟨fun _ => hK h R (frX.rf h), fun z => absurd rfl z⟩
end SpLa
