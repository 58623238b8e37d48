/-! days and chance -/
def keepN (day : Int) (ms : List (Int × Int)) (ks : List (Int × Int × Int)) : List (Int × Int × Int) := ms.foldl (fun ks q => keepS ks (day, q.1, q.2)) ks
def dayA (S : aS) (o : Int) : aS := S.act (dyS S.F o S.st).1 (keepN (S.st 0 0) (dyS S.F o S.st).2 S.ks) S.un S.nx
def runA : Nat → aS → Int × aS
  | 0, S => (0, S)
  | n + 1, S => (prS S.st S.F.nl S.F.nc S.F.nb (opnS S (S.st 0 0)) + (runA n (dayA S (opnS S (S.st 0 0)))).1, (runA n (dayA S (opnS S (S.st 0 0)))).2)
def daysS (S : aS) (n : Int) : Int × aS := if S.F.nl ≠ 0 ∧ 1 ≤ n ∧ n ≤ 100 ∧ S.st 0 0 + n ≤ 999 then runA n.toNat (savS S) else (-1, refS S 3)
def drwS (s : Int) : Int := (1103515245 * s + 12345) % 2147483648
def presS (S : aS) : Int × aS :=
  if drwS S.sd / 64 % 100 < S.F.th ∧ 0 < S.F.nb then
    (1, (S.s_sd (drwS (drwS S.sd))).act (mf_up S.st 4 (drwS (drwS S.sd) / 64 % S.F.nb) (S.st 4 (drwS (drwS S.sd) / 64 % S.F.nb) / 2)) S.ks S.un S.nx)
  else (0, S.s_sd (drwS S.sd))
def chaA : Nat → aS → Int × aS
  | 0, S => (0, S)
  | n + 1, S => ((presS S).1 + (chaA n (dayA (presS S).2 (opnS S (S.st 0 0)))).1, (chaA n (dayA (presS S).2 (opnS S (S.st 0 0)))).2)
def chanceS (S : aS) (n : Int) : Int × aS := if S.F.nl ≠ 0 ∧ 1 ≤ n ∧ n ≤ 100 ∧ S.st 0 0 + n ≤ 999 then chaA n.toNat (savS S) else (-1, refS S 3)
def ksOK (ks : List (Int × Int × Int)) : Prop := ks.length ≤ 40 ∧ ∀ q ∈ ks, 0 ≤ q.1 ∧ q.1 ≤ 999 ∧ 0 ≤ q.2.1 ∧ q.2.1 < 8 ∧ 0 ≤ q.2.2 ∧ q.2.2 < 8
theorem keepN_ok {day : Int} (d0 : 0 ≤ day) (d9 : day ≤ 999) : ∀ (ms : List (Int × Int)) (ks : List (Int × Int × Int)), (∀ q ∈ ms, 0 ≤ q.1 ∧ q.1 < 8 ∧ 0 ≤ q.2 ∧ q.2 < 8) → ksOK ks → ksOK (keepN day ms ks)
  | [], ks, _, h => h
  | q :: ms, ks, hm, h => by
    have e : keepN day (q :: ms) ks = keepN day ms (keepS ks (day, q.1, q.2)) := rfl
    rw [e]
    have hq := hm q List.mem_cons_self
    refine keepN_ok d0 d9 ms _ (fun x hx => hm x (List.mem_cons_of_mem _ hx)) ?_
    obtain ⟨h1, h2⟩ := h
    unfold keepS
    split
    · refine ⟨by simp; omega, fun x hx => ?_⟩
      rcases List.mem_append.mp hx with hx | hx
      · exact h2 x hx
      · rw [List.mem_singleton.mp hx]; exact ⟨d0, d9, hq⟩
    · refine ⟨by simp; omega, fun x hx => ?_⟩
      rcases List.mem_append.mp hx with hx | hx
      · exact h2 x (List.mem_of_mem_drop hx)
      · rw [List.mem_singleton.mp hx]; exact ⟨d0, d9, hq⟩
theorem okP.dayA {S : aS} (o : okS S) {op : Int} (hd : S.st 0 0 < 999) : okP S.F (dyS S.F op S.st).1 (keepN (S.st 0 0) (dyS S.F op S.st).2 S.ks) := by
  have b8 := o.F.b8
  refine (o.P.nil.day o.F hd).with (keepN_ok o.P.st.2.2.1 o.P.st.2.2.2 _ _ (fun q hq => ?_) o.P.ks)
  have := dy_mem o.F hq
  omega
theorem okP.purse {F : aF} {σ : mf_M} {ks : List (Int × Int × Int)} (o : okP F σ ks) {b v : Int} (v0 : 0 ≤ v) (v1 : v ≤ 9999) : okP F (mf_up σ 4 b v) ks := by
  have gr : ∀ j, j ≠ 4 → mf_up σ 4 b v j = σ j := fun j q => up_row q
  exact ⟨o.st.up4 v0 v1, by rw [gr 1 (by decide)]; exact o.gl, by rw [gr 1 (by decide)]; exact o.gz, by rw [gr 1 (by decide), gr 2 (by decide), gr 3 (by decide)]; exact o.ng, by rw [gr 2 (by decide), gr 3 (by decide)]; exact o.ds, o.ks⟩
section SpDy
variable {C : mf_G} {l : Launch} {d : Nat} {L : Int → mf_M → Prop} {S : aS} {h : mf_M}
theorem M_dayBy {o : Int} (hd : 4 ≤ d) (R : RM S h) (hl : S.F.nl ≠ 0) (ho1 : -1000 ≤ o) (ho2 : o ≤ 1000) (h9 : S.st 0 0 < 999) (hK : ∀ h', RM (dayA S o) h' → frX h h' → mgR h h' (dyS S.F o S.st).2 → L 0 h') : mM C l d YX12_dayBy [(2, 245), (0, o)] h L := by
  refine m_dayBy hd ho1 ho2 (R.fol hl) (by rw [R.vi]; exact R.ok.P.st) (fun _ => ⟨S.ks, R.kp⟩) (fun h' v f e0 kp ir mr e9 _ _ => ?_)
  rw [R.vi] at v kp ir mr
  have hc : ∀ k ∈ ([1, 7, 8, 48, 54, 61, 65, 69, 70, 71, 105] : List Int), h' 245 k = h 245 k := fun k hk => f.2 k (by rintro rfl; simp at hk) (by rintro rfl; simp at hk) (by rintro rfl; simp at hk) (by rintro rfl; simp at hk) (by rintro rfl; simp at hk) (by rintro rfl; simp at hk)
  have k2 := kp.2 R.th S.ks R.kp
  rw [R.day] at k2
  have r92 : h' 292 = h 292 := f.1 292 (by decide) (by decide) (by decide) (by decide)
  refine hK h' (R.act (R.ok.act (okP.dayA R.ok h9) R.ok.un R.ok.us R.ok.nx0 R.ok.nx1) (fun a q1 q2 _ q4 _ _ _ _ _ q9 => f.1 a q1 q2 q4 q9) (fun k hk => hc k ?_) (by rw [e9]; exact ⟨ho1, ho2⟩) v k2 (by rw [hc 69 (by simp)]; exact R.un) (by rw [hc 70 (by simp)]; exact R.nx) (fun j hj => ⟨by rw [vM_row r92]; exact (R.us j hj).1, (R.us j hj).2.row r92⟩)) (fun a ha => f.1 a (by omega) (by omega) (by omega) (by omega)) mr
  simp only [List.mem_cons, List.not_mem_nil, or_false] at hk ⊢
  omega
theorem m_daysGo {N : Int} (hd : 5 ≤ d) (hN : N ≤ 1000) : ∀ (n : Nat) (k : Int) (S : aS) (h : mf_M), 0 ≤ k → k + n = N → RM S h → S.F.nl ≠ 0 → S.st 0 0 + n ≤ 999 → 0 ≤ h 245 62 → h 245 62 + 64 * n ≤ 1000000 → (∀ h', RM (runA n S).2 h' → frX h h' → h' 245 62 = h 245 62 + (runA n S).1 → L 0 h') → BX12_daysGo_2 C l d L N k h := by
  intro n
  induction n with
  | zero =>
    intro k S h k0 kn R hl h9 m0 m1 hK
    exact vX12_daysGo_2 hd ⟨fun _ => hK h R (frX.rf h) (by simp [runA]), fun q => absurd (by omega) q⟩
  | succ n ih =>
    intro k S h k0 kn R hl h9 m0 m1 hK
    refine vX12_daysGo_2 hd ⟨fun q => absurd q (by omega), fun _ => ?_⟩
    have d0 := R.ok.P.st.2.2.1
    have l6 := R.ok.F.l6
    have hr := opn_range R.ok.F (S.st 0 0)
    rw [R.day]
    refine M_openingOn (by decide) R d0 (by omega) (fun h1 R1 hq => M_dayBy (by decide) R1 hl (by omega) (by omega) (by omega) (fun h2 R2 f2 mr => ?_))
    intro v7 e7
    rw [w_id (by omega) (by omega)] at e7
    rw [e7]
    have hp := prS_range S.st S.F.nl S.F.nc S.F.nb (opnS S (S.st 0 0)) R.ok.F.b8
    have e62 : h1 245 62 = h 245 62 := hq.2 62 (by decide) (by decide) (by decide)
    have el : ((dyS S.F (opnS S (S.st 0 0)) S.st).2.length : Int) = prS S.st S.F.nl S.F.nc S.F.nb (opnS S (S.st 0 0)) := dy_len _ _ _
    have m2 := mr (by rw [e62]; exact m0) (by rw [e62, el]; omega)
    rw [e62, el] at m2
    have ed : (dayA S (opnS S (S.st 0 0))).st 0 0 = S.st 0 0 + 1 := dy_day _ _ _
    refine ih (k + 1) (dayA S (opnS S (S.st 0 0))) h2 (by omega) (by omega) R2 hl (by rw [ed]; omega) (by omega) (by omega) (fun h' R' f' m' => hK h' R' ((frX.tr hq.M.X f2).tr f') ?_)
    rw [m', m2]
    show _ = h 245 62 + (prS S.st S.F.nl S.F.nc S.F.nb (opnS S (S.st 0 0)) + (runA n (dayA S (opnS S (S.st 0 0)))).1)
    omega
theorem RM.s62 (R : RM S h) (v : Int) : frM h (mf_up h 245 62 v) := by
  refine ⟨fun a q _ _ _ _ _ _ _ _ => up_row q, fun k hk => up_col (by rintro rfl; simp at hk), fun q => by rw [up_col (by decide)]; exact q, fun k _ => by rw [up_row (by decide)]⟩
theorem M_days {n : Int} (hd : 6 ≤ d) (R : RM S h) (hK : ∀ h', RM (daysS S n).2 h' → frX h h' → L (daysS S n).1 h') : mM C l d YX12_days [(2, 245), (0, n)] h L := by
  unfold daysS at hK
  refine wX12_days hd (M_isAhead (by decide) R (by decide) (by decide) (fun hn => ⟨fun _ => M_keeps R (fun h1 R1 f1 _ _ => ?_), fun z => absurd z (by decide)⟩) (fun hn => ⟨fun z => absurd rfl z, fun _ => ?_⟩))
  · rw [if_pos hn] at hK
    intro h2 e2
    have g2 : frM h1 h2 := by rw [e2]; exact R1.s62 0
    have e62 : h2 245 62 = 0 := by rw [e2, up_self]
    refine wX12_daysGo (m_daysGo (by decide) (by omega) n.toNat 0 (savS S) h2 (by decide) (by omega) (R1.keep g2) hn.1 (by show S.st 0 0 + _ ≤ 999; omega) (by omega) (by omega) (fun h3 R3 f3 m3 => ?_))
    rw [m3, e62, Int.zero_add]
    exact hK h3 R3 ((f1.tr g2.X).tr f3)
  · rw [if_neg hn] at hK
    refine wX12_refuses ⟨by decide, by decide, fun h3 e3 => ?_⟩
    rw [e3]; exact hK _ (R.ref (by decide) (by decide)) (frX.up (by decide))
theorem drw_range (s : Int) : 0 ≤ drwS s ∧ drwS s < 2147483648 := by unfold drwS; omega
theorem M_drawOf {m : Int} (R : RM S h) (m0 : 0 < m) (m1 : m ≤ 1000) (hK : ∀ h', RM (S.s_sd (drwS S.sd)) h' → frX h h' → h' 286 = h 286 → L (drwS S.sd / 64 % m) h') : mM C l d YX12_drawOf [(2, 245), (0, m)] h L := by
  have s0 := R.ok.sd0
  have s1 := R.ok.sd1
  refine wX12_drawOf (fun h1 e1 => ⟨by omega, ?_⟩)
  have ev : (mf_w64 ((mf_w64 (1103515245 * (h 245 71))) + 12345)).tmod 2147483648 = drwS S.sd := by
    rw [R.sd, w64_id (x := 1103515245 * S.sd) (by omega) (by omega), w64_id (by omega) (by omega), Int.tmod_eq_emod_of_nonneg (by omega)]; rfl
  rw [ev] at e1
  have hr := drw_range S.sd
  have e71 : h1 245 71 = drwS S.sd := by rw [e1, up_self]
  have q0 := Int.emod_nonneg (drwS S.sd / 64) (b := m) (by omega)
  have q1 := Int.emod_lt_of_pos (drwS S.sd / 64) (b := m) m0
  rw [e71, Int.tdiv_eq_ediv_of_nonneg hr.1, w64_id (by omega) (by omega), Int.tmod_eq_emod_of_nonneg (by omega), w_id (by omega) (by omega)]
  refine hK h1 (by rw [e1]; exact R.s_sd hr.1 hr.2) (by rw [e1]; exact frX.up (by decide)) (by rw [e1, up_row (by decide)])
theorem m_chance {N : Int} (hd : 5 ≤ d) (hN : N ≤ 1000) : ∀ (n : Nat) (k t : Int) (S : aS) (h : mf_M), 0 ≤ k → k + n = N → 0 ≤ t → t + n ≤ 1000 → RM S h → S.F.nl ≠ 0 → S.st 0 0 + n ≤ 999 → (∀ h', RM (chaA n S).2 h' → frX h h' → L (t + (chaA n S).1) h') → BX12_chance_25 C l d L N t k h := by
  intro n
  induction n with
  | zero =>
    intro k t S h k0 kn t0 tn R hl h9 hK
    have := hK h R (frX.rf h)
    refine vX12_chance_25 hd ⟨fun _ => by simpa [chaA] using this, fun q => absurd (by omega) q⟩
  | succ n ih =>
    intro k t S h k0 kn t0 tn R hl h9 hK
    have d0 := R.ok.P.st.2.2.1
    have l6 := R.ok.F.l6
    have b0 := R.ok.F.b0
    have b8 := R.ok.F.b8
    have hr := opn_range R.ok.F (S.st 0 0)
    have ec : chaA (n + 1) S = ((presS S).1 + (chaA n (dayA (presS S).2 (opnS S (S.st 0 0)))).1, (chaA n (dayA (presS S).2 (opnS S (S.st 0 0)))).2) := rfl
    rw [ec] at hK
    -- the day, behind the thumb
    have day : ∀ (h1 : mf_M) (t1 : Int), t1 = t + (presS S).1 → 0 ≤ t1 → t1 ≤ t + 1 → (presS S).2.F = S.F → (presS S).2.st 0 0 = S.st 0 0 → RM (presS S).2 h1 → frX h h1 → mM C l 3 YX12_openingOn [(2, 245), (0, h1 286 0)] h1 (fun r4 h6 => mM C l 4 YX12_dayBy [(2, 245), (0, r4)] h6 (fun r7 h9 => (∀ v10 : Int, v10 = mf_w32 (k + 1) → BX12_chance_25 C l d L N t1 v10 h9))) := by
      intro h1 t1 e1 t10 t11 eF eD R1 f1
      rw [R1.day, eD]
      have eo : opnS (presS S).2 (S.st 0 0) = opnS S (S.st 0 0) := by unfold opnS; rw [eF]
      refine M_openingOn (by decide) R1 d0 (by omega) (fun h2 R2 hq => ?_)
      rw [eo]
      refine M_dayBy (by decide) R2 (by rw [eF]; exact hl) (by omega) (by omega) (by rw [eD]; omega) (fun h3 R3 f3 _ => ?_)
      intro v7 e7
      rw [w_id (by omega) (by omega)] at e7
      rw [e7]
      have ed : (dayA (presS S).2 (opnS S (S.st 0 0))).st 0 0 = S.st 0 0 + 1 := by rw [← eD]; exact dy_day _ _ _
      refine ih (k + 1) t1 _ h3 (by omega) (by omega) t10 (by omega) R3 (by show (presS S).2.F.nl ≠ 0; rw [eF]; exact hl) (by rw [ed]; omega) (fun h' R' f' => ?_)
      have := hK h' R' (((f1.tr hq.M.X).tr f3).tr f')
      rw [← Int.add_assoc, ← e1] at this
      exact this
    refine vX12_chance_25 hd ⟨fun q => absurd q (by omega), fun _ => M_drawOf R (by decide) (by decide) (fun h1 R1 f1 e1 => ?_)⟩
    rw [R1.fo.t]
    refine ⟨fun q => ?_, fun q => wX12_beingMany ?_⟩
    · have nq : ¬ (drwS S.sd / 64 % 100 < S.F.th ∧ 0 < S.F.nb) := fun z => by have := z.1; have q2 : S.F.th ≤ drwS S.sd / 64 % 100 := q; omega
      have ep : presS S = (0, S.s_sd (drwS S.sd)) := by unfold presS; rw [if_neg nq]
      refine day h1 t (by rw [ep]; simp) t0 (by omega) (by rw [ep]; rfl) (by rw [ep]; rfl) (by rw [ep]; exact R1) f1
    · rw [R1.fo.b]
      refine ⟨fun y => ?_, fun y => wX12_beingMany ?_⟩
      · have nq : ¬ (drwS S.sd / 64 % 100 < S.F.th ∧ 0 < S.F.nb) := fun z => by have := z.2; have q2 : S.F.nb ≤ 0 := y; omega
        have ep : presS S = (0, S.s_sd (drwS S.sd)) := by unfold presS; rw [if_neg nq]
        refine day h1 t (by rw [ep]; simp) t0 (by omega) (by rw [ep]; rfl) (by rw [ep]; rfl) (by rw [ep]; exact R1) f1
      · rw [R1.fo.b]
        have y2 : ¬ S.F.nb ≤ 0 := y
        have q2 : ¬ S.F.th ≤ drwS S.sd / 64 % 100 := q
        have pq : drwS S.sd / 64 % 100 < S.F.th ∧ 0 < S.F.nb := by omega
        refine M_drawOf R1 (by show 0 < S.F.nb; omega) (by show S.F.nb ≤ 1000; omega) (fun h2 R2 f2 e2 => ?_)
        have ed : (S.s_sd (drwS S.sd)).sd = drwS S.sd := rfl
        rw [ed] at R2 ⊢
        have enb : (S.s_sd (drwS S.sd)).F.nb = S.F.nb := rfl
        rw [enb]
        have q0 := Int.emod_nonneg (drwS (drwS S.sd) / 64) (b := S.F.nb) (by omega)
        have q1 := Int.emod_lt_of_pos (drwS (drwS S.sd) / 64) (b := S.F.nb) (by omega)
        have ps := R.ok.P.st.2.1 (drwS (drwS S.sd) / 64 % S.F.nb) q0 q1
        have ea : h2 286 (9 + 4 * (drwS (drwS S.sd) / 64 % S.F.nb)) = S.st 4 (drwS (drwS S.sd) / 64 % S.F.nb) := R2.be (j := 4) (by decide) (by decide) q0 q1
        refine m_purseOf q0 (by omega) (m_purseIs q0 (by omega) ?_)
        rw [ea, Int.tdiv_eq_ediv_of_nonneg ps.1, w_id (x := S.st 4 (drwS (drwS S.sd) / 64 % S.F.nb) / 2) (by omega) (by omega)]
        intro v33 e33
        rw [w_id (by omega) (by omega)] at e33
        rw [e33]
        have ecl : clipS (S.st 4 (drwS (drwS S.sd) / 64 % S.F.nb) / 2) = S.st 4 (drwS (drwS S.sd) / 64 % S.F.nb) / 2 := by
          unfold clipS; rw [if_neg (by omega), if_neg (by omega)]
        rw [ecl]
        have ep : presS S = (1, (S.s_sd (drwS (drwS S.sd))).act (mf_up S.st 4 (drwS (drwS S.sd) / 64 % S.F.nb) (S.st 4 (drwS (drwS S.sd) / 64 % S.F.nb) / 2)) S.ks S.un S.nx) := by unfold presS; rw [if_pos pq]
        have v2 : vM h2 286 0 S.F.nb = S.st := R2.vi
        refine day _ (t + 1) (by rw [ep]) (by omega) (by omega) (by rw [ep]; rfl) (by rw [ep]; show mf_up S.st 4 (drwS (drwS S.sd) / 64 % S.F.nb) (S.st 4 (drwS (drwS S.sd) / 64 % S.F.nb) / 2) 0 0 = S.st 0 0; rw [up_row (by decide)]) ?_ ((f1.tr f2).tr (frX.up (by decide)))
        rw [ep]
        refine R2.act1 (R.ok.P.purse (by omega) (by omega)) (fun a qa => up_row qa) ?_ (kpM_hi (fun k hk => up_col (by omega)) R2.kp)
        show vM _ 286 0 S.F.nb = _
        rw [vM_up (j := 4) (k := drwS (drwS S.sd) / 64 % S.F.nb) (by omega) (by decide) (by decide) q0 q1, v2]
theorem M_chance {n : Int} (hd : 6 ≤ d) (R : RM S h) (hK : ∀ h', RM (chanceS S n).2 h' → frX h h' → L (chanceS S n).1 h') : mM C l d YX12_chance [(2, 245), (0, n)] h L := by
  unfold chanceS at hK
  refine wX12_chance (by omega) (M_isAhead (by decide) R (by decide) (by decide) (fun hn => ⟨fun _ => M_keeps R (fun h1 R1 f1 _ _ => ?_), fun z => absurd z (by decide)⟩) (fun hn => ⟨fun z => absurd rfl z, fun _ => ?_⟩))
  · rw [if_pos hn] at hK
    refine m_chance (by omega) (by omega) n.toNat 0 0 (savS S) h1 (by decide) (by omega) (by decide) (by omega) R1 hn.1 (by show S.st 0 0 + _ ≤ 999; omega) (fun h3 R3 f3 => ?_)
    rw [Int.zero_add]
    exact hK h3 R3 (f1.tr f3)
  · rw [if_neg hn] at hK
    refine wX12_refuses ⟨by decide, by decide, fun h3 e3 => ?_⟩
    rw [e3]; exact hK _ (R.ref (by decide) (by decide)) (frX.up (by decide))
end SpDy
