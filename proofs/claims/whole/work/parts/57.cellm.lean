section SpC
variable {C : mf_G} {l : Launch} {d : Nat} {L : Int → mf_M → Prop} {h : mf_M} {S : aS}
theorem M_isBeing {b : Int} (hd : 1 ≤ d) (R : RM S h) (h1 : 0 ≤ b ∧ b < S.F.nb → L 1 h) (h2 : ¬ (0 ≤ b ∧ b < S.F.nb) → L 0 h) : mM C l d YX12_isBeing [(2, 245), (0, b)] h L := by
  refine m_isBeing hd (by rw [R.fo.b]; exact R.ok.F.b0) (by rw [R.fo.b]; exact R.ok.F.b8) ?_
  rw [R.fo.b]
  by_cases q : 0 ≤ b ∧ b < S.F.nb
  · rw [if_pos q]; exact h1 q
  · rw [if_neg q]; exact h2 q
theorem M_isCell {a c : Int} (hd : 1 ≤ d) (R : RM S h) (h1 : 0 ≤ a ∧ a < S.F.nl ∧ 0 ≤ c ∧ c < S.F.nc → L 1 h) (h2 : ¬ (0 ≤ a ∧ a < S.F.nl ∧ 0 ≤ c ∧ c < S.F.nc) → L 0 h) : mM C l d YX12_isCell [(2, 245), (0, a), (0, c)] h L := by
  have o := R.ok.F
  refine m_isCell hd (by rw [R.fo.l]; exact o.l0) (by rw [R.fo.l]; exact o.l6) (by rw [R.fo.c]; exact o.c0) (by rw [R.fo.c]; exact o.c8) ?_ ?_
  · intro q
    rw [R.fo.i] at q
    rw [R.fo.l]
    by_cases e : S.F.nl = 0
    · exact e
    · rw [if_neg e] at q; exact absurd q (by decide)
  · rw [R.fo.l, R.fo.c]
    by_cases q : 0 ≤ a ∧ a < S.F.nl ∧ 0 ≤ c ∧ c < S.F.nc
    · rw [if_pos q]; exact h1 q
    · rw [if_neg q]; exact h2 q
theorem M_lies {p o : Int} (hd : 1 ≤ d) (R : RM S h) (hp : p ≤ 1000) (ho1 : -1000 ≤ o) (ho2 : o ≤ 1000) (h1 : lieB S.F.nl o p = true → L 1 h) (h2 : lieB S.F.nl o p = false → L 0 h) : mM C l d YX12_liesOnNext [(2, 245), (0, p), (0, o)] h L := by
  refine m_liesOnNext hd R.fo.l R.ok.F.l0 R.ok.F.l6 hp ho1 ho2 ?_
  by_cases q : lieB S.F.nl o p = true
  · rw [if_pos q]; exact h1 q
  · rw [if_neg q]; exact h2 (by simpa using q)
theorem M_hasGloss {a c : Int} (R : RM S h) (h0 : 0 ≤ a) (h6 : a < 6) (h1 : bitS (S.st 1 a) c = 1 → L 1 h) (h2 : ¬ bitS (S.st 1 a) c = 1 → L 0 h) : mM C l d YX12_hasGloss [(2, 245), (0, a), (0, c)] h L := by
  refine m_hasGloss h0 h6 ?_
  rw [R.gl h0 h6]
  by_cases q : bitS (S.st 1 a) c = 1
  · rw [if_pos q]; exact h1 q
  · rw [if_neg q]; exact h2 q
theorem M_standsOn {a c : Int} (hd : 1 ≤ d) (R : RM S h) (hK : L (whoS S.st S.F.nb a c) h) : mM C l d YX12_standsOn [(2, 245), (0, a), (0, c)] h L := by
  refine m_standsOn hd R.fo.b R.ok.F.b8 ?_
  rw [R.vi]; exact hK
theorem M_doMeet {a b o : Int} (hd : 2 ≤ d) (R : RM S h) (ha0 : 0 ≤ a) (ha : a < S.F.nb) (hb0 : 0 ≤ b) (hb : b < S.F.nb) (ho1 : -1000 ≤ o) (ho2 : o ≤ 1000) (hK : L (if metB S.st S.F.nl S.F.nc o a b then 1 else 0) h) : mM C l d YX12_doMeet [(2, 245), (0, a), (0, b), (0, o)] h L := by
  have f := R.ok.F
  refine m_doMeet (nb := S.F.nb) hd R.fo.l R.fo.c f.l0 f.l6 f.c0 f.c8 f.b8 ha0 ha hb0 hb R.on ho1 ho2 ?_
  rw [R.vi]; exact hK
theorem M_cell {a c w : Int} (hd : 4 ≤ d) (R : RM S h) (hK : ∀ h', RM S h' → frX h h' → L (cellS S a c w) h') : mM C l d YX12_cell [(2, 245), (0, a), (0, c), (0, w)] h L := by
  unfold cellS at hK
  have o := R.ok.F
  have hs := R.ok.P.st
  have l6 := o.l6
  have c8 := o.c8
  refine wX12_cell hd (M_isCell (by decide) R (fun hc => ?_) (fun hc => ?_))
  · rw [if_pos hc] at hK
    refine ⟨fun _ => ?_, fun z => absurd z (by decide)⟩
    rw [R.day]
    refine M_openingOn (by decide) R hs.2.2.1 (by have := hs.2.2.2; omega) (fun h1 R1 hq => ?_)
    have hr := opn_range o (S.st 0 0)
    have fin : ∀ s0, s0 = uponS S a → BX12_cell_58 C l d L a c w s0 h1 := by
      intro s0 e0
      have K0 := hK h1 R1 hq.M.X
      rw [← e0] at K0
      refine vX12_cell_58 (by omega) ⟨fun q => M_hasGloss R1 hc.1 (by omega) (fun g => ?_) (fun g => ?_), fun q => M_standsOn (by decide) R1 ?_, fun q => ?_, fun q => ⟨fun z => ?_, fun z => ?_⟩, fun q => ?_⟩
      · refine ⟨fun z => absurd z (by decide), fun _ => ?_⟩
        simpa [q, g, biS] using K0
      · refine ⟨fun _ => ?_, fun z => absurd rfl z⟩
        simpa [q, g, biS] using K0
      · simpa [q] using K0
      · simpa [q] using K0
      · rw [R1.fo.c, w_id (x := S.F.nc - 1) (by omega) (by omega), w_id (by omega) (by omega)]
        rw [if_neg (by omega), if_neg (by omega), if_neg (by omega), if_pos q, if_neg z] at K0
        exact K0
      · rw [if_neg (by omega), if_neg (by omega), if_neg (by omega), if_pos q, if_pos z] at K0
        exact K0
      · rw [if_neg (by omega), if_neg (by omega), if_neg (by omega), if_neg (by omega)] at K0
        exact K0
    unfold uponS at fin
    rw [w_id (x := a - 1) (by omega) (by omega), w_id (x := a + 1) (by omega) (by omega)]
    refine M_lies (by decide) R1 (by omega) (by omega) (by omega) (fun g => ?_) (fun g => ?_)
    · exact ⟨fun z => absurd z (by decide), fun _ => fin _ (by rw [if_pos g])⟩
    · refine ⟨fun _ => M_lies (by decide) R1 (by omega) (by omega) (by omega) (fun g2 => ?_) (fun g2 => ?_), fun z => absurd rfl z⟩
      · exact ⟨fun z => absurd z (by decide), fun _ => fin _ (by rw [if_neg (by rw [g]; decide), if_pos g2])⟩
      · exact ⟨fun _ => fin _ (by rw [if_neg (by rw [g]; decide), if_neg (by rw [g2]; decide)]), fun z => absurd rfl z⟩
  · rw [if_neg hc] at hK
    exact ⟨fun z => absurd rfl z, fun _ => hK h R (frX.rf h)⟩
theorem M_kept {k w : Int} (hd : 1 ≤ d) (R : RM S h) (hK : L (keptS S k w) h) : mM C l d YX12_kept [(2, 245), (0, k), (0, w)] h L := by
  unfold keptS at hK
  obtain ⟨e1, e2, e3⟩ := R.kp
  rw [show (0 : Int) + 39 = 39 from rfl] at e1
  refine wX12_kept hd (m_isIn ?_)
  rw [e1, w_id (by omega) (by omega)]
  by_cases q : 0 ≤ k ∧ k < S.ks.length
  · rw [if_pos (by omega)]
    rw [if_pos q] at hK
    refine ⟨fun z => absurd z (by decide), fun _ => m_isIn ?_⟩
    by_cases y : 0 ≤ w ∧ w ≤ 2
    · rw [if_pos y]
      refine ⟨fun z => absurd z (by decide), fun _ => ?_⟩
      rw [w_id (x := 3 * k) (by omega) (by omega), w_id (x := 40 + 3 * k) (by omega) (by omega), w_id (by omega) (by omega)]
      refine ⟨by omega, by omega, ?_⟩
      obtain ⟨f1, f2, f3⟩ := e3 k.toNat (by omega)
      rw [show ((k.toNat : Nat) : Int) = k by omega] at f1 f2 f3
      have : w = 0 ∨ w = 1 ∨ w = 2 := by omega
      rcases this with rfl | rfl | rfl
      · rw [show 40 + 3 * k + 0 = 0 + 40 + 3 * k by omega, f1]; simpa using hK
      · rw [show 40 + 3 * k + 1 = 0 + 40 + 3 * k + 1 by omega, f2]; simpa using hK
      · rw [show 40 + 3 * k + 2 = 0 + 40 + 3 * k + 2 by omega, f3]; simpa using hK
    · rw [if_neg y]
      rw [if_neg (by omega), if_neg (by omega), if_neg (by omega)] at hK
      exact ⟨fun _ => hK, fun z => absurd rfl z⟩
  · rw [if_neg (by omega)]
    rw [if_neg q] at hK
    exact ⟨fun _ => hK, fun z => absurd rfl z⟩
theorem M_meets {a b : Int} (hd : 4 ≤ d) (R : RM S h) (hK : ∀ h', RM S h' → frX h h' → L (meetsS S a b) h') : mM C l d YX12_meets [(2, 245), (0, a), (0, b)] h L := by
  unfold meetsS at hK
  have o := R.ok.F
  have hs := R.ok.P.st
  refine wX12_meets hd (M_isBeing (by decide) R (fun ha => ⟨fun z => absurd z (by decide), fun _ => M_isBeing (by decide) R (fun hb => ⟨fun z => absurd z (by decide), fun _ => ⟨fun hab => ?_, fun hab => ?_⟩⟩) (fun hb => ?_)⟩) (fun ha => ?_))
  · rw [if_pos ⟨ha, hb, hab⟩] at hK
    rw [R.day]
    refine M_openingOn (by decide) R hs.2.2.1 (by have := hs.2.2.2; omega) (fun h1 R1 hq => ?_)
    have hr := opn_range o (S.st 0 0)
    have l6 := o.l6
    refine M_doMeet (by decide) R1 ha.1 ha.2 hb.1 hb.2 (by omega) (by omega) ?_
    have K0 := hK h1 R1 hq.M.X
    by_cases g : metB S.st S.F.nl S.F.nc (opnS S (S.st 0 0)) a b = true
    · rw [if_pos g] at K0 ⊢; exact ⟨fun z => absurd z (by decide), fun _ => K0⟩
    · rw [if_neg g] at K0 ⊢; exact ⟨fun _ => K0, fun z => absurd rfl z⟩
  · rw [if_neg (fun z => z.2.2 hab)] at hK; exact hK h R (frX.rf h)
  · rw [if_neg (fun z => hb z.2.1)] at hK; exact ⟨fun _ => hK h R (frX.rf h), fun z => absurd rfl z⟩
  · rw [if_neg (fun z => ha z.1)] at hK; exact ⟨fun _ => hK h R (frX.rf h), fun z => absurd rfl z⟩
theorem m_pairsI {o a : Int} (hd : 3 ≤ d) (R : RM S h) (ho1 : -1000 ≤ o) (ho2 : o ≤ 1000) (ha0 : 0 ≤ a) (ha : a < S.F.nb) : ∀ (n : Nat) (b s : Int), a < b → b + n = S.F.nb ∨ (n = 0 ∧ S.F.nb ≤ b) → 0 ≤ s → s + n ≤ 1000 → BX12_pairsBy_4 C l d L o (s + prI S.st S.F.nl S.F.nc o a n b) (a + 1) h → BX12_pairsBy_17 C l d L o s a b h := by
  have o8 := R.ok.F.b8
  intro n
  induction n with
  | zero =>
    intro b s hab hbn hs0 hs hK
    refine vX12_pairsBy_17 hd (wX12_beingMany ⟨fun _ v4 e4 => ?_, fun q => absurd (by rw [R.fo.b]; omega) q⟩)
    rw [w_id (by omega) (by omega)] at e4
    rw [e4]; simpa [prI] using hK
  | succ n ih =>
    intro b s hab hbn hs0 hs hK
    refine vX12_pairsBy_17 hd (wX12_beingMany ⟨fun q => absurd q (by rw [R.fo.b]; omega), fun _ => M_doMeet (by decide) R ha0 ha (by omega) (by omega) ho1 ho2 ?_⟩)
    unfold prI at hK
    by_cases g : metB S.st S.F.nl S.F.nc o a b = true
    · rw [if_pos g] at hK ⊢
      refine ⟨fun z => absurd z (by decide), fun _ v9 e9 v10 e10 => ?_⟩
      rw [w_id (by omega) (by omega)] at e9 e10
      rw [e9, e10]
      exact ih (b + 1) (s + 1) (by omega) (by omega) (by omega) (by omega) (by rw [← Int.add_assoc] at hK; exact hK)
    · rw [if_neg g] at hK ⊢
      refine ⟨fun _ v9 e9 => ?_, fun z => absurd rfl z⟩
      rw [w_id (by omega) (by omega)] at e9
      rw [e9]
      exact ih (b + 1) s (by omega) (by omega) hs0 (by omega) (by rw [Int.zero_add] at hK; exact hK)
end SpC
