theorem pow8 {n : Int} (h0 : 0 ≤ n) (h8 : n ≤ 8) : (2 : Int) ^ n.toNat ≤ 256 := by
  have : n = 0 ∨ n = 1 ∨ n = 2 ∨ n = 3 ∨ n = 4 ∨ n = 5 ∨ n = 6 ∨ n = 7 ∨ n = 8 := by omega
  rcases this with rfl | rfl | rfl | rfl | rfl | rfl | rfl | rfl | rfl <;> decide
theorem okS.gl {S : aS} (o : okS S) {k : Int} (h0 : 0 ≤ k) (h6 : k < 6) : 0 ≤ S.st 1 k ∧ S.st 1 k < 256 := by
  have h1 := o.P.gl k h0 h6
  have h2 := pow8 o.F.c0 o.F.c8
  omega
theorem sumN_range {f : Int → Int} {m : Int} (hm : 0 ≤ m) : ∀ (n : Nat) (k : Int), (∀ i, k ≤ i → i < k + n → 0 ≤ f i ∧ f i ≤ m) → 0 ≤ sumN f n k ∧ sumN f n k ≤ m * n
  | 0, _, _ => by simp [sumN]
  | n + 1, k, hf => by
    have h1 := sumN_range hm n (k + 1) (fun i q1 q2 => hf i (by omega) (by omega))
    have h2 := hf k (by omega) (by omega)
    unfold sumN
    have e : m * ((n + 1 : Nat) : Int) = m * n + m := by rw [show ((n + 1 : Nat) : Int) = (n : Int) + 1 by omega, Int.mul_add, Int.mul_one]
    rw [e]
    omega
def hasS (S : aS) (w : Int) : Int := if w = 0 then S.F.nl else if w = 1 then S.F.nc else if w = 2 then sumN (fun k => popS (S.st 1 k)) 6 0 else if w = 3 then S.F.nw else if w = 4 then S.F.nb else if w = 5 then S.st 0 0 else if w = 6 then opnS S (S.st 0 0) else if w = 7 then sumN (fun k => S.st 4 k) S.F.nb.toNat 0 else if w = 8 then S.ks.length else if w = 9 then S.sn.length else if w = 10 then S.un.length else -1
def beingS (S : aS) (b w : Int) : Int := if 0 ≤ b ∧ b < S.F.nb then (if w = 0 then S.st 2 b else if w = 1 then S.st 3 b else if w = 2 then S.F.tr b else if w = 3 then S.st 4 b else if w = 4 then S.st 5 b else if w = 5 then openS (S.st 2 b) (opnS S (S.st 0 0)) else -1) else -1
def uponS (S : aS) (a : Int) : Int := if lieB S.F.nl (opnS S (S.st 0 0)) (a - 1) then a - 1 else if lieB S.F.nl (opnS S (S.st 0 0)) a then a + 1 else -1
def cellS (S : aS) (a c w : Int) : Int := if 0 ≤ a ∧ a < S.F.nl ∧ 0 ≤ c ∧ c < S.F.nc then (if w = 0 then biS (bitS (S.st 1 a) c = 1) else if w = 1 then whoS S.st S.F.nb a c else if w = 2 then uponS S a else if w = 3 then (if uponS S a = -1 then -1 else S.F.nc - 1 - c) else -1) else -1
def keptS (S : aS) (k w : Int) : Int := if (0 ≤ k ∧ k < S.ks.length) then (if w = 0 then (S.ks.getD k.toNat (0, 0, 0)).1 else if w = 1 then (S.ks.getD k.toNat (0, 0, 0)).2.1 else if w = 2 then (S.ks.getD k.toNat (0, 0, 0)).2.2 else -1) else -1
def meetsS (S : aS) (a b : Int) : Int := if (0 ≤ a ∧ a < S.F.nb) ∧ (0 ≤ b ∧ b < S.F.nb) ∧ a ≠ b then (if metB S.st S.F.nl S.F.nc (opnS S (S.st 0 0)) a b then 1 else 0) else -1
def prI (σ : mf_M) (nl nc o a : Int) : Nat → Int → Int
  | 0, _ => 0
  | n + 1, b => (if metB σ nl nc o a b then 1 else 0) + prI σ nl nc o a n (b + 1)
def prO (σ : mf_M) (nl nc nb o : Int) : Nat → Int → Int
  | 0, _ => 0
  | n + 1, a => prI σ nl nc o a (nb - (a + 1)).toNat (a + 1) + prO σ nl nc nb o n (a + 1)
def prS (σ : mf_M) (nl nc nb o : Int) : Int := prO σ nl nc nb o nb.toNat 0
theorem prI_range (σ : mf_M) (nl nc o a : Int) : ∀ (n : Nat) (b : Int), 0 ≤ prI σ nl nc o a n b ∧ prI σ nl nc o a n b ≤ n
  | 0, _ => by simp [prI]
  | n + 1, b => by
    have := prI_range σ nl nc o a n (b + 1)
    unfold prI
    split <;> omega
theorem prO_range (σ : mf_M) (nl nc nb o : Int) (h8 : nb ≤ 8) : ∀ (n : Nat) (a : Int), 0 ≤ a → 0 ≤ prO σ nl nc nb o n a ∧ prO σ nl nc nb o n a ≤ 8 * n
  | 0, _, _ => by simp [prO]
  | n + 1, a, h0 => by
    have h1 := prO_range σ nl nc nb o h8 n (a + 1) (by omega)
    have h2 := prI_range σ nl nc o a (nb - (a + 1)).toNat (a + 1)
    unfold prO
    omega
theorem prS_range (σ : mf_M) (nl nc nb o : Int) (h8 : nb ≤ 8) : 0 ≤ prS σ nl nc nb o ∧ prS σ nl nc nb o ≤ 64 := by
  have h1 := prO_range σ nl nc nb o h8 nb.toNat 0 (by decide)
  unfold prS
  omega
def pairsS (S : aS) (o : Int) : Int := if S.F.nl ≠ 0 ∧ -1 ≤ o ∧ o ≤ S.F.nl then prS S.st S.F.nl S.F.nc S.F.nb (if o = -1 then opnS S (S.st 0 0) else o) else -1
/-- the first of the openings from o on, n of them, with fewer pairs than the best so far -/
def apaS (σ : mf_M) (nl nc nb : Int) : Nat → Int → Int → Int
  | 0, _, best => best
  | n + 1, o, best => apaS σ nl nc nb n (o + 1) (if prS σ nl nc nb o < prS σ nl nc nb best then o else best)
def apartS (S : aS) : Int := if S.F.nl = 0 then -1 else apaS S.st S.F.nl S.F.nc S.F.nb S.F.nl.toNat 1 0
theorem opn_range {S : aS} (o : okF S.F) (day : Int) : 0 ≤ opnS S day ∧ opnS S day ≤ S.F.nl := by
  have := o.l0
  unfold opnS openF
  split
  · omega
  · have h1 := Int.emod_nonneg (valS (fun k => if k = 0 then day else 0) mt0 S.F.cO) (b := S.F.nl + 1) (by omega)
    have h2 := Int.emod_lt_of_pos (valS (fun k => if k = 0 then day else 0) mt0 S.F.cO) (b := S.F.nl + 1) (by omega)
    omega
section SpH
variable {C : mf_G} {l : Launch} {d : Nat} {L : Int → mf_M → Prop} {h : mf_M} {S : aS}
theorem m_glossMany (hd : 1 ≤ d) (R : RM S h) : ∀ (n : Nat) (k a : Int), 0 ≤ k → k + n = 6 → 0 ≤ a → a ≤ 8 * k → L (a + sumN (fun k => popS (S.st 1 k)) n k) h → BX12_glossMany_4 C l d L a k h := by
  intro n
  induction n with
  | zero =>
    intro k a h0 hk ha ha2 hK
    refine vX12_glossMany_4 hd ⟨fun _ => ?_, fun q => absurd (by omega) q⟩
    simpa [sumN] using hK
  | succ n ih =>
    intro k a h0 hk ha ha2 hK
    refine vX12_glossMany_4 hd ⟨fun q => absurd q (by omega), fun _ => ?_⟩
    rw [w_id (x := 1 + k) (by omega) (by omega), R.gl h0 (by omega)]
    have hg := R.ok.gl (k := k) h0 (by omega)
    refine ⟨by omega, by omega, M_bits hg.1 hg.2 (fun v6 e6 v7 e7 => ?_)⟩
    have p4 := @pop_range (S.st 1 k)
    rw [w_id (by omega) (by omega)] at e6 e7
    rw [e6, e7]
    refine ih (k + 1) _ (by omega) (by omega) (by omega) (by omega) ?_
    unfold sumN at hK
    rw [← Int.add_assoc] at hK
    exact hK
theorem m_purses (hd : 1 ≤ d) (R : RM S h) : ∀ (n : Nat) (k a : Int), 0 ≤ k → k + n = S.F.nb → 0 ≤ a → a ≤ 9999 * k → L (a + sumN (fun k => S.st 4 k) n k) h → BX12_pursesAll_4 C l d L a k h := by
  have o8 := R.ok.F.b8
  intro n
  induction n with
  | zero =>
    intro k a h0 hk ha ha2 hK
    refine vX12_pursesAll_4 hd (wX12_beingMany ⟨fun _ => ?_, fun q => absurd (by rw [R.fo.b]; omega) q⟩)
    simpa [sumN] using hK
  | succ n ih =>
    intro k a h0 hk ha ha2 hK
    refine vX12_pursesAll_4 hd (wX12_beingMany ⟨fun q => absurd q (by rw [R.fo.b]; omega), fun _ => m_purseOf h0 (by omega) (fun v6 e6 v7 e7 => ?_)⟩)
    have e : h 286 (9 + 4 * k) = S.st 4 k := R.be (j := 4) (by decide) (by decide) h0 (by omega)
    have hp := R.ok.P.st.2.1 k h0 (by omega)
    rw [e, w_id (by omega) (by omega)] at e6
    rw [w_id (by omega) (by omega)] at e7
    rw [e6, e7]
    refine ih (k + 1) _ (by omega) (by omega) (by omega) (by omega) ?_
    unfold sumN at hK
    rw [← Int.add_assoc] at hK
    exact hK
theorem M_has {w : Int} (hd : 4 ≤ d) (R : RM S h) (hK : ∀ h', RM S h' → frX h h' → L (hasS S w) h') : mM C l d YX12_has [(2, 245), (0, w)] h L := by
  unfold hasS at hK
  have o := R.ok.F
  have hs := R.ok.P.st
  refine wX12_has hd ⟨fun q => ?_, fun q => ?_, fun q => ?_, fun q => ?_, fun q => ?_, fun q => ?_, fun q => ?_, fun q => ?_, fun q => ?_, fun q => ?_, fun q => ?_, fun q => ?_⟩
  · subst q
    exact ⟨by decide, by decide, by have := hK h R (frX.rf h); simpa [mf_w32, R.fo.l] using this⟩
  · subst q
    exact ⟨by decide, by decide, by have := hK h R (frX.rf h); simpa [mf_w32, R.fo.c] using this⟩
  · subst q
    refine wX12_glossMany (m_glossMany (by decide) R 6 0 0 (by decide) (by decide) (by decide) (by decide) ?_)
    have := hK h R (frX.rf h)
    simpa using this
  · subst q
    have := hK h R (frX.rf h)
    rw [R.fo.w]; simpa using this
  · subst q
    have := hK h R (frX.rf h)
    refine wX12_beingMany ?_
    rw [R.fo.b]; simpa using this
  · subst q
    have := hK h R (frX.rf h)
    rw [R.day]; simpa using this
  · subst q
    rw [R.day]
    refine M_openingOn (by decide) R hs.2.2.1 (by have := hs.2.2.2; omega) (fun h' R' hq => ?_)
    have := hK h' R' hq.M.X
    simpa using this
  · subst q
    refine wX12_pursesAll (m_purses (by decide) R S.F.nb.toNat 0 0 (by decide) (by have := o.b0; omega) (by decide) (by decide) ?_)
    have := hK h R (frX.rf h)
    simpa using this
  · subst q
    have := hK h R (frX.rf h)
    have e := R.kp.1
    rw [show (0 : Int) + 39 = 39 from rfl] at e
    rw [e]; simpa using this
  · subst q
    have := hK h R (frX.rf h)
    rw [R.sn]; simpa using this
  · subst q
    have := hK h R (frX.rf h)
    rw [R.un]; simpa using this
  · have := hK h R (frX.rf h)
    rw [if_neg (by omega), if_neg (by omega), if_neg (by omega), if_neg (by omega), if_neg (by omega), if_neg (by omega), if_neg (by omega), if_neg (by omega), if_neg (by omega), if_neg (by omega), if_neg (by omega)] at this
    exact this
theorem M_being {b w : Int} (hd : 4 ≤ d) (R : RM S h) (hK : ∀ h', RM S h' → frX h h' → L (beingS S b w) h') : mM C l d YX12_being [(2, 245), (0, b), (0, w)] h L := by
  unfold beingS at hK
  have o := R.ok.F
  have hs := R.ok.P.st
  have b0 := o.b0
  have b8 := o.b8
  refine wX12_being hd (m_isBeing (by decide) (by rw [R.fo.b]; exact b0) (by rw [R.fo.b]; exact b8) ?_)
  rw [R.fo.b]
  by_cases hb : 0 ≤ b ∧ b < S.F.nb
  · rw [if_pos hb]
    rw [if_pos hb] at hK
    have K0 := hK h R (frX.rf h)
    have eb : ∀ j, 2 ≤ j → j ≤ 5 → h 286 (5 + j + 4 * b) = S.st j b := fun j q1 q2 => R.be q1 q2 hb.1 hb.2
    refine ⟨fun _ => ⟨fun q => ?_, fun q => ?_, fun q => ?_, fun q => ?_, fun q => ?_, fun q => ?_, fun q => ?_⟩, fun z => absurd z (by decide)⟩
    · refine m_leafOf hb.1 (by omega) ?_
      have := eb 2 (by decide) (by decide)
      rw [show (5 : Int) + 2 = 7 from rfl] at this
      rw [this]; simpa [q] using K0
    · refine m_cellOf hb.1 (by omega) ?_
      have := eb 3 (by decide) (by decide)
      rw [show (5 : Int) + 3 = 8 from rfl] at this
      rw [this]; simpa [q] using K0
    · rw [w_id (by omega) (by omega)]
      refine ⟨by omega, by omega, ?_⟩
      rw [← R.fo.tr b hb.1 hb.2]; simpa [q] using K0
    · refine m_purseOf hb.1 (by omega) ?_
      have := eb 4 (by decide) (by decide)
      rw [show (5 : Int) + 4 = 9 from rfl] at this
      rw [this]; simpa [q] using K0
    · rw [w_id (x := 4 * b) (by omega) (by omega), w_id (x := 7 + 4 * b) (by omega) (by omega), w_id (by omega) (by omega)]
      refine ⟨by omega, by omega, ?_⟩
      have := eb 5 (by decide) (by decide)
      rw [show 7 + 4 * b + 3 = 5 + 5 + 4 * b by omega, this]; simpa [q] using K0
    · refine m_leafOf hb.1 (by omega) ?_
      have e2 := eb 2 (by decide) (by decide)
      rw [show (5 : Int) + 2 = 7 from rfl] at e2
      rw [e2, R.day]
      refine M_openingOn (by decide) R hs.2.2.1 (by have := hs.2.2.2; omega) (fun h' R' hq => ?_)
      have hr := opn_range o (S.st 0 0)
      have l6 := o.l6
      refine m_isOpen (by omega) (by omega) ?_
      have K1 := hK h' R' hq.M.X
      rw [q] at K1
      simp only [show ¬ (5 : Int) = 0 by decide, show ¬ (5 : Int) = 1 by decide, show ¬ (5 : Int) = 2 by decide, show ¬ (5 : Int) = 3 by decide, show ¬ (5 : Int) = 4 by decide, if_true, if_false] at K1
      have hb2 := bi_range (S.st 2 b = opnS S (S.st 0 0) - 1 ∨ S.st 2 b = opnS S (S.st 0 0))
      unfold openS at K1 ⊢
      rcases hb2 with hb2 | hb2
      · rw [hb2] at K1 ⊢; exact ⟨fun _ => K1, fun z => absurd rfl z⟩
      · rw [hb2] at K1 ⊢; exact ⟨fun z => absurd z (by decide), fun _ => K1⟩
    · rw [if_neg (by omega), if_neg (by omega), if_neg (by omega), if_neg (by omega), if_neg (by omega), if_neg (by omega)] at K0
      exact K0
  · rw [if_neg hb]
    rw [if_neg hb] at hK
    exact ⟨fun z => absurd rfl z, fun _ => hK h R (frX.rf h)⟩
end SpH
