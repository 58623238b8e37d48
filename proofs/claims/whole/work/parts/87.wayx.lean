/-! a way, in the class: cells reached as bits by leaves -/
def rcX (h : mf_M) (r n : Int) (P : Int → Int → Prop) : Prop := ∀ p, 0 ≤ p → p < n → ∀ k : Nat, k < 32 → (btI (h r p) k = true ↔ P p (k : Int))
def frY (h h' : mf_M) : Prop := ∀ a, a ≠ 62 → a ≠ 63 → h' a = h a
theorem frY.rf (h : mf_M) : frY h h := fun _ _ _ => rfl
theorem frY.tr {a b c : mf_M} (h1 : frY a b) (h2 : frY b c) : frY a c := fun x q1 q2 => (h2 x q1 q2).trans (h1 x q1 q2)
theorem frY.N {h h' : mf_M} (f : frY h h') : frN h h' := by
  refine ⟨fun a _ _ _ _ _ q6 _ _ => f a (by omega) (by omega), by rw [f 51 (by decide) (by decide)], fun a ha q => ?_⟩
  have : a = 53 ∨ a = 67 ∨ a = 74 ∨ a = 81 := by simpa using ha
  rw [f a (by omega) (by omega)]; exact q
theorem frY.up63 (h : mf_M) (i v : Int) : frY h (mf_up h 63 i v) := fun a _ q => up_row q
theorem frY.up62 (h : mf_M) (i v : Int) : frY h (mf_up h 62 i v) := fun a q _ => up_row q
def a0W (F : aF) (o : Int) (P : Int → Int → Prop) (p k : Int) : Prop := (P p k ∨ P p (k - 1) ∨ P p (k + 1)) ∨ (lieB F.nl o p = true ∧ P (p + 1) (F.nc - 1 - k))
def a3W (F : aF) (o : Int) (P : Int → Int → Prop) (p k : Int) : Prop := a0W F o P p k ∨ (lieB F.nl o (p - 1) = true ∧ P (p - 1) (F.nc - 1 - k))
theorem rc31 {v : Int} {Q : Int → Prop} (hv : ∀ k : Nat, k < 32 → (btI v k = true ↔ Q (k : Int))) (hQ : ∀ x : Int, Q x → 0 ≤ x ∧ x < 8) : btI v 31 = false := by
  cases hb : btI v 31 with
  | false => rfl
  | true =>
    have := hQ _ ((hv 31 (by decide)).mp hb)
    omega
theorem rc_sh {v : Int} {Q : Int → Prop} (hv : ∀ k : Nat, k < 32 → (btI v k = true ↔ Q (k : Int))) (hQ : ∀ x : Int, Q x → 0 ≤ x ∧ x < 8) {k : Nat} (hk : k < 32) : btI (mf_or (mf_or v (mf_shl v 1)) (mf_shr v 1)) k = true ↔ Q (k : Int) ∨ Q ((k : Int) - 1) ∨ Q ((k : Int) + 1) := by
  have h31 := rc31 hv hQ
  have e1 : (1 : Int).toNat = 1 := rfl
  rw [bt_or, bt_or, bt_shl (by decide) (by decide) hk, bt_shr (by decide) (by decide) hk h31, e1]
  simp only [Bool.or_eq_true, Bool.and_eq_true, decide_eq_true_eq]
  constructor
  · rintro ((z | ⟨z1, z2⟩) | z)
    · exact Or.inl ((hv k hk).mp z)
    · have h1 := (hv (k - 1) (by omega)).mp z2
      rw [show ((k - 1 : Nat) : Int) = (k : Int) - 1 by omega] at h1
      exact Or.inr (Or.inl h1)
    · by_cases e : 1 + k < 32
      · have h1 := (hv _ e).mp z
        rw [show ((1 + k : Nat) : Int) = (k : Int) + 1 by omega] at h1
        exact Or.inr (Or.inr h1)
      · rw [show btI v (1 + k) = false from BitVec.getLsbD_of_ge _ _ (by omega)] at z
        exact absurd z (by decide)
  · rintro (z | z | z)
    · exact Or.inl (Or.inl ((hv k hk).mpr z))
    · have := hQ _ z
      refine Or.inl (Or.inr ⟨by omega, (hv (k - 1) (by omega)).mpr ?_⟩)
      rw [show ((k - 1 : Nat) : Int) = (k : Int) - 1 by omega]; exact z
    · have := hQ _ z
      refine Or.inr ((hv (1 + k) (by omega)).mpr ?_)
      rw [show ((1 + k : Nat) : Int) = (k : Int) + 1 by omega]; exact z
theorem bt_all {n : Int} (n0 : 0 ≤ n) (n8 : n ≤ 8) {k : Nat} (hk : k < 32) : btI (mf_w32 (mf_shl 1 n - 1)) k = true ↔ (k : Int) < n := by
  have key : ∀ m : Fin 9, ∀ j : Fin 32, btI (mf_w32 (mf_shl 1 (m.val : Int) - 1)) j.val = true ↔ (j.val : Int) < (m.val : Int) := by decide +kernel
  have h1 := key ⟨n.toNat, by omega⟩ ⟨k, hk⟩
  simp only [] at h1
  rw [show ((n.toNat : Nat) : Int) = n by omega] at h1
  exact h1
theorem bt_bit {s : Int} (s0 : 0 ≤ s) (s1 : s < 8) {k : Nat} (hk : k < 32) : btI (mf_shl 1 s) k = true ↔ (k : Int) = s := by
  have key : ∀ m : Fin 8, ∀ j : Fin 32, btI (mf_shl 1 (m.val : Int)) j.val = true ↔ (j.val : Int) = (m.val : Int) := by decide +kernel
  have h1 := key ⟨s.toNat, by omega⟩ ⟨k, hk⟩
  simp only [] at h1
  rw [show ((s.toNat : Nat) : Int) = s by omega] at h1
  exact h1
theorem bt_zero (k : Nat) : btI 0 k = false := by
  unfold btI
  rw [show (Int32.ofInt 0).toBitVec = 0#32 from rfl]
  simp
section SxWa
variable {C : mf_G} {l : Launch} {d : Nat} {K : mf_Kt} {g : mf_M} {S : aS}
theorem x_mirL {h : mf_M} {nc f bits : Int} (hd : 1 ≤ d) (hf : f = 11 ∨ f = 28) (hc : h f 9 = nc) (c8 : nc ≤ 8) (hb : btI bits 31 = false) (hK : ∀ v, (∀ k : Nat, k < 32 → (btI v k = true ↔ (k : Int) < nc ∧ btI bits (nc - 1 - k).toNat = true)) → K v g h) : ∀ (n : Nat) (j all : Int), 0 ≤ j → j + n = nc → (∀ k : Nat, k < 32 → (btI all k = true ↔ (k : Int) < nc ∧ nc - 1 - k < j ∧ btI bits (nc - 1 - k).toNat = true)) → BX5_mirrorBits_4 C l d K f bits all j g h := by
  intro n
  induction n with
  | zero =>
    intro j all j0 jn I
    refine vX5_mirrorBits_4 hd ⟨isf hf, fun _ => hK all (fun k hk => ?_), fun q => absurd (by rw [hc]; omega) q⟩
    rw [I k hk]
    exact ⟨fun z => ⟨z.1, z.2.2⟩, fun z => ⟨z.1, by omega, z.2⟩⟩
  | succ n ih =>
    intro j all j0 jn I
    refine vX5_mirrorBits_4 hd ⟨isf hf, fun q => absurd (by rw [hc] at q; omega) (fun z : False => z), fun _ => wX1_mirror ⟨isf hf, fun v5 e5 v6 e6 => ?_⟩⟩
    rw [hc, w_id (x := nc - 1) (by omega) (by omega), w_id (x := nc - 1 - j) (by omega) (by omega)] at e5
    rw [w_id (by omega) (by omega)] at e6
    rw [e6]
    refine ih (j + 1) v5 (by omega) (by omega) (fun k hk => ?_)
    have hb' : btI v5 k = true ↔ btI all k = true ∨ ((k : Int) = nc - 1 - j ∧ btI bits j.toNat = true) := by
      rw [e5, bt_or, bt_shl (by omega) (by omega) hk, bt_and, bt_one _ (by omega), bt_shr j0 (by omega) (by omega) hb]
      simp only [Bool.or_eq_true, Bool.and_eq_true, decide_eq_true_eq]
      constructor
      · rintro (z | ⟨z1, z2, z3⟩)
        · exact Or.inl z
        · rw [z3, Nat.add_zero] at z2
          exact Or.inr ⟨by omega, z2⟩
      · rintro (z | ⟨z1, z2⟩)
        · exact Or.inl z
        · have e : k - (nc - 1 - j).toNat = 0 := by omega
          refine Or.inr ⟨by omega, ?_, e⟩
          rw [e, Nat.add_zero]; exact z2
    rw [hb', I k hk]
    constructor
    · rintro (z | ⟨z1, z2⟩)
      · exact ⟨z.1, by omega, z.2.2⟩
      · refine ⟨by omega, by omega, ?_⟩
        rw [show (nc - 1 - (k : Int)) = j by omega]; exact z2
    · rintro ⟨z1, z2, z3⟩
      by_cases e : nc - 1 - (k : Int) = j
      · right
        refine ⟨by omega, ?_⟩
        rw [← e]; exact z3
      · exact Or.inl ⟨z1, by omega, z3⟩
theorem x_mirrorBits {h : mf_M} {nc f bits : Int} (hd : 1 ≤ d) (hf : f = 11 ∨ f = 28) (hc : h f 9 = nc) (c0 : 0 ≤ nc) (c8 : nc ≤ 8) (hb : btI bits 31 = false) (hK : ∀ v, (∀ k : Nat, k < 32 → (btI v k = true ↔ (k : Int) < nc ∧ btI bits (nc - 1 - k).toNat = true)) → K v g h) : xM C l d YX5_mirrorBits [(2, f), (0, bits)] g h K :=
  wX5_mirrorBits (x_mirL hd hf hc c8 hb hK nc.toNat 0 0 (by decide) (by omega) (fun k hk => by rw [bt_zero]; exact ⟨fun z => absurd z (by decide), fun z => by omega⟩))
/-- what a leaf gets from the one that it lies upon -/
theorem x_s73 {h : mf_M} {o p : Int} {P : Int → Int → Prop} (hd : 2 ≤ d) (R : RX S g h) (o0 : 0 ≤ o) (o1 : o ≤ 6) (p0 : 0 ≤ p) (p1 : p < S.F.nl) (hP : ∀ q x, P q x → plW S.F S.st q x) (E : rcX h 62 S.F.nl P) (B : ∀ k : Nat, k < 32 → (btI (h 63 p) k = true ↔ a0W S.F o P p k)) (nxt : ∀ h', frY h h' → h' 62 = h 62 → (∀ q, q ≠ p → h' 63 q = h 63 q) → (∀ k : Nat, k < 32 → (btI (h' 63 p) k = true ↔ a3W S.F o P p k)) → BX5_spread_3 C l d K (g 0 12) 88 o (p + 1) g h') : BX5_spread_73 C l d K (g 0 12) 88 o p g h := by
  have l6 := R.ok.F.l6
  have c0 := R.ok.F.c0
  have c8 := R.ok.F.c8
  refine vX5_spread_73 hd ?_
  rw [w_id (x := p - 1) (by omega) (by omega), w_id (x := p + 1) (by omega) (by omega)]
  refine x_liesOnNext (by decide) R.fi R.fo.l (by omega) (by omega) (by omega) ?_
  by_cases q : lieB S.F.nl o (p - 1) = true
  · rw [if_pos q]
    have lb : 0 ≤ p - 1 ∧ p - 1 + 1 < S.F.nl := by
      unfold lieB at q
      simp only [Bool.and_eq_true, decide_eq_true_eq] at q
      exact q.1
    have E1 := E (p - 1) lb.1 (by omega)
    have h31 := rc31 E1 (fun x z => by have := hP _ _ z; unfold plW at this; omega)
    refine ⟨fun z => absurd z (by decide), fun _ => ⟨p0, by omega, by omega, by omega, x_mirrorBits (by decide) R.fi R.fo.c c0 c8 h31 (fun v hv h12 e12 v13 e13 => ?_)⟩⟩
    rw [e13]
    refine nxt h12 (by rw [e12]; exact frY.up63 _ _ _) (by rw [e12, up_row (by decide)]) (fun q hq => by rw [e12, up_col hq]) (fun k hk => ?_)
    rw [e12, up_self, bt_or, Bool.or_eq_true, B k hk, hv k hk]
    constructor
    · rintro (z | ⟨z1, z2⟩)
      · exact Or.inl z
      · refine Or.inr ⟨q, ?_⟩
        have h1 := (E1 _ (by omega)).mp z2
        rw [show (((S.F.nc - 1 - (k : Int)).toNat : Nat) : Int) = S.F.nc - 1 - k by omega] at h1
        exact h1
    · rintro (z | ⟨_, z⟩)
      · exact Or.inl z
      · have hp := hP _ _ z
        unfold plW at hp
        refine Or.inr ⟨by omega, (E1 _ (by omega)).mpr ?_⟩
        rw [show (((S.F.nc - 1 - (k : Int)).toNat : Nat) : Int) = S.F.nc - 1 - k by omega]
        exact z
  · rw [if_neg q]
    refine ⟨fun _ v4 e4 => ?_, fun z => absurd rfl z⟩
    rw [e4]
    refine nxt h (frY.rf h) rfl (fun _ _ => rfl) (fun k hk => ?_)
    rw [B k hk]
    exact ⟨Or.inl, fun z => z.elim id (fun y => absurd y.1 q)⟩
theorem x_s3 {o : Int} {P : Int → Int → Prop} (hd : 2 ≤ d) (o0 : 0 ≤ o) (o1 : o ≤ 6) (hP : ∀ q x, P q x → plW S.F S.st q x) : ∀ (n : Nat) (p : Int) (h : mf_M), RX S g h → 0 ≤ p → p + n = S.F.nl → rcX h 62 S.F.nl P → rcX h 63 p (a3W S.F o P) → (∀ h', frY h h' → rcX h' 62 S.F.nl P → rcX h' 63 S.F.nl (a3W S.F o P) → BX5_spread_117 C l d K (g 0 12) 88 0 g h') → BX5_spread_3 C l d K (g 0 12) 88 o p g h := by
  intro n
  induction n with
  | zero =>
    intro p h R p0 pn E B hK
    have ep : p = S.F.nl := by omega
    rw [ep] at B
    exact vX5_spread_3 hd ⟨isf R.fi, fun _ => hK h (frY.rf h) E B, fun q => absurd (by rw [R.fo.l]; omega) q⟩
  | succ n ih =>
    intro p h R p0 pn E B hK
    have l6 := R.ok.F.l6
    have c0 := R.ok.F.c0
    have c8 := R.ok.F.c8
    have hQ : ∀ q x, P q x → 0 ≤ x ∧ x < 8 := fun q x z => by have := hP _ _ z; unfold plW at this; omega
    refine vX5_spread_3 hd ⟨isf R.fi, fun q => absurd (by rw [R.fo.l] at q; omega) (fun z : False => z), fun _ => ⟨p0, by omega, fun v4 e4 h5 e5 => ?_⟩⟩
    have f5 : frY h h5 := by rw [e5]; exact frY.up63 _ _ _
    have R5 := R.keep f5.N
    have E5 : h5 62 = h 62 := by rw [e5, up_row (by decide)]
    have Ep := E p p0 (by omega)
    have S5 : ∀ k : Nat, k < 32 → (btI (h5 63 p) k = true ↔ P p k ∨ P p ((k : Int) - 1) ∨ P p ((k : Int) + 1)) := by
      intro k hk
      rw [e5, up_self, e4]
      exact rc_sh Ep (hQ p) hk
    have go : ∀ h6, frY h h6 → h6 62 = h 62 → (∀ q, q ≠ p → h6 63 q = h 63 q) → (∀ k : Nat, k < 32 → (btI (h6 63 p) k = true ↔ a0W S.F o P p k)) → BX5_spread_73 C l d K (g 0 12) 88 o p g h6 := by
      intro h6 f6 e6 c6 b6
      have Eh : rcX h6 62 S.F.nl P := by unfold rcX; rw [e6]; exact E
      refine x_s73 hd (R.keep f6.N) o0 o1 p0 (by omega) hP Eh b6 (fun h7 f7 e7 c7 b7 => ?_)
      refine ih (p + 1) h7 (R.keep (f6.tr f7).N) (by omega) (by omega) (by unfold rcX; rw [e7, e6]; exact E) (fun q q0 q1 k hk => ?_) (fun h8 f8 => hK h8 ((f6.tr f7).tr f8))
      by_cases e : q = p
      · rw [e]; exact b7 k hk
      · rw [c7 q e, c6 q e]; exact B q q0 (by omega) k hk
    rw [w_id (x := p + 1) (by omega) (by omega)]
    refine x_liesOnNext (by decide) R5.fi R5.fo.l (by omega) (by omega) (by omega) ?_
    by_cases q : lieB S.F.nl o p = true
    · rw [if_pos q]
      have lb : 0 ≤ p ∧ p + 1 < S.F.nl := by
        unfold lieB at q
        simp only [Bool.and_eq_true, decide_eq_true_eq] at q
        exact q.1
      have E1 := E (p + 1) (by omega) lb.2
      rw [E5]
      have h31 := rc31 E1 (hQ (p + 1))
      refine ⟨fun z => absurd z (by decide), fun _ => ⟨by omega, by omega, x_mirrorBits (by decide) R5.fi R5.fo.c c0 c8 h31 (fun v hv h14 e14 => ?_)⟩⟩
      refine go h14 (f5.tr (by rw [e14]; exact frY.up63 _ _ _)) (by rw [e14, up_row (by decide), E5]) (fun q hq => by rw [e14, up_col hq, e5, up_col hq]) (fun k hk => ?_)
      rw [e14, up_self, bt_or, Bool.or_eq_true, S5 k hk, hv k hk]
      constructor
      · rintro (z | ⟨z1, z2⟩)
        · exact Or.inl z
        · refine Or.inr ⟨q, ?_⟩
          have h1 := (E1 _ (by omega)).mp z2
          rw [show (((S.F.nc - 1 - (k : Int)).toNat : Nat) : Int) = S.F.nc - 1 - k by omega] at h1
          exact h1
      · rintro (z | ⟨_, z⟩)
        · exact Or.inl z
        · have hp := hP _ _ z
          unfold plW at hp
          refine Or.inr ⟨by omega, (E1 _ (by omega)).mpr ?_⟩
          rw [show (((S.F.nc - 1 - (k : Int)).toNat : Nat) : Int) = S.F.nc - 1 - k by omega]
          exact z
    · rw [if_neg q]
      refine ⟨fun _ => go h5 f5 E5 (fun q hq => by rw [e5, up_col hq]) (fun k hk => ?_), fun z => absurd rfl z⟩
      rw [S5 k hk]
      exact ⟨Or.inl, fun z => z.elim id (fun y => absurd y.1 q)⟩
def wmW (F : aF) (P : Int → Int → Prop) (w q x : Int) : Prop := ∃ p c, P p c ∧ wrmW F w p c q x
theorem x_s117 {P : Int → Int → Prop} (hP : ∀ q x, P q x → plW S.F S.st q x) : ∀ (n : Nat) (w : Int) (A : Int → Int → Prop) (h : mf_M), RX S g h → 0 ≤ w → w + n = S.F.nw → rcX h 62 S.F.nl P → rcX h 63 S.F.nl A → (∀ h', frY h h' → rcX h' 62 S.F.nl P → rcX h' 63 S.F.nl (fun q x => A q x ∨ ∃ v, w ≤ v ∧ v < S.F.nw ∧ wmW S.F P v q x) → BX5_spread_214 C l d K (g 0 12) 88 (mf_w32 (mf_shl 1 S.F.nc - 1)) 0 g h') → BX5_spread_117 C l d K (g 0 12) 88 w g h := by
  intro n
  induction n with
  | zero =>
    intro w A h R w0 wn E B hK
    refine vX5_spread_117 ⟨isf R.fi, fun _ v2 e2 => ?_, fun q => absurd (by rw [R.fo.w]; omega) q⟩
    rw [R.fo.c] at e2
    rw [e2]
    refine hK h (frY.rf h) E (fun q q0 q1 k hk => ?_)
    rw [B q q0 q1 k hk]
    exact ⟨Or.inl, fun z => z.elim id (fun y => by obtain ⟨v, y1, y2, _⟩ := y; omega)⟩
  | succ n ih =>
    intro w A h R w0 wn E B hK
    have l6 := R.ok.F.l6
    have c8 := R.ok.F.c8
    have w12 := R.ok.F.w12
    have wm := R.ok.F.wm w w0 (by omega)
    obtain ⟨a1, a2, a3⟩ := R.fo.wm w w0 (by omega)
    refine vX5_spread_117 ⟨isf R.fi, fun q => absurd (by rw [R.fo.w] at q; omega) (fun z : False => z), fun _ => ⟨w0, by omega, fun v5 e5 v6 e6 v7 e7 => ?_⟩⟩
    rw [a1] at e5; rw [a2] at e6; rw [a3] at e7
    subst e5; subst e6
    refine ⟨by omega, by omega, by omega, by omega, fun h12 e12 h13 e13 v14 e14 => ?_⟩
    rw [w_id (by omega) (by omega)] at e14
    rw [e14]
    have E1 := E (S.F.wm (3 * w)) wm.1 wm.2.1
    have E2 := E (S.F.wm (3 * w + 1)) wm.2.2.1 wm.2.2.2.1
    have r12 : h12 62 = h 62 := by rw [e12, up_row (by decide)]
    have r13 : h13 62 = h 62 := by rw [e13, up_row (by decide), r12]
    have f13 : frY h h13 := by rw [e13]; exact frY.tr (by rw [e12]; exact frY.up63 _ _ _) (frY.up63 _ _ _)
    have bw : ∀ k : Nat, k < 32 → (btI v7 k = true ↔ (k : Int) = S.F.wm (3 * w + 2)) := fun k hk => by rw [e7]; exact bt_bit wm.2.2.2.2.1 (by omega) hk
    have B12 : ∀ q, 0 ≤ q → q < S.F.nl → ∀ k : Nat, k < 32 → (btI (h12 63 q) k = true ↔ A q k ∨ (q = S.F.wm (3 * w + 1) ∧ P (S.F.wm (3 * w)) k ∧ (k : Int) = S.F.wm (3 * w + 2))) := by
      intro q q0 q1 k hk
      rw [e12, up_if]
      by_cases e : q = S.F.wm (3 * w + 1)
      · subst e
        rw [if_pos ⟨rfl, rfl⟩, bt_or, bt_and, Bool.or_eq_true, Bool.and_eq_true, B _ q0 q1 k hk, E1 k hk, bw k hk]
        exact ⟨fun z => z.elim Or.inl (fun y => Or.inr ⟨rfl, y⟩), fun z => z.elim Or.inl (fun y => Or.inr y.2)⟩
      · rw [if_neg (fun z => e z.2), B q q0 q1 k hk]
        exact ⟨Or.inl, fun z => z.elim id (fun y => absurd y.1 e)⟩
    have B13 : rcX h13 63 S.F.nl (fun q x => A q x ∨ wmW S.F P w q x) := by
      intro q q0 q1 k hk
      have key : btI (h13 63 q) k = true ↔ (A q k ∨ (q = S.F.wm (3 * w + 1) ∧ P (S.F.wm (3 * w)) k ∧ (k : Int) = S.F.wm (3 * w + 2))) ∨ (q = S.F.wm (3 * w) ∧ P (S.F.wm (3 * w + 1)) k ∧ (k : Int) = S.F.wm (3 * w + 2)) := by
        rw [e13, up_if]
        by_cases e : q = S.F.wm (3 * w)
        · subst e
          rw [if_pos ⟨rfl, rfl⟩, bt_or, bt_and, Bool.or_eq_true, Bool.and_eq_true, B12 _ q0 q1 k hk, r12, E2 k hk, bw k hk]
          exact ⟨fun z => z.elim Or.inl (fun y => Or.inr ⟨rfl, y⟩), fun z => z.elim Or.inl (fun y => Or.inr y.2)⟩
        · rw [if_neg (fun z => e z.2), B12 q q0 q1 k hk]
          exact ⟨Or.inl, fun z => z.elim id (fun y => absurd y.1 e)⟩
      rw [key]
      constructor
      · rintro ((z | ⟨z1, z2, z3⟩) | ⟨z1, z2, z3⟩)
        · exact Or.inl z
        · exact Or.inr ⟨_, _, z2, z3.symm, rfl, Or.inl ⟨rfl, z1⟩⟩
        · exact Or.inr ⟨_, _, z2, z3.symm, rfl, Or.inr ⟨rfl, z1⟩⟩
      · rintro (z | ⟨p, c, z1, z2, z3, z4⟩)
        · exact Or.inl (Or.inl z)
        · rcases z4 with ⟨y1, y2⟩ | ⟨y1, y2⟩
          · exact Or.inl (Or.inr ⟨y2, by rw [y1, z3]; exact z1, by rw [z2, z3]⟩)
          · exact Or.inr ⟨y2, by rw [y1, z3]; exact z1, by rw [z2, z3]⟩
    refine ih (w + 1) _ h13 (R.keep f13.N) (by omega) (by omega) (by unfold rcX; rw [r13]; exact E) B13 (fun h14 f14 E14 B14 => hK h14 (f13.tr f14) E14 (fun q q0 q1 k hk => ?_))
    rw [B14 q q0 q1 k hk]
    constructor
    · rintro ((z | z) | ⟨v, z1, z2, z3⟩)
      · exact Or.inl z
      · exact Or.inr ⟨w, Int.le_refl _, by omega, z⟩
      · exact Or.inr ⟨v, by omega, z2, z3⟩
    · rintro (z | ⟨v, z1, z2, z3⟩)
      · exact Or.inl (Or.inl z)
      · by_cases e : v = w
        · exact Or.inl (Or.inr (e ▸ z3))
        · exact Or.inr ⟨v, by omega, z2, z3⟩
theorem x_s214 {A Q : Int → Int → Prop} (hAQ : ∀ q x, 0 ≤ q → q < S.F.nl → 0 ≤ x → (Q q x ↔ A q x ∧ x < S.F.nc ∧ ¬ bitS (S.st 1 q) x = 1)) : ∀ (n : Nat) (p : Int) (h : mf_M), RX S g h → 0 ≤ p → p + n = S.F.nl → rcX h 62 p Q → rcX h 63 S.F.nl A → (∀ h', frY h h' → rcX h' 62 S.F.nl Q → K 0 g h') → BX5_spread_214 C l d K (g 0 12) 88 (mf_w32 (mf_shl 1 S.F.nc - 1)) p g h := by
  intro n
  induction n with
  | zero =>
    intro p h R p0 pn E B hK
    have ep : p = S.F.nl := by omega
    rw [ep] at E
    exact vX5_spread_214 ⟨isf R.fi, fun _ => hK h (frY.rf h) E, fun q => absurd (by rw [R.fo.l]; omega) q⟩
  | succ n ih =>
    intro p h R p0 pn E B hK
    have l6 := R.ok.F.l6
    have c0 := R.ok.F.c0
    have c8 := R.ok.F.c8
    have gl := R.ok.P.gl p p0 (by omega)
    have g256 : S.st 1 p < 256 := by
      have : (2 : Int) ^ S.F.nc.toNat ≤ 256 := by
        have hn : ∀ m : Fin 9, (2 : Int) ^ m.val ≤ 256 := by decide
        exact hn ⟨S.F.nc.toNat, by omega⟩
      omega
    refine vX5_spread_214 ⟨isf R.fi, fun q => absurd (by rw [R.fo.l] at q; omega) (fun z : False => z), fun _ => ⟨p0, by omega, is88, fun h5 e5 v6 e6 => ?_⟩⟩
    rw [w_id (by omega) (by omega)] at e6
    rw [e6]
    have eg : h (88 + 1) p = S.st 1 p := R.D.gl p0 (by omega)
    rw [eg] at e5
    have f5 : frY h h5 := by rw [e5]; exact frY.up62 _ _ _
    refine ih (p + 1) h5 (R.keep f5.N) (by omega) (by omega) (fun q q0 q1 k hk => ?_) (by unfold rcX; rw [e5, up_row (by decide)]; exact B) (fun h6 f6 E6 => hK h6 (f5.tr f6) E6)
    rw [e5, up_if]
    by_cases e : q = p
    · have hb := bit_bt (x := S.st 1 p) (s := (k : Int)) (by omega) (by omega) (bt_small gl.1 g256 (by decide) (by decide))
      rw [show ((k : Int)).toNat = k by omega] at hb
      rw [if_pos ⟨rfl, e⟩, bt_and, bt_and, bt_not _ hk, Bool.and_eq_true, Bool.and_eq_true, B p p0 (by omega) k hk, bt_all c0 c8 hk, e, hAQ p k p0 (by omega) (by omega), hb]
      cases btI (S.st 1 p) k <;> simp
    · rw [if_neg (fun z => e z.2)]; exact E q q0 (by omega) k hk
theorem X_spread {h : mf_M} {o : Int} {P : Int → Int → Prop} (hd : 2 ≤ d) (R : RX S g h) (o0 : 0 ≤ o) (o1 : o ≤ 6) (hP : ∀ q x, P q x → plW S.F S.st q x) (E : rcX h 62 S.F.nl P) (hK : ∀ h', frY h h' → rcX h' 62 S.F.nl (nxW S.F S.st o P) → K 0 g h') : xM C l d YX5_spread [(2, 51), (2, g 0 12), (2, 88), (0, o)] g h K := by
  have l0 := R.ok.F.l0
  have w0 := R.ok.F.w0
  refine wX5_spread (x_s3 hd o0 o1 hP S.F.nl.toNat 0 h R (by decide) (by omega) E (fun q q0 q1 => absurd q1 (by omega)) (fun h1 f1 E1 B1 => x_s117 hP S.F.nw.toNat 0 _ h1 (R.keep f1.N) (by decide) (by omega) E1 B1 (fun h2 f2 E2 B2 => x_s214 (Q := nxW S.F S.st o P) (fun q x q0 q1 x0 => ?_) S.F.nl.toNat 0 h2 (R.keep (f1.tr f2).N) (by decide) (by omega) (fun q q0 q1 => absurd q1 (by omega)) B2 (fun h3 f3 E3 => hK h3 ((f1.tr f2).tr f3) E3))))
  constructor
  · rintro (z | ⟨z1, p, c, z2, z3⟩)
    · have := hP _ _ z
      exact ⟨Or.inl (Or.inl (Or.inl (Or.inl z))), this.2.2.2.1, this.2.2.2.2⟩
    · refine ⟨?_, z1.2.2.2.1, z1.2.2.2.2⟩
      rcases z3 with ⟨y1, y | y⟩ | ⟨y1, y2, y3⟩ | ⟨y1, y2, y3⟩ | ⟨w, y1, y2, y3⟩
      · exact Or.inl (Or.inl (Or.inl (Or.inr (Or.inr (by rw [y1, show x + 1 = c by omega]; exact z2)))))
      · exact Or.inl (Or.inl (Or.inl (Or.inr (Or.inl (by rw [y1, show x - 1 = c by omega]; exact z2)))))
      · exact Or.inl (Or.inr ⟨by rw [show q - 1 = p by omega]; exact y1, by rw [show q - 1 = p by omega, show S.F.nc - 1 - x = c by omega]; exact z2⟩)
      · exact Or.inl (Or.inl (Or.inr ⟨by rw [show q = p - 1 by omega]; exact y1, by rw [show q + 1 = p by omega, show S.F.nc - 1 - x = c by omega]; exact z2⟩))
      · exact Or.inr ⟨w, y1, y2, p, c, z2, y3⟩
  · rintro ⟨z, zc, zg⟩
    have pl : plW S.F S.st q x := ⟨q0, q1, x0, zc, zg⟩
    rcases z with ((((z | z | z) | ⟨z1, z2⟩) | ⟨z1, z2⟩) | ⟨w, y1, y2, p, c, z2, y3⟩)
    · exact Or.inl z
    · exact Or.inr ⟨pl, q, x - 1, z, Or.inl ⟨rfl, Or.inr (by omega)⟩⟩
    · exact Or.inr ⟨pl, q, x + 1, z, Or.inl ⟨rfl, Or.inl (by omega)⟩⟩
    · exact Or.inr ⟨pl, q + 1, S.F.nc - 1 - x, z2, Or.inr (Or.inr (Or.inl ⟨by rw [show q + 1 - 1 = q by omega]; exact z1, by omega, by omega⟩))⟩
    · exact Or.inr ⟨pl, q - 1, S.F.nc - 1 - x, z2, Or.inr (Or.inl ⟨z1, by omega, by omega⟩)⟩
    · exact Or.inr ⟨pl, p, c, z2, Or.inr (Or.inr (Or.inr ⟨w, y1, y2, y3⟩))⟩
theorem x_way46 {b q x : Int} (hd : 5 ≤ d) (b0 : 0 ≤ b) (b1 : b < S.F.nb) (q0 : 0 ≤ q) (q1 : q < S.F.nl) (x0 : 0 ≤ x) (x1 : x < S.F.nc) : ∀ (m n : Nat) (h : mf_M), n + m = 41 → RX S g h → rcX h 62 S.F.nl (wyR S.F S.st b n) → (∀ h', RX S g h' → frH h h' → K (wayF S.F S.st b q x m n) g h') → BX5_findWay_46 C l d K (g 0 12) 88 q x n g h := by
  intro m
  induction m with
  | zero =>
    intro n h hn R E hK
    exact vX5_findWay_46 hd ⟨fun _ => hK h R (frH.rf h), fun z => absurd (by omega) z⟩
  | succ m ih =>
    intro n h hn R E hK
    have l6 := R.ok.F.l6
    have c8 := R.ok.F.c8
    have hd2 := R.ok.P.st.2.2
    have ed : h 88 7 = S.st 0 0 := R.D.day
    have hP : ∀ p c, wyR S.F S.st b n p c → plW S.F S.st p c := wyR_pl R.ok.P b0 b1 n
    have Eq := E q q0 q1
    have h31 := rc31 Eq (fun y z => by have := hP _ _ z; unfold plW at this; omega)
    have hb := bit_bt (x := h 62 q) (s := x) x0 (by omega) h31
    have hE := Eq x.toNat (by omega)
    rw [show ((x.toNat : Nat) : Int) = x by omega] at hE
    unfold bitS at hb
    rw [hE] at hb
    refine vX5_findWay_46 hd ⟨fun z => absurd z (by omega), fun _ => ⟨is88, ?_⟩⟩
    unfold wayF at hK
    rw [ed, w_id (x := S.st 0 0 + n) (by omega) (by omega), w_id (x := (n : Int) + 1) (by omega) (by omega)]
    refine ⟨fun z => ?_, fun z => ⟨q0, by omega, fun y => ?_, fun y => ?_⟩⟩
    · have k1 := hK h R (frH.rf h)
      rw [if_pos z] at k1; exact k1
    · have ny : ¬ wyR S.F S.st b n q x := fun w => y (hb.mpr w)
      refine X_opn (by decide) R (by omega) (by omega) (fun h1 R1 f1 => ?_)
      have orr := opn_range R.ok.F (S.st 0 0 + n)
      have E1 : rcX h1 62 S.F.nl (wyR S.F S.st b n) := by unfold rcX; rw [f1 62 (by decide) (by decide) (by decide)]; exact E
      refine X_spread (by decide) R1 orr.1 (by omega) hP E1 (fun h2 f2 E2 v10 e10 => ?_)
      rw [e10]
      refine ih (n + 1) h2 (by omega) (R1.keep f2.N) E2 (fun h3 R3 f3 => ?_)
      have k2 := hK h3 R3 ((f1.N.H.tr f2.N.H).tr f3)
      rw [if_neg z, if_neg ny] at k2; exact k2
    · have yy : wyR S.F S.st b n q x := hb.mp y
      have k1 := hK h R (frH.rf h)
      rw [if_neg z, if_pos yy] at k1; exact k1
theorem x_way3 {b q x : Int} (b0 : 0 ≤ b) (b1 : b < S.F.nb) : ∀ (n : Nat) (k : Int) (h : mf_M), RX S g h → 0 ≤ k → k + n = 6 → (∀ j, 0 ≤ j → j < k → h 62 j = 0) → (∀ h', frY h h' → rcX h' 62 S.F.nl (wyR S.F S.st b 0) → BX5_findWay_46 C l d K (g 0 12) 88 q x 0 g h') → BX5_findWay_3 C l d K (g 0 12) 88 b q x k g h := by
  intro n
  induction n with
  | zero =>
    intro k h R k0 kn Z hK
    have b8 := R.ok.F.b8
    have l6 := R.ok.F.l6
    have c8 := R.ok.F.c8
    have s := R.ok.P.st.1 b b0 b1
    have e2 : h (88 + 2) b = S.st 2 b := R.D.be (j := 2) (by decide) (by decide) b0 b1
    have e3 : h (88 + 3) b = S.st 3 b := R.D.be (j := 3) (by decide) (by decide) b0 b1
    refine vX5_findWay_3 ⟨fun _ => ?_, fun z => absurd (by omega) z⟩
    rw [e2, e3]
    refine ⟨is88, b0, by omega, by omega, by omega, fun h6 e6 => hK h6 (by rw [e6]; exact frY.up62 _ _ _) (fun p p0 p1 j hj => ?_)⟩
    rw [e6, up_if]
    show _ ↔ p = S.st 2 b ∧ (j : Int) = S.st 3 b
    by_cases e : p = S.st 2 b
    · rw [if_pos ⟨rfl, e⟩, bt_bit s.2.2.1 (by omega) hj]
      exact ⟨fun z => ⟨e, z⟩, fun z => z.2⟩
    · rw [if_neg (fun z => e z.2), Z p p0 (by omega), bt_zero]
      exact ⟨fun z => absurd z (by decide), fun z => absurd z.1 e⟩
  | succ n ih =>
    intro k h R k0 kn Z hK
    refine vX5_findWay_3 ⟨fun z => absurd z (by omega), fun _ => ⟨k0, by omega, fun h9 e9 v10 e10 => ?_⟩⟩
    rw [w_id (by omega) (by omega)] at e10
    rw [e10]
    have f9 : frY h h9 := by rw [e9]; exact frY.up62 _ _ _
    refine ih (k + 1) h9 (R.keep f9.N) (by omega) (by omega) (fun j j0 j1 => ?_) (fun h' f' => hK h' (f9.tr f'))
    rw [e9, up_if]
    by_cases e : j = k
    · rw [if_pos ⟨rfl, e⟩]
    · rw [if_neg (fun z => e z.2)]; exact Z j j0 (by omega)
theorem X_way {h : mf_M} {b q x : Int} (hd : 6 ≤ d) (R : RX S g h) (hK : ∀ h', RX S g h' → frH h h' → K (wayS S b q x) g h') : xM C l d YX11_way [(2, 0), (0, b), (0, q), (0, x)] g h K := by
  unfold wayS at hK
  refine wX11_way hd (X_isBeing R (fun hb => ⟨fun z => absurd z (by decide), fun _ => X_isCell R (fun hc => ⟨fun _ => ?_, fun z => absurd z (by decide)⟩) (fun hc => ⟨fun z => absurd rfl z, fun _ => ?_⟩)⟩) (fun hb => ⟨fun _ => ?_, fun z => absurd rfl z⟩))
  · rw [if_pos ⟨hb, hc⟩] at hK
    refine wX5_findWay (x_way3 hb.1 hb.2 6 0 h R (by decide) (by decide) (fun j j0 j1 => absurd j1 (by omega)) (fun h1 f1 E1 => ?_))
    exact x_way46 (by decide) hb.1 hb.2 hc.1 hc.2.1 hc.2.2.1 hc.2.2.2 41 0 h1 (by decide) (R.keep f1.N) E1 (fun h2 R2 f2 => hK h2 R2 (f1.N.H.tr f2))
  · have k1 := hK h R (frH.rf h)
    rw [if_neg (fun z => hc z.2)] at k1; exact k1
  · have k1 := hK h R (frH.rf h)
    rw [if_neg (fun z => hb z.1)] at k1; exact k1
end SxWa
