/-! a way: bits of numbers; the cells that are reached by days, as a set; the reference -/
def btI (x : Int) (k : Nat) : Bool := (Int32.ofInt x).toBitVec.getLsbD k
theorem bt_or (x y : Int) (k : Nat) : btI (mf_or x y) k = (btI x k || btI y k) := by
  unfold btI mf_or
  rw [Int32.ofInt_toInt, Int32.toBitVec_or, BitVec.getLsbD_or]
theorem bt_and (x y : Int) (k : Nat) : btI (mf_and x y) k = (btI x k && btI y k) := by
  unfold btI mf_and
  rw [Int32.ofInt_toInt, Int32.toBitVec_and, BitVec.getLsbD_and]
theorem bt_not (x : Int) {k : Nat} (hk : k < 32) : btI (mf_xor x (-1)) k = !(btI x k) := by
  have h : ∀ n : Fin 32, btI (-1) n.val = true := by decide +kernel
  have h1 := h ⟨k, hk⟩
  unfold btI at h1
  unfold btI mf_xor
  rw [Int32.ofInt_toInt, Int32.toBitVec_xor, BitVec.getLsbD_xor]
  simp only [] at h1
  rw [h1]
  cases (Int32.ofInt x).toBitVec.getLsbD k <;> rfl
theorem sh_nat {s : Int} (s0 : 0 ≤ s) (s1 : s < 32) : ((Int32.ofInt s &&& 31).toBitVec.smod 32).toNat = s.toNat := by
  have key : ∀ n : Fin 32, ((Int32.ofInt (n.val : Int) &&& 31).toBitVec.smod 32).toNat = n.val := by decide +kernel
  have h1 := key ⟨s.toNat, by omega⟩
  simp only [] at h1
  rw [show ((s.toNat : Nat) : Int) = s by omega] at h1
  exact h1
theorem bt_shl {x s : Int} {k : Nat} (s0 : 0 ≤ s) (s1 : s < 32) (hk : k < 32) : btI (mf_shl x s) k = (decide (s.toNat ≤ k) && btI x (k - s.toNat)) := by
  unfold btI mf_shl
  rw [Int32.ofInt_toInt, Int32.toBitVec_shiftLeft, BitVec.getLsbD_shiftLeft', sh_nat s0 s1, decide_eq_true hk, Bool.true_and]
  congr 1
  rw [Bool.eq_iff_iff]
  simp only [Bool.not_eq_true', decide_eq_false_iff_not, Nat.not_lt, decide_eq_true_eq]
theorem bt_shr {x s : Int} {k : Nat} (s0 : 0 ≤ s) (s1 : s < 32) (hk : k < 32) (hx : btI x 31 = false) : btI (mf_shr x s) k = btI x (s.toNat + k) := by
  unfold btI mf_shr
  have hm : (Int32.ofInt x).toBitVec.msb = false := by rw [BitVec.msb_eq_getLsbD_last]; exact hx
  rw [Int32.ofInt_toInt, Int32.toBitVec_shiftRight, BitVec.getLsbD_sshiftRight', sh_nat s0 s1, decide_eq_false (by omega : ¬ 32 ≤ k)]
  by_cases e : s.toNat + k < 32
  · rw [if_pos e]; rfl
  · rw [if_neg e, hm, BitVec.getLsbD_of_ge _ _ (by omega)]; rfl
theorem bt_one (k : Nat) (hk : k < 32) : btI 1 k = decide (k = 0) := by
  have h : ∀ n : Fin 32, btI 1 n.val = decide (n.val = 0) := by decide +kernel
  exact h ⟨k, hk⟩
theorem and_one (x : Int) : mf_and x 1 = if btI x 0 then 1 else 0 := by
  unfold mf_and btI
  have e : (Int32.ofInt x &&& Int32.ofInt 1) = if (Int32.ofInt x).toBitVec.getLsbD 0 then 1 else 0 := by
    apply Int32.toBitVec.inj
    rw [Int32.toBitVec_and]
    have h1 : (Int32.ofInt 1).toBitVec = 1#32 := rfl
    rw [h1, BitVec.and_one_eq_setWidth_ofBool_getLsbD]
    cases (Int32.ofInt x).toBitVec.getLsbD 0 <;> rfl
  rw [e]
  cases (Int32.ofInt x).toBitVec.getLsbD 0 <;> rfl
theorem bit_bt {x s : Int} (s0 : 0 ≤ s) (s1 : s < 32) (hx : btI x 31 = false) : bitS x s = 1 ↔ btI x s.toNat = true := by
  unfold bitS
  rw [and_one, bt_shr s0 s1 (by decide) hx, Nat.add_zero]
  cases btI x s.toNat <;> simp
theorem bt_small {x : Int} (x0 : 0 ≤ x) (x1 : x < 256) {k : Nat} (k0 : 8 ≤ k) (k1 : k < 32) : btI x k = false := by
  have key : ∀ n : Fin 256, ∀ m : Fin 32, 8 ≤ m.val → btI (n.val : Int) m.val = false := by decide +kernel
  have h1 := key ⟨x.toNat, by omega⟩ ⟨k, k1⟩ k0
  simp only [] at h1
  rw [show ((x.toNat : Nat) : Int) = x by omega] at h1
  exact h1
/-- where one comes from a cell in a day; cells that are free of glosses; all that are reached -/
def wrmW (F : aF) (w p c q x : Int) : Prop := F.wm (3 * w + 2) = c ∧ x = c ∧ ((F.wm (3 * w) = p ∧ q = F.wm (3 * w + 1)) ∨ (F.wm (3 * w + 1) = p ∧ q = F.wm (3 * w)))
def adjW (F : aF) (o p c q x : Int) : Prop := (q = p ∧ (x = c - 1 ∨ x = c + 1)) ∨ (lieB F.nl o p = true ∧ q = p + 1 ∧ x = F.nc - 1 - c) ∨ (lieB F.nl o (p - 1) = true ∧ q = p - 1 ∧ x = F.nc - 1 - c) ∨ ∃ w, 0 ≤ w ∧ w < F.nw ∧ wrmW F w p c q x
def plW (F : aF) (σ : mf_M) (q x : Int) : Prop := 0 ≤ q ∧ q < F.nl ∧ 0 ≤ x ∧ x < F.nc ∧ ¬ bitS (σ 1 q) x = 1
def nxW (F : aF) (σ : mf_M) (o : Int) (P : Int → Int → Prop) (q x : Int) : Prop := P q x ∨ (plW F σ q x ∧ ∃ p c, P p c ∧ adjW F o p c q x)
def wyR (F : aF) (σ : mf_M) (b : Int) : Nat → Int → Int → Prop
  | 0 => fun q x => q = σ 2 b ∧ x = σ 3 b
  | n + 1 => nxW F σ (openF F.nl F.cO (σ 0 0 + n)) (wyR F σ b n)
noncomputable def wayF (F : aF) (σ : mf_M) (b q x : Int) : Nat → Nat → Int
  | 0, _ => -1
  | m + 1, n => if 999 < σ 0 0 + n then -1 else @ite Int (wyR F σ b n q x) (Classical.propDecidable _) (n : Int) (wayF F σ b q x m (n + 1))
noncomputable def wayS (S : aS) (b q x : Int) : Int := if (0 ≤ b ∧ b < S.F.nb) ∧ (0 ≤ q ∧ q < S.F.nl ∧ 0 ≤ x ∧ x < S.F.nc) then wayF S.F S.st b q x 41 0 else -1
theorem wyR_pl {F : aF} {σ : mf_M} {ks : List (Int × Int × Int)} (o : okP F σ ks) {b : Int} (b0 : 0 ≤ b) (b1 : b < F.nb) : ∀ (n : Nat) (q x : Int), wyR F σ b n q x → plW F σ q x
  | 0, q, x, h => by
    have s := o.st.1 b b0 b1
    have g := o.ng b b0 b1
    rw [← h.1, ← h.2] at s g
    exact ⟨s.1, s.2.1, s.2.2.1, s.2.2.2, g⟩
  | n + 1, q, x, h => h.elim (wyR_pl o b0 b1 n q x) (fun z => z.1)
def frG (t : Int) (h h' : mf_M) : Prop := (∀ a, a ≠ 289 → h' a = h a) ∧ ∀ k, k < 48 * t ∨ 48 * t + 48 ≤ k → h' 289 k = h 289 k
theorem frG.rf (t : Int) (h : mf_M) : frG t h h := ⟨fun _ _ => rfl, fun _ _ => rfl⟩
theorem frG.tr {t : Int} {a b c : mf_M} (h1 : frG t a b) (h2 : frG t b c) : frG t a c := ⟨fun x q => (h2.1 x q).trans (h1.1 x q), fun k q => (h2.2 k q).trans (h1.2 k q)⟩
theorem frG.up {t : Int} {h : mf_M} {k v : Int} (h0 : 48 * t ≤ k) (h1 : k < 48 * t + 48) : frG t h (mf_up h 289 k v) := ⟨fun a q => up_row q, fun j q => up_col (by omega)⟩
theorem frG.M {t : Int} {h h' : mf_M} (f : frG t h h') : frM h h' := ⟨fun a _ _ _ _ q5 _ _ _ _ => f.1 a q5, fun k _ => by rw [f.1 245 (by decide)], fun q => by rw [f.1 245 (by decide)]; exact q, fun k _ => by rw [f.1 286 (by decide)]⟩
def cbM (h : mf_M) (t : Int) (P : Int → Int → Prop) : Prop := ∀ p c, 0 ≤ p → p < 6 → 0 ≤ c → c < 8 → (h 289 (48 * t + 8 * p + c) = 1 ∧ P p c) ∨ (h 289 (48 * t + 8 * p + c) = 0 ∧ ¬ P p c)
theorem cbM.to {h : mf_M} {t : Int} {P Q : Int → Int → Prop} (B : cbM h t P) (e : ∀ p c, P p c ↔ Q p c) : cbM h t Q := by
  intro p c p0 p1 c0 c1
  rcases B p c p0 p1 c0 c1 with ⟨h1, h2⟩ | ⟨h1, h2⟩
  · exact Or.inl ⟨h1, (e p c).mp h2⟩
  · exact Or.inr ⟨h1, fun q => h2 ((e p c).mpr q)⟩
theorem cbM.keep {h h' : mf_M} {t : Int} {P : Int → Int → Prop} (B : cbM h t P) (e : ∀ k, 48 * t ≤ k → k < 48 * t + 48 → h' 289 k = h 289 k) : cbM h' t P := by
  intro p c p0 p1 c0 c1
  rw [e _ (by omega) (by omega)]; exact B p c p0 p1 c0 c1
theorem cbM.set {h : mf_M} {t : Int} {P : Int → Int → Prop} {p c : Int} (B : cbM h t P) (p0 : 0 ≤ p) (p1 : p < 6) (c0 : 0 ≤ c) (c1 : c < 8) : cbM (mf_up h 289 (48 * t + 8 * p + c) 1) t (fun q x => P q x ∨ (q = p ∧ x = c)) := by
  intro q x q0 q1 x0 x1
  rw [up_if]
  by_cases e : q = p ∧ x = c
  · rw [if_pos ⟨rfl, by omega⟩]
    exact Or.inl ⟨rfl, Or.inr e⟩
  · rw [if_neg (fun z => e (by omega))]
    rcases B q x q0 q1 x0 x1 with ⟨h1, h2⟩ | ⟨h1, h2⟩
    · exact Or.inl ⟨h1, Or.inl h2⟩
    · exact Or.inr ⟨h1, fun z => z.elim h2 e⟩
section SpWa
variable {C : mf_G} {l : Launch} {d : Nat} {L : Int → mf_M → Prop} {S : aS}
theorem M_comes {h : mf_M} {P : Int → Int → Prop} {t p c : Int} (hd : 2 ≤ d) (R : RM S h) (t0 : 0 ≤ t) (t1 : t ≤ 1) (B : cbM h t P) (hK : ∀ h', RM S h' → frG t h h' → cbM h' t (fun q x => P q x ∨ (plW S.F S.st q x ∧ q = p ∧ x = c)) → L 0 h') : mM C l d YX12_comes [(2, 245), (0, t), (0, p), (0, c)] h L := by
  have l6 := R.ok.F.l6
  have c8 := R.ok.F.c8
  have no : ¬ plW S.F S.st p c → L 0 h := fun q => hK h R (frG.rf t h) (B.to (fun a b => ⟨Or.inl, fun z => z.elim id (fun w => absurd (by rw [← w.2.1, ← w.2.2]; exact w.1) q)⟩))
  refine wX12_comes hd (M_isCell (by decide) R (fun hc => ⟨fun w => absurd w (by decide), fun _ => M_hasGloss R hc.1 (by omega) (fun g1 => ⟨fun _ => no (fun z => z.2.2.2.2 g1), fun w => absurd w (by decide)⟩) (fun g1 => ⟨fun w => absurd rfl w, fun _ => ?_⟩)⟩) (fun hc => ⟨fun _ => no (fun z => hc ⟨z.1, z.2.1, z.2.2.1, z.2.2.2.1⟩), fun w => absurd rfl w⟩))
  rw [w_id (x := 48 * t) (by omega) (by omega), w_id (x := 8 * p) (by omega) (by omega), w_id (x := 48 * t + 8 * p) (by omega) (by omega), w_id (x := 48 * t + 8 * p + c) (by omega) (by omega)]
  refine ⟨by omega, by omega, fun h9 e9 => ?_⟩
  have B9 := B.set (p := p) (c := c) hc.1 (by omega) hc.2.2.1 (by omega)
  have f9 : frG t h h9 := by rw [e9]; exact frG.up (by omega) (by omega)
  refine hK h9 (R.keep f9.M) f9 ?_
  rw [e9]
  exact B9.to (fun a b => ⟨fun z => z.elim Or.inl (fun w => Or.inr ⟨by rw [w.1, w.2]; exact ⟨hc.1, hc.2.1, hc.2.2.1, hc.2.2.2, g1⟩, w⟩), fun z => z.elim Or.inl (fun w => Or.inr w.2)⟩)
theorem wrm_step {F : aF} {σ : mf_M} {P Q : Int → Int → Prop} {w p c : Int} (hw : w < F.nw) (e : ∀ q x, Q q x ↔ P q x ∨ (plW F σ q x ∧ wrmW F w p c q x)) (q x : Int) : (Q q x ∨ (plW F σ q x ∧ ∃ v, w + 1 ≤ v ∧ v < F.nw ∧ wrmW F v p c q x)) ↔ (P q x ∨ (plW F σ q x ∧ ∃ v, w ≤ v ∧ v < F.nw ∧ wrmW F v p c q x)) := by
  constructor
  · rintro (z | ⟨z1, v, z2, z3, z4⟩)
    · rcases (e q x).mp z with z | ⟨z1, z2⟩
      · exact Or.inl z
      · exact Or.inr ⟨z1, w, Int.le_refl _, hw, z2⟩
    · exact Or.inr ⟨z1, v, by omega, z3, z4⟩
  · rintro (z | ⟨z1, v, z2, z3, z4⟩)
    · exact Or.inl ((e q x).mpr (Or.inl z))
    · by_cases ew : v = w
      · exact Or.inl ((e q x).mpr (Or.inr ⟨z1, ew ▸ z4⟩))
      · exact Or.inr ⟨z1, v, by omega, z3, z4⟩
theorem m_gw {a t o k p c : Int} (hd : 3 ≤ d) (t0 : 0 ≤ t) (t1 : t ≤ 1) (k0 : 0 ≤ k) (k1 : k < 48) : ∀ (n : Nat) (w : Int) (P : Int → Int → Prop) (h : mf_M), RM S h → 0 ≤ w → w + n = S.F.nw → cbM h t P → (∀ h', RM S h' → frG t h h' → cbM h' t (fun q x => P q x ∨ (plW S.F S.st q x ∧ ∃ v, w ≤ v ∧ v < S.F.nw ∧ wrmW S.F v p c q x)) → BX12_goesOn_39 C l d L a t o (k + 1) h') → BX12_goesOn_180 C l d L a t o k p c w h := by
  intro n
  induction n with
  | zero =>
    intro w P h R w0 wn B hK
    refine vX12_goesOn_180 hd ⟨fun _ v1 e1 => ?_, fun q => absurd (by rw [R.fo.w]; omega) q⟩
    rw [w_id (by omega) (by omega)] at e1
    rw [e1]
    exact hK h R (frG.rf t h) (B.to (fun q x => ⟨Or.inl, fun z => z.elim id (fun y => by obtain ⟨_, v, y1, y2, _⟩ := y; omega)⟩))
  | succ n ih =>
    intro w P h R w0 wn B hK
    have w12 := R.ok.F.w12
    have wm := R.ok.F.wm w w0 (by omega)
    have e0 : h 280 (36 + 3 * w) = S.F.wm (3 * w) := R.fo.wm (3 * w) (by omega) (by omega)
    have e1 : h 280 (37 + 3 * w) = S.F.wm (3 * w + 1) := by rw [← R.fo.wm (3 * w + 1) (by omega) (by omega)]; congr 1; omega
    have e2 : h 280 (38 + 3 * w) = S.F.wm (3 * w + 2) := by rw [← R.fo.wm (3 * w + 2) (by omega) (by omega)]; congr 1; omega
    have nxt : ∀ (Q : Int → Int → Prop) (h2 : mf_M), RM S h2 → frG t h h2 → cbM h2 t Q → (∀ q x, Q q x ↔ P q x ∨ (plW S.F S.st q x ∧ wrmW S.F w p c q x)) → BX12_goesOn_180 C l d L a t o k p c (w + 1) h2 := by
      intro Q h2 R2 f2 B2 eq
      exact ih (w + 1) Q h2 R2 (by omega) (by omega) B2 (fun h3 R3 f3 B3 => hK h3 R3 (f2.tr f3) (B3.to (wrm_step (by omega) eq)))
    refine vX12_goesOn_180 hd ?_
    rw [w_id (x := 3 * w) (by omega) (by omega), w_id (x := 38 + 3 * w) (by omega) (by omega), w_id (x := 36 + 3 * w) (by omega) (by omega), w_id (x := 37 + 3 * w) (by omega) (by omega), w_id (x := w + 1) (by omega) (by omega), e0, e1, e2]
    refine ⟨fun q => absurd (by rw [R.fo.w] at q; omega) (fun z : False => z), fun _ => ⟨by omega, by omega, fun hc => ⟨by omega, by omega, fun hp => ?_, fun hp => ⟨by omega, by omega, M_comes (by decide) R t0 t1 B (fun h2 R2 f2 B2 => ?_)⟩⟩, fun hc v11 e11 => ?_⟩⟩
    · -- the other end alone
      refine vX12_goesOn_247 hd ?_
      rw [w_id (x := 3 * w) (by omega) (by omega), w_id (x := 37 + 3 * w) (by omega) (by omega), w_id (x := 36 + 3 * w) (by omega) (by omega), w_id (x := w + 1) (by omega) (by omega), e0, e1]
      refine ⟨by omega, by omega, fun hq v3 e3 => ?_, fun hq => ⟨by omega, by omega, M_comes (by decide) R t0 t1 B (fun h2 R2 f2 B2 v9 e9 => ?_)⟩⟩
      · rw [e3]
        refine nxt P h R (frG.rf t h) B (fun q x => ⟨Or.inl, fun z => z.elim id (fun y => ?_)⟩)
        rcases y.2.2.2 with y | y
        · exact absurd y.1 hp
        · exact absurd y.1 hq
      · rw [e9]
        refine nxt _ h2 R2 f2 B2 (fun q x => ⟨fun z => z.elim Or.inl (fun y => Or.inr ⟨y.1, hc, y.2.2, Or.inr ⟨hq, y.2.1⟩⟩), fun z => z.elim Or.inl (fun y => ?_)⟩)
        rcases y.2.2.2 with y9 | y9
        · exact absurd y9.1 hp
        · exact Or.inr ⟨y.1, y9.2, y.2.2.1⟩
    · have g0 : h2 280 (36 + 3 * w) = S.F.wm (3 * w) := R2.fo.wm (3 * w) (by omega) (by omega)
      have g1 : h2 280 (37 + 3 * w) = S.F.wm (3 * w + 1) := by rw [← R2.fo.wm (3 * w + 1) (by omega) (by omega)]; congr 1; omega
      refine vX12_goesOn_247 hd ?_
      rw [w_id (x := 3 * w) (by omega) (by omega), w_id (x := 37 + 3 * w) (by omega) (by omega), w_id (x := 36 + 3 * w) (by omega) (by omega), w_id (x := w + 1) (by omega) (by omega), g0, g1]
      refine ⟨by omega, by omega, fun hq v3 e3 => ?_, fun hq => ⟨by omega, by omega, M_comes (by decide) R2 t0 t1 B2 (fun h3 R3 f3 B3 v9 e9 => ?_)⟩⟩
      · rw [e3]
        refine nxt _ h2 R2 f2 B2 (fun q x => ⟨fun z => z.elim Or.inl (fun y => Or.inr ⟨y.1, hc, y.2.2, Or.inl ⟨hp, y.2.1⟩⟩), fun z => z.elim Or.inl (fun y => ?_)⟩)
        rcases y.2.2.2 with y9 | y9
        · exact Or.inr ⟨y.1, y9.2, y.2.2.1⟩
        · exact absurd y9.1 hq
      · rw [e9]
        refine nxt _ h3 R3 (f2.tr f3) B3 (fun q x => ⟨fun z => ?_, fun z => z.elim (fun y => Or.inl (Or.inl y)) (fun y => ?_)⟩)
        · rcases z with (z | y) | y
          · exact Or.inl z
          · exact Or.inr ⟨y.1, hc, y.2.2, Or.inl ⟨hp, y.2.1⟩⟩
          · exact Or.inr ⟨y.1, hc, y.2.2, Or.inr ⟨hq, y.2.1⟩⟩
        · rcases y.2.2.2 with y9 | y9
          · exact Or.inl (Or.inr ⟨y.1, y9.2, y.2.2.1⟩)
          · exact Or.inr ⟨y.1, y9.2, y.2.2.1⟩
    · rw [e11]
      exact nxt P h R (frG.rf t h) B (fun q x => ⟨Or.inl, fun z => z.elim id (fun y => absurd y.2.1 hc)⟩)
theorem m_g144 {h : mf_M} {a t o k p c : Int} {A : Int → Int → Prop} (hd : 3 ≤ d) (R : RM S h) (t0 : 0 ≤ t) (t1 : t ≤ 1) (k0 : 0 ≤ k) (k1 : k < 48) (p0 : 0 ≤ p) (p1 : p < 6) (c0 : 0 ≤ c) (c1 : c < 8) (o0 : 0 ≤ o) (o1 : o ≤ 6) (B : cbM h t A) (hK : ∀ h', RM S h' → frG t h h' → cbM h' t (fun q x => A q x ∨ (plW S.F S.st q x ∧ ((lieB S.F.nl o (p - 1) = true ∧ q = p - 1 ∧ x = S.F.nc - 1 - c) ∨ ∃ w, 0 ≤ w ∧ w < S.F.nw ∧ wrmW S.F w p c q x))) → BX12_goesOn_39 C l d L a t o (k + 1) h') : BX12_goesOn_144 C l d L a t o k p c h := by
  have c8 := R.ok.F.c8
  have cc := R.ok.F.c0
  have w0 := R.ok.F.w0
  refine vX12_goesOn_144 hd ?_
  rw [w_id (x := p - 1) (by omega) (by omega)]
  refine M_lies (by decide) R (by omega) (by omega) (by omega) (fun q => ⟨fun z => absurd z (by decide), fun _ => ?_⟩) (fun q => ⟨fun _ => ?_, fun z => absurd rfl z⟩)
  · rw [R.fo.c, w_id (x := S.F.nc - 1) (by omega) (by omega), w_id (x := S.F.nc - 1 - c) (by omega) (by omega)]
    refine M_comes (by decide) R t0 t1 B (fun h2 R2 f2 B2 => m_gw hd t0 t1 k0 k1 S.F.nw.toNat 0 _ h2 R2 (by decide) (by omega) B2 (fun h3 R3 f3 B3 => hK h3 R3 (f2.tr f3) (B3.to (fun r x => ⟨fun z => ?_, fun z => ?_⟩))))
    · rcases z with (z | z) | z
      · exact Or.inl z
      · exact Or.inr ⟨z.1, Or.inl ⟨q, z.2⟩⟩
      · exact Or.inr ⟨z.1, Or.inr z.2⟩
    · rcases z with z | ⟨z1, z | z⟩
      · exact Or.inl (Or.inl z)
      · exact Or.inl (Or.inr ⟨z1, z.2⟩)
      · exact Or.inr ⟨z1, z⟩
  · refine m_gw hd t0 t1 k0 k1 S.F.nw.toNat 0 _ h R (by decide) (by omega) B (fun h3 R3 f3 B3 => hK h3 R3 f3 (B3.to (fun r x => ⟨fun z => ?_, fun z => ?_⟩)))
    · rcases z with z | z
      · exact Or.inl z
      · exact Or.inr ⟨z.1, Or.inr z.2⟩
    · rcases z with z | ⟨z1, z | z⟩
      · exact Or.inl z
      · rw [q] at z; exact absurd z.1 (by decide)
      · exact Or.inr ⟨z1, z⟩
def QW (F : aF) (σ : mf_M) (o : Int) (P : Int → Int → Prop) (k q x : Int) : Prop := ∃ p c, 0 ≤ c ∧ c < 8 ∧ 8 * p + c < k ∧ P p c ∧ ((q = p ∧ x = c) ∨ (plW F σ q x ∧ adjW F o p c q x))
theorem m_g39 {a t o : Int} {P : Int → Int → Prop} (hd : 3 ≤ d) (t0 : 0 ≤ t) (t1 : t ≤ 1) (a0 : 0 ≤ a) (a1 : a ≤ 1) (hat : a ≠ t) (o0 : 0 ≤ o) (o1 : o ≤ 6) : ∀ (n : Nat) (k : Int) (h : mf_M), RM S h → 0 ≤ k → k + n = 48 → cbM h a P → cbM h t (QW S.F S.st o P k) → (∀ h', RM S h' → frG t h h' → cbM h' t (QW S.F S.st o P 48) → L 0 h') → BX12_goesOn_39 C l d L a t o k h := by
  intro n
  induction n with
  | zero =>
    intro k h R k0 kn BA B hK
    have ek : k = 48 := by omega
    rw [ek] at B
    exact vX12_goesOn_39 hd ⟨fun _ => hK h R (frG.rf t h) B, fun q => absurd (by omega) q⟩
  | succ n ih =>
    intro k h R k0 kn BA B hK
    have c8 := R.ok.F.c8
    have cc := R.ok.F.c0
    have ek : k = 8 * (k / 8) + k % 8 := by omega
    have p0 : 0 ≤ k / 8 := by omega
    have p1 : k / 8 < 6 := by omega
    have c0 : 0 ≤ k % 8 := by omega
    have c1 : k % 8 < 8 := by omega
    have bit := BA (k / 8) (k % 8) p0 p1 c0 c1
    rw [show 48 * a + 8 * (k / 8) + k % 8 = 48 * a + k by omega] at bit
    refine vX12_goesOn_39 hd ⟨fun q => absurd q (by omega), fun _ => ?_⟩
    rw [w_id (x := 48 * a) (by omega) (by omega), w_id (x := 48 * a + k) (by omega) (by omega), w_id (x := 48 * t) (by omega) (by omega), w_id (x := 48 * t + k) (by omega) (by omega), w_id (x := k + 1) (by omega) (by omega), Int.tdiv_eq_ediv_of_nonneg k0, Int.tmod_eq_emod_of_nonneg k0, w_id (x := k / 8) (by omega) (by omega)]
    refine ⟨by omega, by omega, fun q v3 e3 v4 e4 => ⟨by omega, by omega, fun h7 e7 => ?_⟩, fun q v20 e20 => ?_⟩
    · have hP : P (k / 8) (k % 8) := bit.elim (fun z => z.2) (fun z => absurd z.1 q)
      subst e3; subst e4
      have f7 : frG t h h7 := by rw [e7]; exact frG.up (by omega) (by omega)
      have R7 := R.keep f7.M
      have B7 := B.set p0 p1 c0 c1
      rw [show 48 * t + 8 * (k / 8) + k % 8 = 48 * t + k by omega, ← e7] at B7
      -- all that comes from here
      have fin : ∀ (A : Int → Int → Prop) (h2 : mf_M), RM S h2 → frG t h h2 → cbM h2 t A → (∀ q x, A q x ↔ (QW S.F S.st o P k q x ∨ (q = k / 8 ∧ x = k % 8)) ∨ (plW S.F S.st q x ∧ ((q = k / 8 ∧ (x = k % 8 - 1 ∨ x = k % 8 + 1)) ∨ (lieB S.F.nl o (k / 8) = true ∧ q = k / 8 + 1 ∧ x = S.F.nc - 1 - k % 8)))) → BX12_goesOn_144 C l d L a t o k (k / 8) (k % 8) h2 := by
        intro A h2 R2 f2 B2 eA
        refine m_g144 hd R2 t0 t1 k0 (by omega) p0 p1 c0 c1 o0 o1 B2 (fun h3 R3 f3 B3 => ih (k + 1) h3 R3 (by omega) (by omega) (BA.keep (fun j j0 j1 => (f2.tr f3).2 j (by omega))) (B3.to (fun r x => ⟨fun z => ?_, fun z => ?_⟩)) (fun h4 R4 f4 B4 => hK h4 R4 ((f2.tr f3).tr f4) B4))
        · rcases z with z | ⟨z1, z2⟩
          · rcases (eA r x).mp z with (z | z) | ⟨z1, z2⟩
            · obtain ⟨p, c, y1, y2, y3, y4, y5⟩ := z
              exact ⟨p, c, y1, y2, by omega, y4, y5⟩
            · exact ⟨k / 8, k % 8, c0, c1, by omega, hP, Or.inl z⟩
            · exact ⟨k / 8, k % 8, c0, c1, by omega, hP, Or.inr ⟨z1, z2.elim Or.inl (fun y => Or.inr (Or.inl y))⟩⟩
          · exact ⟨k / 8, k % 8, c0, c1, by omega, hP, Or.inr ⟨z1, z2.elim (fun y => Or.inr (Or.inr (Or.inl y))) (fun y => Or.inr (Or.inr (Or.inr y)))⟩⟩
        · obtain ⟨p, c, y1, y2, y3, y4, y5⟩ := z
          by_cases e : 8 * p + c = k
          · have ep : p = k / 8 := by omega
            have ec : c = k % 8 := by omega
            subst ep; subst ec
            rcases y5 with y | ⟨y6, y | y | y | y⟩
            · exact Or.inl ((eA r x).mpr (Or.inl (Or.inr y)))
            · exact Or.inl ((eA r x).mpr (Or.inr ⟨y6, Or.inl y⟩))
            · exact Or.inl ((eA r x).mpr (Or.inr ⟨y6, Or.inr y⟩))
            · exact Or.inr ⟨y6, Or.inl y⟩
            · exact Or.inr ⟨y6, Or.inr y⟩
          · exact Or.inl ((eA r x).mpr (Or.inl (Or.inl ⟨p, c, y1, y2, by omega, y4, y5⟩)))
      rw [w_id (x := k % 8 - 1) (by omega) (by omega), w_id (x := k % 8 + 1) (by omega) (by omega), w_id (x := k / 8 + 1) (by omega) (by omega)]
      refine M_comes (by decide) R7 t0 t1 B7 (fun h8 R8 f8 B8 => M_comes (by decide) R8 t0 t1 B8 (fun h9 R9 f9 B9 => M_lies (by decide) R9 (by omega) (by omega) (by omega) (fun y => ⟨fun z => absurd z (by decide), fun _ => ?_⟩) (fun y => ⟨fun _ => ?_, fun z => absurd rfl z⟩)))
      · rw [R9.fo.c, w_id (x := S.F.nc - 1) (by omega) (by omega), w_id (x := S.F.nc - 1 - k % 8) (by omega) (by omega)]
        refine M_comes (by decide) R9 t0 t1 B9 (fun h10 R10 f10 B10 => fin _ h10 R10 (((f7.tr f8).tr f9).tr f10) B10 (fun r x => ⟨fun z => ?_, fun z => ?_⟩))
        · rcases z with ((z | z) | z) | z
          · exact Or.inl z
          · exact Or.inr ⟨z.1, Or.inl ⟨z.2.1, Or.inl z.2.2⟩⟩
          · exact Or.inr ⟨z.1, Or.inl ⟨z.2.1, Or.inr z.2.2⟩⟩
          · exact Or.inr ⟨z.1, Or.inr ⟨y, z.2⟩⟩
        · rcases z with z | ⟨z1, ⟨z2, z3 | z3⟩ | z⟩
          · exact Or.inl (Or.inl (Or.inl z))
          · exact Or.inl (Or.inl (Or.inr ⟨z1, z2, z3⟩))
          · exact Or.inl (Or.inr ⟨z1, z2, z3⟩)
          · exact Or.inr ⟨z1, z.2⟩
      · refine fin _ h9 R9 ((f7.tr f8).tr f9) B9 (fun r x => ⟨fun z => ?_, fun z => ?_⟩)
        · rcases z with (z | z) | z
          · exact Or.inl z
          · exact Or.inr ⟨z.1, Or.inl ⟨z.2.1, Or.inl z.2.2⟩⟩
          · exact Or.inr ⟨z.1, Or.inl ⟨z.2.1, Or.inr z.2.2⟩⟩
        · rcases z with z | ⟨z1, ⟨z2, z3 | z3⟩ | z⟩
          · exact Or.inl (Or.inl z)
          · exact Or.inl (Or.inr ⟨z1, z2, z3⟩)
          · exact Or.inr ⟨z1, z2, z3⟩
          · rw [y] at z; exact absurd z.1 (by decide)
    · have hP : ¬ P (k / 8) (k % 8) := bit.elim (fun z => absurd (z.1.symm.trans q) (by decide)) (fun z => z.2)
      rw [e20]
      refine ih (k + 1) h R (by omega) (by omega) BA (B.to (fun r x => ⟨fun z => ?_, fun z => ?_⟩)) hK
      · obtain ⟨p, c, y1, y2, y3, y4⟩ := z
        exact ⟨p, c, y1, y2, by omega, y4⟩
      · obtain ⟨p, c, y1, y2, y3, y4⟩ := z
        by_cases e : 8 * p + c = k
        · have ep : p = k / 8 := by omega
          have ec : c = k % 8 := by omega
          subst ep; subst ec
          exact absurd y4.1 hP
        · exact ⟨p, c, y1, y2, by omega, y4⟩
theorem m_g10 {a t o : Int} {P : Int → Int → Prop} (hd : 3 ≤ d) (t0 : 0 ≤ t) (t1 : t ≤ 1) (hat : a ≠ t) : ∀ (n : Nat) (k : Int) (h : mf_M), RM S h → 0 ≤ k → k + n = 48 → cbM h a P → (∀ j, 48 * t ≤ j → j < 48 * t + k → h 289 j = 0) → (∀ h', RM S h' → frG t h h' → cbM h' a P → cbM h' t (fun _ _ => False) → BX12_goesOn_39 C l d L a t o 0 h') → BX12_goesOn_10 C l d L a t o k h := by
  intro n
  induction n with
  | zero =>
    intro k h R k0 kn BA Z hK
    refine vX12_goesOn_10 ⟨fun _ => hK h R (frG.rf t h) BA (fun p c p0 p1 c0 c1 => Or.inr ⟨Z _ (by omega) (by omega), id⟩), fun q => absurd (by omega) q⟩
  | succ n ih =>
    intro k h R k0 kn BA Z hK
    refine vX12_goesOn_10 ⟨fun q => absurd q (by omega), fun _ => ?_⟩
    rw [w_id (x := 48 * t) (by omega) (by omega), w_id (x := 48 * t + k) (by omega) (by omega), w_id (x := k + 1) (by omega) (by omega)]
    refine ⟨by omega, by omega, fun h3 e3 v4 e4 => ?_⟩
    have f3 : frG t h h3 := by rw [e3]; exact frG.up (by omega) (by omega)
    rw [e4]
    refine ih (k + 1) h3 (R.keep f3.M) (by omega) (by omega) (BA.keep (fun j j0 j1 => f3.2 j (by omega))) (fun j j0 j1 => ?_) (fun h4 R4 f4 B4 Z4 => hK h4 R4 (f3.tr f4) B4 Z4)
    rw [e3, up_if]
    by_cases e : j = 48 * t + k
    · rw [if_pos ⟨rfl, e⟩]
    · rw [if_neg (fun z => e z.2)]; exact Z j j0 (by omega)
theorem M_goesOn {h : mf_M} {day a t : Int} {P : Int → Int → Prop} (hd : 4 ≤ d) (R : RM S h) (d0 : 0 ≤ day) (d1 : day ≤ 1000000) (t0 : 0 ≤ t) (t1 : t ≤ 1) (a0 : 0 ≤ a) (a1 : a ≤ 1) (hat : a ≠ t) (BA : cbM h a P) (hP : ∀ p c, P p c → 0 ≤ p ∧ p < 6 ∧ 0 ≤ c ∧ c < 8) (hK : ∀ h', RM S h' → frM h h' → cbM h' t (nxW S.F S.st (opnS S day) P) → L 0 h') : mM C l d YX12_goesOn [(2, 245), (0, day), (0, a), (0, t)] h L := by
  have l6 := R.ok.F.l6
  refine wX12_goesOn hd (M_openingOn (by decide) R d0 d1 (fun h1 R1 f1 => ?_))
  have orr := opn_range R.ok.F day
  refine m_g10 (by omega) t0 t1 hat 48 0 h1 R1 (by decide) (by decide) (BA.keep (fun j _ _ => by rw [f1.1 289 (by decide) (by decide)])) (fun j j0 j1 => absurd j1 (by omega)) (fun h2 R2 f2 BA2 Z2 => m_g39 (by omega) t0 t1 a0 a1 hat orr.1 (by omega) 48 0 h2 R2 (by decide) (by decide) BA2 (Z2.to (fun q x => ⟨False.elim, fun z => ?_⟩)) (fun h3 R3 f3 B3 => hK h3 R3 ((f1.M.tr f2.M).tr f3.M) (B3.to (fun q x => ⟨fun z => ?_, fun z => ?_⟩))))
  · obtain ⟨p, c, y1, y2, y3, y4, _⟩ := z
    have := hP p c y4
    omega
  · obtain ⟨p, c, y1, y2, y3, y4, y5⟩ := z
    rcases y5 with y | y
    · rw [y.1, y.2]; exact Or.inl y4
    · exact Or.inr ⟨y.1, p, c, y4, y.2⟩
  · rcases z with z | ⟨z1, p, c, z2, z3⟩
    · have := hP q x z
      exact ⟨q, x, this.2.2.1, this.2.2.2, by omega, z, Or.inl ⟨rfl, rfl⟩⟩
    · have := hP p c z2
      exact ⟨p, c, this.2.2.1, this.2.2.2, by omega, z2, Or.inr ⟨z1, z3⟩⟩
theorem m_way66 {b q x : Int} (hd : 5 ≤ d) (b0 : 0 ≤ b) (b1 : b < S.F.nb) (q0 : 0 ≤ q) (q1 : q < S.F.nl) (x0 : 0 ≤ x) (x1 : x < S.F.nc) : ∀ (m n : Nat) (h : mf_M), n + m = 41 → RM S h → cbM h ((n : Int) % 2) (wyR S.F S.st b n) → (∀ h', RM S h' → frM h h' → L (wayF S.F S.st b q x m n) h') → BX12_way_66 C l d L q x n h := by
  intro m
  induction m with
  | zero =>
    intro n h hn R B hK
    exact vX12_way_66 hd ⟨fun _ => hK h R (frM.rf h), fun z => absurd (by omega) z⟩
  | succ m ih =>
    intro n h hn R B hK
    have l6 := R.ok.F.l6
    have c8 := R.ok.F.c8
    have hd2 := R.ok.P.st.2.2
    have bq := B q x q0 (by omega) x0 (by omega)
    refine vX12_way_66 hd ⟨fun z => absurd z (by omega), fun _ => ?_⟩
    unfold wayF at hK
    rw [R.day, w_id (x := S.st 0 0 + n) (by omega) (by omega), Int.tmod_eq_emod_of_nonneg (by omega : 0 ≤ (n : Int)), w_id (x := 48 * ((n : Int) % 2)) (by omega) (by omega), w_id (x := 8 * q) (by omega) (by omega), w_id (x := 48 * ((n : Int) % 2) + 8 * q) (by omega) (by omega), w_id (x := 48 * ((n : Int) % 2) + 8 * q + x) (by omega) (by omega), w_id (x := 1 - (n : Int) % 2) (by omega) (by omega), w_id (x := (n : Int) + 1) (by omega) (by omega)]
    refine ⟨fun z => ?_, fun z => ⟨by omega, by omega, fun y => ?_, fun y => ?_⟩⟩
    · have k1 := hK h R (frM.rf h)
      rw [if_pos z] at k1; exact k1
    · have ny : ¬ wyR S.F S.st b n q x := bq.elim (fun w => absurd (w.1.symm.trans y) (by decide)) (fun w => w.2)
      refine M_goesOn (by decide) R (by omega) (by omega) (by omega) (by omega) (by omega) (by omega) (by omega) B (fun p c w => ?_) (fun h1 R1 f1 B1 v6 e6 => ?_)
      · have := wyR_pl R.ok.P b0 b1 n p c w
        unfold plW at this
        omega
      · rw [e6]
        refine ih (n + 1) h1 (by omega) R1 ?_ (fun h2 R2 f2 => ?_)
        · rw [show (((n + 1 : Nat) : Int)) % 2 = 1 - (n : Int) % 2 by omega]
          exact B1
        · have k2 := hK h2 R2 (f1.tr f2)
          rw [if_neg z, if_neg ny] at k2; exact k2
    · have yy : wyR S.F S.st b n q x := bq.elim (fun w => w.2) (fun w => absurd w.1 y)
      have k1 := hK h R (frM.rf h)
      rw [if_neg z, if_pos yy] at k1; exact k1
theorem m_way22 {b q x : Int} (hd : 5 ≤ d) (b0 : 0 ≤ b) (b1 : b < S.F.nb) : ∀ (n : Nat) (k : Int) (h0 h : mf_M), RM S h → 0 ≤ k → k + n = 96 → (∀ j, 0 ≤ j → j < k → h 289 j = 0) → frM h0 h → (∀ h', frM h0 h' → RM S h' → cbM h' 0 (wyR S.F S.st b 0) → BX12_way_66 C l d L q x 0 h') → BX12_way_22 C l d L b q x k h := by
  intro n
  induction n with
  | zero =>
    intro k h0 h R k0 kn Z f0 hH
    have b8 := R.ok.F.b8
    have l6 := R.ok.F.l6
    have c8 := R.ok.F.c8
    have s := R.ok.P.st.1 b b0 b1
    refine vX12_way_22 (by omega) ⟨fun _ => m_leafOf b0 (by omega) (m_cellOf b0 (by omega) ?_), fun z => absurd (by omega) z⟩
    have e2 : h 286 (7 + 4 * b) = S.st 2 b := R.be (j := 2) (by decide) (by decide) b0 b1
    have e3 : h 286 (8 + 4 * b) = S.st 3 b := R.be (j := 3) (by decide) (by decide) b0 b1
    rw [e2, e3, w_id (x := 8 * S.st 2 b) (by omega) (by omega), w_id (x := 8 * S.st 2 b + S.st 3 b) (by omega) (by omega)]
    refine ⟨by omega, by omega, fun h9 e9 => ?_⟩
    have f9 : frG 0 h h9 := by rw [e9]; exact frG.up (by omega) (by omega)
    have B0 : cbM h 0 (fun _ _ => False) := fun p c p0 p1 c0 c1 => Or.inr ⟨Z _ (by omega) (by omega), id⟩
    have B9 := B0.set (p := S.st 2 b) (c := S.st 3 b) s.1 (by omega) s.2.2.1 (by omega)
    rw [show 48 * (0 : Int) + 8 * S.st 2 b + S.st 3 b = 8 * S.st 2 b + S.st 3 b by omega, ← e9] at B9
    exact hH h9 (f0.tr f9.M) (R.keep f9.M) (B9.to (fun q x => ⟨fun z => z.elim False.elim id, Or.inr⟩))
  | succ n ih =>
    intro k h0 h R k0 kn Z f0 hH
    refine vX12_way_22 (by omega) ⟨fun z => absurd z (by omega), fun _ => ⟨by omega, by omega, fun h3 e3 v4 e4 => ?_⟩⟩
    rw [w_id (by omega) (by omega)] at e4
    rw [e4]
    have f3 : frM h h3 := by
      rw [e3]
      exact ⟨fun a _ _ _ _ q5 _ _ _ _ => up_row q5, fun k _ => by rw [up_row (by decide)], fun q => by rw [up_row (by decide)]; exact q, fun k _ => by rw [up_row (by decide)]⟩
    refine ih (k + 1) h0 h3 (R.keep f3) (by omega) (by omega) (fun j j0 j1 => ?_) (f0.tr f3) hH
    rw [e3, up_if]
    by_cases e : j = k
    · rw [if_pos ⟨rfl, e⟩]
    · rw [if_neg (fun z => e z.2)]; exact Z j j0 (by omega)
theorem M_way {h : mf_M} {b q x : Int} (hd : 5 ≤ d) (R : RM S h) (hK : ∀ h', RM S h' → frX h h' → L (wayS S b q x) h') : mM C l d YX12_way [(2, 245), (0, b), (0, q), (0, x)] h L := by
  unfold wayS at hK
  refine wX12_way (by omega) (M_isBeing (by decide) R (fun hb => ⟨fun z => absurd z (by decide), fun _ => M_isCell (by decide) R (fun hc => ⟨fun _ => ?_, fun z => absurd z (by decide)⟩) (fun hc => ⟨fun z => absurd rfl z, fun _ => ?_⟩)⟩) (fun hb => ⟨fun _ => ?_, fun z => absurd rfl z⟩))
  · rw [if_pos ⟨hb, hc⟩] at hK
    refine m_way22 hd hb.1 hb.2 96 0 h h R (by decide) (by decide) (fun j j0 j1 => absurd j1 (by omega)) (frM.rf h) (fun h1 f1 R1 B1 => ?_)
    exact m_way66 hd hb.1 hb.2 hc.1 hc.2.1 hc.2.2.1 hc.2.2.2 41 0 h1 (by decide) R1 B1 (fun h2 R2 f2 => hK h2 R2 (f1.tr f2).X)
  · have k1 := hK h R (frX.rf h)
    rw [if_neg (fun z => hc z.2)] at k1; exact k1
  · have k1 := hK h R (frX.rf h)
    rw [if_neg (fun z => hb z.1)] at k1; exact k1
end SpWa
