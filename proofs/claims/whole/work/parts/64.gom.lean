theorem or_bit {w c e : Int} (w0 : 0 ≤ w) (w1 : w < 256) (c0 : 0 ≤ c) (c1 : c < 8) (e0 : 0 ≤ e) (e1 : e < 8) : bitS (mf_or w (mf_shl 1 c)) e = 1 ↔ bitS w e = 1 ∨ e = c := by
  have key : ∀ n : Fin 256, ∀ m : Fin 8, ∀ k : Fin 8, bitS (mf_or (n.val : Int) (mf_shl 1 (m.val : Int))) (k.val : Int) = 1 ↔ bitS (n.val : Int) (k.val : Int) = 1 ∨ (k.val : Int) = (m.val : Int) := by decide +kernel
  have := key ⟨w.toNat, by omega⟩ ⟨c.toNat, by omega⟩ ⟨e.toNat, by omega⟩
  have f1 : ((w.toNat : Nat) : Int) = w := by omega
  have f2 : ((c.toNat : Nat) : Int) = c := by omega
  have f3 : ((e.toNat : Nat) : Int) = e := by omega
  simp only [f1, f2, f3] at this
  exact this
theorem or_lt {w c n : Int} (w0 : 0 ≤ w) (w1 : w < 2 ^ n.toNat) (c0 : 0 ≤ c) (c1 : c < n) (n8 : n ≤ 8) : 0 ≤ mf_or w (mf_shl 1 c) ∧ mf_or w (mf_shl 1 c) < 2 ^ n.toNat := by
  have key : ∀ n : Fin 9, ∀ m : Fin 8, ∀ k : Fin 256, k.val < 2 ^ n.val → m.val < n.val → 0 ≤ mf_or (k.val : Int) (mf_shl 1 (m.val : Int)) ∧ mf_or (k.val : Int) (mf_shl 1 (m.val : Int)) < 2 ^ n.val := by decide +kernel
  have hp := pow8 (n := n) (by omega) n8
  have hw : w.toNat < 2 ^ n.toNat := by
    have : ((w.toNat : Nat) : Int) < ((2 ^ n.toNat : Nat) : Int) := by
      rw [Int.natCast_pow]
      show ((w.toNat : Nat) : Int) < 2 ^ n.toNat
      omega
    omega
  have := key ⟨n.toNat, by omega⟩ ⟨c.toNat, by omega⟩ ⟨w.toNat, by omega⟩ hw (by simp; omega)
  have f1 : ((w.toNat : Nat) : Int) = w := by omega
  have f2 : ((c.toNat : Nat) : Int) = c := by omega
  simp only [f1, f2] at this
  exact this
theorem freeB_iff {σ : mf_M} {nb a c : Int} : freeB σ nb a c = true ↔ ¬ bitS (σ 1 a) c = 1 ∧ whoS σ nb a c = -1 := by
  unfold freeB
  simp only [Bool.and_eq_true, Bool.not_eq_true', decide_eq_false_iff_not, decide_eq_true_eq]
/-- one goes to a free cell -/
theorem okP.go {F : aF} {σ : mf_M} {ks : List (Int × Int × Int)} (o : okP F σ ks) {b a c : Int} (b0 : 0 ≤ b) (b1 : b < F.nb) (a0 : 0 ≤ a) (a1 : a < F.nl) (c0 : 0 ≤ c) (c1 : c < F.nc) (hf : freeB σ F.nb a c = true) : okP F (mf_up (mf_up σ 2 b a) 3 b c) ks := by
  obtain ⟨f1, f2⟩ := freeB_iff.mp hf
  have g2 : ∀ x, mf_up (mf_up σ 2 b a) 3 b c 2 x = if x = b then a else σ 2 x := fun x => by
    rw [up_row (by decide), up_if]; by_cases e : x = b <;> simp [e]
  have g3 : ∀ x, mf_up (mf_up σ 2 b a) 3 b c 3 x = if x = b then c else σ 3 x := fun x => by
    rw [up_if, up_row (by decide)]; by_cases e : x = b <;> simp [e]
  have gr : ∀ j, j ≠ 2 → j ≠ 3 → mf_up (mf_up σ 2 b a) 3 b c j = σ j := fun j q1 q2 => by rw [up_row q2, up_row q1]
  refine ⟨⟨fun x x0 x1 => ?_, fun x x0 x1 => ?_, ?_, ?_⟩, ?_, ?_, fun x x0 x1 => ?_, fun x y x0 x1 y0 y1 xy => ?_, o.ks⟩
  · have := o.st.1 x x0 x1
    rw [g2, g3]
    split <;> omega
  · rw [gr 4 (by decide) (by decide), gr 5 (by decide) (by decide)]; exact o.st.2.1 x x0 x1
  · rw [gr 0 (by decide) (by decide)]; exact o.st.2.2.1
  · rw [gr 0 (by decide) (by decide)]; exact o.st.2.2.2
  · rw [gr 1 (by decide) (by decide)]; exact o.gl
  · rw [gr 1 (by decide) (by decide)]; exact o.gz
  · rw [gr 1 (by decide) (by decide), g2, g3]
    by_cases e : x = b
    · rw [if_pos e, if_pos e]; exact f1
    · rw [if_neg e, if_neg e]; exact o.ng x x0 x1
  · rw [g2, g2, g3, g3]
    by_cases e : x = b
    · rw [if_pos e, if_pos e, if_neg (by omega), if_neg (by omega)]
      exact fun q => who_none f2 y0 y1 ⟨q.1.symm, q.2.symm⟩
    · rw [if_neg e, if_neg e]
      by_cases e2 : y = b
      · rw [if_pos e2, if_pos e2]; exact fun q => who_none f2 x0 x1 q
      · rw [if_neg e2, if_neg e2]; exact o.ds x y x0 x1 y0 y1 xy
/-- a gloss where none stands -/
theorem okP.gloss {F : aF} {σ : mf_M} {ks : List (Int × Int × Int)} (f : okF F) (o : okP F σ ks) {a c : Int} (a0 : 0 ≤ a) (a1 : a < F.nl) (c0 : 0 ≤ c) (c1 : c < F.nc) (hf : ∀ x, 0 ≤ x → x < F.nb → ¬ (σ 2 x = a ∧ σ 3 x = c)) : okP F (mf_up σ 1 a (mf_or (σ 1 a) (mf_shl 1 c))) ks := by
  have l6 := f.l6
  have c8 := f.c8
  have gr : ∀ j, j ≠ 1 → mf_up σ 1 a (mf_or (σ 1 a) (mf_shl 1 c)) j = σ j := fun j q1 => by rw [up_row q1]
  have ga := o.gl a a0 (by omega)
  have hp := pow8 f.c0 c8
  refine ⟨⟨fun x x0 x1 => ?_, fun x x0 x1 => ?_, ?_, ?_⟩, fun k k0 k6 => ?_, fun k k0 k6 => ?_, fun x x0 x1 => ?_, fun x y x0 x1 y0 y1 xy => ?_, o.ks⟩
  · rw [gr 2 (by decide), gr 3 (by decide)]; exact o.st.1 x x0 x1
  · rw [gr 4 (by decide), gr 5 (by decide)]; exact o.st.2.1 x x0 x1
  · rw [gr 0 (by decide)]; exact o.st.2.2.1
  · rw [gr 0 (by decide)]; exact o.st.2.2.2
  · rw [up_if]
    by_cases e : k = a
    · rw [if_pos ⟨rfl, e⟩]; exact or_lt ga.1 ga.2 c0 c1 c8
    · rw [if_neg (fun q => e q.2)]; exact o.gl k k0 k6
  · rw [up_col (by omega)]; exact o.gz k k0 k6
  · have hx := o.st.1 x x0 x1
    rw [gr 2 (by decide), gr 3 (by decide), up_if]
    by_cases e : σ 2 x = a
    · rw [if_pos ⟨rfl, e⟩, or_bit ga.1 (by omega) c0 (by omega) (by omega) (by omega)]
      intro q
      rcases q with q | q
      · have := o.ng x x0 x1
        rw [e] at this
        exact this q
      · exact hf x x0 x1 ⟨e, q⟩
    · rw [if_neg (fun q => e q.2)]; exact o.ng x x0 x1
  · rw [gr 2 (by decide), gr 3 (by decide)]; exact o.ds x y x0 x1 y0 y1 xy
theorem refuge_range {S : aS} {a c : Int} (c0 : 0 ≤ c) (c1 : c < S.F.nc) : ∀ (n : Nat) (far : Int), 1 ≤ far → refugeS S a c n far = -1 ∨ (0 ≤ refugeS S a c n far ∧ refugeS S a c n far < S.F.nc ∧ refugeS S a c n far ≠ c ∧ freeB S.st S.F.nb a (refugeS S a c n far) = true)
  | 0, _, _ => Or.inl rfl
  | n + 1, far, hf => by
    unfold refugeS
    split
    · rename_i q; exact Or.inr ⟨q.1, by omega, by omega, q.2⟩
    · split
      · rename_i q; exact Or.inr ⟨by omega, q.1, by omega, q.2⟩
      · exact refuge_range c0 c1 n (far + 1) (by omega)
theorem vM_upg {h : mf_M} {r b nb k v i : Int} (hi : i = b + 1 + k) (h0 : 0 ≤ k) (h1 : k < 6) : vM (mf_up h r i v) r b nb = mf_up (vM h r b nb) 1 k v := by
  subst hi
  funext i m
  rw [up_if]
  unfold vM
  simp only [up_if, true_and]
  by_cases e0 : i = 0
  · subst e0
    rw [if_pos rfl, if_pos rfl, if_neg (by omega : ¬ ((0 : Int) = 1 ∧ m = k))]
    by_cases e9 : m = 0
    · rw [if_pos e9, if_pos e9, if_neg (by omega)]
    · rw [if_neg e9, if_neg e9]
  · rw [if_neg e0, if_neg e0]
    by_cases e1 : i = 1
    · subst e1
      rw [if_pos rfl, if_pos rfl]
      by_cases e2 : 0 ≤ m ∧ m < 6
      · rw [if_pos e2, if_pos e2]
        by_cases e3 : m = k
        · rw [if_pos (by omega), if_pos ⟨rfl, e3⟩]
        · rw [if_neg (by omega), if_neg (fun q => e3 q.2)]
      · rw [if_neg e2, if_neg e2, if_neg (by omega)]
    · rw [if_neg e1, if_neg e1]
      by_cases e2 : 2 ≤ i ∧ i ≤ 5 ∧ 0 ≤ m ∧ m < nb
      · rw [if_pos e2, if_pos e2, if_neg (by omega), if_neg (by omega)]
      · rw [if_neg e2, if_neg e2, if_neg (by omega)]
section SpGo
variable {C : mf_G} {l : Launch} {d : Nat} {L : Int → mf_M → Prop} {S : aS} {h : mf_M}
theorem RM.act1 (R : RM S h) {h' : mf_M} {σ : mf_M} {ks : List (Int × Int × Int)} (ok : okP S.F σ ks) (fr : ∀ a, a ≠ 286 → h' a = h a) (vi : vM h' 286 0 S.F.nb = σ) (kp : kpM h' 286 0 ks) : RM (S.act σ ks S.un S.nx) h' := by
  refine R.act (R.ok.act ok R.ok.un R.ok.us R.ok.nx0 R.ok.nx1) (fun a _ q _ _ _ _ _ _ _ _ => fr a q) (fun k _ => by rw [fr 245 (by decide)]) (by rw [fr 245 (by decide)]; exact R.ao) vi kp (by rw [fr 245 (by decide)]; exact R.un) (by rw [fr 245 (by decide)]; exact R.nx) (fun j hj => ?_)
  rw [vM_row (fr 292 (by decide))]
  exact ⟨(R.us j hj).1, (R.us j hj).2.row (fr 292 (by decide))⟩
theorem M_go {b a c : Int} (hd : 2 ≤ d) (R : RM S h) (hK : ∀ h', RM (goS2 S b a c).2 h' → frX h h' → L (goS2 S b a c).1 h') : mM C l d YX12_go [(2, 245), (0, b), (0, a), (0, c)] h L := by
  have b8 := R.ok.F.b8
  have l6 := R.ok.F.l6
  have c8 := R.ok.F.c8
  unfold goS2 at hK
  have bad : ¬ ((0 ≤ b ∧ b < S.F.nb) ∧ (0 ≤ a ∧ a < S.F.nl ∧ 0 ≤ c ∧ c < S.F.nc) ∧ freeB S.st S.F.nb a c) → ∀ h4 : mf_M, h4 = mf_up h 247 2 (mf_w32 ((h 247 2) + 1)) → L 0 h4 := by
    intro q h4 e4
    rw [if_neg q] at hK
    rw [e4]; exact hK _ (R.ref (by decide) (by decide)) (frX.up (by decide))
  refine wX12_go hd (M_isBeing (by decide) R (fun hb => ⟨fun z => absurd z (by decide), fun _ => M_isCell (by decide) R (fun hc => ⟨fun z => absurd z (by decide), fun _ => M_hasGloss R hc.1 (by omega) (fun g => ⟨fun _ => bad (fun z => (freeB_iff.mp z.2.2).1 g), fun z => absurd z (by decide)⟩) (fun g => ⟨fun z => absurd rfl z, fun _ => M_standsOn (by decide) R ⟨fun w => ?_, fun w => bad (fun z => w (freeB_iff.mp z.2.2).2)⟩⟩)⟩) (fun hc => ⟨fun _ => bad (fun z => hc z.2.1), fun z => absurd rfl z⟩)⟩) (fun hb => ⟨fun _ => bad (fun z => hb z.1), fun z => absurd rfl z⟩))
  have hf : freeB S.st S.F.nb a c = true := freeB_iff.mpr ⟨g, w⟩
  rw [if_pos ⟨hb, hc, hf⟩] at hK
  refine M_keeps R (fun h1 R1 f1 e1 _ => ?_)
  rw [w_id (x := 4 * b) (by omega) (by omega), w_id (x := 7 + 4 * b) (by omega) (by omega), w_id (x := 7 + 4 * b + 1) (by omega) (by omega)]
  refine ⟨by omega, by omega, fun h2 e2 => ⟨by omega, by omega, fun h3 e3 => ?_⟩⟩
  have r3 : ∀ x, x ≠ 286 → h3 x = h1 x := fun x q => by rw [e3, up_row q, e2, up_row q]
  have hi : ∀ k, 39 ≤ k → h3 286 k = h1 286 k := fun k q => by rw [e3, up_col (by omega), e2, up_col (by omega)]
  refine hK h3 (R1.act1 (R.ok.P.go hb.1 hb.2 hc.1 hc.2.1 hc.2.2.1 hc.2.2.2 hf) r3 ?_ (kpM_hi hi R1.kp)) (f1.tr (fun x q => r3 x (by omega)))
  have v1 : vM h1 286 0 S.F.nb = S.st := R1.vi
  have nb1 : (savS S).F.nb = S.F.nb := rfl
  rw [nb1, e3, vM_up (j := 3) (k := b) (by omega) (by decide) (by decide) hb.1 hb.2, e2, vM_up (j := 2) (k := b) (by omega) (by decide) (by decide) hb.1 hb.2, v1]
theorem M_isFree {a c : Int} (hd : 2 ≤ d) (R : RM S h) (h1 : (0 ≤ a ∧ a < S.F.nl ∧ 0 ≤ c ∧ c < S.F.nc) ∧ freeB S.st S.F.nb a c = true → L 1 h) (h2 : ¬ ((0 ≤ a ∧ a < S.F.nl ∧ 0 ≤ c ∧ c < S.F.nc) ∧ freeB S.st S.F.nb a c = true) → L 0 h) : mM C l d YX12_isFree [(2, 245), (0, a), (0, c)] h L := by
  have l6 := R.ok.F.l6
  refine wX12_isFree hd (M_isCell (by decide) R (fun hc => ⟨fun z => absurd z (by decide), fun _ => M_hasGloss R hc.1 (by omega) (fun g => ⟨fun _ => h2 (fun z => (freeB_iff.mp z.2).1 g), fun z => absurd z (by decide)⟩) (fun g => ⟨fun z => absurd rfl z, fun _ => M_standsOn (by decide) R ⟨fun w => h2 (fun z => w (freeB_iff.mp z.2).2), fun w => h1 ⟨hc, freeB_iff.mpr ⟨g, w⟩⟩⟩⟩)⟩) (fun hc => ⟨fun _ => h2 (fun z => hc z.1), fun z => absurd rfl z⟩))
theorem m_refuge {a c : Int} (hd : 3 ≤ d) (R : RM S h) (a0 : 0 ≤ a) (a1 : a < S.F.nl) (c0 : 0 ≤ c) (c1 : c < S.F.nc) : ∀ (n : Nat) (far : Int), 1 ≤ far → far + n = 8 → L (refugeS S a c n far) h → BX12_refuge_2 C l d L a c far h := by
  have c8 := R.ok.F.c8
  intro n
  induction n with
  | zero =>
    intro far h0 hn hK
    exact vX12_refuge_2 hd ⟨fun _ => hK, fun q => absurd (by omega) q⟩
  | succ n ih =>
    intro far h0 hn hK
    unfold refugeS at hK
    refine vX12_refuge_2 hd ⟨fun q => absurd q (by omega), fun _ => ?_⟩
    rw [w_id (x := c - far) (by omega) (by omega), w_id (x := c + far) (by omega) (by omega)]
    refine M_isFree (by decide) R (fun q => ⟨fun z => absurd z (by decide), fun _ => ?_⟩) (fun q => ⟨fun _ => ?_, fun z => absurd rfl z⟩)
    · rw [if_pos ⟨q.1.2.2.1, q.2⟩] at hK; exact hK
    · have nq : ¬ (0 ≤ c - far ∧ freeB S.st S.F.nb a (c - far) = true) := fun z => q ⟨⟨a0, a1, z.1, by omega⟩, z.2⟩
      rw [if_neg nq] at hK
      refine M_isFree (by decide) R (fun y => ⟨fun z => absurd z (by decide), fun _ => ?_⟩) (fun y => ⟨fun _ v7 e7 => ?_, fun z => absurd rfl z⟩)
      · rw [if_pos ⟨y.1.2.2.2, y.2⟩] at hK; exact hK
      · have ny : ¬ (c + far < S.F.nc ∧ freeB S.st S.F.nb a (c + far) = true) := fun z => y ⟨⟨a0, a1, by omega, z.1⟩, z.2⟩
        rw [if_neg ny] at hK
        rw [w_id (by omega) (by omega)] at e7
        rw [e7]; exact ih (far + 1) (by omega) (by omega) hK
theorem M_gloss {a c : Int} (hd : 4 ≤ d) (R : RM S h) (hK : ∀ h', RM (glossS S a c).2 h' → frX h h' → L (glossS S a c).1 h') : mM C l d YX12_gloss [(2, 245), (0, a), (0, c)] h L := by
  have b8 := R.ok.F.b8
  have l6 := R.ok.F.l6
  have c8 := R.ok.F.c8
  unfold glossS at hK
  have ref : (∀ h', RM (refS S 2) h' → frX h h' → L (-1) h') → mM C l 0 YX12_refuses [(2, 245), (0, 2)] h (fun r4 h6 => L r4 h6) := by
    intro K
    refine wX12_refuses ⟨by decide, by decide, fun h3 e3 => ?_⟩
    rw [e3]; exact K _ (R.ref (by decide) (by decide)) (frX.up (by decide))
  refine wX12_gloss hd (M_isCell (by decide) R (fun hc => ⟨fun z => absurd z (by decide), fun _ => M_hasGloss R hc.1 (by omega) (fun g => ⟨fun z => absurd z (by decide), fun _ => ref ?_⟩) (fun g => ⟨fun _ => M_standsOn (by decide) R ?_, fun z => absurd rfl z⟩)⟩) (fun hc => ⟨fun _ => ref ?_, fun z => absurd rfl z⟩))
  · rw [if_neg (fun z => z.2 g)] at hK; exact hK
  · rw [if_pos ⟨hc, g⟩] at hK
    -- the gloss is written
    have wr : ∀ s0, s0 ≠ -1 → (∀ h1, RM (savS S) h1 → frX h h1 → ∀ h6 : mf_M, h6 = mf_up h1 286 (1 + a) (mf_or (S.st 1 a) (mf_shl 1 c)) → ((whoS S.st S.F.nb a c = -1 → L s0 h6) ∧ (¬ whoS S.st S.F.nb a c = -1 → 0 ≤ mf_w32 ((mf_w32 (7 + (mf_w32 (4 * whoS S.st S.F.nb a c)))) + 1) ∧ mf_w32 ((mf_w32 (7 + (mf_w32 (4 * whoS S.st S.F.nb a c)))) + 1) < 160 ∧ (∀ h9 : mf_M, h9 = mf_up h6 286 (mf_w32 ((mf_w32 (7 + (mf_w32 (4 * whoS S.st S.F.nb a c)))) + 1)) s0 → L s0 h9)))) → BX12_gloss_47 C l d L a c (whoS S.st S.F.nb a c) s0 h := by
      intro s0 hs K
      refine vX12_gloss_47 (by omega) ⟨fun _ => M_keeps R (fun h1 R1 f1 e1 _ => ?_), fun z => absurd z hs⟩
      rw [w_id (x := 1 + a) (by omega) (by omega), e1, R.gl hc.1 (by omega)]
      exact ⟨by omega, by omega, fun h6 e6 => K h1 R1 f1 h6 e6⟩
    have vg : ∀ h1, RM (savS S) h1 → vM (mf_up h1 286 (1 + a) (mf_or (S.st 1 a) (mf_shl 1 c))) 286 0 S.F.nb = mf_up S.st 1 a (mf_or (S.st 1 a) (mf_shl 1 c)) := by
      intro h1 R1
      have v1 : vM h1 286 0 S.F.nb = S.st := R1.vi
      rw [vM_upg (k := a) (by omega) hc.1 (by omega), v1]
    by_cases w : whoS S.st S.F.nb a c = -1
    · rw [if_pos w] at hK
      refine ⟨fun z => absurd w z, fun _ => wr 100 (by decide) (fun h1 R1 f1 h6 e6 => ⟨fun _ => ?_, fun z => absurd w z⟩)⟩
      have r6 : ∀ x, x ≠ 286 → h6 x = h1 x := fun x q => by rw [e6, up_row q]
      refine hK h6 (R1.act1 (R.ok.P.gloss R.ok.F hc.1 hc.2.1 hc.2.2.1 hc.2.2.2 (fun x x0 x1 => who_none w x0 x1)) r6 (by rw [e6]; exact vg h1 R1) (kpM_hi (fun k q => by rw [e6, up_col (by omega)]) R1.kp)) (f1.tr (fun x q => r6 x (by omega)))
    · rw [if_neg w] at hK
      obtain ⟨p1, p2, p3, p4⟩ := who_some w
      refine ⟨fun _ => wX12_refuge (m_refuge (by decide) R hc.1 hc.2.1 hc.2.2.1 hc.2.2.2 7 1 (by decide) (by decide) ?_), fun z => absurd z w⟩
      rcases refuge_range (S := S) (a := a) hc.2.2.1 hc.2.2.2 7 1 (by decide) with e | ⟨q1, q2, q3, q4⟩
      · rw [if_pos e] at hK
        rw [e]
        exact vX12_gloss_47 (by omega) ⟨fun z => absurd rfl z, fun _ => ref hK⟩
      · have hne : ¬ refugeS S a c 7 1 = -1 := by omega
        rw [if_neg hne] at hK
        refine wr _ hne (fun h1 R1 f1 h6 e6 => ⟨fun z => absurd z w, fun _ => ?_⟩)
        rw [w_id (x := 4 * _) (by omega) (by omega), w_id (x := 7 + 4 * _) (by omega) (by omega), w_id (x := 7 + 4 * _ + 1) (by omega) (by omega)]
        refine ⟨by omega, by omega, fun h9 e9 => ?_⟩
        have r9 : ∀ x, x ≠ 286 → h9 x = h1 x := fun x q => by rw [e9, up_row q, e6, up_row q]
        have okm : okP S.F (mf_up (mf_up S.st 1 a (mf_or (S.st 1 a) (mf_shl 1 c))) 3 (whoS S.st S.F.nb a c) (refugeS S a c 7 1)) S.ks := by
          have g1 := R.ok.P.go p1 p2 hc.1 hc.2.1 q1 q2 q4
          have e2 : mf_up S.st 2 (whoS S.st S.F.nb a c) a = S.st := by
            funext i m
            rw [up_if]
            by_cases e : i = 2 ∧ m = whoS S.st S.F.nb a c
            · rw [if_pos e, e.1, e.2]; exact p3.symm
            · rw [if_neg e]
          rw [e2] at g1
          have g2 := g1.gloss R.ok.F hc.1 hc.2.1 hc.2.2.1 hc.2.2.2 (fun x x0 x1 z => ?_)
          · rw [up_row (by decide)] at g2
            have e3 : mf_up (mf_up S.st 3 (whoS S.st S.F.nb a c) (refugeS S a c 7 1)) 1 a (mf_or (S.st 1 a) (mf_shl 1 c)) = mf_up (mf_up S.st 1 a (mf_or (S.st 1 a) (mf_shl 1 c))) 3 (whoS S.st S.F.nb a c) (refugeS S a c 7 1) := by
              funext i m
              rw [up_if, up_if, up_if, up_if]
              by_cases y1 : i = 1 ∧ m = a
              · rw [if_pos y1, if_neg (by omega), if_pos y1]
              · rw [if_neg y1, if_neg y1]
            rw [e3] at g2; exact g2
          · rw [up_row (by decide), up_if] at z
            by_cases y : x = whoS S.st S.F.nb a c
            · rw [if_pos ⟨rfl, y⟩] at z; exact q3 z.2
            · rw [if_neg (fun v => y v.2)] at z
              exact R.ok.P.ds x _ x0 x1 p1 p2 y ⟨by rw [z.1, p3], by rw [z.2, p4]⟩
        refine hK h9 (R1.act1 okm r9 ?_ (kpM_hi (fun k q => by rw [e9, up_col (by omega), e6, up_col (by omega)]) R1.kp)) (f1.tr (fun x q => r9 x (by omega)))
        have nb1 : (savS S).F.nb = S.F.nb := rfl
        rw [nb1, e9, vM_up (j := 3) (k := whoS S.st S.F.nb a c) (by omega) (by decide) (by decide) p1 p2, e6, vg h1 R1]
  · rw [if_neg (fun z => hc z.1)] at hK; exact hK
end SpGo
