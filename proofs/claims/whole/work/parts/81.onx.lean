/-! the class: an image on the tape -/
theorem findN_all (p : Int → Bool) : ∀ (n : Nat) (k : Int), 0 ≤ k → (findN p n k = -1 ↔ allN (fun q => !p q) n k = true)
  | 0, _, _ => ⟨fun _ => rfl, fun _ => rfl⟩
  | n + 1, k, k0 => by
    unfold findN allN
    by_cases h : p k = true
    · rw [if_pos h]
      simp [h]
      omega
    · rw [if_neg h, findN_all p n (k + 1) (by omega)]
      simp [h]
section SxOn
variable {C : mf_G} {l : Launch} {d : Nat} {K : mf_Kt} {g h : mf_M} {S : aS}
/-- the draft is written alone -/
def frW (h h' : mf_M) : Prop := ∀ a, ¬ (95 ≤ a ∧ a ≤ 101) → h' a = h a
theorem frW.rf (h : mf_M) : frW h h := fun _ _ => rfl
theorem frW.tr {a b c : mf_M} (h1 : frW a b) (h2 : frW b c) : frW a c := fun x hx => (h2 x hx).trans (h1 x hx)
theorem frW.up {h : mf_M} {a i v : Int} (ha : 95 ≤ a ∧ a ≤ 101) : frW h (mf_up h a i v) := fun b hb => up_row (fun e => hb (e ▸ ha))
theorem frW.N {h h' : mf_M} (f : frW h h') : frN h h' := by
  refine ⟨fun a _ _ _ _ _ _ _ q => f a q, by rw [f 51 (by decide)], fun a ha q => ?_⟩
  have : a = 53 ∨ a = 67 ∨ a = 74 ∨ a = 81 := by simpa using ha
  rw [f a (by omega)]; exact q
theorem RX.byte (R : RX S g h) {h' : mf_M} (f : frW h h') {k : Int} (k0 : 0 ≤ k) (k1 : k < S.tn) (hK : K (S.tp k) g h') : xM C l d YX8_byteAt [(2, 3), (0, k)] g h' K := by
  have e3 := f 3 (by decide)
  have e4 := f 4 (by decide)
  exact x_byteAt (by rw [e3]; exact R.tn) R.ok.tn1 (by rw [e4]; exact R.tp) R.ok.tp k0 k1 hK
theorem RX.pair (R : RX S g h) {h' : mf_M} (f : frW h h') {k : Int} (hd : 1 ≤ d) (k0 : 0 ≤ k) (k1 : k + 1 < S.tn) (hK : K (twS S.tp k) g h') : xM C l d YX8_pairAt [(2, 3), (0, k)] g h' K := by
  have t1 := R.ok.tn1
  have a1 := R.ok.tp k
  have a2 := R.ok.tp (k + 1)
  refine wX8_pairAt hd (R.byte f k0 (by omega) ?_)
  rw [w_id (x := k + 1) (by omega) (by omega)]
  refine R.byte f (by omega) k1 ?_
  rw [w_id (x := S.tp k * 256) (by omega) (by omega), w_id (by omega) (by omega)]
  unfold twS at hK
  rw [show S.tp k * 256 + S.tp (k + 1) = 256 * S.tp k + S.tp (k + 1) by omega]; exact hK
theorem x_forget {h0 : mf_M} {a : Int} (ia : mf_is 319 a 6) (hK : ∀ h', (∀ x, x ≠ a + 1 → h' x = h0 x) → (∀ k, 0 ≤ k → k < 6 → h' (a + 1) k = 0) → K 0 g h') : ∀ (n : Nat) (k : Int) (h : mf_M), 0 ≤ k → k + n = 6 → (∀ x, x ≠ a + 1 → h x = h0 x) → (∀ i, 0 ≤ i → i < k → h (a + 1) i = 0) → BX6_forget_12 C l d K a k g h := by
  intro n
  induction n with
  | zero =>
    intro k h k0 kn f1 f2
    exact vX6_forget_12 ⟨ia, fun _ => hK h f1 (fun i q1 q2 => f2 i q1 (by omega)), fun q => absurd (by omega) q⟩
  | succ n ih =>
    intro k h k0 kn f1 f2
    refine vX6_forget_12 ⟨ia, fun q => absurd q (by omega), fun _ => ⟨k0, by omega, fun h4 e4 v5 e5 => ?_⟩⟩
    rw [w_id (by omega) (by omega)] at e5
    rw [e5]
    refine ih (k + 1) h4 (by omega) (by omega) (fun x q => by rw [e4, up_row q]; exact f1 x q) (fun i q1 q2 => ?_)
    rw [e4, up_if]
    by_cases ei : i = k
    · rw [if_pos ⟨rfl, ei⟩]
    · rw [if_neg (by omega)]; exact f2 i q1 (by omega)
/-- beings of the tape in the draft, so far -/
def dfB (S : aS) (h : mf_M) (n : Int) : Prop := ∀ b, 0 ≤ b → b < n → h 97 b = S.tp (2 + S.F.nl + 6 * b) ∧ h 98 b = S.tp (2 + S.F.nl + 6 * b + 1) ∧ h 99 b = twS S.tp (2 + S.F.nl + 6 * b + 2) ∧ h 100 b = twS S.tp (2 + S.F.nl + 6 * b + 4)
def dfG (S : aS) (h : mf_M) (n : Int) : Prop := ∀ k, 0 ≤ k → k < 6 → h 96 k = if k < n then S.tp (2 + k) else 0
theorem x_takeBeing {b : Int} (hd : 2 ≤ d) (R : RX S g h) (hl : S.F.nl ≠ 0) (tn : S.tn = 2 + S.F.nl + 6 * S.F.nb + 1) {h1 : mf_M} (f1 : frW h h1) (b0 : 0 ≤ b) (b1 : b < S.F.nb) (G : dfG S h1 S.F.nl) (B : dfB S h1 b) (hK : ∀ h', frW h h' → (∀ a, ¬ (97 ≤ a ∧ a ≤ 100) → h' a = h1 a) → dfB S h' (b + 1) → K (if beB S b then 1 else 0) g h') : xM C l d YX6_takeBeing [(2, 95), (2, g 0 12), (2, 3), (0, b)] g h1 K := by
  have l0 := R.ok.F.l0
  have l6 := R.ok.F.l6
  have b8 := R.ok.F.b8
  have hf := R.fi
  have R1 := R.keep f1.N
  refine wX6_takeBeing hd ⟨isf R.fi, ?_⟩
  rw [R1.fo.l]
  intro v2 e2
  rw [w_id (x := 2 + S.F.nl) (by omega) (by omega), w_id (x := 6 * b) (by omega) (by omega), w_id (by omega) (by omega)] at e2
  subst e2
  refine ⟨is95, is3, R.byte f1 (by omega) (by omega) ⟨b0, by omega, fun h10 e10 => ?_⟩⟩
  have f10 : frW h h10 := f1.tr (by rw [e10]; exact frW.up (by decide))
  rw [w_id (x := 2 + S.F.nl + 6 * b + 1) (by omega) (by omega), w_id (x := 2 + S.F.nl + 6 * b + 2) (by omega) (by omega), w_id (x := 2 + S.F.nl + 6 * b + 4) (by omega) (by omega)]
  refine R.byte f10 (by omega) (by omega) (fun h14 e14 => ?_)
  have f14 : frW h h14 := f10.tr (by rw [e14]; exact frW.up (by decide))
  refine R.pair f14 (by decide) (by omega) (by omega) (fun h18 e18 => ?_)
  have f18 : frW h h18 := f14.tr (by rw [e18]; exact frW.up (by decide))
  refine R.pair f18 (by decide) (by omega) (by omega) (fun h22 e22 => ?_)
  have f22 : frW h h22 := f18.tr (by rw [e22]; exact frW.up (by decide))
  rw [show (95 : Int) + 2 = 97 from rfl] at e10
  rw [show (95 : Int) + 3 = 98 from rfl] at e14
  rw [show (95 : Int) + 4 = 99 from rfl] at e18
  rw [show (95 : Int) + 5 = 100 from rfl] at e22
  have r : ∀ a, ¬ (97 ≤ a ∧ a ≤ 100) → h22 a = h1 a := fun a q => by rw [e22, up_row (by omega), e18, up_row (by omega), e14, up_row (by omega), e10, up_row (by omega)]
  have s97 : ∀ i, h22 97 i = if i = b then S.tp (2 + S.F.nl + 6 * b) else h1 97 i := fun i => by rw [e22, up_row (by decide), e18, up_row (by decide), e14, up_row (by decide), e10, up_if]; simp
  have s98 : ∀ i, h22 98 i = if i = b then S.tp (2 + S.F.nl + 6 * b + 1) else h1 98 i := fun i => by rw [e22, up_row (by decide), e18, up_row (by decide), e14, up_if, e10, up_row (by decide)]; simp
  have s99 : ∀ i, h22 99 i = if i = b then twS S.tp (2 + S.F.nl + 6 * b + 2) else h1 99 i := fun i => by rw [e22, up_row (by decide), e18, up_if, e14, up_row (by decide), e10, up_row (by decide)]; simp
  have s100 : ∀ i, h22 100 i = if i = b then twS S.tp (2 + S.F.nl + 6 * b + 4) else h1 100 i := fun i => by rw [e22, up_if, e18, up_row (by decide), e14, up_row (by decide), e10, up_row (by decide)]; simp
  have B2 : dfB S h22 (b + 1) := by
    intro c c0 c1
    rw [s97, s98, s99, s100]
    by_cases e : c = b
    · rw [if_pos e, if_pos e, if_pos e, if_pos e, e]; exact ⟨rfl, rfl, rfl, rfl⟩
    · rw [if_neg e, if_neg e, if_neg e, if_neg e]; exact B c c0 (by omega)
  have R22 := R.keep f22.N
  obtain ⟨v97, v98, v99, v100⟩ := B2 b b0 (by omega)
  have fin := hK h22 f22 r B2
  have no : beB S b = false → K 0 g h22 := fun q => by rw [if_neg (by rw [q]; decide)] at fin; exact fin
  have nb : ∀ P : Prop, (P → beB S b = true → False) → P → beB S b = false := fun P hP p => by
    cases hq : beB S b with
    | false => rfl
    | true => exact (hP p hq).elim
  rw [show (95 : Int) + 2 = 97 from rfl, show (95 : Int) + 3 = 98 from rfl, show (95 : Int) + 4 = 99 from rfl, show (95 : Int) + 5 = 100 from rfl, v97, v98, v99, v100, R22.fo.l, R22.fo.c]
  refine ⟨fun q => no (nb _ (fun q hb => absurd (beB_iff.mp hb).1 (by omega)) q), fun q1 => ⟨fun q => no (nb _ (fun q hb => absurd (beB_iff.mp hb).2.1 (by omega)) q), fun q2 => ⟨fun q => no (nb _ (fun q hb => absurd (beB_iff.mp hb).2.2.2.1 (by omega)) q), fun q3 => ⟨fun q => no (nb _ (fun q hb => absurd (beB_iff.mp hb).2.2.2.2.1 (by omega)) q), fun q4 => wX6_isFree (by decide) ⟨is95, x_gloss is95 (R.ok.tp _).1 (by omega) ?_⟩⟩⟩⟩⟩
  have hgl : h22 (95 + 1) (S.tp (2 + S.F.nl + 6 * b)) = S.tp (2 + S.tp (2 + S.F.nl + 6 * b)) := by
    rw [show (95 : Int) + 1 = 96 from rfl, r 96 (by decide), G _ (R.ok.tp _).1 (by omega), if_pos (by omega)]
  rw [hgl]
  by_cases hg : bitS (S.tp (2 + S.tp (2 + S.F.nl + 6 * b))) (S.tp (2 + S.F.nl + 6 * b + 1)) = 1
  · have e : biS (bitS (S.tp (2 + S.tp (2 + S.F.nl + 6 * b))) (S.tp (2 + S.F.nl + 6 * b + 1)) = 1) = 1 := by unfold biS; rw [if_pos hg]
    rw [e]
    exact ⟨fun _ => ⟨fun _ => no (nb _ (fun q hb => (beB_iff.mp hb).2.2.1 q) hg), fun z => absurd rfl z⟩, fun z => absurd z (by decide)⟩
  · have e : biS (bitS (S.tp (2 + S.tp (2 + S.F.nl + 6 * b))) (S.tp (2 + S.F.nl + 6 * b + 1)) = 1) = 0 := by unfold biS; rw [if_neg hg]
    rw [e]
    refine ⟨fun z => absurd rfl z, fun _ => x_who is95 (by omega) ?_⟩
    have ef : findN (fun q => decide (h22 (95 + 2) q = S.tp (2 + S.F.nl + 6 * b)) && decide (h22 (95 + 3) q = S.tp (2 + S.F.nl + 6 * b + 1))) b.toNat 0 = findN (fun q => decide (S.tp (2 + S.F.nl + 6 * q) = S.tp (2 + S.F.nl + 6 * b)) && decide (S.tp (2 + S.F.nl + 6 * q + 1) = S.tp (2 + S.F.nl + 6 * b + 1))) b.toNat 0 := by
      refine findN_congr _ _ (fun i i0 i1 => ?_)
      obtain ⟨w1, w2, -, -⟩ := B2 i i0 (by omega)
      rw [show (95 : Int) + 2 = 97 from rfl, show (95 : Int) + 3 = 98 from rfl, w1, w2]
    rw [ef]
    have ha := findN_all (fun q => decide (S.tp (2 + S.F.nl + 6 * q) = S.tp (2 + S.F.nl + 6 * b)) && decide (S.tp (2 + S.F.nl + 6 * q + 1) = S.tp (2 + S.F.nl + 6 * b + 1))) b.toNat 0 (by decide)
    refine ⟨fun z => ⟨fun _ => no ?_, fun y => absurd rfl y⟩, fun z => ⟨fun y => absurd y (by decide), fun _ => ?_⟩⟩
    · unfold beB
      have : ¬ allN (fun q => !(decide (S.tp (2 + S.F.nl + 6 * q) = S.tp (2 + S.F.nl + 6 * b)) && decide (S.tp (2 + S.F.nl + 6 * q + 1) = S.tp (2 + S.F.nl + 6 * b + 1)))) b.toNat 0 = true := fun y => z (ha.mpr y)
      rw [Bool.not_eq_true] at this
      rw [this, Bool.and_false]
    · have hb : beB S b = true := by
        unfold beB
        rw [ha.mp z, decide_eq_true (by omega), decide_eq_true (by omega), decide_eq_false hg, decide_eq_true (by omega), decide_eq_true (by omega)]; rfl
      rw [if_pos hb] at fin; exact fin
theorem x_im3 (hd : 3 ≤ d) (R : RX S g h) (hl : S.F.nl ≠ 0) (tn : S.tn = 2 + S.F.nl + 6 * S.F.nb + 1) (A : (∀ c, 0 ≤ c → c < S.F.nb → beB S c = true) → ∀ h', frW h h' → dfB S h' S.F.nb → dfG S h' S.F.nl → h' 95 7 = twS S.tp 0 → h' 95 6 = 0 → K 1 g h') (B : (∃ b, 0 ≤ b ∧ b < S.F.nb ∧ beB S b = false) → ∀ h', frW h h' → K 0 g h') : ∀ (n : Nat) (b : Int) (h1 : mf_M), 0 ≤ b → b + n = S.F.nb → frW h h1 → dfG S h1 S.F.nl → dfB S h1 b → h1 95 7 = twS S.tp 0 → h1 95 6 = 0 → (∀ c, 0 ≤ c → c < b → beB S c = true) → BX6_takeImage_155 C l d K 95 (g 0 12) 3 b g h1 := by
  have b8 := R.ok.F.b8
  intro n
  induction n with
  | zero =>
    intro b h1 b0 bn f1 G D e7 e6 hp
    refine vX6_takeImage_155 hd ⟨isf R.fi, ?_⟩
    rw [(R.keep f1.N).fo.b]
    exact ⟨fun _ => A (fun c q1 q2 => hp c q1 (by omega)) h1 f1 (fun c q1 q2 => D c q1 (by omega)) G e7 e6, fun q => absurd (by omega) q⟩
  | succ n ih =>
    intro b h1 b0 bn f1 G D e7 e6 hp
    refine vX6_takeImage_155 hd ⟨isf R.fi, ?_⟩
    rw [(R.keep f1.N).fo.b]
    refine ⟨fun q => absurd q (by omega), fun _ => ⟨fun q => absurd q (by omega), fun _ => ⟨is95, x_takeBeing (by decide) R hl tn f1 b0 (by omega) G D (fun h2 f2 r2 D2 => ?_)⟩⟩⟩
    cases hb : beB S b with
    | true =>
      rw [if_pos rfl]
      refine ⟨fun _ v6 e6' => ?_, fun z => absurd z (by decide)⟩
      rw [w_id (by omega) (by omega)] at e6'
      rw [e6']
      refine ih (b + 1) h2 (by omega) (by omega) f2 (fun k k0 k1 => by rw [r2 96 (by decide)]; exact G k k0 k1) D2 (by rw [r2 95 (by decide)]; exact e7) (by rw [r2 95 (by decide)]; exact e6) (fun c q1 q2 => ?_)
      by_cases e : c = b
      · rw [e]; exact hb
      · exact hp c q1 (by omega)
    | false =>
      rw [if_neg (by decide)]
      exact ⟨fun z => absurd rfl z, fun _ => B ⟨b, b0, by omega, hb⟩ h2 f2⟩
theorem x_im2 (hd : 1 ≤ d) (R : RX S g h) (tn : S.tn = 2 + S.F.nl + 6 * S.F.nb + 1) (A : (∀ i, 0 ≤ i → i < S.F.nl → S.tp (2 + i) < mf_shl 1 S.F.nc) → ∀ h', frW h h' → dfG S h' S.F.nl → h' 95 7 = twS S.tp 0 → h' 95 6 = 0 → BX6_takeImage_155 C l d K 95 (g 0 12) 3 0 g h') (B : (∃ k, 0 ≤ k ∧ k < S.F.nl ∧ ¬ S.tp (2 + k) < mf_shl 1 S.F.nc) → ∀ h', frW h h' → K 0 g h') : ∀ (n : Nat) (k : Int) (h1 : mf_M), 0 ≤ k → k + n = S.F.nl → frW h h1 → dfG S h1 k → h1 95 7 = twS S.tp 0 → h1 95 6 = 0 → (∀ i, 0 ≤ i → i < k → S.tp (2 + i) < mf_shl 1 S.F.nc) → BX6_takeImage_97 C l d K 95 (g 0 12) 3 k g h1 := by
  have l6 := R.ok.F.l6
  have b0 := R.ok.F.b0
  have hf := R.fi
  intro n
  induction n with
  | zero =>
    intro k h1 k0 kn f1 G e7 e6 hp
    refine vX6_takeImage_97 hd ⟨isf R.fi, ?_⟩
    rw [(R.keep f1.N).fo.l]
    have ek : k = S.F.nl := by omega
    rw [ek] at G
    exact ⟨fun _ => A (fun i q1 q2 => hp i q1 (by omega)) h1 f1 G e7 e6, fun q => absurd (by omega) q⟩
  | succ n ih =>
    intro k h1 k0 kn f1 G e7 e6 hp
    refine vX6_takeImage_97 hd ⟨isf R.fi, ?_⟩
    rw [(R.keep f1.N).fo.l]
    refine ⟨fun q => absurd q (by omega), fun _ => ⟨fun q => absurd q (by omega), fun _ => ⟨is95, is3, ?_⟩⟩⟩
    rw [w_id (x := 2 + k) (by omega) (by omega)]
    refine R.byte f1 (by omega) (by omega) ⟨k0, by omega, fun h9 e9 => ?_⟩
    rw [show (95 : Int) + 1 = 96 from rfl] at e9
    have f9 : frW h h9 := f1.tr (by rw [e9]; exact frW.up (by decide))
    rw [show (95 : Int) + 1 = 96 from rfl, (R.keep f9.N).fo.c]
    have e96 : h9 96 k = S.tp (2 + k) := by rw [e9, up_self]
    rw [e96]
    refine ⟨fun q v10 e10 => ?_, fun q => B ⟨k, k0, by omega, q⟩ h9 f9⟩
    rw [w_id (by omega) (by omega)] at e10
    rw [e10]
    refine ih (k + 1) h9 (by omega) (by omega) f9 (fun i i0 i1 => ?_) (by rw [e9, up_row (by decide)]; exact e7) (by rw [e9, up_row (by decide)]; exact e6) (fun i q1 q2 => by
      by_cases ei : i = k
      · rw [ei]; exact q
      · exact hp i q1 (by omega))
    rw [e9, up_if]
    by_cases ei : i = k
    · rw [if_pos ⟨rfl, ei⟩, if_pos (by omega), ei]
    · rw [if_neg (by omega), G i i0 i1]
      by_cases q2 : i < k
      · rw [if_pos q2, if_pos (by omega)]
      · rw [if_neg q2, if_neg (by omega)]
theorem x_im1 (hd : 2 ≤ d) (R : RX S g h) {N : Int} (N0 : 2 ≤ N) (tn : S.tn = N + 1) (A : chkF S.tp N.toNat 0 83 = S.tp N ∧ twS S.tp 0 ≤ 999 → ∀ h', frW h h' → dfG S h' 0 → h' 95 7 = twS S.tp 0 → h' 95 6 = 0 → BX6_takeImage_97 C l d K 95 (g 0 12) 3 0 g h') (B : ¬ (chkF S.tp N.toNat 0 83 = S.tp N ∧ twS S.tp 0 ≤ 999) → ∀ h', frW h h' → K 0 g h') : ∀ (n : Nat) (k c : Int), 0 ≤ k → k + n = N → 0 ≤ c → c ≤ 255 → chkF S.tp n k c = chkF S.tp N.toNat 0 83 → BX6_takeImage_34 C l d K 95 (g 0 12) 3 N c k g h := by
  have t1 := R.ok.tn1
  intro n
  induction n with
  | zero =>
    intro k c k0 kn c0 c1 hc
    refine vX6_takeImage_34 hd ⟨fun _ => ⟨is95, wX6_forget ⟨is95, fun h2 e2 h3 e3 => ?_⟩⟩, fun q => absurd (by omega) q⟩
    have f3 : frW h h3 := by rw [e3, e2]; exact (frW.up (by decide)).tr (frW.up (by decide))
    refine x_forget (h0 := h3) is95 (fun h4 r4 z4 => ⟨is3, ?_⟩) 6 0 h3 (by decide) (by decide) (fun _ _ => rfl) (fun i q1 q2 => absurd q2 (by omega))
    have f4 : frW h h4 := f3.tr (fun a q => r4 a (by omega))
    refine R.pair f4 (by decide) (by decide) (by omega) (fun h9 e9 => ?_)
    have f9 : frW h h9 := f4.tr (by rw [e9]; exact frW.up (by decide))
    have e97 : h9 95 7 = twS S.tp 0 := by rw [e9, up_self]
    have e96 : h9 95 6 = 0 := by rw [e9, up_col (by decide), r4 95 (by decide), e3, up_self]
    refine R.byte f9 (by omega) (by omega) ?_
    rw [e97]
    have hc' : c = chkF S.tp N.toNat 0 83 := hc
    refine ⟨fun q => B (fun y => q (by rw [hc']; exact y.1)) h9 f9, fun q => ⟨fun y => A ⟨by rw [← hc']; exact q, y⟩ h9 f9 (fun i i0 i1 => ?_) e97 e96, fun y => B (fun z => y z.2) h9 f9⟩⟩
    rw [if_neg (by omega), e9, up_row (by decide)]
    exact z4 i i0 i1
  | succ n ih =>
    intro k c k0 kn c0 c1 hc
    have hb := R.ok.tp k
    refine vX6_takeImage_34 hd ⟨fun q => absurd q (by omega), fun _ => ⟨is3, R.byte (frW.rf h) k0 (by omega) (wX8_nextCheck (fun v20 e20 => ?_))⟩⟩
    rw [w_id (by omega) (by omega)] at e20
    rw [e20, w_id (x := 3 * c) (by omega) (by omega), w_id (by omega) (by omega), Int.tmod_eq_emod_of_nonneg (by omega)]
    exact ih (k + 1) _ (by omega) (by omega) (by omega) (by omega) hc
theorem X_on (hd : 4 ≤ d) (R : RX S g h) (hK : ∀ h', RX (onS3 S).2 g h' → frH h h' → K (onS3 S).1 g h') : xM C l d YX11_on [(2, 0)] g h K := by
  have t0 := R.ok.tn0
  have t1 := R.ok.tn1
  have l0 := R.ok.F.l0
  have l6 := R.ok.F.l6
  have b0 := R.ok.F.b0
  have b8 := R.ok.F.b8
  have n0 := R.ok.nx0
  have n1 := R.ok.nx1
  unfold onS3 at hK
  have bad : onB S = false → ∀ h1, frW h h1 → BX11_on_33 C l d K 0 g h1 := by
    intro q h1 f1
    rw [if_neg (by rw [q]; decide)] at hK
    refine vX11_on_33 (by omega) (fun h2 e2 => ⟨fun z => absurd rfl z, fun _ h6 e6 => ?_⟩)
    have R1 := R.keep f1.N
    have R2 : RX (S.s_tn 0) g h2 := by rw [e2]; exact R1.s_tn (by decide) t0
    rw [e6]; exact hK _ (R2.ref (by decide) (by decide)) ((f1.N.H.tr (by rw [e2]; exact frH.up (by decide))).tr (frH.up (by decide)))
  refine wX11_on hd ⟨isf R.fi, ?_⟩
  rw [R.fo.l]
  refine ⟨fun q => bad ?_ h (frW.rf h), fun q => wX6_takeImage ⟨isf R.fi, ?_⟩⟩
  · unfold onB; rw [decide_eq_false (by omega)]; rfl
  · rw [R.fo.l, R.fo.b, R.tn]
    intro v2 e2
    rw [w_id (x := 2 + S.F.nl) (by omega) (by omega), w_id (x := 6 * S.F.nb) (by omega) (by omega), w_id (by omega) (by omega)] at e2
    rw [w_id (x := v2 + 1) (by omega) (by omega)]
    refine ⟨is3, fun z => ?_, fun z => ⟨fun _ => bad ?_ h (frW.rf h), fun y => absurd rfl y⟩⟩
    · have hl : S.F.nl ≠ 0 := by omega
      have ht : S.tn = 2 + S.F.nl + 6 * S.F.nb + 1 := by omega
      have esub : S.tn - 1 = v2 := by omega
      have no : onB S = false → ∀ h', frW h h' → ((0 : Int) = 0 → BX11_on_33 C l d K 0 g h') ∧ (¬ (0 : Int) = 0 → BX11_on_33 C l d K 1 g h') := fun q h' f' => ⟨fun _ => bad q h' f', fun y => absurd rfl y⟩
      refine x_im1 (N := v2) (by decide) R (by omega) z (fun c1 h3 f3 G3 e73 e63 => ?_) (fun c1 => no ?_) v2.toNat 0 83 (by decide) (by omega) (by decide) (by decide) rfl
      · refine x_im2 (by decide) R ht (fun c2 h4 f4 G4 e74 e64 => ?_) (fun exk => no ?_) S.F.nl.toNat 0 h3 (by decide) (by omega) f3 G3 e73 e63 (fun i q1 q2 => absurd q2 (by omega))
        · refine x_im3 (by decide) R hl ht (fun c3 h5 f5 D5 G5 e75 e65 => ⟨fun y => absurd y (by decide), fun _ => ?_⟩) (fun exb => no ?_) S.F.nb.toNat 0 h4 (by decide) (by omega) f4 G4 (fun c q1 q2 => absurd q2 (by omega)) e74 e64 (fun c q1 q2 => absurd q2 (by omega))
          · obtain ⟨b, q1, q2, q3⟩ := exb
            cases hq : onB S with
            | false => rfl
            | true =>
              unfold onB at hq
              simp only [Bool.and_eq_true, allN_iff] at hq
              have := hq.2 b q1 (by omega)
              rw [q3] at this; exact absurd this (by decide)
          · have gO : onB S = true := by
              unfold onB
              rw [esub, decide_eq_true hl, decide_eq_true ht, decide_eq_true c1.1.symm, decide_eq_true c1.2, (allN_iff _ _ _).mpr (fun i q1 q2 => decide_eq_true (c2 i q1 (by omega))), (allN_iff _ _ _).mpr (fun i q1 q2 => c3 i q1 (by omega))]; rfl
            rw [if_pos gO] at hK
            refine vX11_on_33 (by omega) (fun h6 e6 => ⟨fun _ => ?_, fun y => absurd y (by decide)⟩)
            have R5 := R.keep f5.N
            have R6 : RX (S.s_tn 0) g h6 := by rw [e6]; exact R5.s_tn (by decide) t0
            have r6 : ∀ a, a ≠ 3 → h6 a = h5 a := fun a q => by rw [e6, up_row q]
            refine x_copyAll (a := 95) (b := 88) (nb := S.F.nb) (by decide) is95 is88 (by decide) b8 (fun h7 r7 d7 t7 v7 k7 h8 e8 => ?_)
            have eop : okP S.F (onV S) [] := okP.on R.ok gO
            have c8' : ∀ k, k ≠ 15 → h8 0 k = h6 0 k := fun k q => by rw [e8, up_col q, r7 0 (by decide)]
            have r8 : ∀ a, a ≠ 0 → ¬ (88 ≤ a ∧ a ≤ 94) → h8 a = h6 a := fun a q1 q2 => by rw [e8, up_row q1, r7 a (by omega)]
            have e86 : h8 88 6 = 0 := by rw [e8, up_row (by decide), t7, r6 95 (by decide), e65]
            have e87 : h8 88 7 = twS S.tp 0 := by rw [e8, up_row (by decide), d7, r6 95 (by decide), e75]
            have tw := (tw_range R.ok.tp 0).1
            refine hK h8 (R6.act (un := []) (R6.ok.act eop (by decide) (fun q hq => absurd hq (by simp)) n0 n1) (fun k q1 _ => c8' k q1) ?_ ⟨by rw [e86]; decide, by rw [e86]; rfl, fun k hk => absurd hk (by simp)⟩ (by rw [e86, e87]; omega) (by rw [e8, up_self]; rfl) (by rw [c8' 16 (by decide)]; exact R6.nx) (fun j hj => absurd hj (by simp)) (fun a q => r8 a q.1 q.2.1)) ((f5.N.H.tr (by rw [e6]; exact frH.up (by decide))).tr (fun a ha => r8 a (by omega) (by omega)))
            show vX h8 88 S.F.nb = onV S
            rw [vX_row (h := h7) (by rw [e8, up_row (by decide)]) (fun j j1 j2 => by rw [e8, up_row (by omega)]), v7]
            funext i m
            unfold vX onV
            by_cases e0 : i = 0
            · rw [if_pos e0, if_pos e0, r6 95 (by decide), e75]
            · rw [if_neg e0, if_neg e0]
              by_cases e1 : i = 1
              · rw [if_pos e1, if_pos e1]
                by_cases em : 0 ≤ m ∧ m < 6
                · rw [if_pos em, show (95 : Int) + 1 = 96 from rfl, r6 96 (by decide), G5 m em.1 em.2]
                  by_cases el : m < S.F.nl
                  · rw [if_pos el, if_pos ⟨em.1, el⟩]
                  · rw [if_neg el, if_neg (by omega)]
                · rw [if_neg em, if_neg (by omega)]
              · rw [if_neg e1, if_neg e1]
                by_cases em : 2 ≤ i ∧ i ≤ 5 ∧ 0 ≤ m ∧ m < S.F.nb
                · rw [if_pos em, if_pos em]
                  obtain ⟨w1, w2, w3, w4⟩ := D5 m em.2.2.1 em.2.2.2
                  have : i = 2 ∨ i = 3 ∨ i = 4 ∨ i = 5 := by omega
                  rcases this with rfl | rfl | rfl | rfl
                  · rw [if_pos rfl, r6 _ (by decide)]; exact w1
                  · rw [if_neg (by decide), if_pos rfl, r6 _ (by decide)]; exact w2
                  · rw [if_neg (by decide), if_neg (by decide), if_pos rfl, r6 _ (by decide)]; exact w3
                  · rw [if_neg (by decide), if_neg (by decide), if_neg (by decide), r6 _ (by decide)]; exact w4
                · rw [if_neg em, if_neg em]
        · obtain ⟨k, q1, q2, q3⟩ := exk
          cases hq : onB S with
          | false => rfl
          | true =>
            unfold onB at hq
            simp only [Bool.and_eq_true, allN_iff, decide_eq_true_eq] at hq
            exact absurd (hq.1.2 k q1 (by omega)) q3
      · unfold onB
        rw [esub]
        by_cases y : S.tp v2 = chkF S.tp v2.toNat 0 83
        · rw [decide_eq_false (fun y2 => c1 ⟨y.symm, y2⟩ : ¬ twS S.tp 0 ≤ 999)]; simp
        · rw [decide_eq_false y]; simp
    · unfold onB; rw [decide_eq_false (by omega : ¬ S.tn = 2 + S.F.nl + 6 * S.F.nb + 1)]; simp
end SxOn
