/-! an image on the tape -/
def twS (f : Int → Int) (k : Int) : Int := 256 * f k + f (k + 1)
def beB (S : aS) (b : Int) : Bool := decide (S.tp (2 + S.F.nl + 6 * b) < S.F.nl) && decide (S.tp (2 + S.F.nl + 6 * b + 1) < S.F.nc) && !(decide (bitS (S.tp (2 + S.tp (2 + S.F.nl + 6 * b))) (S.tp (2 + S.F.nl + 6 * b + 1)) = 1)) && decide (twS S.tp (2 + S.F.nl + 6 * b + 2) ≤ 9999) && decide (twS S.tp (2 + S.F.nl + 6 * b + 4) ≤ 9999) && allN (fun q => !(decide (S.tp (2 + S.F.nl + 6 * q) = S.tp (2 + S.F.nl + 6 * b)) && decide (S.tp (2 + S.F.nl + 6 * q + 1) = S.tp (2 + S.F.nl + 6 * b + 1)))) b.toNat 0
def onB (S : aS) : Bool := decide (S.F.nl ≠ 0) && decide (S.tn = 2 + S.F.nl + 6 * S.F.nb + 1) && decide (S.tp (S.tn - 1) = chkF S.tp (S.tn - 1).toNat 0 83) && decide (twS S.tp 0 ≤ 999) && allN (fun k => decide (S.tp (2 + k) < mf_shl 1 S.F.nc)) S.F.nl.toNat 0 && allN (fun b => beB S b) S.F.nb.toNat 0
def onV (S : aS) : mf_M := fun j k => if j = 0 then (if k = 0 then twS S.tp 0 else 0) else if j = 1 then (if 0 ≤ k ∧ k < S.F.nl then S.tp (2 + k) else 0) else if 2 ≤ j ∧ j ≤ 5 ∧ 0 ≤ k ∧ k < S.F.nb then (if j = 2 then S.tp (2 + S.F.nl + 6 * k) else if j = 3 then S.tp (2 + S.F.nl + 6 * k + 1) else if j = 4 then twS S.tp (2 + S.F.nl + 6 * k + 2) else twS S.tp (2 + S.F.nl + 6 * k + 4)) else 0
def onS3 (S : aS) : Int × aS := if onB S then (1, (S.s_tn 0).act (onV S) [] [] S.nx) else (0, refS (S.s_tn 0) 5)
theorem shl1 {n : Int} (h0 : 0 ≤ n) (h8 : n ≤ 8) : mf_shl 1 n = 2 ^ n.toNat := by
  have : n = 0 ∨ n = 1 ∨ n = 2 ∨ n = 3 ∨ n = 4 ∨ n = 5 ∨ n = 6 ∨ n = 7 ∨ n = 8 := by omega
  rcases this with rfl | rfl | rfl | rfl | rfl | rfl | rfl | rfl | rfl <;> decide
theorem tw_range {f : Int → Int} (hf : ∀ i, 0 ≤ f i ∧ f i ≤ 255) (k : Int) : 0 ≤ twS f k ∧ twS f k ≤ 65535 := by
  have h1 := hf k
  have h2 := hf (k + 1)
  unfold twS; omega
theorem beB_iff {S : aS} {b : Int} : beB S b = true ↔ S.tp (2 + S.F.nl + 6 * b) < S.F.nl ∧ S.tp (2 + S.F.nl + 6 * b + 1) < S.F.nc ∧ ¬ bitS (S.tp (2 + S.tp (2 + S.F.nl + 6 * b))) (S.tp (2 + S.F.nl + 6 * b + 1)) = 1 ∧ twS S.tp (2 + S.F.nl + 6 * b + 2) ≤ 9999 ∧ twS S.tp (2 + S.F.nl + 6 * b + 4) ≤ 9999 ∧ ∀ q : Int, 0 ≤ q → q < 0 + (b.toNat : Int) → ¬ (S.tp (2 + S.F.nl + 6 * q) = S.tp (2 + S.F.nl + 6 * b) ∧ S.tp (2 + S.F.nl + 6 * q + 1) = S.tp (2 + S.F.nl + 6 * b + 1)) := by
  unfold beB
  simp only [Bool.and_eq_true, decide_eq_true_eq, Bool.not_eq_true', decide_eq_false_iff_not, allN_iff, Bool.and_eq_false_iff, and_assoc]
  constructor
  · rintro ⟨h1, h2, h3, h4, h5, h6⟩
    exact ⟨h1, h2, h3, h4, h5, fun q q0 q1 z => (h6 q q0 q1).elim (fun e => e z.1) (fun e => e z.2)⟩
  · rintro ⟨h1, h2, h3, h4, h5, h6⟩
    refine ⟨h1, h2, h3, h4, h5, fun q q0 q1 => ?_⟩
    by_cases e : S.tp (2 + S.F.nl + 6 * q) = S.tp (2 + S.F.nl + 6 * b)
    · exact Or.inr (fun z => h6 q q0 q1 ⟨e, z⟩)
    · exact Or.inl e
theorem okP.on {S : aS} (o : okS S) (h : onB S = true) : okP S.F (onV S) [] := by
  unfold onB at h
  simp only [Bool.and_eq_true, decide_eq_true_eq, allN_iff, and_assoc] at h
  obtain ⟨h1, h2, h3, h4, h5, h6⟩ := h
  have tp := o.tp
  have l0 := o.F.l0
  have l6 := o.F.l6
  have t0 := tw_range tp 0
  have bb : ∀ b, 0 ≤ b → b < S.F.nb → _ := fun b q0 q1 => beB_iff.mp (h6 b q0 (by omega))
  have v2 : ∀ b, 0 ≤ b → b < S.F.nb → onV S 2 b = S.tp (2 + S.F.nl + 6 * b) := fun b q0 q1 => by simp [onV, q0, q1]
  have v3 : ∀ b, 0 ≤ b → b < S.F.nb → onV S 3 b = S.tp (2 + S.F.nl + 6 * b + 1) := fun b q0 q1 => by simp [onV, q0, q1]
  have v4 : ∀ b, 0 ≤ b → b < S.F.nb → onV S 4 b = twS S.tp (2 + S.F.nl + 6 * b + 2) := fun b q0 q1 => by simp [onV, q0, q1]
  have v5 : ∀ b, 0 ≤ b → b < S.F.nb → onV S 5 b = twS S.tp (2 + S.F.nl + 6 * b + 4) := fun b q0 q1 => by simp [onV, q0, q1]
  have v0 : onV S 0 0 = twS S.tp 0 := by simp [onV]
  have v1 : ∀ k, onV S 1 k = if 0 ≤ k ∧ k < S.F.nl then S.tp (2 + k) else 0 := fun k => by simp [onV]
  refine ⟨⟨fun b q0 q1 => ?_, fun b q0 q1 => ?_, by rw [v0]; omega, by rw [v0]; exact h4⟩, fun k k0 k6 => ?_, fun k k0 k6 => ?_, fun b q0 q1 => ?_, fun b c q0 q1 c0 c1 bc => ?_, by decide, fun q hq => absurd hq (by simp)⟩
  · obtain ⟨g1, g2, -⟩ := bb b q0 q1
    rw [v2 b q0 q1, v3 b q0 q1]
    exact ⟨(tp _).1, g1, (tp _).1, g2⟩
  · obtain ⟨-, -, -, g4, g5, -⟩ := bb b q0 q1
    rw [v4 b q0 q1, v5 b q0 q1]
    exact ⟨(tw_range tp _).1, g4, (tw_range tp _).1, g5⟩
  · rw [v1]
    have hp : (0 : Int) < 2 ^ S.F.nc.toNat := Int.pow_pos (by decide)
    split
    · rename_i q
      have := h5 k q.1 (by omega)
      rw [shl1 o.F.c0 o.F.c8] at this
      exact ⟨(tp _).1, this⟩
    · exact ⟨by decide, hp⟩
  · rw [v1, if_neg (by omega)]
  · obtain ⟨g1, g2, g3, -⟩ := bb b q0 q1
    have := (tp (2 + S.F.nl + 6 * b)).1
    rw [v2 b q0 q1, v3 b q0 q1, v1, if_pos ⟨this, g1⟩]
    exact g3
  · rw [v2 b q0 q1, v3 b q0 q1, v2 c c0 c1, v3 c c0 c1]
    by_cases lt : b < c
    · exact fun z => (bb c c0 c1).2.2.2.2.2 b q0 (by omega) z
    · exact fun z => (bb b q0 q1).2.2.2.2.2 c c0 (by omega) ⟨z.1.symm, z.2.symm⟩
section SpOn
variable {C : mf_G} {l : Launch} {d : Nat} {L : Int → mf_M → Prop} {S : aS} {h : mf_M}
theorem m_twoAt {f : Int → Int} {k : Int} (k0 : 0 ≤ k) (k1 : k + 1 < 1600) (hf : ∀ i, 0 ≤ f i ∧ f i ≤ 255) (e1 : h 246 k = f k) (e2 : h 246 (k + 1) = f (k + 1)) (hK : L (twS f k) h) : mM C l d YX12_twoAt [(2, 245), (0, k)] h L := by
  have h1 := hf k
  have h2 := hf (k + 1)
  refine wX12_twoAt ?_
  rw [w_id (x := k + 1) (by omega) (by omega), e1, e2, w_id (x := 256 * f k) (by omega) (by omega), w_id (x := 256 * f k + f (k + 1)) (by omega) (by omega)]
  exact ⟨k0, by omega, by omega, k1, hK⟩
theorem m_told2 {n0 b : Int} (tp : ∀ i, 0 ≤ i → i < n0 → h 246 i = S.tp i) (n1 : n0 ≤ 1600) (l0 : 0 ≤ S.F.nl) (b0 : 0 ≤ b) (bn : 2 + S.F.nl + 6 * b + 1 < n0) : ∀ (n : Nat) (q : Int), 0 ≤ q → q + n = b → L (if allN (fun q => !(decide (S.tp (2 + S.F.nl + 6 * q) = S.tp (2 + S.F.nl + 6 * b)) && decide (S.tp (2 + S.F.nl + 6 * q + 1) = S.tp (2 + S.F.nl + 6 * b + 1)))) n q then 1 else 0) h → BX12_isBeingTold_87 C l d L (2 + S.F.nl + 6 * b) (2 + S.F.nl + 6 * q) h := by
  intro n
  induction n with
  | zero =>
    intro q q0 qn hK
    exact vX12_isBeingTold_87 ⟨fun _ => hK, fun z => absurd (by omega) z⟩
  | succ n ih =>
    intro q q0 qn hK
    unfold allN at hK
    refine vX12_isBeingTold_87 ⟨fun z => absurd z (by omega), fun _ => ?_⟩
    rw [tp (2 + S.F.nl + 6 * q) (by omega) (by omega), tp (2 + S.F.nl + 6 * b) (by omega) (by omega), w_id (x := 2 + S.F.nl + 6 * q + 1) (by omega) (by omega), w_id (x := 2 + S.F.nl + 6 * b + 1) (by omega) (by omega), tp (2 + S.F.nl + 6 * q + 1) (by omega) (by omega), tp (2 + S.F.nl + 6 * b + 1) (by omega) (by omega)]
    have nx : (S.tp (2 + S.F.nl + 6 * q) = S.tp (2 + S.F.nl + 6 * b) → ¬ S.tp (2 + S.F.nl + 6 * q + 1) = S.tp (2 + S.F.nl + 6 * b + 1)) → ∀ v5 : Int, v5 = mf_w32 (2 + S.F.nl + 6 * q + 6) → BX12_isBeingTold_87 C l d L (2 + S.F.nl + 6 * b) v5 h := by
      intro z v5 e5
      rw [w_id (by omega) (by omega), show 2 + S.F.nl + 6 * q + 6 = 2 + S.F.nl + 6 * (q + 1) by omega] at e5
      rw [e5]
      refine ih (q + 1) (by omega) (by omega) ?_
      by_cases e : S.tp (2 + S.F.nl + 6 * q) = S.tp (2 + S.F.nl + 6 * b)
      · rw [decide_eq_false (z e), Bool.and_false, Bool.not_false, Bool.true_and] at hK; exact hK
      · rw [decide_eq_false e, Bool.false_and, Bool.not_false, Bool.true_and] at hK; exact hK
    refine ⟨by omega, by omega, by omega, by omega, fun e => nx (fun z => absurd z e), fun e => ⟨by omega, by omega, by omega, by omega, fun y => nx (fun _ => y), fun y => ?_⟩⟩
    rw [decide_eq_true e, decide_eq_true y] at hK
    exact hK
theorem m_told1 {n0 b : Int} (hd : 2 ≤ d) (R : RM S h) (tp : ∀ i, 0 ≤ i → i < n0 → h 246 i = S.tp i) (n1 : n0 ≤ 1600) (b0 : 0 ≤ b) (bn : 2 + S.F.nl + 6 * b + 5 < n0) (hl : S.F.nl ≠ 0) (hK : L (if beB S b then 1 else 0) h) : mM C l d YX12_isBeingTold [(2, 245), (0, 2 + S.F.nl), (0, b)] h L := by
  have l0 := R.ok.F.l0
  have l6 := R.ok.F.l6
  have rg := R.ok.tp
  have no : beB S b = false → L 0 h := by intro q; rw [if_neg (by rw [q]; decide)] at hK; exact hK
  refine wX12_isBeingTold hd (fun v1 e1 => ?_)
  rw [w_id (x := 6 * b) (by omega) (by omega), w_id (by omega) (by omega)] at e1
  rw [e1, w_id (x := 2 + S.F.nl + 6 * b + 1) (by omega) (by omega), w_id (x := 2 + S.F.nl + 6 * b + 2) (by omega) (by omega), w_id (x := 2 + S.F.nl + 6 * b + 4) (by omega) (by omega), tp (2 + S.F.nl + 6 * b) (by omega) (by omega), tp (2 + S.F.nl + 6 * b + 1) (by omega) (by omega)]
  have r1 := rg (2 + S.F.nl + 6 * b)
  have r2 := rg (2 + S.F.nl + 6 * b + 1)
  refine ⟨by omega, by omega, by omega, by omega, M_isCell (by decide) R (fun hc => ⟨fun z => absurd z (by decide), fun _ => ?_⟩) (fun hc => ⟨fun _ => no ?_, fun z => absurd rfl z⟩)⟩
  · rw [tp (2 + S.F.nl + 6 * b) (by omega) (by omega), tp (2 + S.F.nl + 6 * b + 1) (by omega) (by omega), w_id (x := 2 + S.tp (2 + S.F.nl + 6 * b)) (by omega) (by omega), tp (2 + S.tp (2 + S.F.nl + 6 * b)) (by omega) (by omega)]
    refine ⟨by omega, by omega, fun g => no ?_, fun g => m_twoAt (by omega) (by omega) rg (tp _ (by omega) (by omega)) (tp _ (by omega) (by omega)) ⟨fun y => no ?_, fun y => m_twoAt (by omega) (by omega) rg (tp _ (by omega) (by omega)) (tp _ (by omega) (by omega)) ⟨fun x => ?_, fun x => no ?_⟩⟩⟩
    · cases hq : beB S b with
      | false => rfl
      | true => exact absurd g (beB_iff.mp hq).2.2.1
    · cases hq : beB S b with
      | false => rfl
      | true => exact absurd (beB_iff.mp hq).2.2.2.1 (by omega)
    · have := m_told2 (C := C) (l := l) (d := d) (L := L) (h := h) (S := S) (b := b) tp n1 l0 b0 (by omega) b.toNat 0 (by decide) (by omega)
      rw [show 2 + S.F.nl + 6 * (0 : Int) = 2 + S.F.nl by omega] at this
      refine this ?_
      unfold beB at hK
      rw [decide_eq_true hc.2.1, decide_eq_true hc.2.2.2, decide_eq_false (show ¬ bitS (S.tp (2 + S.tp (2 + S.F.nl + 6 * b))) (S.tp (2 + S.F.nl + 6 * b + 1)) = 1 from g), decide_eq_true (show twS S.tp (2 + S.F.nl + 6 * b + 2) ≤ 9999 by omega), decide_eq_true (show twS S.tp (2 + S.F.nl + 6 * b + 4) ≤ 9999 from x)] at hK
      simpa using hK
    · cases hq : beB S b with
      | false => rfl
      | true => exact absurd (beB_iff.mp hq).2.2.2.2.1 (by omega)
  · cases hq : beB S b with
    | false => rfl
    | true => exact absurd ⟨r1.1, (beB_iff.mp hq).1, r2.1, (beB_iff.mp hq).2.1⟩ hc
theorem m_isIm2 {n0 : Int} (hd : 3 ≤ d) (R : RM S h) (tp : ∀ i, 0 ≤ i → i < n0 → h 246 i = S.tp i) (n1 : n0 ≤ 1600) (bn : 2 + S.F.nl + 6 * S.F.nb < n0) (hl : S.F.nl ≠ 0) : ∀ (n : Nat) (b : Int), 0 ≤ b → b + n = S.F.nb → L (if allN (fun b => beB S b) n b then 1 else 0) h → BX12_isImage_97 C l d L (2 + S.F.nl) b h := by
  have b8 := R.ok.F.b8
  intro n
  induction n with
  | zero =>
    intro b b0 bn2 hK
    exact vX12_isImage_97 hd (wX12_beingMany ⟨fun _ => hK, fun q => absurd (by rw [R.fo.b]; omega) q⟩)
  | succ n ih =>
    intro b b0 bn2 hK
    unfold allN at hK
    refine vX12_isImage_97 hd (wX12_beingMany ⟨fun q => absurd q (by rw [R.fo.b]; omega), fun _ => m_told1 (by decide) R tp n1 b0 (by omega) hl ?_⟩)
    by_cases g : beB S b = true
    · rw [if_pos g]
      rw [g, Bool.true_and] at hK
      refine ⟨fun _ v7 e7 => ?_, fun z => absurd z (by decide)⟩
      rw [w_id (by omega) (by omega)] at e7
      rw [e7]; exact ih (b + 1) (by omega) (by omega) hK
    · rw [if_neg g]
      have g2 : beB S b = false := by simpa using g
      rw [g2, Bool.false_and] at hK
      exact ⟨fun z => absurd rfl z, fun _ => hK⟩
theorem m_isIm1 {n0 : Int} (R : RM S h) (tp : ∀ i, 0 ≤ i → i < n0 → h 246 i = S.tp i) (n1 : n0 ≤ 1600) (bn : 2 + S.F.nl + 6 * S.F.nb < n0) : ∀ (n : Nat) (k : Int), 0 ≤ k → k + n = S.F.nl → (allN (fun k => decide (S.tp (2 + k) < mf_shl 1 S.F.nc)) n k = true → BX12_isImage_97 C l d L (2 + S.F.nl) 0 h) → (allN (fun k => decide (S.tp (2 + k) < mf_shl 1 S.F.nc)) n k = false → L 0 h) → BX12_isImage_65 C l d L (2 + S.F.nl) (2 + k) h := by
  have b0 := R.ok.F.b0
  have l6 := R.ok.F.l6
  intro n
  induction n with
  | zero =>
    intro k k0 kn hA hB
    exact vX12_isImage_65 ⟨fun _ => hA rfl, fun q => absurd (by omega) q⟩
  | succ n ih =>
    intro k k0 kn hA hB
    unfold allN at hA hB
    refine vX12_isImage_65 ⟨fun q => absurd q (by omega), fun _ => ?_⟩
    rw [tp (2 + k) (by omega) (by omega), R.fo.c]
    refine ⟨by omega, by omega, fun g v3 e3 => ?_, fun g => hB (by rw [decide_eq_false g, Bool.false_and])⟩
    rw [w_id (by omega) (by omega), Int.add_assoc] at e3
    rw [e3]
    refine ih (k + 1) (by omega) (by omega) (fun z => hA ?_) (fun z => hB ?_)
    · rw [decide_eq_true g, z]; rfl
    · rw [decide_eq_true g, z]; rfl
theorem M_isImage {N : Int} (hd : 3 ≤ d) (R : RM S h) (N0 : 0 ≤ N) (N1 : N ≤ 1600) (tp : ∀ i, 0 ≤ i → i < N → h 246 i = S.tp i) (hK : L (if onB (S.s_tn N) then 1 else 0) h) : mM C l d YX12_isImage [(2, 245), (0, N)] h L := by
  have b0 := R.ok.F.b0
  have b8 := R.ok.F.b8
  have l0 := R.ok.F.l0
  have l6 := R.ok.F.l6
  have rg := R.ok.tp
  have e : onB (S.s_tn N) = (decide (S.F.nl ≠ 0) && decide (N = 2 + S.F.nl + 6 * S.F.nb + 1) && decide (S.tp (N - 1) = chkF S.tp (N - 1).toNat 0 83) && decide (twS S.tp 0 ≤ 999) && allN (fun k => decide (S.tp (2 + k) < mf_shl 1 S.F.nc)) S.F.nl.toNat 0 && allN (fun b => beB S b) S.F.nb.toNat 0) := rfl
  rw [e] at hK
  refine wX12_isImage (by omega) (wX12_leaves (fun v4 e4 => ?_))
  rw [R.fo.l, w_id (by omega) (by omega)] at e4
  rw [e4]
  refine ⟨fun q => ?_, fun q => wX12_beingMany ?_⟩
  · rw [R.isF] at q
    rw [decide_eq_false (by simpa using q)] at hK
    simpa using hK
  · rw [R.isF] at q
    rw [decide_eq_true q, Bool.true_and] at hK
    rw [R.fo.b, w_id (x := 6 * S.F.nb) (by omega) (by omega), w_id (x := 2 + S.F.nl + 6 * S.F.nb) (by omega) (by omega), w_id (x := 2 + S.F.nl + 6 * S.F.nb + 1) (by omega) (by omega), w_id (x := N - 1) (by omega) (by omega)]
    refine ⟨fun y => ?_, fun y => ⟨by omega, by omega, wX12_checked (m_checked (f := S.tp) ⟨by decide, by decide, by decide⟩ (by show N - 1 ≤ 1600; omega) (fun i i0 i1 => ⟨tp i i0 (by omega), rg i⟩) (N - 1).toNat 0 83 (by decide) (by omega) (by omega) (by decide) (by decide) ?_)⟩⟩
    · rw [decide_eq_false y] at hK
      simpa using hK
    · rw [decide_eq_true y, Bool.true_and] at hK
      rw [tp (N - 1) (by omega) (by omega)]
      refine ⟨fun x => ?_, fun x => m_twoAt (f := S.tp) (by decide) (by decide) rg (tp _ (by decide) (by omega)) (tp _ (by decide) (by omega)) ⟨fun w => ?_, fun w => ?_⟩⟩
      · rw [decide_eq_false x] at hK
        simpa using hK
      · rw [decide_eq_true x, decide_eq_true w, Bool.true_and, Bool.true_and] at hK
        have := m_isIm1 (C := C) (l := l) (d := d) (L := L) R tp N1 (by omega) S.F.nl.toNat 0 (by decide) (by omega) (fun z => ?_) (fun z => ?_)
        · exact this
        · refine m_isIm2 hd R tp N1 (by omega) q S.F.nb.toNat 0 (by decide) (by omega) ?_
          rw [z, Bool.true_and] at hK; exact hK
        · rw [z, Bool.false_and] at hK; exact hK
      · rw [decide_eq_true x, decide_eq_false w] at hK
        simpa using hK
theorem m_on2 {h0 : mf_M} (hd : 1 ≤ d) (o : okS S) (fo : folR S.F h0) (tp : ∀ i, 0 ≤ i → i < 2 + S.F.nl + 6 * S.F.nb + 1 → h0 246 i = S.tp i) (hK : ∀ h', (∀ a, a ≠ 245 → a ≠ 286 → h' a = h0 a) → (∀ k, k ≠ 69 → h' 245 k = h0 245 k) → h' 245 69 = 0 → h' 286 39 = 0 → (∀ i, i < 7 → h' 286 i = h0 286 i) → (∀ b, 0 ≤ b → b < S.F.nb → h' 286 (7 + 4 * b) = S.tp (2 + S.F.nl + 6 * b) ∧ h' 286 (8 + 4 * b) = S.tp (2 + S.F.nl + 6 * b + 1) ∧ h' 286 (9 + 4 * b) = twS S.tp (2 + S.F.nl + 6 * b + 2) ∧ h' 286 (10 + 4 * b) = twS S.tp (2 + S.F.nl + 6 * b + 4)) → L 1 h') : ∀ (n : Nat) (b : Int) (h : mf_M), 0 ≤ b → b + n = S.F.nb → (∀ a, a ≠ 286 → h a = h0 a) → (∀ i, i < 7 → h 286 i = h0 286 i) → (∀ c, 0 ≤ c → c < b → h 286 (7 + 4 * c) = S.tp (2 + S.F.nl + 6 * c) ∧ h 286 (8 + 4 * c) = S.tp (2 + S.F.nl + 6 * c + 1) ∧ h 286 (9 + 4 * c) = twS S.tp (2 + S.F.nl + 6 * c + 2) ∧ h 286 (10 + 4 * c) = twS S.tp (2 + S.F.nl + 6 * c + 4)) → BX12_on_75 C l d L b h := by
  have b8 := o.F.b8
  have l0 := o.F.l0
  have l6 := o.F.l6
  have rg := o.tp
  intro n
  induction n with
  | zero =>
    intro b h b0 bn f1 f2 f3
    have eb : h 277 3 = S.F.nb := by rw [f1 277 (by decide)]; exact fo.b
    refine vX12_on_75 hd (wX12_beingMany ⟨fun _ h4 e4 h5 e5 => ?_, fun q => absurd (by rw [eb]; omega) q⟩)
    refine hK h5 (fun a q1 q2 => by rw [e5, up_row q1, e4, up_row q2]; exact f1 a q2) (fun k q => by rw [e5, up_col q, e4, up_row (by decide), f1 245 (by decide)]) (by rw [e5, up_self]) (by rw [e5, up_row (by decide), e4, up_self]) (fun i q => by rw [e5, up_row (by decide), e4, up_col (by omega)]; exact f2 i q) (fun c c0 c1 => ?_)
    have hi : ∀ i, i < 39 → h5 286 i = h 286 i := fun i q => by rw [e5, up_row (by decide), e4, up_col (by omega)]
    rw [hi _ (by omega), hi _ (by omega), hi _ (by omega), hi _ (by omega)]
    exact f3 c c0 (by omega)
  | succ n ih =>
    intro b h b0 bn f1 f2 f3
    have eb : h 277 3 = S.F.nb := by rw [f1 277 (by decide)]; exact fo.b
    have el : h 276 2 = S.F.nl := by rw [f1 276 (by decide)]; exact fo.l
    refine vX12_on_75 hd (wX12_beingMany ⟨fun q => absurd q (by rw [eb]; omega), fun _ => wX12_leaves (fun v9 e9 => ?_)⟩)
    rw [el, w_id (x := 2 + S.F.nl) (by omega) (by omega), w_id (x := 6 * b) (by omega) (by omega), w_id (by omega) (by omega)] at e9
    rw [e9, w_id (x := 4 * b) (by omega) (by omega), w_id (x := 7 + 4 * b) (by omega) (by omega), w_id (x := 7 + 4 * b + 1) (by omega) (by omega), w_id (x := 7 + 4 * b + 2) (by omega) (by omega), w_id (x := 7 + 4 * b + 3) (by omega) (by omega), w_id (x := 2 + S.F.nl + 6 * b + 1) (by omega) (by omega), w_id (x := 2 + S.F.nl + 6 * b + 2) (by omega) (by omega), w_id (x := 2 + S.F.nl + 6 * b + 4) (by omega) (by omega)]
    have t46 : ∀ i, 0 ≤ i → i < 2 + S.F.nl + 6 * S.F.nb + 1 → h 246 i = S.tp i := fun i q1 q2 => by rw [f1 246 (by decide)]; exact tp i q1 q2
    rw [t46 (2 + S.F.nl + 6 * b) (by omega) (by omega)]
    refine ⟨by omega, by omega, by omega, by omega, fun h14 e14 => ⟨by omega, by omega, by omega, by omega, fun h19 e19 => ?_⟩⟩
    have g14 : ∀ a, a ≠ 286 → h14 a = h a := fun a q => by rw [e14, up_row q]
    rw [g14 246 (by decide), t46 (2 + S.F.nl + 6 * b + 1) (by omega) (by omega)] at e19
    have g19 : ∀ a, a ≠ 286 → h19 a = h a := fun a q => by rw [e19, up_row q, g14 a q]
    have t19 : ∀ i, 0 ≤ i → i < 2 + S.F.nl + 6 * S.F.nb + 1 → h19 246 i = S.tp i := fun i q1 q2 => by rw [g19 246 (by decide)]; exact t46 i q1 q2
    refine m_twoAt (f := S.tp) (by omega) (by omega) rg (t19 _ (by omega) (by omega)) (t19 _ (by omega) (by omega)) ⟨by omega, by omega, fun h25 e25 => ?_⟩
    have g25 : ∀ a, a ≠ 286 → h25 a = h a := fun a q => by rw [e25, up_row q, g19 a q]
    have t25 : ∀ i, 0 ≤ i → i < 2 + S.F.nl + 6 * S.F.nb + 1 → h25 246 i = S.tp i := fun i q1 q2 => by rw [g25 246 (by decide)]; exact t46 i q1 q2
    refine m_twoAt (f := S.tp) (by omega) (by omega) rg (t25 _ (by omega) (by omega)) (t25 _ (by omega) (by omega)) ⟨by omega, by omega, fun h31 e31 v32 e32 => ?_⟩
    rw [w_id (by omega) (by omega)] at e32
    rw [e32]
    have g31 : ∀ i, h31 286 i = if i = 7 + 4 * b + 3 then twS S.tp (2 + S.F.nl + 6 * b + 4) else if i = 7 + 4 * b + 2 then twS S.tp (2 + S.F.nl + 6 * b + 2) else if i = 7 + 4 * b + 1 then S.tp (2 + S.F.nl + 6 * b + 1) else if i = 7 + 4 * b then S.tp (2 + S.F.nl + 6 * b) else h 286 i := by
      intro i
      rw [e31, up_if, e25, up_if, e19, up_if, e14, up_if]
      simp only [true_and]
    refine ih (b + 1) h31 (by omega) (by omega) (fun a q => by rw [e31, up_row q, g25 a q]; exact f1 a q) (fun i q => ?_) (fun c c0 c1 => ?_)
    · rw [g31, if_neg (by omega), if_neg (by omega), if_neg (by omega), if_neg (by omega)]; exact f2 i q
    · by_cases ec : c = b
      · subst ec
        rw [g31, g31, g31, g31]
        refine ⟨?_, ?_, ?_, ?_⟩
        · rw [if_neg (by omega), if_neg (by omega), if_neg (by omega), if_pos rfl]
        · rw [if_neg (by omega), if_neg (by omega), if_pos (by omega)]
        · rw [if_neg (by omega), if_pos (by omega)]
        · rw [if_pos (by omega)]
      · rw [g31, g31, g31, g31]
        have := f3 c c0 (by omega)
        refine ⟨?_, ?_, ?_, ?_⟩
        · rw [if_neg (by omega), if_neg (by omega), if_neg (by omega), if_neg (by omega)]; exact this.1
        · rw [if_neg (by omega), if_neg (by omega), if_neg (by omega), if_neg (by omega)]; exact this.2.1
        · rw [if_neg (by omega), if_neg (by omega), if_neg (by omega), if_neg (by omega)]; exact this.2.2.1
        · rw [if_neg (by omega), if_neg (by omega), if_neg (by omega), if_neg (by omega)]; exact this.2.2.2
theorem m_on1 {h0 : mf_M} (hd : 1 ≤ d) (o : okS S) (fo : folR S.F h0) (tp : ∀ i, 0 ≤ i → i < 2 + S.F.nl + 6 * S.F.nb + 1 → h0 246 i = S.tp i) (hK : ∀ h', (∀ a, a ≠ 286 → h' a = h0 a) → (∀ k, 0 ≤ k → k < 6 → h' 286 (1 + k) = if k < S.F.nl then S.tp (2 + k) else h0 286 (1 + k)) → h' 286 0 = h0 286 0 → BX12_on_75 C l d L 0 h') : ∀ (n : Nat) (k : Int) (h : mf_M), 0 ≤ k → k + n = S.F.nl → (∀ a, a ≠ 286 → h a = h0 a) → (∀ i, 0 ≤ i → i < 6 → h 286 (1 + i) = if i < k then S.tp (2 + i) else h0 286 (1 + i)) → h 286 0 = h0 286 0 → BX12_on_43 C l d L k h := by
  have b0 := o.F.b0
  have l6 := o.F.l6
  intro n
  induction n with
  | zero =>
    intro k h k0 kn f1 f2 f3
    have ek : k = S.F.nl := by omega
    have el : h 276 2 = S.F.nl := by rw [f1 276 (by decide)]; exact fo.l
    refine vX12_on_43 hd (wX12_leaves ⟨fun _ => hK h f1 (by rw [ek] at f2; exact f2) f3, fun q => absurd (by rw [el]; omega) q⟩)
  | succ n ih =>
    intro k h k0 kn f1 f2 f3
    have el : h 276 2 = S.F.nl := by rw [f1 276 (by decide)]; exact fo.l
    refine vX12_on_43 hd (wX12_leaves ⟨fun q => absurd q (by rw [el]; omega), fun _ => ?_⟩)
    rw [w_id (x := 2 + k) (by omega) (by omega), w_id (x := 1 + k) (by omega) (by omega), f1 246 (by decide), tp (2 + k) (by omega) (by omega)]
    refine ⟨by omega, by omega, by omega, by omega, fun h8 e8 v9 e9 => ?_⟩
    rw [w_id (by omega) (by omega)] at e9
    rw [e9]
    refine ih (k + 1) h8 (by omega) (by omega) (fun a q => by rw [e8, up_row q]; exact f1 a q) (fun i i0 i6 => ?_) (by rw [e8, up_col (by omega)]; exact f3)
    rw [e8, up_if]
    by_cases e : i = k
    · rw [if_pos ⟨rfl, by omega⟩, if_pos (by omega), e]
    · rw [if_neg (by omega), f2 i i0 i6]
      by_cases e2 : i < k
      · rw [if_pos e2, if_pos (by omega)]
      · rw [if_neg e2, if_neg (by omega)]
theorem M_on (hd : 4 ≤ d) (R : RM S h) (hK : ∀ h', RM (onS3 S).2 h' → frX h h' → L (onS3 S).1 h') : mM C l d YX12_on [(2, 245)] h L := by
  have t0 := R.ok.tn0
  have t1 := R.ok.tn1
  have l0 := R.ok.F.l0
  have l6 := R.ok.F.l6
  have b0 := R.ok.F.b0
  have b8 := R.ok.F.b8
  have rg := R.ok.tp
  unfold onS3 at hK
  refine wX12_on hd (fun v1 e1 h2 e2 => ?_)
  rw [R.tn] at e1
  rw [e1]
  have R2 : RM (S.s_tn 0) h2 := by rw [e2]; exact R.s_tn (by decide) t0
  have f2 : frX h h2 := by rw [e2]; exact frX.up (by decide)
  have tp2 : ∀ i, 0 ≤ i → i < S.tn → h2 246 i = S.tp i := fun i q1 q2 => by rw [e2, up_row (by decide)]; exact R.tp i q1 q2
  refine M_isImage (by decide) R2 t0 t1 tp2 ?_
  have eo : onB ((S.s_tn 0).s_tn S.tn) = onB S := rfl
  rw [eo]
  by_cases g : onB S = true
  · rw [if_pos g]
    rw [if_pos g] at hK
    have gg := g
    unfold onB at gg
    simp only [Bool.and_eq_true, decide_eq_true_eq, allN_iff, and_assoc] at gg
    obtain ⟨hl, htn, -, -, -, -⟩ := gg
    refine ⟨fun _ => m_twoAt (f := S.tp) (by decide) (by decide) rg (tp2 _ (by decide) (by omega)) (tp2 _ (by decide) (by omega)) (fun h9 e9 => ?_), fun z => absurd z (by decide)⟩
    have r9 : ∀ a, a ≠ 286 → h9 a = h2 a := fun a q => by rw [e9, up_row q]
    have tp9 : ∀ i, 0 ≤ i → i < 2 + S.F.nl + 6 * S.F.nb + 1 → h2 246 i = (S.s_tn 0).tp i := fun i q1 q2 => tp2 i q1 (by omega)
    have fo9 : folR S.F h9 := R2.fo.keep (fun a ha => r9 a (by simp only [List.mem_cons, List.not_mem_nil, or_false] at ha; omega)) (fun k _ => by rw [r9 245 (by decide)])
    refine m_on1 (h0 := h9) (S := S) (by omega) R.ok fo9 (fun i q1 q2 => by rw [r9 246 (by decide)]; exact tp9 i q1 q2) (fun h3 g1 g2 g3 => ?_) S.F.nl.toNat 0 h9 (by decide) (by omega) (fun _ _ => rfl) (fun i i0 i6 => by rw [if_neg (by omega)]) rfl
    have fo3 : folR S.F h3 := fo9.keep (fun a ha => g1 a (by simp only [List.mem_cons, List.not_mem_nil, or_false] at ha; omega)) (fun k _ => by rw [g1 245 (by decide)])
    refine m_on2 (h0 := h3) (S := S) (by omega) R.ok fo3 (fun i q1 q2 => by rw [g1 246 (by decide), r9 246 (by decide)]; exact tp9 i q1 q2) (fun h4 p1 p2 p3 p4 p5 p6 => ?_) S.F.nb.toNat 0 h3 (by decide) (by omega) (fun _ _ => rfl) (fun _ _ => rfl) (fun c q1 q2 => absurd q2 (by omega))
    have r4 : ∀ a, a ≠ 245 → a ≠ 286 → h4 a = h2 a := fun a q1 q2 => by rw [p1 a q1 q2, g1 a q2, r9 a q2]
    have c4 : ∀ k, k ≠ 69 → h4 245 k = h2 245 k := fun k q => by rw [p2 k q, g1 245 (by decide), r9 245 (by decide)]
    have eop : okP S.F (onV S) [] := okP.on R.ok g
    refine hK h4 (R2.act (R2.ok.act eop (by decide) (fun q hq => absurd hq (by simp)) R.ok.nx0 R.ok.nx1) (fun a q1 q2 _ _ _ _ _ _ _ _ => r4 a q1 q2) (fun k hk => c4 k (by rintro rfl; simp at hk)) (by rw [c4 59 (by decide)]; exact R2.ao) ?_ ⟨by rw [show (0 : Int) + 39 = 39 from rfl, p4]; rfl, by decide, fun k hk => absurd hk (by simp)⟩ (by rw [p3]; rfl) (by rw [c4 70 (by decide)]; exact R2.nx) (fun j hj => absurd hj (by simp))) (f2.tr (fun a ha => r4 a (by omega) (by omega)))
    show vM h4 286 0 S.F.nb = onV S
    funext i m
    unfold vM onV
    by_cases e0 : i = 0
    · rw [if_pos e0, if_pos e0, p5 0 (by decide), g3, e9, up_self]
    · rw [if_neg e0, if_neg e0]
      by_cases e1 : i = 1
      · rw [if_pos e1, if_pos e1]
        by_cases em : 0 ≤ m ∧ m < 6
        · rw [if_pos em, show (0 : Int) + 1 + m = 1 + m by omega, p5 (1 + m) (by omega), g2 m em.1 em.2]
          by_cases el : m < S.F.nl
          · rw [if_pos el, if_pos ⟨em.1, el⟩]
          · rw [if_neg el, if_neg (by omega), e9, up_col (by omega)]
            have : h2 286 (1 + m) = S.st 1 m := R2.gl em.1 em.2
            rw [this]; exact R.ok.P.gz m (by omega) em.2
        · rw [if_neg em, if_neg (by omega)]
      · rw [if_neg e1, if_neg e1]
        by_cases em : 2 ≤ i ∧ i ≤ 5 ∧ 0 ≤ m ∧ m < S.F.nb
        · rw [if_pos em, if_pos em]
          obtain ⟨w1, w2, w3, w4⟩ := p6 m em.2.2.1 em.2.2.2
          have : i = 2 ∨ i = 3 ∨ i = 4 ∨ i = 5 := by omega
          rcases this with rfl | rfl | rfl | rfl
          · rw [if_pos rfl]; exact w1
          · rw [if_neg (by decide), if_pos rfl]; exact w2
          · rw [if_neg (by decide), if_neg (by decide), if_pos rfl]; exact w3
          · rw [if_neg (by decide), if_neg (by decide), if_neg (by decide)]; exact w4
        · rw [if_neg em, if_neg em]
  · rw [if_neg g]
    rw [if_neg g] at hK
    refine ⟨fun z => absurd rfl z, fun _ h10 e10 => ?_⟩
    rw [e10]; exact hK _ (R2.ref (by decide) (by decide)) (f2.tr (frX.up (by decide)))
end SpOn
