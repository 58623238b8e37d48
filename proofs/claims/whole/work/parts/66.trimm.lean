/-! trims; the tape; what is seen; images -/
/-- the first free cell from f on inward, n of them -/
def fdS (p : Int → Bool) : Nat → Int → Int
  | 0, _ => -1
  | n + 1, f => if p f then f else fdS p n (f - 1)
def trS (S : aS) (a : Int) : Nat → Int → Int → Int → Int
  | 0, _, _, s => s
  | n + 1, c, f, s => if whoS S.st S.F.nb a c = -1 then trS S a n (c + 1) f s else if fdS (fun x => freeB S.st S.F.nb a x) (f + 1).toNat f < 0 then -1 else trS S a n (c + 1) (fdS (fun x => freeB S.st S.F.nb a x) (f + 1).toNat f - 1) (s + (c - fdS (fun x => freeB S.st S.F.nb a x) (f + 1).toNat f))
def trimS (S : aS) (a m : Int) : Int := if S.F.nl ≠ 0 ∧ (0 ≤ a ∧ a < S.F.nl) ∧ 1 ≤ m ∧ m < S.F.nc then trS S a m.toNat (S.F.nc - m) (S.F.nc - m - 1) 0 else -1
theorem fd_range (p : Int → Bool) : ∀ (n : Nat) (f : Int), f + 1 = n → fdS p n f = -1 ∨ (0 ≤ fdS p n f ∧ fdS p n f ≤ f)
  | 0, f, h => Or.inl rfl
  | n + 1, f, h => by
    unfold fdS
    split
    · exact Or.inr ⟨by omega, by omega⟩
    · rcases fd_range p n (f - 1) (by omega) with q | q
      · exact Or.inl q
      · exact Or.inr ⟨q.1, by omega⟩
def byS (w k : Int) : Int := mf_and (mf_shr w (8 * (3 - k % 4))) 255
def wdS (a b c d e k : Int) : Int := if k < 4 then a else if k < 8 then b else if k < 12 then c else if k < 16 then d else e
def feedS (S : aS) (a b c d e : Int) : Int × aS := if 1600 < S.tn + 20 then (-1, refS S 0) else (S.tn + 20, (S.s_tp (fun i => if S.tn ≤ i ∧ i < S.tn + 20 then byS (wdS a b c d e (i - S.tn)) (i - S.tn) else S.tp i)).s_tn (S.tn + 20))
theorem and255 {x : Int} (h1 : -2147483648 ≤ x) (h2 : x ≤ 2147483647) : mf_and x 255 = x % 256 := by
  unfold mf_and
  have e : (Int32.ofInt x &&& Int32.ofInt 255).toInt = (x % 256) := by
    have hn : (Int32.ofInt x &&& Int32.ofInt 255).toBitVec.toNat = (x % 4294967296).toNat % 256 := by
      rw [Int32.toBitVec_and, BitVec.toNat_and]
      have a1 : (Int32.ofInt x).toBitVec.toNat = (x % 4294967296).toNat := by
        rw [Int32.toBitVec_ofInt, BitVec.toNat_ofInt]; rfl
      have a2 : (Int32.ofInt 255).toBitVec.toNat = 2 ^ 8 - 1 := by decide
      rw [a1, a2, Nat.and_two_pow_sub_one_eq_mod]
    have hlt : (Int32.ofInt x &&& Int32.ofInt 255).toBitVec.toNat < 256 := by rw [hn]; omega
    rw [Int32.toInt, BitVec.toInt_eq_toNat_of_lt (by omega), hn]
    omega
  exact e
section SpTr
variable {C : mf_G} {l : Launch} {d : Nat} {L : Int → mf_M → Prop} {S : aS} {h : mf_M}
theorem m_trim2 {a s c : Int} (hd : 2 ≤ d) (R : RM S h) (a0 : 0 ≤ a) (a1 : a < S.F.nl) (c0 : 0 ≤ c) (c8 : c < 8) (s0 : 0 ≤ s) (s1 : s ≤ 1000) : ∀ (n : Nat) (f : Int), f + 1 = n → f < c → (fdS (fun x => freeB S.st S.F.nb a x) n f < 0 → L (-1) h) → (∀ v, v = fdS (fun x => freeB S.st S.F.nb a x) n f → 0 ≤ v → v ≤ f → BX12_trim_63 C l d L a (v - 1) (s + (c - v)) (c + 1) h) → BX12_trim_88 C l d L a f s c h := by
  have l6 := R.ok.F.l6
  intro n
  induction n with
  | zero =>
    intro f fn fc hA hB
    refine vX12_trim_88 hd ⟨fun _ => ⟨fun q => absurd q (by omega), fun _ => hA (show (-1 : Int) < 0 by decide)⟩, fun q => absurd (by omega) q⟩
  | succ n ih =>
    intro f fn fc hA hB
    unfold fdS at hA hB
    have nxt : freeB S.st S.F.nb a f = false → ∀ v7 : Int, v7 = mf_w32 (f + (-1)) → BX12_trim_88 C l d L a v7 s c h := by
      intro q v7 e7
      rw [w_id (by omega) (by omega)] at e7
      rw [e7]
      refine ih (f + -1) (by omega) (by omega) (fun z => hA ?_) (fun v ev v0 vf => hB v ?_ v0 (by omega))
      · rw [if_neg (by rw [q]; decide)]; exact z
      · rw [if_neg (by rw [q]; decide)]; exact ev
    refine vX12_trim_88 hd ⟨fun q => absurd q (by omega), fun _ => M_hasGloss R a0 (by omega) (fun g => ⟨fun _ => nxt ?_, fun z => absurd z (by decide)⟩) (fun g => ⟨fun z => absurd rfl z, fun _ => M_standsOn (by omega) R ⟨fun w => ⟨fun _ => ?_, fun z => absurd (by omega) z⟩, fun w => nxt ?_⟩⟩)⟩
    · cases hq : freeB S.st S.F.nb a f with
      | false => rfl
      | true => exact absurd g (freeB_iff.mp hq).1
    · have hf : freeB S.st S.F.nb a f = true := freeB_iff.mpr ⟨g, w⟩
      have := hB f (by rw [if_pos hf]) (by omega) (by omega)
      intro v11 e11 v12 e12 v13 e13
      rw [w_id (x := c - f) (by omega) (by omega), w_id (by omega) (by omega)] at e11
      rw [w_id (by omega) (by omega)] at e12 e13
      rw [e11, e12, e13]; exact this
    · cases hq : freeB S.st S.F.nb a f with
      | false => rfl
      | true => exact absurd (freeB_iff.mp hq).2 w
theorem m_trim1 {a : Int} (hd : 2 ≤ d) (R : RM S h) (a0 : 0 ≤ a) (a1 : a < S.F.nl) : ∀ (n : Nat) (c f s : Int), 0 ≤ c → c + n = S.F.nc → -1 ≤ f → f < c → 0 ≤ s → s ≤ 8 * c → L (trS S a n c f s) h → BX12_trim_63 C l d L a f s c h := by
  have c8 := R.ok.F.c8
  intro n
  induction n with
  | zero =>
    intro c f s c0 cn f0 f1 s0 s1 hK
    exact vX12_trim_63 hd ⟨fun _ => hK, fun q => absurd (by rw [R.fo.c]; omega) q⟩
  | succ n ih =>
    intro c f s c0 cn f0 f1 s0 s1 hK
    unfold trS at hK
    refine vX12_trim_63 hd ⟨fun q => absurd q (by rw [R.fo.c]; omega), fun _ => M_standsOn (by omega) R ⟨fun w => ?_, fun w v4 e4 => ?_⟩⟩
    · rw [if_neg w] at hK
      refine m_trim2 hd R a0 a1 c0 (by omega) s0 (by omega) (f + 1).toNat f (by omega) f1 (fun q => ?_) (fun v ev v0 vf => ?_)
      · rw [if_pos q] at hK; exact hK
      · rw [if_neg (by omega)] at hK
        rw [← ev] at hK
        exact ih (c + 1) (v - 1) _ (by omega) (by omega) (by omega) (by omega) (by omega) (by omega) hK
    · rw [if_pos w] at hK
      rw [w_id (by omega) (by omega)] at e4
      rw [e4]; exact ih (c + 1) f s (by omega) (by omega) f0 (by omega) s0 (by omega) hK
theorem M_trim {a m : Int} (hd : 2 ≤ d) (R : RM S h) (hK : L (trimS S a m) h) : mM C l d YX12_trim [(2, 245), (0, a), (0, m)] h L := by
  unfold trimS at hK
  have l0 := R.ok.F.l0
  have l6 := R.ok.F.l6
  have c0 := R.ok.F.c0
  have c8 := R.ok.F.c8
  refine wX12_trim (by omega) ⟨fun q => ?_, fun q => wX12_leaves (m_isIn ?_)⟩
  · rw [R.isF] at q
    rw [if_neg (fun z => z.1 q)] at hK; exact hK
  · rw [R.isF] at q
    rw [R.fo.l, w_id (by omega) (by omega)]
    by_cases ha : 0 ≤ a ∧ a < S.F.nl
    · rw [if_pos (by omega)]
      refine ⟨fun z => absurd z (by decide), fun _ => m_isIn ?_⟩
      rw [R.fo.c, w_id (x := S.F.nc - 1) (by omega) (by omega)]
      by_cases hm : 1 ≤ m ∧ m < S.F.nc
      · rw [if_pos (by omega)]
        rw [if_pos ⟨q, ha, hm⟩] at hK
        refine ⟨fun _ v10 e10 v11 e11 => ?_, fun z => absurd z (by decide)⟩
        rw [w_id (by omega) (by omega)] at e10
        rw [e10, w_id (by omega) (by omega)] at e11
        rw [e10, e11]
        exact m_trim1 hd R ha.1 ha.2 m.toNat (S.F.nc - m) _ 0 (by omega) (by omega) (by omega) (by omega) (by decide) (by omega) hK
      · rw [if_neg (by omega)]
        rw [if_neg (fun z => hm z.2.2)] at hK
        exact ⟨fun z => absurd rfl z, fun _ => hK⟩
    · rw [if_neg (by omega)]
      rw [if_neg (fun z => ha z.2.1)] at hK
      exact ⟨fun _ => hK, fun z => absurd rfl z⟩
theorem RM.tape (R : RM S h) {h' : mf_M} {tp : Int → Int} {tn : Int} (t0 : 0 ≤ tn) (t1 : tn ≤ 1600) (b : ∀ i, 0 ≤ tp i ∧ tp i ≤ 255) (fr : ∀ a, a ≠ 245 → a ≠ 246 → h' a = h a) (co : ∀ k, k ≠ 1 → h' 245 k = h 245 k) (e1 : h' 245 1 = tn) (e2 : ∀ i, 0 ≤ i → i < tn → h' 246 i = tp i) : RM ((S.s_tp tp).s_tn tn) h' := by
  have o := R.ok
  refine ⟨⟨o.F, o.P, t0, t1, b, o.un, o.us, o.nx0, o.nx1, o.sn, o.ss, o.sd0, o.sd1, o.oc⟩, e1, e2, by rw [co 7 (by decide)]; exact R.fa, by rw [co 8 (by decide)]; exact R.pl, by rw [fr 247 (by decide) (by decide)]; exact R.rf, R.wd.keep (fun a ha => fr a (by omega) (by omega)), R.fo.keep (fun a ha => fr a ?_ ?_) (fun k hk => co k ?_), by rw [vM_row (fr 286 (by decide) (by decide))]; exact R.vi, R.kp.row (fr 286 (by decide) (by decide)), by rw [co 61 (by decide)]; exact R.th, by rw [co 69 (by decide)]; exact R.un, by rw [co 70 (by decide)]; exact R.nx, fun j hj => ⟨by rw [vM_row (fr 292 (by decide) (by decide))]; exact (R.us j hj).1, (R.us j hj).2.row (fr 292 (by decide) (by decide))⟩, by rw [co 65 (by decide)]; exact R.sn, by rw [fr 290 (by decide) (by decide)]; exact R.ss, by rw [co 71 (by decide)]; exact R.sd, by rw [co 105 (by decide)]; exact R.oc, by rw [fr 318 (by decide) (by decide)]; exact R.os, by rw [co 59 (by decide)]; exact R.ao⟩
  · simp only [List.mem_cons, List.not_mem_nil, or_false] at ha; omega
  · simp only [List.mem_cons, List.not_mem_nil, or_false] at ha; omega
  · simp only [List.mem_cons, List.not_mem_nil, or_false] at hk; omega
theorem and_255_range (x : Int) : 0 ≤ mf_and x 255 ∧ mf_and x 255 ≤ 255 := by
  have e : mf_and x 255 = mf_and (mf_w32 x) 255 := by
    unfold mf_and
    have : Int32.ofInt x = Int32.ofInt (mf_w32 x) := by
      apply Int32.toInt_inj.mp
      rw [Int32.toInt_ofInt, Int32.toInt_ofInt]
      unfold mf_w32
      exact Int.bmod_bmod.symm
    rw [this]
  have h1 : -2147483648 ≤ mf_w32 x ∧ mf_w32 x ≤ 2147483647 := by
    unfold mf_w32
    have h1 := Int.le_bmod (x := x) (m := 4294967296) (by omega)
    have h2 := Int.bmod_lt (x := x) (m := 4294967296) (by omega)
    omega
  rw [e, and255 h1.1 h1.2]
  omega
theorem m_feed {a b c e f tn : Int} {h0 : mf_M} (t0 : 0 ≤ tn) (t1 : tn + 20 ≤ 1600) (hK : ∀ h', (∀ x, x ≠ 245 → x ≠ 246 → h' x = h0 x) → (∀ k, k ≠ 1 → h' 245 k = h0 245 k) → h' 245 1 = tn + 20 → (∀ i, 0 ≤ i → i < tn → h' 246 i = h0 246 i) → (∀ i, 0 ≤ i → i < 20 → h' 246 (tn + i) = byS (wdS a b c e f i) i) → L (tn + 20) h') : ∀ (n : Nat) (k : Int) (h : mf_M), 0 ≤ k → k + n = 20 → (∀ x, x ≠ 245 → x ≠ 246 → h x = h0 x) → (∀ k, k ≠ 1 → h 245 k = h0 245 k) → h 245 1 = tn + k → (∀ i, 0 ≤ i → i < tn → h 246 i = h0 246 i) → (∀ i, 0 ≤ i → i < k → h 246 (tn + i) = byS (wdS a b c e f i) i) → BX12_feed_28 C l d L a b c e f k h := by
  intro n
  induction n with
  | zero =>
    intro k h k0 kn f1 f2 f3 f4 f5
    refine vX12_feed_28 ⟨fun _ => ?_, fun q => absurd (by omega) q⟩
    have ek : k = 20 := by omega
    rw [ek] at f3 f5
    rw [f3]; exact hK h f1 f2 f3 f4 f5
  | succ n ih =>
    intro k h k0 kn f1 f2 f3 f4 f5
    have put : ∀ w, w = wdS a b c e f k → BX12_feed_81 C l d L a b c e f k w h := by
      intro w ew
      refine vX12_feed_81 ?_
      rw [f3, Int.tmod_eq_emod_of_nonneg k0, w_id (x := 3 - k % 4) (by omega) (by omega), w_id (x := 8 * (3 - k % 4)) (by omega) (by omega)]
      refine ⟨by omega, by omega, fun h3 e3 h4 e4 v5 e5 => ?_⟩
      have e31 : h3 245 1 = tn + k := by rw [e3, up_row (by decide)]; exact f3
      rw [e31, w_id (by omega) (by omega)] at e4
      rw [w_id (by omega) (by omega)] at e5
      rw [e5]
      refine ih (k + 1) h4 (by omega) (by omega) (fun x q1 q2 => by rw [e4, up_row q1, e3, up_row q2]; exact f1 x q1 q2) (fun j q => by rw [e4, up_col q, e3, up_row (by decide)]; exact f2 j q) (by rw [e4, up_self]; omega) (fun i q1 q2 => by rw [e4, up_row (by decide), e3, up_col (by omega)]; exact f4 i q1 q2) (fun i q1 q2 => ?_)
      rw [e4, up_row (by decide), e3, up_if]
      by_cases ei : i = k
      · rw [if_pos ⟨rfl, by omega⟩, ei, ew]; rfl
      · rw [if_neg (by omega)]; exact f5 i q1 (by omega)
    refine vX12_feed_28 ⟨fun q => absurd q (by omega), fun _ => ⟨fun q4 => ⟨fun q8 => ⟨fun q12 => ⟨fun q16 => put _ ?_, fun q16 => put _ ?_⟩, fun q12 => put _ ?_⟩, fun q8 => put _ ?_⟩, fun q4 => put _ ?_⟩⟩
    · unfold wdS; rw [if_neg (by omega), if_neg (by omega), if_neg (by omega), if_neg (by omega)]
    · unfold wdS; rw [if_neg (by omega), if_neg (by omega), if_neg (by omega), if_pos (by omega)]
    · unfold wdS; rw [if_neg (by omega), if_neg (by omega), if_pos (by omega)]
    · unfold wdS; rw [if_neg (by omega), if_pos (by omega)]
    · unfold wdS; rw [if_pos (by omega)]
theorem M_feed {a b c e f : Int} (R : RM S h) (hK : ∀ h', RM (feedS S a b c e f).2 h' → frX h h' → L (feedS S a b c e f).1 h') : mM C l d YX12_feed [(2, 245), (0, a), (0, b), (0, c), (0, e), (0, f)] h L := by
  unfold feedS at hK
  have t0 := R.ok.tn0
  have t1 := R.ok.tn1
  refine wX12_feed ?_
  rw [R.tn, w_id (by omega) (by omega)]
  refine ⟨fun q => ?_, fun q h1 e1 => ?_⟩
  · rw [if_neg (by omega)] at hK
    refine m_feed (tn := S.tn) t0 q (fun h' f1 f2 f3 f4 f5 => ?_) 20 0 h (by decide) (by decide) (fun _ _ _ => rfl) (fun _ _ => rfl) (by rw [R.tn]; omega) (fun _ _ _ => rfl) (fun i q1 q2 => absurd q2 (by omega))
    refine hK h' (R.tape (by omega) q (fun i => ?_) f1 f2 f3 (fun i i0 i1 => ?_)) (fun x hx => f1 x (by omega) (by omega))
    · split
      · exact and_255_range _
      · exact R.ok.tp i
    · by_cases ei : S.tn ≤ i
      · rw [if_pos ⟨ei, i1⟩]
        have := f5 (i - S.tn) (by omega) (by omega)
        rw [show S.tn + (i - S.tn) = i by omega] at this
        exact this
      · rw [if_neg (by omega), f4 i i0 (by omega)]
        exact R.tp i i0 (by omega)
  · rw [if_pos (by omega)] at hK
    rw [e1]; exact hK _ (R.ref (by decide) (by decide)) (frX.up (by decide))
end SpTr
