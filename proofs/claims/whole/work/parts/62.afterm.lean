section SpAf
variable {C : mf_G} {l : Launch} {d : Nat} {L : Int → mf_M → Prop} {S : aS} {h : mf_M}
theorem m_aft3 {w set best few b most c : Int} (hd : 1 ≤ d) (R : RM S h) (hs : stdM S h (S.F.nl + 1)) (b0 : 0 ≤ b) (bn : b < S.F.nb) (c0 : 0 ≤ c) (c8 : c ≤ 8) : ∀ (n : Nat) (o a : Int), 0 ≤ o → o + n = S.F.nl + 1 → 0 ≤ a → a + n ≤ 100 → (BX12_after_54 C l d L w set best few b (if most < a + lefS S set b c n o then a + lefS S set b c n o else most) (c + 1) h) → BX12_after_71 C l d L w set best few b most c a o h := by
  have l6 := R.ok.F.l6
  have b8 := R.ok.F.b8
  intro n
  induction n with
  | zero =>
    intro o a o0 on a0 an hK
    simp only [lefS, Int.add_zero] at hK
    refine vX12_after_71 hd (wX12_leaves ⟨fun _ => ⟨fun q v e => ?_, fun q v e => ?_⟩, fun q => absurd (by rw [R.fo.l]; omega) q⟩)
    · rw [if_neg (by omega)] at hK
      rw [w_id (by omega) (by omega)] at e
      rw [e]; exact hK
    · rw [if_pos (by omega)] at hK
      rw [w_id (by omega) (by omega)] at e
      rw [e]; exact hK
  | succ n ih =>
    intro o a o0 on a0 an hK
    unfold lefS at hK
    rw [← Int.add_assoc] at hK
    refine vX12_after_71 hd (wX12_leaves ⟨fun q => absurd q (by rw [R.fo.l]; omega), fun _ => ⟨fun q v e => ?_, fun q => ?_⟩⟩)
    · have nq : ¬ (bitS set o = 1 ∧ cthS S o b = c) := fun z => q z.1
      rw [if_neg nq, Int.add_zero] at hK
      rw [w_id (by omega) (by omega)] at e
      rw [e]; exact ih (o + 1) a (by omega) (by omega) a0 (by omega) hK
    · rw [w_id (x := 8 * o) (by omega) (by omega), w_id (x := 8 * o + b) (by omega) (by omega), hs o b o0 (by omega) b0 bn]
      refine ⟨by omega, by omega, fun y v e => ?_, fun y v e v2 e2 => ?_⟩
      · have nq : ¬ (bitS set o = 1 ∧ cthS S o b = c) := fun z => y z.2
        rw [if_neg nq, Int.add_zero] at hK
        rw [w_id (by omega) (by omega)] at e
        rw [e]; exact ih (o + 1) a (by omega) (by omega) a0 (by omega) hK
      · have pq : bitS set o = 1 ∧ cthS S o b = c := ⟨q, y⟩
        rw [if_pos pq] at hK
        rw [w_id (by omega) (by omega)] at e e2
        rw [e, e2]; exact ih (o + 1) (a + 1) (by omega) (by omega) (by omega) (by omega) hK
theorem m_aft2 {w set best few b : Int} (hd : 1 ≤ d) (R : RM S h) (hs : stdM S h (S.F.nl + 1)) (b0 : 0 ≤ b) (bn : b < S.F.nb) : ∀ (n : Nat) (c m : Int), 0 ≤ c → c + n = S.F.nc → (if best = -1 ∨ mosS S set b n c m < few then BX12_after_35 C l d L w set b (mosS S set b n c m) (b + 1) h else BX12_after_35 C l d L w set best few (b + 1) h) → BX12_after_54 C l d L w set best few b m c h := by
  have c8 := R.ok.F.c8
  have b8 := R.ok.F.b8
  have l0 := R.ok.F.l0
  have l6 := R.ok.F.l6
  intro n
  induction n with
  | zero =>
    intro c m c0 cn hK
    have em : mosS S set b 0 c m = m := rfl
    rw [em] at hK
    refine vX12_after_54 ⟨fun _ => ⟨fun q v e => ?_, fun q => ⟨fun y v e => ?_, fun y v e => ?_⟩⟩, fun q => absurd (by rw [R.fo.c]; omega) q⟩
    · rw [if_pos (Or.inl q)] at hK
      rw [w_id (by omega) (by omega)] at e
      rw [e]; exact hK
    · rw [if_pos (Or.inr y)] at hK
      rw [w_id (by omega) (by omega)] at e
      rw [e]; exact hK
    · rw [if_neg (by omega)] at hK
      rw [w_id (by omega) (by omega)] at e
      rw [e]; exact hK
  | succ n ih =>
    intro c m c0 cn hK
    refine vX12_after_54 ⟨fun q => absurd q (by rw [R.fo.c]; omega), fun _ => m_aft3 hd R hs b0 bn c0 (by omega) (S.F.nl + 1).toNat 0 0 (by decide) (by omega) (by decide) (by omega) ?_⟩
    rw [Int.zero_add]
    exact ih (c + 1) _ (by omega) (by omega) hK
theorem m_aft1 {w set : Int} (hd : 1 ≤ d) (R : RM S h) (hs : stdM S h (S.F.nl + 1)) (hz : set ≠ 0) : ∀ (n : Nat) (b best few : Int), 0 ≤ b → b + n = S.F.nb → L (if (fewS S set n b best few).1 = -1 then -1 else if w = 0 then (fewS S set n b best few).1 else (fewS S set n b best few).2) h → BX12_after_35 C l d L w set best few b h := by
  have c0 := R.ok.F.c0
  intro n
  induction n with
  | zero =>
    intro b best few b0 bn hK
    replace hK : L (if best = -1 then -1 else if w = 0 then best else few) h := hK
    refine vX12_after_35 hd (wX12_beingMany ⟨fun _ => ⟨fun q => ⟨fun y => ?_, fun y => ?_⟩, fun q => ?_⟩, fun q => absurd (by rw [R.fo.b]; omega) q⟩)
    · rw [if_neg q, if_neg y] at hK; exact hK
    · rw [if_neg q, if_pos y] at hK; exact hK
    · rw [if_pos q] at hK; exact hK
  | succ n ih =>
    intro b best few b0 bn hK
    refine vX12_after_35 hd (wX12_beingMany ⟨fun q => absurd q (by rw [R.fo.b]; omega), fun _ => ⟨fun q => absurd q hz, fun _ => m_aft2 hd R hs b0 (by omega) S.F.nc.toNat 0 0 (by decide) (by omega) ?_⟩⟩)
    unfold fewS at hK
    by_cases g : best = -1 ∨ mosS S set b S.F.nc.toNat 0 0 < few
    · rw [if_pos g] at hK ⊢
      exact ih (b + 1) _ _ (by omega) (by omega) hK
    · rw [if_neg g] at hK ⊢
      exact ih (b + 1) _ _ (by omega) (by omega) hK
theorem M_after {w : Int} (hd : 6 ≤ d) (R : RM S h) (hK : ∀ h', RM S h' → frX h h' → L (afterS S w) h') : mM C l d YX12_after [(2, 245), (0, w)] h L := by
  unfold afterS at hK
  have b0 := R.ok.F.b0
  refine wX12_after hd (M_isAhead (by decide) R (by decide) (by decide) (fun hn => ⟨fun z => absurd z (by decide), fun _ => m_isIn ?_⟩) (fun hn => ?_))
  · by_cases hw : 0 ≤ w ∧ w ≤ 1
    · rw [if_pos hw]
      rw [if_pos ⟨⟨hn.1, hn.2.2.2⟩, hw⟩] at hK
      refine ⟨fun _ => M_openingsSeen (by decide) R hn.1 (by omega) (fun h1 R1 f1 hs => ?_), fun z => absurd z (by decide)⟩
      have K0 := hK h1 R1 f1.X
      by_cases g : allS S = 0
      · rw [if_pos g] at K0
        rw [g]
        refine vX12_after_35 (by omega) (wX12_beingMany ⟨fun _ => ⟨fun q => absurd rfl q, fun _ => K0⟩, fun _ => ⟨fun _ => ⟨fun q => absurd rfl q, fun _ => K0⟩, fun q => absurd rfl q⟩⟩)
      · rw [if_neg g] at K0
        exact m_aft1 (by omega) R1 hs g S.F.nb.toNat 0 (-1) 0 (by decide) (by omega) K0
    · rw [if_neg hw]
      rw [if_neg (fun z => hw z.2)] at hK
      exact ⟨fun z => absurd rfl z, fun _ => hK h R (frX.rf h)⟩
  · rw [if_neg (fun z => hn ⟨z.1.1, by decide, by decide, z.1.2⟩)] at hK
    exact ⟨fun _ => hK h R (frX.rf h), fun z => absurd rfl z⟩
end SpAf
