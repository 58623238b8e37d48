def openingS (S : aS) (n : Int) : Int := if S.F.nl ≠ 0 ∧ 0 ≤ n ∧ n ≤ 60 ∧ S.st 0 0 + n ≤ 999 then opnS S (S.st 0 0 + n) else -1
def letterS (S : aS) (b k : Int) : Int := if (0 ≤ b ∧ b < S.F.nb) ∧ 0 ≤ k ∧ k ≤ 5 then (S.F.nm b).getD k.toNat 0 else -1
def frQX {h h' : mf_M} (f : frQ h h') : frX h h' := f.M.X
section SpP
variable {C : mf_G} {l : Launch} {d : Nat} {L : Int → mf_M → Prop} {h : mf_M} {S : aS}
theorem m_pairsO {o : Int} (hd : 3 ≤ d) (R : RM S h) (ho1 : -1000 ≤ o) (ho2 : o ≤ 1000) : ∀ (n : Nat) (a s : Int), 0 ≤ a → a + n = S.F.nb → 0 ≤ s → s ≤ 8 * a → L (s + prO S.st S.F.nl S.F.nc S.F.nb o n a) h → BX12_pairsBy_4 C l d L o s a h := by
  have o8 := R.ok.F.b8
  intro n
  induction n with
  | zero =>
    intro a s h0 hn hs0 hs hK
    refine vX12_pairsBy_4 (by omega) (wX12_beingMany ⟨fun _ => by simpa [prO] using hK, fun q => absurd (by rw [R.fo.b]; omega) q⟩)
  | succ n ih =>
    intro a s h0 hn hs0 hs hK
    refine vX12_pairsBy_4 (by omega) (wX12_beingMany ⟨fun q => absurd q (by rw [R.fo.b]; omega), fun _ v4 e4 => ?_⟩)
    rw [w_id (by omega) (by omega)] at e4
    rw [e4]
    have hr := prI_range S.st S.F.nl S.F.nc o a (S.F.nb - (a + 1)).toNat (a + 1)
    refine m_pairsI hd R ho1 ho2 h0 (by omega) (S.F.nb - (a + 1)).toNat (a + 1) s (by omega) (by omega) hs0 (by omega) (ih (a + 1) _ (by omega) (by omega) (by omega) (by omega) ?_)
    unfold prO at hK
    rw [← Int.add_assoc] at hK
    exact hK
theorem M_pairsBy {o : Int} (hd : 3 ≤ d) (R : RM S h) (ho1 : -1000 ≤ o) (ho2 : o ≤ 1000) (hK : L (prS S.st S.F.nl S.F.nc S.F.nb o) h) : mM C l d YX12_pairsBy [(2, 245), (0, o)] h L := by
  refine wX12_pairsBy (m_pairsO hd R ho1 ho2 S.F.nb.toNat 0 0 (by decide) (by have := R.ok.F.b0; omega) (by decide) (by decide) ?_)
  rw [Int.zero_add]; exact hK
theorem RM.isF (R : RM S h) : h 245 54 = 0 ↔ S.F.nl = 0 := by
  rw [R.fo.i]
  by_cases e : S.F.nl = 0
  · rw [if_pos e]; exact ⟨fun _ => e, fun _ => rfl⟩
  · rw [if_neg e]; exact ⟨fun q => absurd q (by decide), fun q => absurd q e⟩
theorem M_pairs {o : Int} (hd : 4 ≤ d) (R : RM S h) (hK : ∀ h', RM S h' → frX h h' → L (pairsS S o) h') : mM C l d YX12_pairs [(2, 245), (0, o)] h L := by
  unfold pairsS at hK
  have f := R.ok.F
  have hs := R.ok.P.st
  have l0 := f.l0
  have l6 := f.l6
  refine wX12_pairs hd ⟨fun q => ?_, fun q => wX12_leaves (m_isIn ?_)⟩
  · rw [R.isF] at q
    rw [if_neg (fun z => z.1 q)] at hK; exact hK h R (frX.rf h)
  · rw [R.isF] at q
    rw [R.fo.l]
    by_cases y : -1 ≤ o ∧ o ≤ S.F.nl
    · rw [if_pos y]
      rw [if_pos ⟨q, y⟩] at hK
      refine ⟨fun _ => ⟨fun z => M_pairsBy (by decide) R (by omega) (by omega) ?_, fun z => ?_⟩, fun z => absurd z (by decide)⟩
      · rw [if_neg z] at hK; exact hK h R (frX.rf h)
      · rw [R.day]
        rw [if_pos z] at hK
        refine M_openingOn (by decide) R hs.2.2.1 (by have := hs.2.2.2; omega) (fun h1 R1 hq => ?_)
        have hr := opn_range f (S.st 0 0)
        exact M_pairsBy (by decide) R1 (by omega) (by omega) (hK h1 R1 hq.M.X)
    · rw [if_neg y]
      rw [if_neg (fun z => y z.2)] at hK
      exact ⟨fun z => absurd rfl z, fun _ => hK h R (frX.rf h)⟩
theorem m_apart (hd : 4 ≤ d) (R : RM S h) : ∀ (n : Nat) (o best : Int), 1 ≤ o → o + n = S.F.nl + 1 → 0 ≤ best → best ≤ S.F.nl → L (apaS S.st S.F.nl S.F.nc S.F.nb n o best) h → BX12_apart_13 C l d L best o h := by
  have l6 := R.ok.F.l6
  intro n
  induction n with
  | zero =>
    intro o best h0 hn hb0 hb hK
    refine vX12_apart_13 hd (wX12_leaves ⟨fun _ => hK, fun q => absurd (by rw [R.fo.l]; omega) q⟩)
  | succ n ih =>
    intro o best h0 hn hb0 hb hK
    refine vX12_apart_13 hd (wX12_leaves ⟨fun q => absurd q (by rw [R.fo.l]; omega), fun _ => M_pairsBy (by decide) R (by omega) (by omega) (M_pairsBy (by decide) R (by omega) (by omega) ⟨fun q v e => ?_, fun q v e => ?_⟩)⟩)
    · unfold apaS at hK
      rw [if_neg (by omega)] at hK
      rw [w_id (by omega) (by omega)] at e
      rw [e]; exact ih (o + 1) best (by omega) (by omega) hb0 hb hK
    · unfold apaS at hK
      rw [if_pos (by omega)] at hK
      rw [w_id (by omega) (by omega)] at e
      rw [e]; exact ih (o + 1) o (by omega) (by omega) (by omega) (by omega) hK
theorem M_apart (hd : 4 ≤ d) (R : RM S h) (hK : L (apartS S) h) : mM C l d YX12_apart [(2, 245)] h L := by
  unfold apartS at hK
  have l0 := R.ok.F.l0
  refine wX12_apart ⟨fun q => ?_, fun q => ?_⟩
  · rw [R.isF] at q
    rw [if_neg q] at hK
    exact m_apart hd R S.F.nl.toNat 1 0 (by decide) (by omega) (by decide) l0 hK
  · rw [R.isF] at q
    rw [if_pos q] at hK; exact hK
/-- ahead: n days from now on, if they can be -/
theorem M_isAhead {n lo hi : Int} (hd : 1 ≤ d) (R : RM S h) (hlo : -1000 ≤ lo) (hhi : hi ≤ 1000) (h1 : S.F.nl ≠ 0 ∧ lo ≤ n ∧ n ≤ hi ∧ S.st 0 0 + n ≤ 999 → L 1 h) (h2 : ¬ (S.F.nl ≠ 0 ∧ lo ≤ n ∧ n ≤ hi ∧ S.st 0 0 + n ≤ 999) → L 0 h) : mM C l d YX12_isAhead [(2, 245), (0, n), (0, lo), (0, hi)] h L := by
  have hs := R.ok.P.st
  have d0 := hs.2.2.1
  have d9 := hs.2.2.2
  refine wX12_isAhead hd ⟨fun q => ?_, fun q => m_isIn ?_⟩
  · rw [R.isF] at q; exact h2 (fun z => z.1 q)
  · rw [R.isF] at q
    by_cases y : lo ≤ n ∧ n ≤ hi
    · rw [if_pos y]
      refine ⟨fun z => absurd z (by decide), fun _ => ?_⟩
      rw [R.day, w_id (by omega) (by omega)]
      exact ⟨fun z => h2 (by omega), fun z => h1 ⟨q, y.1, y.2, by omega⟩⟩
    · rw [if_neg y]
      exact ⟨fun _ => h2 (fun z => y ⟨z.2.1, z.2.2.1⟩), fun z => absurd rfl z⟩
theorem M_opening {n : Int} (hd : 4 ≤ d) (R : RM S h) (hK : ∀ h', RM S h' → frX h h' → L (openingS S n) h') : mM C l d YX12_opening [(2, 245), (0, n)] h L := by
  unfold openingS at hK
  have hs := R.ok.P.st
  refine wX12_opening hd (M_isAhead (by decide) R (by decide) (by decide) (fun q => ?_) (fun q => ?_))
  · rw [if_pos q] at hK
    refine ⟨fun z => absurd z (by decide), fun _ => ?_⟩
    have := hs.2.2.1
    rw [R.day, w_id (by omega) (by omega)]
    exact M_openingOn (by decide) R (by omega) (by omega) (fun h1 R1 hq => hK h1 R1 hq.M.X)
  · rw [if_neg q] at hK
    exact ⟨fun _ => hK h R (frX.rf h), fun z => absurd rfl z⟩
/-! letters of a name -/
theorem pk_snoc (l : List Int) (x : Int) : pkS (l ++ [x]) = 27 * pkS l + x := by unfold pkS; rw [List.foldl_append]; rfl
def pvS : List Int → Int
  | [] => 0
  | x :: r => 27 * pvS r + x
theorem pk_rev : ∀ (r : List Int), pkS r.reverse = pvS r
  | [] => rfl
  | x :: r => by rw [List.reverse_cons, pk_snoc, pk_rev r]; rfl
theorem pv_range : ∀ (r : List Int), (∀ x ∈ r, 1 ≤ x ∧ x ≤ 26) → 0 ≤ pvS r ∧ (r ≠ [] → 0 < pvS r) ∧ pvS r < 27 ^ r.length
  | [], _ => ⟨by decide, fun q => absurd rfl q, by decide⟩
  | x :: r, hx => by
    obtain ⟨h1, h2, h3⟩ := pv_range r (fun y hy => hx y (List.mem_cons_of_mem _ hy))
    have h4 := hx x List.mem_cons_self
    unfold pvS
    refine ⟨by omega, fun _ => by omega, ?_⟩
    rw [List.length_cons, Int.pow_succ]
    omega
theorem pow27 {n : Nat} (h : n ≤ 6) : (27 : Int) ^ n ≤ 387420489 := by
  have : n = 0 ∨ n = 1 ∨ n = 2 ∨ n = 3 ∨ n = 4 ∨ n = 5 ∨ n = 6 := by omega
  rcases this with rfl | rfl | rfl | rfl | rfl | rfl | rfl <;> decide
theorem pv_div {x : Int} {r : List Int} (h : ∀ y ∈ x :: r, 1 ≤ y ∧ y ≤ 26) : (pvS (x :: r)).tdiv 27 = pvS r ∧ (pvS (x :: r)).tmod 27 = x := by
  have h4 := h x List.mem_cons_self
  have h1 := (pv_range r (fun y hy => h y (List.mem_cons_of_mem _ hy))).1
  have e : pvS (x :: r) = 27 * pvS r + x := rfl
  rw [e, Int.tdiv_eq_ediv_of_nonneg (by omega), Int.tmod_eq_emod_of_nonneg (by omega)]
  omega
theorem m_letter2 {k : Int} (h0 : 0 ≤ k) : ∀ (r : List Int) (q : Int), (∀ y ∈ r, 1 ≤ y ∧ y ≤ 26) → r.length ≤ 6 → q = r.length - 1 → k ≤ q → L (r.getD (q - k).toNat 0) h → BX12_letter_73 C l d L k (pvS r) q h := by
  intro r
  induction r with
  | nil => intro q _ _ hq hk _; simp at hq; omega
  | cons x r ih =>
    intro q hr hl hq hk hK
    simp only [List.length_cons] at hq hl
    obtain ⟨e1, e2⟩ := pv_div hr
    have hx := hr x List.mem_cons_self
    have hv := pv_range r (fun y hy => hr y (List.mem_cons_of_mem _ hy))
    have hp := pow27 (n := r.length) (by omega)
    refine vX12_letter_73 ⟨fun z => ?_, fun z v1 f1 v2 f2 => ?_⟩
    · rw [e2, w_id (by omega) (by omega)]
      have : (q - k).toNat = 0 := by omega
      rw [this] at hK
      simpa using hK
    · rw [e1, w64_id (by omega) (by omega)] at f1
      rw [w_id (by omega) (by omega)] at f2
      rw [f1, f2]
      refine ih _ (fun y hy => hr y (List.mem_cons_of_mem _ hy)) (by omega) (by omega) (by omega) ?_
      have : (q - k).toNat = (q + -1 - k).toNat + 1 := by omega
      rw [this] at hK
      simpa using hK
theorem m_letter1 {k v : Int} : ∀ (r : List Int) (n : Int), (∀ y ∈ r, 1 ≤ y ∧ y ≤ 26) → r.length ≤ 6 → 0 ≤ n → n + r.length ≤ 10 → (k < n + r.length → BX12_letter_73 C l d L k v (n + r.length - 1) h) → (¬ k < n + r.length → L 0 h) → BX12_letter_38 C l d L k v n (pvS r) h := by
  intro r
  induction r with
  | nil =>
    intro n _ _ h0 h1 hA hB
    simp only [List.length_nil] at hA hB
    refine vX12_letter_38 ⟨fun _ => ⟨fun z v1 e1 => ?_, fun z => hB (by omega)⟩, fun q => absurd (by decide) q⟩
    rw [w_id (by omega) (by omega)] at e1
    rw [e1]
    have := hA (by omega)
    rw [show n + ((0 : Nat) : Int) - 1 = n - 1 by omega] at this
    exact this
  | cons x r ih =>
    intro n hr hl h0 h1 hA hB
    simp only [List.length_cons] at hl hA hB h1
    obtain ⟨e1, e2⟩ := pv_div hr
    have hv := pv_range r (fun y hy => hr y (List.mem_cons_of_mem _ hy))
    have hv2 := pv_range (x :: r) hr
    have hp := pow27 (n := r.length) (by omega)
    have pos := hv2.2.1 (by simp)
    refine vX12_letter_38 ⟨fun q => absurd q (by omega), fun _ v2 f2 v3 f3 => ?_⟩
    rw [w_id (by omega) (by omega)] at f2
    rw [e1, w64_id (by omega) (by omega)] at f3
    rw [f2, f3]
    · refine ih (n + 1) (fun y hy => hr y (List.mem_cons_of_mem _ hy)) (by omega) (by omega) (by omega) (fun z => ?_) (fun z => hB (by omega))
      have := hA (by omega)
      rw [show n + ((r.length + 1 : Nat) : Int) - 1 = n + 1 + (r.length : Int) - 1 by omega] at this
      exact this
theorem M_letter {b k : Int} (hd : 2 ≤ d) (R : RM S h) (hK : L (letterS S b k) h) : mM C l d YX12_letter [(2, 245), (0, b), (0, k)] h L := by
  unfold letterS at hK
  have b8 := R.ok.F.b8
  refine wX12_letter hd (M_isBeing (by decide) R (fun hb => ⟨fun z => absurd z (by decide), fun _ => m_isIn ?_⟩) (fun hb => ?_))
  · by_cases y : 0 ≤ k ∧ k ≤ 5
    · rw [if_pos y]
      rw [if_pos ⟨hb, y⟩] at hK
      rw [w_id (by omega) (by omega)]
      refine ⟨fun _ => ⟨by omega, by omega, fun v9 e9 => ?_⟩, fun z => absurd z (by decide)⟩
      obtain ⟨n1, n2, n3⟩ := R.ok.F.nm b hb.1 hb.2
      have er : pkS (S.F.nm b) = pvS (S.F.nm b).reverse := by rw [← pk_rev, List.reverse_reverse]
      rw [R.fo.nm b hb.1 hb.2, er] at e9
      rw [e9]
      have hr : ∀ y ∈ (S.F.nm b).reverse, 1 ≤ y ∧ y ≤ 26 := fun y hy => n3 y (List.mem_reverse.mp hy)
      refine m_letter1 (S.F.nm b).reverse 0 hr (by simpa using n2) (by decide) (by simp; omega) (fun z => ?_) (fun z => ?_)
      · rw [List.length_reverse, Int.zero_add] at z ⊢
        refine m_letter2 y.1 _ _ hr (by simpa using n2) (by simp) (by omega) ?_
        have e : (S.F.nm b).reverse.getD ((S.F.nm b).length - 1 - k).toNat 0 = (S.F.nm b).getD k.toNat 0 := by
          rw [List.getD_eq_getElem?_getD, List.getD_eq_getElem?_getD, List.getElem?_reverse (by omega)]
          congr 2; omega
        rw [e]; exact hK
      · rw [List.length_reverse, Int.zero_add] at z
        have e : (S.F.nm b).getD k.toNat 0 = 0 := by
          rw [List.getD_eq_getElem?_getD, List.getElem?_eq_none (by omega)]; rfl
        rw [e] at hK; exact hK
    · rw [if_neg y]
      rw [if_neg (fun z => y z.2)] at hK
      exact ⟨fun z => absurd rfl z, fun _ => hK⟩
  · rw [if_neg (fun z => hb z.1)] at hK
    exact ⟨fun _ => hK, fun z => absurd rfl z⟩
end SpP
