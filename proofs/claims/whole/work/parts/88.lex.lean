/-! the text as words, numbers and signs; what is read of it: one spec for both -/
def blB (x : Int) : Bool := decide (x = 32) || decide (x = 10)
def ltB (x : Int) : Bool := decide (97 ≤ x) && decide (x ≤ 122)
def dgB (x : Int) : Bool := decide (48 ≤ x) && decide (x ≤ 57)
theorem ltB_iff (x : Int) : ltB x = true ↔ 97 ≤ x ∧ x ≤ 122 := by unfold ltB; simp
theorem dgB_iff (x : Int) : dgB x = true ↔ 48 ≤ x ∧ x ≤ 57 := by unfold dgB; simp
theorem blB_iff (x : Int) : blB x = true ↔ x = 32 ∨ x = 10 := by unfold blB; simp
/-- bytes and how many; a place, and whether a word or a number ends there -/
abbrev aT : Type := (Int → Int) × Int
abbrev aQ : Type := Int × Bool
def runS (p : Int → Bool) (T : aT) : Nat → Int → Int
  | 0, a => a
  | n + 1, a => if a < T.2 ∧ p (T.1 a) = true then runS p T n (a + 1) else a
def rnS (p : Int → Bool) (T : aT) (a : Int) : Int := runS p T (T.2 - a).toNat a
theorem run_ge (p : Int → Bool) (T : aT) : ∀ (n : Nat) (a : Int), a ≤ runS p T n a
  | 0, a => Int.le_refl _
  | n + 1, a => by
    unfold runS
    split
    · have := run_ge p T n (a + 1)
      omega
    · exact Int.le_refl _
theorem run_le (p : Int → Bool) (T : aT) : ∀ (n : Nat) (a : Int), a ≤ T.2 → runS p T n a ≤ T.2
  | 0, a, h => h
  | n + 1, a, h => by
    unfold runS
    split
    · next z => exact run_le p T n (a + 1) (by have := z.1; omega)
    · exact h
theorem rn_ge (p : Int → Bool) (T : aT) (a : Int) : a ≤ rnS p T a := run_ge p T _ a
theorem rn_le (p : Int → Bool) (T : aT) {a : Int} (h : a ≤ T.2) : rnS p T a ≤ T.2 := run_le p T _ a h
theorem rn_step {p : Int → Bool} {T : aT} {a : Int} (h : a < T.2) (hp : p (T.1 a) = true) : rnS p T a = rnS p T (a + 1) := by
  unfold rnS
  have e : (T.2 - a).toNat = (T.2 - (a + 1)).toNat + 1 := by omega
  rw [e]
  show (if a < T.2 ∧ p (T.1 a) = true then _ else _) = _
  rw [if_pos ⟨h, hp⟩]
theorem rn_stop {p : Int → Bool} {T : aT} {a : Int} (h : ¬ (a < T.2 ∧ p (T.1 a) = true)) : rnS p T a = a := by
  unfold rnS
  cases (T.2 - a).toNat with
  | zero => rfl
  | succ n =>
    show (if a < T.2 ∧ p (T.1 a) = true then _ else _) = _
    rw [if_neg h]
theorem rn_all {p : Int → Bool} {T : aT} : ∀ (n : Nat) (a : Int), T.2 - a ≤ n → ∀ i, a ≤ i → i < rnS p T a → p (T.1 i) = true
  | 0, a, hn, i, h1, h2 => by
    rw [rn_stop (fun z => by have := z.1; omega)] at h2
    omega
  | n + 1, a, hn, i, h1, h2 => by
    by_cases h : a < T.2 ∧ p (T.1 a) = true
    · by_cases e : i = a
      · rw [e]; exact h.2
      · rw [rn_step h.1 h.2] at h2
        exact rn_all n (a + 1) (by omega) i (by omega) h2
    · rw [rn_stop h] at h2
      omega
theorem rn_end {p : Int → Bool} {T : aT} : ∀ (n : Nat) (a : Int), T.2 - a ≤ n → rnS p T a < T.2 → p (T.1 (rnS p T a)) = false
  | 0, a, hn, h => by
    rw [rn_stop (fun z => by have := z.1; omega)] at h
    omega
  | n + 1, a, hn, h => by
    by_cases z : a < T.2 ∧ p (T.1 a) = true
    · rw [rn_step z.1 z.2] at h ⊢
      exact rn_end n (a + 1) (by omega) h
    · rw [rn_stop z] at h ⊢
      cases hp : p (T.1 a) with
      | false => rfl
      | true => exact absurd ⟨h, hp⟩ z
/-- the part of a text that stands next: where, its first byte, its kind (0 the end, 1 a word, 2 a number, 3 a sign, 4 one that stands too close), its end -/
def tA (T : aT) (q : aQ) : Int := rnS blB T q.1
def tB (T : aT) (q : aQ) : Int := T.1 (tA T q)
def tS (T : aT) (q : aQ) : Bool := q.2 && decide (tA T q = q.1)
def tK (T : aT) (q : aQ) : Int := if T.2 ≤ tA T q then 0 else if ltB (tB T q) then (if tS T q then 4 else 1) else if dgB (tB T q) then (if tS T q then 4 else 2) else 3
def tE (T : aT) (q : aQ) : Int := if T.2 ≤ tA T q then T.2 else if ltB (tB T q) then rnS ltB T (tA T q) else if dgB (tB T q) then rnS dgB T (tA T q) else tA T q + 1
def tN (T : aT) (q : aQ) : aQ := (tE T q, decide (tK T q = 1) || decide (tK T q = 2))
def lnL (T : aT) (a : Int) (n : Nat) : List Int := (List.range n).map (fun i : Nat => T.1 (a + (i : Int)) - 96)
def tL (T : aT) (q : aQ) : List Int := lnL T (tA T q) (tE T q - tA T q).toNat
def nvS (T : aT) (a : Int) : Nat → Int
  | 0 => 0
  | n + 1 => 10 * nvS T a n + (T.1 (a + n) - 48)
def tV (T : aT) (q : aQ) : Int := nvS T (tA T q) (tE T q - tA T q).toNat
def ixL (w : List Int) : List (List Int) → Int → Int
  | [], _ => -1
  | x :: xs, k => if x = w then k else ixL w xs (k + 1)
def tX (T : aT) (q : aQ) : Int := if tK T q = 1 then ixL (tL T q) wdX 0 else -1
def sgB (T : aT) (q : aQ) (c : Int) : Bool := decide (tK T q = 3) && decide (tB T q = c)
theorem sgB_iff {T : aT} {q : aQ} {c : Int} : sgB T q c = true ↔ tK T q = 3 ∧ tB T q = c := by unfold sgB; simp
theorem tA_ge (T : aT) (q : aQ) : q.1 ≤ tA T q := rn_ge _ _ _
theorem tA_le (T : aT) {q : aQ} (h : q.1 ≤ T.2) : tA T q ≤ T.2 := rn_le _ _ h
theorem tE_ge (T : aT) {q : aQ} (h : q.1 ≤ T.2) : tA T q ≤ tE T q := by
  have := tA_le T h
  unfold tE
  split
  · omega
  · split
    · exact rn_ge _ _ _
    · split
      · exact rn_ge _ _ _
      · omega
theorem tK_end {T : aT} {q : aQ} : tK T q = 0 ↔ T.2 ≤ tA T q := by
  unfold tK
  constructor
  · intro h
    split at h
    · assumption
    · split at h
      · split at h <;> exact absurd h (by decide)
      · split at h
        · split at h <;> exact absurd h (by decide)
        · exact absurd h (by decide)
  · intro h
    rw [if_pos h]
theorem tE_gt {T : aT} {q : aQ} (hk : tK T q ≠ 0) : tA T q < tE T q ∧ tA T q < T.2 := by
  have h : ¬ T.2 ≤ tA T q := fun z => hk (tK_end.mpr z)
  refine ⟨?_, by omega⟩
  unfold tE
  rw [if_neg h]
  split
  · next z => rw [rn_step (by omega) z]; have := rn_ge ltB T (tA T q + 1); omega
  · split
    · next z => rw [rn_step (by omega) z]; have := rn_ge dgB T (tA T q + 1); omega
    · omega
theorem tE_le (T : aT) {q : aQ} (h : q.1 ≤ T.2) : tE T q ≤ T.2 := by
  have := tA_le T h
  unfold tE
  split
  · omega
  · split
    · exact rn_le _ _ (by omega)
    · split
      · exact rn_le _ _ (by omega)
      · omega
theorem tN_pos {T : aT} {q : aQ} (h : q.1 ≤ T.2) (hk : tK T q ≠ 0) : q.1 + 1 ≤ (tN T q).1 ∧ (tN T q).1 ≤ T.2 := by
  have h1 := tE_gt hk
  have h2 := tA_ge T q
  exact ⟨by show q.1 + 1 ≤ tE T q; omega, tE_le T h⟩
theorem tK_word {T : aT} {q : aQ} : tK T q = 1 ↔ tA T q < T.2 ∧ ltB (tB T q) = true ∧ tS T q = false := by
  unfold tK
  by_cases h : T.2 ≤ tA T q
  · rw [if_pos h]; exact ⟨fun z => absurd z (by decide), fun z => absurd z.1 (by omega)⟩
  · rw [if_neg h]
    cases hl : ltB (tB T q) with
    | true =>
      rw [if_pos rfl]
      cases hs : tS T q with
      | true => rw [if_pos rfl]; exact ⟨fun z => absurd z (by decide), fun z => absurd z.2.2 (by decide)⟩
      | false => rw [if_neg (by decide)]; exact ⟨fun _ => ⟨by omega, rfl, rfl⟩, fun _ => rfl⟩
    | false =>
      rw [if_neg (by decide)]
      refine ⟨fun z => ?_, fun z => absurd z.2.1 (by decide)⟩
      split at z
      · split at z <;> exact absurd z (by decide)
      · exact absurd z (by decide)
theorem tK_num {T : aT} {q : aQ} : tK T q = 2 ↔ tA T q < T.2 ∧ dgB (tB T q) = true ∧ tS T q = false := by
  unfold tK
  by_cases h : T.2 ≤ tA T q
  · rw [if_pos h]; exact ⟨fun z => absurd z (by decide), fun z => absurd z.1 (by omega)⟩
  · rw [if_neg h]
    cases hl : ltB (tB T q) with
    | true =>
      rw [if_pos rfl]
      refine ⟨fun z => ?_, fun z => ?_⟩
      · split at z <;> exact absurd z (by decide)
      · have h1 := (ltB_iff _).mp hl
        have h2 := (dgB_iff _).mp z.2.1
        omega
    | false =>
      rw [if_neg (by decide)]
      cases hd : dgB (tB T q) with
      | true =>
        rw [if_pos rfl]
        cases hs : tS T q with
        | true => rw [if_pos rfl]; exact ⟨fun z => absurd z (by decide), fun z => absurd z.2.2 (by decide)⟩
        | false => rw [if_neg (by decide)]; exact ⟨fun _ => ⟨by omega, rfl, rfl⟩, fun _ => rfl⟩
      | false => rw [if_neg (by decide)]; exact ⟨fun z => absurd z (by decide), fun z => absurd z.2.1 (by decide)⟩
theorem tK_sign {T : aT} {q : aQ} : tK T q = 3 ↔ tA T q < T.2 ∧ ltB (tB T q) = false ∧ dgB (tB T q) = false := by
  unfold tK
  by_cases h : T.2 ≤ tA T q
  · rw [if_pos h]; exact ⟨fun z => absurd z (by decide), fun z => absurd z.1 (by omega)⟩
  · rw [if_neg h]
    cases hl : ltB (tB T q) with
    | true =>
      rw [if_pos rfl]
      refine ⟨fun z => ?_, fun z => absurd z.2.1 (by decide)⟩
      split at z <;> exact absurd z (by decide)
    | false =>
      rw [if_neg (by decide)]
      cases hd : dgB (tB T q) with
      | true =>
        rw [if_pos rfl]
        refine ⟨fun z => ?_, fun z => absurd z.2.2 (by decide)⟩
        split at z <;> exact absurd z (by decide)
      | false => rw [if_neg (by decide)]; exact ⟨fun _ => ⟨by omega, rfl, rfl⟩, fun _ => rfl⟩
theorem tE_word {T : aT} {q : aQ} (h : tK T q = 1) : tE T q = rnS ltB T (tA T q) := by
  have h1 := tK_word.mp h
  unfold tE
  rw [if_neg (by omega), if_pos h1.2.1]
theorem tE_num {T : aT} {q : aQ} (h : tK T q = 2) : tE T q = rnS dgB T (tA T q) := by
  have h1 := tK_num.mp h
  have h2 := (dgB_iff _).mp h1.2.1
  have h3 : ¬ ltB (tB T q) = true := fun z => by have := (ltB_iff _).mp z; omega
  unfold tE
  rw [if_neg (by omega), if_neg h3, if_pos h1.2.1]
theorem tE_sign {T : aT} {q : aQ} (h : tK T q = 3) : tE T q = tA T q + 1 := by
  have h1 := tK_sign.mp h
  unfold tE
  rw [if_neg (by omega), if_neg (by rw [h1.2.1]; decide), if_neg (by rw [h1.2.2]; decide)]
theorem lnL_len (T : aT) (a : Int) (n : Nat) : (lnL T a n).length = n := by simp [lnL]
theorem lnL_succ (T : aT) (a : Int) (n : Nat) : lnL T a (n + 1) = lnL T a n ++ [T.1 (a + n) - 96] := by
  unfold lnL
  rw [List.range_succ, List.map_append]; rfl
theorem tL_range {T : aT} {q : aQ} (h : tK T q = 1) : ∀ x ∈ tL T q, 1 ≤ x ∧ x ≤ 26 := by
  intro x hx
  have h1 := tK_word.mp h
  unfold tL lnL at hx
  obtain ⟨i, hi, rfl⟩ := List.mem_map.mp hx
  have hi' := List.mem_range.mp hi
  rw [tE_word h] at hi'
  have h2 := rn_all (p := ltB) (T := T) (T.2 - tA T q).toNat (tA T q) (by omega) (tA T q + i) (by omega) (by omega)
  have h3 := (ltB_iff _).mp h2
  omega
theorem nv_range {T : aT} {a : Int} : ∀ (n : Nat), (∀ i : Nat, i < n → 48 ≤ T.1 (a + i) ∧ T.1 (a + i) ≤ 57) → 0 ≤ nvS T a n ∧ nvS T a n < 10 ^ n
  | 0, _ => ⟨Int.le_refl 0, by show (0 : Int) < 10 ^ 0; decide⟩
  | n + 1, h => by
    have h1 := nv_range n (fun i hi => h i (by omega))
    have h2 := h n (by omega)
    unfold nvS
    rw [Int.pow_succ]
    omega
theorem tV_range {T : aT} {q : aQ} (h : tK T q = 2) (h4 : tE T q - tA T q ≤ 4) : 0 ≤ tV T q ∧ tV T q ≤ 9999 := by
  have h1 := tK_num.mp h
  have h2 : ∀ i : Nat, i < (tE T q - tA T q).toNat → 48 ≤ T.1 (tA T q + i) ∧ T.1 (tA T q + i) ≤ 57 := by
    intro i hi
    rw [tE_num h] at hi
    exact (dgB_iff _).mp (rn_all (p := dgB) (T := T) (T.2 - tA T q).toNat (tA T q) (by omega) (tA T q + i) (by omega) (by omega))
  have h3 := nv_range (tE T q - tA T q).toNat h2
  have hp : ∀ m : Fin 5, (10 : Int) ^ m.val ≤ 10000 := by decide
  have h5 := hp ⟨(tE T q - tA T q).toNat, by omega⟩
  simp only [] at h5
  unfold tV
  omega
theorem ix_spec (w : List Int) : ∀ (ws : List (List Int)) (k : Int), (ixL w ws k = -1 ∧ w ∉ ws) ∨ ∃ i : Nat, i < ws.length ∧ ixL w ws k = k + i ∧ ws.getD i [] = w ∧ ∀ j : Nat, j < i → ws.getD j [] ≠ w
  | [], k => Or.inl ⟨rfl, by simp⟩
  | x :: xs, k => by
    unfold ixL
    by_cases h : x = w
    · rw [if_pos h]
      exact Or.inr ⟨0, by simp, by simp, by simpa using h, fun j hj => absurd hj (by omega)⟩
    · rw [if_neg h]
      rcases ix_spec w xs (k + 1) with ⟨h1, h2⟩ | ⟨i, h1, h2, h3, h4⟩
      · exact Or.inl ⟨h1, by simp only [List.mem_cons, not_or]; exact ⟨fun z => h z.symm, h2⟩⟩
      · refine Or.inr ⟨i + 1, by simp; omega, by rw [h2]; omega, by simpa using h3, fun j hj => ?_⟩
        cases j with
        | zero => simpa using h
        | succ j => simpa using h4 j (by omega)
theorem wdX_inj : ∀ i : Fin 34, ∀ j : Fin 34, wdX.getD i.val [] = wdX.getD j.val [] → i = j := by decide +kernel
theorem wdX_len : wdX.length = 34 := rfl
theorem wdX_mem : ∀ k : Fin 34, wdX.getD k.val [] ∈ wdX := by decide +kernel
theorem tX_range (T : aT) (q : aQ) : -1 ≤ tX T q ∧ tX T q < 34 := by
  unfold tX
  split
  · rcases ix_spec (tL T q) wdX 0 with ⟨h1, _⟩ | ⟨i, h1, h2, _⟩
    · rw [h1]; decide
    · rw [wdX_len] at h1
      omega
  · decide
theorem tX_iff {T : aT} {q : aQ} {k : Nat} (hk : k < 34) : tX T q = (k : Int) ↔ tK T q = 1 ∧ tL T q = wdX.getD k [] := by
  unfold tX
  by_cases h : tK T q = 1
  · rw [if_pos h]
    rcases ix_spec (tL T q) wdX 0 with ⟨h1, h2⟩ | ⟨i, h1, h2, h3, _⟩
    · rw [h1]
      refine ⟨fun z => absurd z (by omega), fun z => absurd ?_ h2⟩
      rw [z.2]
      exact wdX_mem ⟨k, hk⟩
    · rw [wdX_len] at h1
      rw [h2]
      refine ⟨fun z => ⟨h, ?_⟩, fun z => ?_⟩
      · rw [← h3, show i = k by omega]
      · have := wdX_inj ⟨i, h1⟩ ⟨k, hk⟩ (by simp only []; rw [h3, z.2])
        have := congrArg Fin.val this
        simp only [] at this
        omega
  · rw [if_neg h]
    exact ⟨fun z => absurd z (by omega), fun z => absurd z.1 h⟩
theorem tX_word {T : aT} {q : aQ} (h : 0 ≤ tX T q) : tK T q = 1 := by
  unfold tX at h
  by_cases z : tK T q = 1
  · exact z
  · rw [if_neg z] at h; exact absurd h (by decide)
/-! sums and tests -/
abbrev aR : Type := Except (Int × Int) (aQ × List Int)
def lsS (x : Int) : List Int := if x = 0 then [] else [x]
def prdS (T : aT) (q : aQ) : Int := if sgB T q 42 then 3 else if sgB T q 47 then 4 else 0
def smS (T : aT) (q : aQ) : Int := if sgB T q 43 then 1 else if sgB T q 45 then 2 else 0
def cmpS (T : aT) (q : aQ) : Int := if sgB T q 60 then 7 else if sgB T q 62 then 8 else if sgB T q 61 then 9 else 0
def bnd (r : aR) (k : aQ → List Int → aR) : aR := match r with
  | .error e => .error e
  | .ok x => k x.1 x.2
def rdS (T : aT) (sc : Int → Bool) : Nat → Bool → Int → Int → Int → aQ → aR
  | 0, _, _, _, _, _ => .error (9, 0)
  | n + 1, true, o, p, s, q =>
    bnd (rdS T sc n false o 0 0 q) (fun q1 c =>
      if prdS T q1 ≠ 0 then bnd (rdS T sc n true o (prdS T q1) s (tN T q1)) (fun q2 c2 => .ok (q2, c ++ lsS p ++ c2))
      else if smS T q1 ≠ 0 then bnd (rdS T sc n true o 0 (smS T q1) (tN T q1)) (fun q2 c2 => .ok (q2, c ++ lsS p ++ lsS s ++ c2))
      else .ok (q1, c ++ lsS p ++ lsS s))
  | n + 1, false, o, _, _, q =>
    if tK T q = 2 then (if 4 < tE T q - tA T q then .error (1, tA T q + 4) else .ok (tN T q, [1000 + tV T q]))
    else if tX T q = 10 ∨ tX T q = 11 then
      (if sgB T (tN T q) 40 then
        (if 6 ≤ o then .error (4, tA T (tN T q)) else
          bnd (rdS T sc n true (o + 1) 0 0 (tN T (tN T q))) (fun q2 c1 =>
            if sgB T q2 44 then bnd (rdS T sc n true (o + 1) 0 0 (tN T q2)) (fun q3 c2 =>
              if sgB T q3 41 then .ok (tN T q3, c1 ++ c2 ++ [if tX T q = 10 then 5 else 6]) else .error (1, tA T q3))
            else .error (1, tA T q2)))
      else .error (1, tA T (tN T q)))
    else if sgB T q 40 then
      (if 6 ≤ o then .error (4, tA T q) else bnd (rdS T sc n true (o + 1) 0 0 (tN T q)) (fun q2 c1 => if sgB T q2 41 then .ok (tN T q2, c1) else .error (1, tA T q2)))
    else if 0 ≤ tX T q ∧ tX T q ≤ 9 ∧ sc (tX T q) = true then
      (if tX T q = 9 then (if 6 ≤ o then .error (4, tA T q) else bnd (rdS T sc n false (o + 1) 0 0 (tN T q)) (fun q1 c => .ok (q1, c ++ [60])))
       else .ok (tN T q, [40 + tX T q]))
    else .error (1, tA T q)
def rtS (T : aT) (sc : Int → Bool) : Nat → Bool → Int → Int → Int → aQ → aR
  | 0, _, _, _, _, _ => .error (9, 0)
  | n + 1, true, o, p, s, q =>
    bnd (rtS T sc n false o 0 0 q) (fun q1 c =>
      if tX T q1 = 13 then bnd (rtS T sc n true o 10 s (tN T q1)) (fun q2 c2 => .ok (q2, c ++ lsS p ++ c2))
      else if tX T q1 = 12 then bnd (rtS T sc n true o 0 11 (tN T q1)) (fun q2 c2 => .ok (q2, c ++ lsS p ++ lsS s ++ c2))
      else .ok (q1, c ++ lsS p ++ lsS s))
  | n + 1, false, o, _, _, q =>
    if tX T q = 15 then .ok (tN T q, [13])
    else if tX T q = 14 then (if 6 ≤ o then .error (4, tA T q) else bnd (rtS T sc n false (o + 1) 0 0 (tN T q)) (fun q1 c => .ok (q1, c ++ [12])))
    else if sgB T q 91 then (if 6 ≤ o then .error (4, tA T q) else bnd (rtS T sc n true (o + 1) 0 0 (tN T q)) (fun q2 c => if sgB T q2 93 then .ok (tN T q2, c) else .error (1, tA T q2)))
    else bnd (rdS T sc 4000 true o 0 0 q) (fun q1 c1 => if cmpS T q1 ≠ 0 then bnd (rdS T sc 4000 true o 0 0 (tN T q1)) (fun q2 c2 => .ok (q2, c1 ++ c2 ++ [cmpS T q1])) else .error (1, tA T q1))
theorem bnd_ok {r : aR} {k : aQ → List Int → aR} {x : aQ × List Int} (h : bnd r k = .ok x) : ∃ y : aQ × List Int, r = .ok y ∧ k y.1 y.2 = .ok x := by
  cases r with
  | error e => exact absurd h (by simp [bnd])
  | ok y => exact ⟨y, rfl, h⟩
theorem ls_len (x : Int) : (lsS x).length = if x = 0 then 0 else 1 := by unfold lsS; split <;> rfl
theorem sg_ne {T : aT} {q : aQ} {c : Int} (h : sgB T q c = true) : tK T q ≠ 0 := by rw [(sgB_iff.mp h).1]; decide
theorem prd_ne {T : aT} {q : aQ} (h : prdS T q ≠ 0) : tK T q ≠ 0 := by
  unfold prdS at h
  split at h
  · next z => exact sg_ne z
  · split at h
    · next z => exact sg_ne z
    · exact absurd rfl h
theorem sm_ne {T : aT} {q : aQ} (h : smS T q ≠ 0) : tK T q ≠ 0 := by
  unfold smS at h
  split at h
  · next z => exact sg_ne z
  · split at h
    · next z => exact sg_ne z
    · exact absurd rfl h
theorem cmp_ne {T : aT} {q : aQ} (h : cmpS T q ≠ 0) : tK T q ≠ 0 := by
  unfold cmpS at h
  split at h
  · next z => exact sg_ne z
  · split at h
    · next z => exact sg_ne z
    · split at h
      · next z => exact sg_ne z
      · exact absurd rfl h
theorem tX_ne {T : aT} {q : aQ} (h : 0 ≤ tX T q) : tK T q ≠ 0 := by rw [tX_word h]; decide
/-- how far it is read, and how much is told -/
theorem rd_len (T : aT) (sc : Int → Bool) : ∀ (n : Nat) (b : Bool) (o p s : Int) (q : aQ) (x : aQ × List Int), q.1 ≤ T.2 → rdS T sc n b o p s q = .ok x → q.1 + 1 ≤ x.1.1 ∧ x.1.1 ≤ T.2 ∧ x.2 ≠ [] ∧ (x.2.length : Int) + q.1 ≤ x.1.1 + (if b then (lsS p).length + (lsS s).length else 0 : Nat)
  | 0, b, o, p, s, q, x, hq, h => by unfold rdS at h; exact absurd h (by simp)
  | n + 1, true, o, p, s, q, x, hq, h => by
    unfold rdS at h
    obtain ⟨y, h1, h2⟩ := bnd_ok h
    have i1 := rd_len T sc n false o 0 0 q y hq h1
    obtain ⟨a1, a2, a3, a4⟩ := i1
    simp only [Bool.false_eq_true, if_false] at a4
    simp only [if_true]
    split at h2
    · next z =>
      obtain ⟨w, h3, h4⟩ := bnd_ok h2
      have e : x = (w.1, y.2 ++ lsS p ++ w.2) := by injection h4 with h4; exact h4.symm
      have t := tN_pos a2 (prd_ne z)
      have i2 := rd_len T sc n true o _ s _ w t.2 h3
      obtain ⟨b1, b2, b3, b4⟩ := i2
      simp only [if_true] at b4
      have hl : (lsS (prdS T y.1)).length ≤ 1 := by rw [ls_len]; split <;> omega
      subst e
      refine ⟨by simp only []; omega, b2, by simp [a3], ?_⟩
      simp only [List.length_append]
      omega
    · split at h2
      · next z =>
        obtain ⟨w, h3, h4⟩ := bnd_ok h2
        have e : x = (w.1, y.2 ++ lsS p ++ lsS s ++ w.2) := by injection h4 with h4; exact h4.symm
        have t := tN_pos a2 (sm_ne z)
        have i2 := rd_len T sc n true o 0 _ _ w t.2 h3
        obtain ⟨b1, b2, b3, b4⟩ := i2
        simp only [if_true] at b4
        have hl : (lsS (smS T y.1)).length ≤ 1 := by rw [ls_len]; split <;> omega
        have h0 : (lsS 0).length = 0 := rfl
        subst e
        refine ⟨by simp only []; omega, b2, by simp [a3], ?_⟩
        simp only [List.length_append]
        omega
      · have e : x = (y.1, y.2 ++ lsS p ++ lsS s) := by injection h2 with h4; exact h4.symm
        subst e
        refine ⟨a1, a2, by simp [a3], ?_⟩
        simp only [List.length_append]
        omega
  | n + 1, false, o, p, s, q, x, hq, h => by
    unfold rdS at h
    simp only [Bool.false_eq_true, if_false]
    split at h
    · next hk =>
      split at h
      · exact absurd h (by simp)
      · have e : x = (tN T q, [1000 + tV T q]) := by injection h with h4; exact h4.symm
        have t := tN_pos hq (by rw [hk]; decide : tK T q ≠ 0)
        subst e
        exact ⟨t.1, t.2, by simp, by simp; omega⟩
    · split at h
      · next hk hx =>
        have t := tN_pos hq (tX_ne (by omega : 0 ≤ tX T q))
        split at h
        · next h40 =>
          have t2 := tN_pos t.2 (sg_ne h40)
          split at h
          · exact absurd h (by simp)
          · obtain ⟨y, h1, h2⟩ := bnd_ok h
            obtain ⟨a1, a2, a3, a4⟩ := rd_len T sc n true (o + 1) 0 0 _ y t2.2 h1
            have h0 : (lsS 0).length = 0 := rfl
            simp only [if_true, h0] at a4
            split at h2
            · next h44 =>
              have t3 := tN_pos a2 (sg_ne h44)
              obtain ⟨w, h3, h4⟩ := bnd_ok h2
              obtain ⟨b1, b2, b3, b4⟩ := rd_len T sc n true (o + 1) 0 0 _ w t3.2 h3
              simp only [if_true, h0] at b4
              split at h4
              · next h41 =>
                have t4 := tN_pos b2 (sg_ne h41)
                have e : x = (tN T w.1, y.2 ++ w.2 ++ [if tX T q = 10 then 5 else 6]) := by injection h4 with h4; exact h4.symm
                subst e
                refine ⟨by simp only []; omega, t4.2, by simp, ?_⟩
                simp only [List.length_append, List.length_cons, List.length_nil]
                omega
              · exact absurd h4 (by simp)
            · exact absurd h2 (by simp)
        · exact absurd h (by simp)
      · split at h
        · next hk hx h40 =>
          have t := tN_pos hq (sg_ne h40)
          split at h
          · exact absurd h (by simp)
          · obtain ⟨y, h1, h2⟩ := bnd_ok h
            obtain ⟨a1, a2, a3, a4⟩ := rd_len T sc n true (o + 1) 0 0 _ y t.2 h1
            have h0 : (lsS 0).length = 0 := rfl
            simp only [if_true, h0] at a4
            split at h2
            · next h41 =>
              have t4 := tN_pos a2 (sg_ne h41)
              have e : x = (tN T y.1, y.2) := by injection h2 with h4; exact h4.symm
              subst e
              exact ⟨by simp only []; omega, t4.2, a3, by simp only []; omega⟩
            · exact absurd h2 (by simp)
        · split at h
          · next hk hx h40 hw =>
            have t := tN_pos hq (tX_ne hw.1)
            split at h
            · split at h
              · exact absurd h (by simp)
              · obtain ⟨y, h1, h2⟩ := bnd_ok h
                obtain ⟨a1, a2, a3, a4⟩ := rd_len T sc n false (o + 1) 0 0 _ y t.2 h1
                simp only [Bool.false_eq_true, if_false] at a4
                have e : x = (y.1, y.2 ++ [60]) := by injection h2 with h4; exact h4.symm
                subst e
                refine ⟨by simp only []; omega, a2, by simp, ?_⟩
                simp only [List.length_append, List.length_cons, List.length_nil]
                omega
            · have e : x = (tN T q, [40 + tX T q]) := by injection h with h4; exact h4.symm
              subst e
              exact ⟨t.1, t.2, by simp, by simp; omega⟩
          · exact absurd h (by simp)
theorem rt_len (T : aT) (sc : Int → Bool) : ∀ (n : Nat) (b : Bool) (o p s : Int) (q : aQ) (x : aQ × List Int), q.1 ≤ T.2 → rtS T sc n b o p s q = .ok x → q.1 + 1 ≤ x.1.1 ∧ x.1.1 ≤ T.2 ∧ x.2 ≠ [] ∧ (x.2.length : Int) + q.1 ≤ x.1.1 + (if b then (lsS p).length + (lsS s).length else 0 : Nat)
  | 0, b, o, p, s, q, x, hq, h => by unfold rtS at h; exact absurd h (by simp)
  | n + 1, true, o, p, s, q, x, hq, h => by
    unfold rtS at h
    obtain ⟨y, h1, h2⟩ := bnd_ok h
    have i1 := rt_len T sc n false o 0 0 q y hq h1
    obtain ⟨a1, a2, a3, a4⟩ := i1
    simp only [Bool.false_eq_true, if_false] at a4
    simp only [if_true]
    split at h2
    · next z =>
      obtain ⟨w, h3, h4⟩ := bnd_ok h2
      have e : x = (w.1, y.2 ++ lsS p ++ w.2) := by injection h4 with h4; exact h4.symm
      have t := tN_pos a2 (tX_ne (by omega : 0 ≤ tX T y.1))
      have i2 := rt_len T sc n true o _ s _ w t.2 h3
      obtain ⟨b1, b2, b3, b4⟩ := i2
      simp only [if_true] at b4
      have hl : (lsS 10).length = 1 := rfl
      subst e
      refine ⟨by simp only []; omega, b2, by simp [a3], ?_⟩
      simp only [List.length_append]
      omega
    · split at h2
      · next z =>
        obtain ⟨w, h3, h4⟩ := bnd_ok h2
        have e : x = (w.1, y.2 ++ lsS p ++ lsS s ++ w.2) := by injection h4 with h4; exact h4.symm
        have t := tN_pos a2 (tX_ne (by omega : 0 ≤ tX T y.1))
        have i2 := rt_len T sc n true o 0 _ _ w t.2 h3
        obtain ⟨b1, b2, b3, b4⟩ := i2
        simp only [if_true] at b4
        have hl : (lsS 11).length = 1 := rfl
        have h0 : (lsS 0).length = 0 := rfl
        subst e
        refine ⟨by simp only []; omega, b2, by simp [a3], ?_⟩
        simp only [List.length_append]
        omega
      · have e : x = (y.1, y.2 ++ lsS p ++ lsS s) := by injection h2 with h4; exact h4.symm
        subst e
        refine ⟨a1, a2, by simp [a3], ?_⟩
        simp only [List.length_append]
        omega
  | n + 1, false, o, p, s, q, x, hq, h => by
    have h0 : (lsS 0).length = 0 := rfl
    unfold rtS at h
    simp only [Bool.false_eq_true, if_false]
    split at h
    · next hx =>
      have e : x = (tN T q, [13]) := by injection h with h4; exact h4.symm
      have t := tN_pos hq (tX_ne (by omega : 0 ≤ tX T q))
      subst e
      exact ⟨t.1, t.2, by simp, by simp; omega⟩
    · split at h
      · next hx =>
        have t := tN_pos hq (tX_ne (by omega : 0 ≤ tX T q))
        split at h
        · exact absurd h (by simp)
        · obtain ⟨y, h1, h2⟩ := bnd_ok h
          obtain ⟨a1, a2, a3, a4⟩ := rt_len T sc n false (o + 1) 0 0 _ y t.2 h1
          simp only [Bool.false_eq_true, if_false] at a4
          have e : x = (y.1, y.2 ++ [12]) := by injection h2 with h4; exact h4.symm
          subst e
          refine ⟨by simp only []; omega, a2, by simp, ?_⟩
          simp only [List.length_append, List.length_cons, List.length_nil]
          omega
      · split at h
        · next h91 =>
          have t := tN_pos hq (sg_ne h91)
          split at h
          · exact absurd h (by simp)
          · obtain ⟨y, h1, h2⟩ := bnd_ok h
            obtain ⟨a1, a2, a3, a4⟩ := rt_len T sc n true (o + 1) 0 0 _ y t.2 h1
            simp only [if_true, h0] at a4
            split at h2
            · next h41 =>
              have t4 := tN_pos a2 (sg_ne h41)
              have e : x = (tN T y.1, y.2) := by injection h2 with h4; exact h4.symm
              subst e
              exact ⟨by simp only []; omega, t4.2, a3, by simp only []; omega⟩
            · exact absurd h2 (by simp)
        · obtain ⟨y, h1, h2⟩ := bnd_ok h
          obtain ⟨a1, a2, a3, a4⟩ := rd_len T sc 4000 true o 0 0 _ y hq h1
          simp only [if_true, h0] at a4
          split at h2
          · next hc =>
            have t := tN_pos a2 (cmp_ne hc)
            obtain ⟨w, h3, h4⟩ := bnd_ok h2
            obtain ⟨b1, b2, b3, b4⟩ := rd_len T sc 4000 true o 0 0 _ w t.2 h3
            simp only [if_true, h0] at b4
            have e : x = (w.1, y.2 ++ w.2 ++ [cmpS T y.1]) := by injection h4 with h4; exact h4.symm
            subst e
            refine ⟨by simp only []; omega, b2, by simp, ?_⟩
            simp only [List.length_append, List.length_cons, List.length_nil]
            omega
          · exact absurd h2 (by simp)
