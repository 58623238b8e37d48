/-! the class reads the text -/
def pkV (l : List Int) : Int := if l.length ≤ 6 then pkP l else -1
def txX (T : aT) (h : mf_M) : Prop := (0 ≤ T.2 ∧ T.2 ≤ 1600) ∧ (∀ i, 0 ≤ T.1 i ∧ T.1 i ≤ 255) ∧ h 3 1 = T.2 ∧ (∀ i, 0 ≤ i → i < T.2 → h 4 i = mf_b8 (T.1 i)) ∧ wordsX h
def lxX (T : aT) (q : aQ) (h : mf_M) : Prop := txX T h ∧ (0 ≤ q.1 ∧ q.1 ≤ T.2) ∧ h 5 2 = tK T q ∧ h 5 3 = tA T q ∧ h 5 6 = tE T q ∧ (tK T q ≠ 0 → h 5 4 = tE T q - tA T q) ∧ (tK T q = 3 → h 5 5 = tB T q) ∧ (tK T q = 1 → h 5 5 = pkV (tL T q)) ∧ (tK T q = 2 → tE T q - tA T q ≤ 4 → h 5 5 = tV T q)
def flX (e : Int × Int) (h : mf_M) : Prop := h 5 8 = e.1 ∧ h 5 9 = e.2
/-- the tokens' own cell alone was written, but no fault -/
def frW5 (h h' : mf_M) : Prop := (∀ a, a ≠ 5 → h' a = h a) ∧ h' 5 8 = h 5 8 ∧ h' 5 9 = h 5 9 ∧ h' 5 7 = h 5 7
def fr5 (h h' : mf_M) : Prop := ∀ a, a ≠ 5 → h' a = h a
theorem frW5.rf (h : mf_M) : frW5 h h := ⟨fun _ _ => rfl, rfl, rfl, rfl⟩
theorem frW5.tr {a b c : mf_M} (h1 : frW5 a b) (h2 : frW5 b c) : frW5 a c := ⟨fun x q => (h2.1 x q).trans (h1.1 x q), h2.2.1.trans h1.2.1, h2.2.2.1.trans h1.2.2.1, h2.2.2.2.trans h1.2.2.2⟩
theorem frW5.up {h : mf_M} {k v : Int} (h7 : k < 7) : frW5 h (mf_up h 5 k v) := ⟨fun a q => up_row q, up_col (by omega), up_col (by omega), up_col (by omega)⟩
theorem fr5.rf (h : mf_M) : fr5 h h := fun _ _ => rfl
theorem fr5.tr {a b c : mf_M} (h1 : fr5 a b) (h2 : fr5 b c) : fr5 a c := fun x q => (h2 x q).trans (h1 x q)
theorem txX.to {T : aT} {h h' : mf_M} (X : txX T h) (f : fr5 h h') : txX T h' := by
  obtain ⟨h1, h2, h3, h4, h5⟩ := X
  exact ⟨h1, h2, by rw [f 3 (by decide)]; exact h3, by rw [f 4 (by decide)]; exact h4, h5.keep (f 2 (by decide))⟩
theorem b8_val {x : Int} (h : 0 ≤ x ∧ x ≤ 255) : mf_b8 x = if x < 128 then x else x - 256 := by
  have key : ∀ n : Fin 256, mf_b8 (n.val : Int) = if (n.val : Int) < 128 then (n.val : Int) else (n.val : Int) - 256 := by decide +kernel
  have h1 := key ⟨x.toNat, by omega⟩
  have e : ((x.toNat : Nat) : Int) = x := by omega
  simp only [e] at h1
  exact h1
theorem b8_eq {x c : Int} (h : 0 ≤ x ∧ x ≤ 255) (c0 : 0 ≤ c) (c1 : c < 128) : mf_b8 x = c ↔ x = c := by
  rw [b8_val h]
  split <;> omega
theorem lt_b8 {x : Int} (h : 0 ≤ x ∧ x ≤ 255) : ltB (mf_b8 x) = ltB x := by
  rw [b8_val h]
  split
  · rfl
  · rw [Bool.eq_iff_iff, ltB_iff, ltB_iff]; omega
theorem dg_b8 {x : Int} (h : 0 ≤ x ∧ x ≤ 255) : dgB (mf_b8 x) = dgB x := by
  rw [b8_val h]
  split
  · rfl
  · rw [Bool.eq_iff_iff, dgB_iff, dgB_iff]; omega
/-- names as numbers are told apart -/
theorem pv_inj : ∀ (a b : List Int), a.length = b.length → (∀ x ∈ a, 0 ≤ x ∧ x ≤ 26) → (∀ x ∈ b, 0 ≤ x ∧ x ≤ 26) → pvS a = pvS b → a = b
  | [], [], _, _, _, _ => rfl
  | x :: a, y :: b, hl, ha, hb, h => by
    have h1 := ha x List.mem_cons_self
    have h2 := hb y List.mem_cons_self
    have e : pvS (x :: a) = 27 * pvS a + x := rfl
    have e' : pvS (y :: b) = 27 * pvS b + y := rfl
    rw [e, e'] at h
    have hx : x = y := by omega
    have ht := pv_inj a b (by simpa using hl) (fun z hz => ha z (List.mem_cons_of_mem _ hz)) (fun z hz => hb z (List.mem_cons_of_mem _ hz)) (by omega)
    rw [hx, ht]
theorem pad_inj : ∀ (a b : List Int) (m n : Nat), (∀ x ∈ a, 1 ≤ x ∧ x ≤ 26) → (∀ x ∈ b, 1 ≤ x ∧ x ≤ 26) → a ++ List.replicate m 0 = b ++ List.replicate n 0 → a = b
  | [], [], _, _, _, _, _ => rfl
  | [], y :: b, m, n, _, hb, h => by
    have h2 := hb y List.mem_cons_self
    cases m with
    | zero => simp at h
    | succ m => simp [List.replicate_succ] at h; omega
  | x :: a, [], m, n, ha, _, h => by
    have h2 := ha x List.mem_cons_self
    cases n with
    | zero => simp at h
    | succ n => simp [List.replicate_succ] at h; omega
  | x :: a, y :: b, m, n, ha, hb, h => by
    simp only [List.cons_append, List.cons.injEq] at h
    rw [h.1, pad_inj a b m n (fun z hz => ha z (List.mem_cons_of_mem _ hz)) (fun z hz => hb z (List.mem_cons_of_mem _ hz)) h.2]
theorem pk_range {a : List Int} (ha : ∀ x ∈ a, 0 ≤ x ∧ x ≤ 26) : 0 ≤ pkS a ∧ pkS a < 27 ^ a.length := by
  have pk := pv_range0 a.reverse (fun x hx => ha x (List.mem_reverse.mp hx))
  rw [← pk_rev, List.reverse_reverse, List.length_reverse] at pk
  exact pk
theorem pad_mem {a : List Int} {m : Nat} (ha : ∀ x ∈ a, 1 ≤ x ∧ x ≤ 26) : ∀ x ∈ a ++ List.replicate m 0, 0 ≤ x ∧ x ≤ 26 := by
  intro x hx
  rcases List.mem_append.mp hx with h | h
  · have := ha x h; omega
  · have := List.eq_of_mem_replicate h; omega
theorem pkP_inj {a b : List Int} (ha : ∀ x ∈ a, 1 ≤ x ∧ x ≤ 26) (hb : ∀ x ∈ b, 1 ≤ x ∧ x ≤ 26) (la : a.length ≤ 6) (lb : b.length ≤ 6) (h : pkP a = pkP b) : a = b := by
  unfold pkP at h
  have e1 : pkS (a ++ List.replicate (6 - a.length) 0) = pvS (a ++ List.replicate (6 - a.length) 0).reverse := by rw [← pk_rev, List.reverse_reverse]
  have e2 : pkS (b ++ List.replicate (6 - b.length) 0) = pvS (b ++ List.replicate (6 - b.length) 0).reverse := by rw [← pk_rev, List.reverse_reverse]
  rw [e1, e2] at h
  have := pv_inj _ _ (by simp; omega) (fun x hx => pad_mem ha x (List.mem_reverse.mp hx)) (fun x hx => pad_mem hb x (List.mem_reverse.mp hx)) h
  have h2 := congrArg List.reverse this
  rw [List.reverse_reverse, List.reverse_reverse] at h2
  exact pad_inj a b _ _ ha hb h2
theorem pkP_range {a : List Int} (ha : ∀ x ∈ a, 1 ≤ x ∧ x ≤ 26) (la : a.length ≤ 6) : 0 ≤ pkP a ∧ pkP a < 387420489 := by
  have h := pk_range (pad_mem (m := 6 - a.length) ha)
  have hl : (a ++ List.replicate (6 - a.length) 0).length = 6 := by simp; omega
  rw [hl] at h
  have e : (27 : Int) ^ 6 = 387420489 := by decide
  rw [e] at h
  exact h
theorem wdX_let : ∀ k : Fin 34, ∀ x ∈ wdX.getD k.val [], 1 ≤ x ∧ x ≤ 26 := by decide +kernel
theorem pkV_iff {a : List Int} (ha : ∀ x ∈ a, 1 ≤ x ∧ x ≤ 26) {k : Nat} (hk : k < 34) : pkP (wdX.getD k []) = pkV a ↔ a = wdX.getD k [] := by
  have hw : ∀ x ∈ wdX.getD k [], 1 ≤ x ∧ x ≤ 26 := wdX_let ⟨k, hk⟩
  have hl : (wdX.getD k []).length ≤ 6 ∧ 1 ≤ (wdX.getD k []).length := wdX_short ⟨k, hk⟩
  unfold pkV
  constructor
  · intro h
    split at h
    · next la => exact (pkP_inj hw ha hl.1 la h).symm
    · have := (pkP_range hw hl.1).1
      omega
  · intro h
    rw [h, if_pos hl.1]
section SxLx
variable {C : mf_G} {l : Launch} {d : Nat} {K : mf_Kt} {g : mf_M} {T : aT} {q : aQ}
theorem x_fail {k p : Int} {h : mf_M} (hb : h 5 8 = 0) (hK : ∀ h', flX (k, p) h' → fr5 h h' → (∀ j, j ≠ 8 → j ≠ 9 → h' 5 j = h 5 j) → K 0 g h') : xM C l d YX9_fail [(2, 5), (0, k), (0, p)] g h K := by
  refine wX9_fail ⟨fun z => absurd hb z, fun _ h1 e1 h2 e2 => hK h2 ⟨?_, ?_⟩ (fun a ha => ?_) (fun j j7 j8 => ?_)⟩
  · rw [e2, up_col (by decide), e1, up_self]
  · rw [e2, up_self]
  · rw [e2, up_row ha, e1, up_row ha]
  · rw [e2, up_col j8, e1, up_col j7]
theorem x_failB {k p : Int} {h : mf_M} (hb : ¬ h 5 8 = 0) (hK : K 0 g h) : xM C l d YX9_fail [(2, 5), (0, k), (0, p)] g h K := wX9_fail ⟨fun _ => hK, fun z => absurd z hb⟩
/-- the numbers of a word -/
theorem x_tw181 {ls : List Int} (hr : ∀ x ∈ ls, 1 ≤ x ∧ x ≤ 26) (hl : ls.length ≤ 6) : ∀ (n j : Nat) (h : mf_M), j + n = 6 → ls.length ≤ j → h 5 4 = ls.length → h 5 5 = pkS (ls ++ List.replicate (j - ls.length) 0) → (∀ h', frW5 h h' → (∀ k, k ≠ 5 → h' 5 k = h 5 k) → h' 5 5 = pkP ls → K 0 g h') → BX9_takeWhole_181 C l d K 1 6 j g h := by
  intro n
  induction n with
  | zero =>
    intro j h hj lj e54 e hK
    have ej : j = 6 := by omega
    subst ej
    exact vX9_takeWhole_181 ⟨fun z => absurd z (by decide), fun _ => ⟨fun _ => ⟨fun _ => hK h (frW5.rf h) (fun _ _ => rfl) e, fun z => absurd (by omega) z⟩, fun z => absurd (by decide) z⟩⟩
  | succ n ih =>
    intro j h hj lj e54 e hK
    have pr := pk_range (pad_mem (m := j - ls.length) hr)
    rw [List.length_append, List.length_replicate, show ls.length + (j - ls.length) = j by omega] at pr
    have hpw : ∀ m : Fin 6, (27 : Int) ^ m.val ≤ 14348907 := by decide
    have hp := hpw ⟨j, by omega⟩
    simp only [] at hp
    refine vX9_takeWhole_181 ⟨fun z => absurd z (by decide), fun _ => ⟨fun z => absurd z (by omega), fun _ h4 e4 v5 e5 => ?_⟩⟩
    rw [e, w_id (x := pkS (ls ++ List.replicate (j - ls.length) 0) * 27) (by omega) (by omega)] at e4
    rw [w_id (by omega) (by omega)] at e5
    rw [e5]
    have f4 : frW5 h h4 := by rw [e4]; exact frW5.up (by decide)
    refine ih (j + 1) h4 (by omega) (by omega) (by rw [e4, up_col (by decide)]; exact e54) ?_ (fun h' f' c' e' => hK h' (f4.tr f') (fun k hk => by rw [c' k hk, e4, up_col hk]) e')
    rw [e4, up_self, show j + 1 - ls.length = (j - ls.length) + 1 by omega, List.replicate_succ', ← List.append_assoc, pk_snoc]
    omega
theorem x_tw57 (X0 : ∀ i, 0 ≤ T.1 i ∧ T.1 i ≤ 255) (a e : Int) (a0 : 0 ≤ a) (ea : e = rnS ltB T a) (t2 : 0 ≤ T.2 ∧ T.2 ≤ 1600) (h0 : mf_M) (e4 : ∀ i, 0 ≤ i → i < T.2 → h0 4 i = mf_b8 (T.1 i)) (hK : ∀ h', frW5 h0 h' → (∀ k, k ≠ 4 → k ≠ 5 → h' 5 k = h0 5 k) → h' 5 4 = e - a → h' 5 5 = pkV (lnL T a (e - a).toNat) → K 0 g h') : ∀ (n i : Nat) (h : mf_M), T.2 - (a + i) ≤ n → frW5 h0 h → (∀ k, k ≠ 4 → k ≠ 5 → h 5 k = h0 5 k) → a + i ≤ T.2 → h 5 4 = i → (i ≤ 6 → h 5 5 = pkS (lnL T a i)) → rnS ltB T (a + i) = e → BX9_takeWhole_57 C l d K T.2 1 97 122 6 (a + i) g h := by
  have lets : ∀ j : Nat, a + j < e → 97 ≤ T.1 (a + j) ∧ T.1 (a + j) ≤ 122 := fun j hj => by
    rw [ea] at hj
    exact (ltB_iff _).mp (rn_all (p := ltB) (T := T) (T.2 - a).toNat a (by omega) (a + j) (by omega) hj)
  have lr : ∀ i : Nat, a + i ≤ e → ∀ x ∈ lnL T a i, 1 ≤ x ∧ x ≤ 26 := fun i hi x hx => by
    unfold lnL at hx
    obtain ⟨j, hj, rfl⟩ := List.mem_map.mp hx
    have hj' := List.mem_range.mp hj
    have := lets j (by omega)
    omega
  have fin : ∀ (i : Nat) (h : mf_M), frW5 h0 h → (∀ k, k ≠ 4 → k ≠ 5 → h 5 k = h0 5 k) → h 5 4 = i → (i ≤ 6 → h 5 5 = pkS (lnL T a i)) → a + i = e → ∀ v : Int, v = h 5 4 → BX9_takeWhole_181 C l d K 1 6 v g h := by
    intro i h f c e54 e55 he v ev
    rw [ev, e54]
    have en : (e - a).toNat = i := by omega
    by_cases h6 : i ≤ 6
    · refine x_tw181 (ls := lnL T a i) (lr i (by omega)) (by rw [lnL_len]; exact h6) (6 - i) i h (by omega) (by rw [lnL_len]; omega) (by rw [lnL_len]; exact e54) (by rw [lnL_len, Nat.sub_self, List.replicate_zero, List.append_nil]; exact e55 h6) (fun h' f' c' e' => hK h' (f.tr f') (fun k k4 k5 => by rw [c' k k5, c k k4 k5]) (by rw [c' 4 (by decide), e54]; omega) ?_)
      rw [e', en]
      unfold pkV
      rw [if_pos (by rw [lnL_len]; exact h6)]
    · refine vX9_takeWhole_181 ⟨fun z => absurd z (by decide), fun _ => ⟨fun _ => ⟨fun z => absurd z (by omega), fun _ h2 e2 => hK h2 (f.tr (by rw [e2]; exact frW5.up (by decide))) (fun k k4 k5 => by rw [e2, up_col k5, c k k4 k5]) (by rw [e2, up_col (by decide), e54]; omega) ?_⟩, fun z => absurd (by omega) z⟩⟩
      rw [e2, up_self, en]
      unfold pkV
      rw [if_neg (by rw [lnL_len]; exact h6)]
  intro n
  induction n with
  | zero =>
    intro i h hn f c hi e54 e55 hr
    have he : a + i = e := by rw [← hr, rn_stop (fun z => by have := z.1; omega)]
    exact vX9_takeWhole_57 ⟨fun z => absurd z (by omega), fun _ => ⟨fun _ v ev => fin i h f c e54 e55 he v ev, fun z => absurd (by omega) z⟩⟩
  | succ n ih =>
    intro i h hn f c hi e54 e55 hr
    by_cases hl : a + i < T.2
    · have e4' : h 4 (a + i) = mf_b8 (T.1 (a + i)) := by rw [f.1 4 (by decide)]; exact e4 _ (by omega) hl
      have bv := b8_val (X0 (a + i))
      have x0 := X0 (a + i)
      have stop : ¬ ltB (T.1 (a + i)) = true → a + i = e := fun hb => by rw [← hr, rn_stop (fun z => hb z.2)]
      refine vX9_takeWhole_57 ⟨fun z => absurd z (by omega), fun _ => ⟨fun z => absurd z (by omega), fun _ => ⟨by omega, by omega, fun z v ev => fin i h f c e54 e55 (stop (fun w => ?_)) v ev, fun z => ⟨fun y v ev => fin i h f c e54 e55 (stop (fun w => ?_)) v ev, fun y h9 e9 => ?_⟩⟩⟩⟩
      · have := (ltB_iff _).mp w
        rw [e4', bv, if_pos (by omega)] at z
        omega
      · have := (ltB_iff _).mp w
        rw [e4', bv, if_pos (by omega)] at y
        omega
      · have hx : 97 ≤ T.1 (a + i) ∧ T.1 (a + i) ≤ 122 := by
          rw [e4', bv] at z y
          by_cases w : T.1 (a + i) < 128
          · rw [if_pos w] at z y; omega
          · rw [if_neg w] at z; omega
        have hb := (ltB_iff _).mpr hx
        have hge := rn_ge ltB T (a + i + 1)
        rw [← rn_step hl hb, hr] at hge
        have eb : mf_b8 (T.1 (a + i)) = T.1 (a + i) := by rw [bv, if_pos (by omega)]
        rw [e54, w_id (by omega) (by omega)] at e9
        have s9 : h9 5 4 = (i : Int) + 1 := by rw [e9, up_self]
        have f9 : frW5 h h9 := by rw [e9]; exact frW5.up (by decide)
        have c9 : ∀ k, k ≠ 4 → h9 5 k = h 5 k := fun k hk => by rw [e9, up_col hk]
        have e49 : h9 4 (a + i) = T.1 (a + i) := by rw [f9.1 4 (by decide), e4', eb]
        rw [s9, w_id (x := a + i + 1) (by omega) (by omega), c9 5 (by decide), e49]
        have nxt : ∀ h13 : mf_M, frW5 h9 h13 → (∀ k, k ≠ 5 → h13 5 k = h9 5 k) → (i + 1 ≤ 6 → h13 5 5 = pkS (lnL T a (i + 1))) → BX9_takeWhole_57 C l d K T.2 1 97 122 6 (a + i + 1) g h13 := by
          intro h13 f13 c13 e13
          have := ih (i + 1) h13 (by omega) ((f.tr f9).tr f13) (fun k k4 k5 => by rw [c13 k k5, c9 k k4, c k k4 k5]) (by omega) (by rw [c13 4 (by decide), s9]; omega) e13 (by rw [show a + ((i + 1 : Nat) : Int) = a + i + 1 by omega, ← rn_step hl hb]; exact hr)
          rw [show a + ((i + 1 : Nat) : Int) = a + i + 1 by omega] at this
          exact this
        refine ⟨fun z v8 e8 => ?_, fun z => ⟨fun w => absurd w (by decide), fun _ h13 e13 v14 e14 => ?_⟩⟩
        · rw [e8]
          exact nxt h9 (frW5.rf h9) (fun _ _ => rfl) (fun w => absurd w (by omega))
        · have pr := pk_range (a := lnL T a i) (fun x hx => by have := lr i (by omega) x hx; omega)
          rw [lnL_len] at pr
          have hpw : ∀ m : Fin 6, (27 : Int) ^ m.val ≤ 14348907 := by decide
          have hp := hpw ⟨i, by omega⟩
          simp only [] at hp
          rw [e55 (by omega), w_id (x := pkS (lnL T a i) * 27) (by omega) (by omega), w_id (x := pkS (lnL T a i) * 27 + T.1 (a + i)) (by omega) (by omega), w_id (x := pkS (lnL T a i) * 27 + T.1 (a + i) - 97) (by omega) (by omega), w_id (by omega) (by omega)] at e13
          rw [e14]
          refine nxt h13 (by rw [e13]; exact frW5.up (by decide)) (fun k hk => by rw [e13, up_col hk]) (fun _ => ?_)
          rw [e13, up_self, lnL_succ, pk_snoc]
          omega
    · have he : a + i = e := by rw [← hr, rn_stop (fun z => hl z.1)]
      exact vX9_takeWhole_57 ⟨fun z => absurd z (by omega), fun _ => ⟨fun _ v ev => fin i h f c e54 e55 he v ev, fun z => absurd (by omega) z⟩⟩
theorem x_tn57 (X0 : ∀ i, 0 ≤ T.1 i ∧ T.1 i ≤ 255) (a e : Int) (a0 : 0 ≤ a) (ea : e = rnS dgB T a) (t2 : 0 ≤ T.2 ∧ T.2 ≤ 1600) (h0 : mf_M) (e4 : ∀ i, 0 ≤ i → i < T.2 → h0 4 i = mf_b8 (T.1 i)) (hK : ∀ h', frW5 h0 h' → (∀ k, k ≠ 4 → k ≠ 5 → h' 5 k = h0 5 k) → h' 5 4 = e - a → (e - a ≤ 4 → h' 5 5 = nvS T a (e - a).toNat) → K 0 g h') : ∀ (n i : Nat) (h : mf_M), T.2 - (a + i) ≤ n → frW5 h0 h → (∀ k, k ≠ 4 → k ≠ 5 → h 5 k = h0 5 k) → a + i ≤ T.2 → h 5 4 = i → (i ≤ 4 → h 5 5 = nvS T a i) → rnS dgB T (a + i) = e → BX9_takeWhole_57 C l d K T.2 0 48 57 4 (a + i) g h := by
  have digs : ∀ j : Nat, a + j < e → 48 ≤ T.1 (a + j) ∧ T.1 (a + j) ≤ 57 := fun j hj => by
    rw [ea] at hj
    exact (dgB_iff _).mp (rn_all (p := dgB) (T := T) (T.2 - a).toNat a (by omega) (a + j) (by omega) hj)
  have fin : ∀ (i : Nat) (h : mf_M), frW5 h0 h → (∀ k, k ≠ 4 → k ≠ 5 → h 5 k = h0 5 k) → h 5 4 = i → (i ≤ 4 → h 5 5 = nvS T a i) → a + i = e → ∀ v : Int, v = h 5 4 → BX9_takeWhole_181 C l d K 0 4 v g h := by
    intro i h f c e54 e55 he v ev
    have en : (e - a).toNat = i := by omega
    exact vX9_takeWhole_181 ⟨fun _ => ⟨fun z => hK h f c (by omega) (fun z => by rw [en]; exact e55 (by omega)), fun z h2 e2 => hK h2 (f.tr (by rw [e2]; exact frW5.up (by decide))) (fun k k4 k5 => by rw [e2, up_col k5, c k k4 k5]) (by rw [e2, up_col (by decide), e54]; omega) (fun y => absurd y (by omega))⟩, fun z => absurd rfl z⟩
  intro n
  induction n with
  | zero =>
    intro i h hn f c hi e54 e55 hr
    have he : a + i = e := by rw [← hr, rn_stop (fun z => by have := z.1; omega)]
    exact vX9_takeWhole_57 ⟨fun z => absurd z (by omega), fun _ => ⟨fun _ v ev => fin i h f c e54 e55 he v ev, fun z => absurd (by omega) z⟩⟩
  | succ n ih =>
    intro i h hn f c hi e54 e55 hr
    by_cases hl : a + i < T.2
    · have e4' : h 4 (a + i) = mf_b8 (T.1 (a + i)) := by rw [f.1 4 (by decide)]; exact e4 _ (by omega) hl
      have bv := b8_val (X0 (a + i))
      have x0 := X0 (a + i)
      have stop : ¬ dgB (T.1 (a + i)) = true → a + i = e := fun hb => by rw [← hr, rn_stop (fun z => hb z.2)]
      refine vX9_takeWhole_57 ⟨fun z => absurd z (by omega), fun _ => ⟨fun z => absurd z (by omega), fun _ => ⟨by omega, by omega, fun z v ev => fin i h f c e54 e55 (stop (fun w => ?_)) v ev, fun z => ⟨fun y v ev => fin i h f c e54 e55 (stop (fun w => ?_)) v ev, fun y h9 e9 => ?_⟩⟩⟩⟩
      · have := (dgB_iff _).mp w
        rw [e4', bv, if_pos (by omega)] at z
        omega
      · have := (dgB_iff _).mp w
        rw [e4', bv, if_pos (by omega)] at y
        omega
      · have hx : 48 ≤ T.1 (a + i) ∧ T.1 (a + i) ≤ 57 := by
          rw [e4', bv] at z y
          by_cases w : T.1 (a + i) < 128
          · rw [if_pos w] at z y; omega
          · rw [if_neg w] at z; omega
        have hb := (dgB_iff _).mpr hx
        have hge := rn_ge dgB T (a + i + 1)
        rw [← rn_step hl hb, hr] at hge
        have eb : mf_b8 (T.1 (a + i)) = T.1 (a + i) := by rw [bv, if_pos (by omega)]
        rw [e54, w_id (by omega) (by omega)] at e9
        have s9 : h9 5 4 = (i : Int) + 1 := by rw [e9, up_self]
        have f9 : frW5 h h9 := by rw [e9]; exact frW5.up (by decide)
        have c9 : ∀ k, k ≠ 4 → h9 5 k = h 5 k := fun k hk => by rw [e9, up_col hk]
        have e49 : h9 4 (a + i) = T.1 (a + i) := by rw [f9.1 4 (by decide), e4', eb]
        rw [s9, w_id (x := a + i + 1) (by omega) (by omega), c9 5 (by decide), e49]
        have nxt : ∀ h13 : mf_M, frW5 h9 h13 → (∀ k, k ≠ 5 → h13 5 k = h9 5 k) → (i + 1 ≤ 4 → h13 5 5 = nvS T a (i + 1)) → BX9_takeWhole_57 C l d K T.2 0 48 57 4 (a + i + 1) g h13 := by
          intro h13 f13 c13 e13
          have := ih (i + 1) h13 (by omega) ((f.tr f9).tr f13) (fun k k4 k5 => by rw [c13 k k5, c9 k k4, c k k4 k5]) (by omega) (by rw [c13 4 (by decide), s9]; omega) e13 (by rw [show a + ((i + 1 : Nat) : Int) = a + i + 1 by omega, ← rn_step hl hb]; exact hr)
          rw [show a + ((i + 1 : Nat) : Int) = a + i + 1 by omega] at this
          exact this
        refine ⟨fun z v8 e8 => ?_, fun z => ⟨fun _ h7 e7 v8 e8 => ?_, fun w => absurd rfl w⟩⟩
        · rw [e8]
          exact nxt h9 (frW5.rf h9) (fun _ _ => rfl) (fun w => absurd w (by omega))
        · have nr := nv_range (T := T) (a := a) i (fun j hj => digs j (by omega))
          have hp : ∀ m : Fin 5, (10 : Int) ^ m.val ≤ 10000 := by decide
          have hp4 := hp ⟨i, by omega⟩
          simp only [] at hp4
          rw [e55 (by omega), w_id (x := nvS T a i * 10) (by omega) (by omega), w_id (x := nvS T a i * 10 + T.1 (a + i)) (by omega) (by omega), w_id (by omega) (by omega)] at e7
          rw [e8]
          refine nxt h7 (by rw [e7]; exact frW5.up (by decide)) (fun k hk => by rw [e7, up_col hk]) (fun _ => ?_)
          rw [e7, up_self]
          show _ = 10 * nvS T a i + (T.1 (a + i) - 48)
          omega
    · have he : a + i = e := by rw [← hr, rn_stop (fun z => hl z.1)]
      exact vX9_takeWhole_57 ⟨fun z => absurd z (by omega), fun _ => ⟨fun _ v ev => fin i h f c e54 e55 he v ev, fun z => absurd (by omega) z⟩⟩
/-- the end of a step: where it goes on, what stands too close -/
theorem x_st230 {h h0 : mf_M} {b : Int} (X : txX T h0) (f : frW5 h0 h) (q1 : 0 ≤ q.1 ∧ q.1 ≤ T.2) (hb : b = if q.2 then 1 else 0) (hl : tA T q < T.2) (e3 : h 5 3 = tA T q) (e4 : h 5 4 = tE T q - tA T q) (ek : h 5 2 = (if ltB (tB T q) then 1 else if dgB (tB T q) then 2 else 3)) (es : h 5 2 = 3 → h 5 5 = tB T q) (ew : h 5 2 = 1 → h 5 5 = pkV (tL T q)) (en : h 5 2 = 2 → tE T q - tA T q ≤ 4 → h 5 5 = tV T q) (hK : ∀ h', lxX T q h' → frW5 h0 h' → K 0 g h') : BX9_step_230 C l d K b q.1 g h := by
  have t2 := X.1
  have tle := tE_le T q1.2
  have tge := tE_ge T q1.2
  have ag := tA_ge T q
  refine vX9_step_230 (fun h1 e1 => ?_)
  rw [e3, e4, w_id (by omega) (by omega), show tA T q + (tE T q - tA T q) = tE T q by omega] at e1
  have f1 : frW5 h h1 := by rw [e1]; exact frW5.up (by decide)
  have c1 : ∀ k, k ≠ 6 → h1 5 k = h 5 k := fun k hk => by rw [e1, up_col hk]
  have s1 : h1 5 6 = tE T q := by rw [e1, up_self]
  have noS : (tS T q = false ∨ h 5 2 = 3) → h 5 2 = tK T q := by
    intro z
    unfold tK
    rw [if_neg (by omega), ek]
    cases hlt : ltB (tB T q) with
    | true =>
      rcases z with z | z
      · rw [z]; simp
      · rw [ek, hlt] at z; simp at z
    | false =>
      cases hdg : dgB (tB T q) with
      | true =>
        rcases z with z | z
        · rw [z]; simp
        · rw [ek, hlt, hdg] at z; exact absurd z (by decide)
      | false => simp
  have done : (tS T q = false ∨ h 5 2 = 3) → K 0 g h1 := by
    intro z
    have k1 := noS z
    refine hK h1 ⟨(X.to (f.tr f1).1), q1, by rw [c1 2 (by decide)]; exact k1, by rw [c1 3 (by decide)]; exact e3, s1, fun _ => by rw [c1 4 (by decide)]; exact e4, fun y => by rw [c1 5 (by decide)]; exact es (by rw [k1]; exact y), fun y => by rw [c1 5 (by decide)]; exact ew (by rw [k1]; exact y), fun y y4 => by rw [c1 5 (by decide)]; exact en (by rw [k1]; exact y) y4⟩ (f.tr f1)
  refine ⟨fun z => done (Or.inl ?_), fun z => ?_⟩
  · unfold tS
    cases hq : q.2 with
    | false => rfl
    | true => rw [hq] at hb; simp at hb; omega
  · have q2 : q.2 = true := by
      cases hq : q.2 with
      | true => rfl
      | false => rw [hq] at hb; simp at hb; omega
    rw [c1 3 (by decide), c1 2 (by decide), e3]
    refine ⟨fun y => done (Or.inl ?_), fun y => ⟨fun w => done (Or.inr w), fun w h2 e2 => ?_⟩⟩
    · unfold tS
      rw [q2]
      simpa using y
    · have hs : tS T q = true := by unfold tS; rw [q2]; simpa using y
      have k4 : tK T q = 4 := by
        unfold tK
        rw [if_neg (by omega), hs]
        rw [ek] at w
        cases hlt : ltB (tB T q) with
        | true => simp
        | false =>
          cases hdg : dgB (tB T q) with
          | true => simp
          | false => rw [hlt, hdg] at w; exact absurd rfl w
      have f2 : frW5 h1 h2 := by rw [e2]; exact frW5.up (by decide)
      have c2 : ∀ k, k ≠ 2 → h2 5 k = h1 5 k := fun k hk => by rw [e2, up_col hk]
      refine hK h2 ⟨X.to ((f.tr f1).tr f2).1, q1, by rw [e2, up_self, k4], by rw [c2 3 (by decide), c1 3 (by decide)]; exact e3, by rw [c2 6 (by decide)]; exact s1, fun _ => by rw [c2 4 (by decide), c1 4 (by decide)]; exact e4, fun z => absurd (k4.symm.trans z) (by decide), fun z => absurd (k4.symm.trans z) (by decide), fun z => absurd (k4.symm.trans z) (by decide)⟩ ((f.tr f1).tr f2)
theorem x_st110 {h h0 : mf_M} {b : Int} (hd : 1 ≤ d) (X : txX T h0) (f : frW5 h0 h) (q1 : 0 ≤ q.1 ∧ q.1 ≤ T.2) (hb : b = if q.2 then 1 else 0) (e3 : h 5 3 = tA T q) (hK : ∀ h', lxX T q h' → frW5 h0 h' → K 0 g h') : BX9_step_110 C l d K b q.1 T.2 g h := by
  have t2 := X.1
  have ag := tA_ge T q
  have al := tA_le T q1.2
  refine vX9_step_110 (fun h1 e1 h2 e2 => ?_)
  have f1 : frW5 h h1 := by rw [e1]; exact frW5.up (by decide)
  have f12 : frW5 h1 h2 := by rw [e2]; exact frW5.up (by decide)
  have f2 : frW5 h0 h2 := (f.tr f1).tr f12
  have a3 : h2 5 3 = tA T q := by rw [e2, up_col (by decide), e1, up_col (by decide)]; exact e3
  have a4 : h2 5 4 = 0 := by rw [e2, up_col (by decide), e1, up_self]
  have a5 : h2 5 5 = 0 := by rw [e2, up_self]
  have Xh := X.to f2.1
  rw [a3]
  rcases Int.lt_or_le (tA T q) T.2 with hl | hl
  · have e4 : h2 4 (tA T q) = mf_b8 (tB T q) := Xh.2.2.2.1 _ (by omega) hl
    refine ⟨fun _ => ⟨by omega, by omega, fun v6 e6 => ?_⟩, fun z => absurd hl z⟩
    rw [e4, b8_and255 (x := tB T q) (Xh.2.1 _)] at e6
    subst e6
    have s1 : ltB (tB T q) = true → BX9_step_200 C l d K b q.1 T.2 (tB T q) 5 1 g h2 := by
      intro hlt
      refine vX9_step_200 hd ⟨is5, fun h3 e3' => ?_⟩
      have f3 : frW5 h2 h3 := by rw [e3']; exact frW5.up (by decide)
      have v2 : h3 5 2 = 1 := by rw [e3', up_self]
      have v3 : h3 5 3 = tA T q := by rw [e3', up_col (by decide)]; exact a3
      have et : tE T q = rnS ltB T (tA T q) := by unfold tE; rw [if_neg (by omega), if_pos hlt]
      refine ⟨fun _ => wX9_takeWhole ⟨fun z => absurd v2 z, fun _ => vX9_takeWhole_13 ⟨fun z => absurd z (by decide), fun _ => ⟨fun z => absurd z (by decide), fun _ => vX9_takeWhole_37 ⟨fun z => absurd z (by decide), fun _ v4 ev => ?_⟩⟩⟩⟩, fun z => absurd (v2.symm.trans z) (by decide)⟩
      rw [ev, v3]
      have := x_tw57 (C := C) (l := l) (d := 0) (g := g) (K := fun r19 g20 h21 => BX9_step_230 C l d K b q.1 g20 h21) (T := T) Xh.2.1 (tA T q) (tE T q) (by omega) et t2 h3 (Xh.to f3.1).2.2.2.1 (fun h' f' c' b4 b5 => x_st230 X ((f2.tr f3).tr f') q1 hb hl (by rw [c' 3 (by decide) (by decide)]; exact v3) b4 (by rw [c' 2 (by decide) (by decide), v2, hlt]; rfl) (fun z => absurd (((c' 2 (by decide) (by decide)).trans v2).symm.trans z) (by decide)) (fun _ => b5) (fun z => absurd (((c' 2 (by decide) (by decide)).trans v2).symm.trans z) (by decide)) hK) (T.2 - tA T q).toNat 0 h3 (by omega) (frW5.rf h3) (fun _ _ _ => rfl) (by omega) (by rw [e3', up_col (by decide), a4]; rfl) (fun _ => by rw [e3', up_col (by decide), a5]; rfl) (by rw [et]; simp)
      simpa using this
    have s2 : ltB (tB T q) = false → dgB (tB T q) = true → BX9_step_200 C l d K b q.1 T.2 (tB T q) 5 2 g h2 := by
      intro hlt hdg
      refine vX9_step_200 hd ⟨is5, fun h3 e3' => ?_⟩
      have f3 : frW5 h2 h3 := by rw [e3']; exact frW5.up (by decide)
      have v2 : h3 5 2 = 2 := by rw [e3', up_self]
      have v3 : h3 5 3 = tA T q := by rw [e3', up_col (by decide)]; exact a3
      have nl : ¬ ltB (tB T q) = true := by rw [hlt]; decide
      have et : tE T q = rnS dgB T (tA T q) := by unfold tE; rw [if_neg (by omega), if_neg nl, if_pos hdg]
      refine ⟨fun _ => wX9_takeWhole ⟨fun _ => vX9_takeWhole_13 ⟨fun _ => ⟨fun _ => vX9_takeWhole_37 ⟨fun _ v4 ev => ?_, fun z => absurd rfl z⟩, fun z => absurd rfl z⟩, fun z => absurd rfl z⟩, fun z => absurd (v2.symm.trans z) (by decide)⟩, fun z => absurd (v2.symm.trans z) (by decide)⟩
      rw [ev, v3]
      have := x_tn57 (C := C) (l := l) (d := 0) (g := g) (K := fun r16 g17 h18 => BX9_step_230 C l d K b q.1 g17 h18) (T := T) Xh.2.1 (tA T q) (tE T q) (by omega) et t2 h3 (Xh.to f3.1).2.2.2.1 (fun h' f' c' b4 b5 => x_st230 X ((f2.tr f3).tr f') q1 hb hl (by rw [c' 3 (by decide) (by decide)]; exact v3) b4 (by rw [c' 2 (by decide) (by decide), v2, hlt, hdg]; rfl) (fun z => absurd (((c' 2 (by decide) (by decide)).trans v2).symm.trans z) (by decide)) (fun z => absurd (((c' 2 (by decide) (by decide)).trans v2).symm.trans z) (by decide)) (fun _ => b5) hK) (T.2 - tA T q).toNat 0 h3 (by omega) (frW5.rf h3) (fun _ _ _ => rfl) (by omega) (by rw [e3', up_col (by decide), a4]; rfl) (fun _ => by rw [e3', up_col (by decide), a5]; rfl) (by rw [et]; simp)
      simpa using this
    have s3 : ltB (tB T q) = false → dgB (tB T q) = false → BX9_step_200 C l d K b q.1 T.2 (tB T q) 5 3 g h2 := by
      intro hlt hdg
      refine vX9_step_200 hd ⟨is5, fun h3 e3' => ?_⟩
      have f3 : frW5 h2 h3 := by rw [e3']; exact frW5.up (by decide)
      have v2 : h3 5 2 = 3 := by rw [e3', up_self]
      have nl : ¬ ltB (tB T q) = true := by rw [hlt]; decide
      have nd : ¬ dgB (tB T q) = true := by rw [hdg]; decide
      have et : tE T q = tA T q + 1 := by unfold tE; rw [if_neg (by omega), if_neg nl, if_neg nd]
      refine ⟨fun z => absurd v2 z, fun _ h14 e14 h15 e15 => ?_⟩
      have g1 : frW5 h3 h14 := by rw [e14]; exact frW5.up (by decide)
      have g2 : frW5 h14 h15 := by rw [e15]; exact frW5.up (by decide)
      have w2 : h15 5 2 = 3 := by rw [e15, up_col (by decide), e14, up_col (by decide)]; exact v2
      exact x_st230 X ((f2.tr f3).tr (g1.tr g2)) q1 hb hl (by rw [e15, up_col (by decide), e14, up_col (by decide), e3', up_col (by decide)]; exact a3) (by rw [e15, up_self, et]; omega) (by rw [w2, hlt, hdg]; rfl) (fun _ => by rw [e15, up_col (by decide), e14, up_self]) (fun z => absurd (w2.symm.trans z) (by decide)) (fun z => absurd (w2.symm.trans z) (by decide)) hK
    have nL : ¬ (97 ≤ tB T q ∧ tB T q ≤ 122) → ltB (tB T q) = false := fun z => by
      cases e : ltB (tB T q) with
      | false => rfl
      | true => exact absurd ((ltB_iff _).mp e) z
    have nD : ¬ (48 ≤ tB T q ∧ tB T q ≤ 57) → dgB (tB T q) = false := fun z => by
      cases e : dgB (tB T q) with
      | false => rfl
      | true => exact absurd ((dgB_iff _).mp e) z
    exact ⟨fun z => ⟨fun y => s3 (nL (by omega)) (nD (by omega)), fun y => ⟨fun w => s3 (nL (by omega)) (nD (by omega)), fun w => s2 (nL (by omega)) ((dgB_iff _).mpr (by omega))⟩⟩, fun z => ⟨fun w => ⟨fun y => s3 (nL (by omega)) (nD (by omega)), fun y => ⟨fun u => s3 (nL (by omega)) (nD (by omega)), fun u => s2 (nL (by omega)) ((dgB_iff _).mpr (by omega))⟩⟩, fun w => s1 ((ltB_iff _).mpr (by omega))⟩⟩
  · have ea : tA T q = T.2 := by omega
    have et : tE T q = T.2 := by unfold tE; rw [if_pos hl]
    have k0 : tK T q = 0 := tK_end.mpr hl
    refine ⟨fun z => absurd z (by omega), fun _ h22 e22 h23 e23 h24 e24 => ?_⟩
    have g1 : frW5 h2 h22 := by rw [e22]; exact frW5.up (by decide)
    have g2 : frW5 h22 h23 := by rw [e23]; exact frW5.up (by decide)
    have g3 : frW5 h23 h24 := by rw [e24]; exact frW5.up (by decide)
    have f24 : frW5 h0 h24 := ((f2.tr g1).tr g2).tr g3
    refine hK h24 ⟨X.to f24.1, q1, by rw [e24, up_col (by decide), e23, up_col (by decide), e22, up_self, k0], by rw [e24, up_col (by decide), e23, up_self, ea], by rw [e24, up_self, et], fun z => absurd k0 z, fun z => absurd (k0.symm.trans z) (by decide), fun z => absurd (k0.symm.trans z) (by decide), fun z => absurd (k0.symm.trans z) (by decide)⟩ f24
theorem x_st55 {h0 : mf_M} {b : Int} (hd : 1 ≤ d) (X : txX T h0) (q1 : 0 ≤ q.1 ∧ q.1 ≤ T.2) (hb : b = if q.2 then 1 else 0) (hK : ∀ h', lxX T q h' → frW5 h0 h' → K 0 g h') : ∀ (n : Nat) (h : mf_M), frW5 h0 h → T.2 - h 5 3 ≤ n → q.1 ≤ h 5 3 → h 5 3 ≤ T.2 → rnS blB T (h 5 3) = tA T q → BX9_step_55 C l d K b q.1 T.2 g h := by
  have t2 := X.1
  intro n
  induction n with
  | zero =>
    intro h f hn a0 a1 hr
    have he : h 5 3 = tA T q := by rw [← hr, rn_stop (fun z => by have := z.1; omega)]
    exact vX9_step_55 ⟨fun _ => x_st110 hd X f q1 hb he hK, fun z => absurd (by omega) z⟩
  | succ n ih =>
    intro h f hn a0 a1 hr
    by_cases hl : h 5 3 < T.2
    · have Xh := X.to f.1
      have e4 : h 4 (h 5 3) = mf_b8 (T.1 (h 5 3)) := Xh.2.2.2.1 _ (by omega) hl
      have go : blB (T.1 (h 5 3)) = true → ∀ h3 : mf_M, h3 = mf_up h 5 3 (mf_w32 (h 5 3 + 1)) → BX9_step_55 C l d K b q.1 T.2 g h3 := by
        intro hbl h3 e3
        rw [w_id (by omega) (by omega)] at e3
        have s3 : h3 5 3 = h 5 3 + 1 := by rw [e3, up_self]
        exact ih h3 (f.tr (by rw [e3]; exact frW5.up (by decide))) (by omega) (by omega) (by omega) (by rw [s3, ← rn_step hl hbl]; exact hr)
      refine vX9_step_55 ⟨fun z => absurd z (by omega), fun _ => ⟨by omega, by omega, ?_⟩⟩
      rw [e4, b8_eq (Xh.2.1 _) (by decide) (by decide), b8_eq (Xh.2.1 _) (by decide) (by decide)]
      refine ⟨fun z => go ((blB_iff _).mpr (Or.inl z)), fun z => ⟨fun y => x_st110 hd X f q1 hb ?_ hK, fun y => go ((blB_iff _).mpr (Or.inr y))⟩⟩
      rw [← hr, rn_stop (fun w => by rcases (blB_iff _).mp w.2 with w1 | w1; exact z w1; exact y w1)]
    · have he : h 5 3 = tA T q := by rw [← hr, rn_stop (fun z => hl z.1)]
      exact vX9_step_55 ⟨fun _ => x_st110 hd X f q1 hb he hK, fun z => absurd (by omega) z⟩
theorem x_stepQ {h : mf_M} (hd : 1 ≤ d) (X : txX T h) (q1 : 0 ≤ q.1 ∧ q.1 ≤ T.2) (e6 : h 5 6 = q.1) (ek : (h 5 2 = 1 ∨ h 5 2 = 2) ↔ q.2 = true) (hK : ∀ h', lxX T q h' → frW5 h h' → K 0 g h') : xM C l d YX9_step [(2, 5)] g h K := by
  have t2 := X.1
  have go : ∀ b : Int, (b = if q.2 then 1 else 0) → BX9_step_21 C l d K b g h := by
    intro b hb
    refine vX9_step_21 hd (fun v1 e1 => x_min ?_)
    rw [X.2.2.1, if_neg (by omega)]
    refine x_max ?_
    have em : (if (0 : Int) < v1 then v1 else 0) = q.1 := by split <;> omega
    rw [em]
    intro h4 e4
    have f4 : frW5 h h4 := by rw [e4]; exact frW5.up (by decide)
    have s4 : h4 5 3 = q.1 := by rw [e4, up_self]
    rw [e1, e6]
    exact x_st55 hd X q1 hb hK (T.2 - q.1).toNat h4 f4 (by rw [s4]; omega) (by omega) (by omega) (by rw [s4]; rfl)
  refine wX9_step ⟨fun z => go 1 (by rw [ek.mp (Or.inl z)]; rfl), fun z => ⟨fun y => go 0 ?_, fun y => go 1 (by rw [ek.mp (Or.inr y)]; rfl)⟩⟩
  cases hq : q.2 with
  | false => rfl
  | true => exact absurd (ek.mpr hq) (fun w => w.elim z y)
theorem X_step {h : mf_M} (hd : 2 ≤ d) (X : lxX T q h) (hk : tK T q ≠ 0) (hK : ∀ h', lxX T (tN T q) h' → frW5 h h' → K 0 g h') : xM C l d YX9_step [(2, 5)] g h K := by
  have p := tN_pos X.2.1.2 hk
  have q0 := X.2.1.1
  refine x_stepQ (q := tN T q) (by omega) X.1 ⟨by omega, p.2⟩ X.2.2.2.2.1 ?_ hK
  rw [X.2.2.1]
  unfold tN
  simp
theorem X_start {h : mf_M} (hd : 3 ≤ d) (X : txX T h) (hK : ∀ h', lxX T (0, false) h' → h' 5 8 = 0 → h' 5 9 = -1 → fr5 h h' → K 0 g h') : xM C l d YX9_start [(2, 5)] g h K := by
  refine wX9_start hd (fun h1 e1 h2 e2 h3 e3 h4 e4 => ?_)
  have f4 : fr5 h h4 := fun a ha => by rw [e4, up_row ha, e3, up_row ha, e2, up_row ha, e1, up_row ha]
  have k2 : h4 5 2 = 3 := by rw [e4, up_self]
  refine x_stepQ (q := (0, false)) (by decide) (X.to f4) ⟨by decide, X.1.1⟩ (by rw [e4, up_col (by decide), e3, up_self]) ?_ (fun h5 X5 f5 => hK h5 X5 ?_ ?_ (f4.tr f5.1))
  · rw [k2]; decide
  · rw [f5.2.1, e4, up_col (by decide), e3, up_col (by decide), e2, up_col (by decide), e1, up_self]
  · rw [f5.2.2.1, e4, up_col (by decide), e3, up_col (by decide), e2, up_self]
theorem X_isWord {k : Nat} {h : mf_M} (hk : k < 34) (hd : 1 ≤ d) (X : lxX T q h) (h1 : tX T q = (k : Int) → K 1 g h) (h0 : ¬ tX T q = (k : Int) → K 0 g h) : xM C l d YX9_isWord [(2, 5), (0, (k : Int))] g h K := by
  have iff := tX_iff (T := T) (q := q) hk
  have e2 := X.2.2.1
  refine wX9_isWord hd ⟨fun z => h0 (fun y => z (e2.trans (iff.mp y).1)), fun z => ?_⟩
  rw [e2] at z
  have e5 := X.2.2.2.2.2.2.2.1 z
  have ew : h 2 k = pkP (wdX.getD k []) := X.1.2.2.2.2 k hk
  rw [e5]
  refine wX10_isThat ⟨fun y => absurd y (by omega), fun _ => ⟨fun y => absurd y (by omega), fun _ => ⟨by omega, by omega, ?_⟩⟩⟩
  rw [ew, pkV_iff (tL_range z) hk]
  exact ⟨fun y => ⟨fun _ => h0 (fun w => y (iff.mp w).2), fun w => absurd rfl w⟩, fun y => ⟨fun w => absurd w (by decide), fun _ => h1 (iff.mpr ⟨z, y⟩)⟩⟩
theorem x_findL {h : mf_M} {v : Int} (W : wordsX h) {ls : List Int} (hr : ∀ x ∈ ls, 1 ≤ x ∧ x ≤ 26) (hv : v = pkV ls) (hK : K (ixL ls wdX 0) g h) : ∀ (n i : Nat), i + n = 34 → (∀ j : Nat, j < i → wdX.getD j [] ≠ ls) → BX10_find_2 C l d K v i g h := by
  intro n
  induction n with
  | zero =>
    intro i hi hj
    refine vX10_find_2 ⟨fun _ => ?_, fun z => absurd (by omega) z⟩
    rcases ix_spec ls wdX 0 with ⟨h1, _⟩ | ⟨m, h1, _, h3, _⟩
    · rw [h1] at hK; exact hK
    · exact absurd h3 (hj m (by rw [wdX_len] at h1; omega))
  | succ n ih =>
    intro i hi hj
    have ew : h 2 i = pkP (wdX.getD i []) := W i (by omega)
    refine vX10_find_2 ⟨fun z => absurd z (by omega), fun _ => ⟨by omega, by omega, ?_⟩⟩
    rw [ew, hv, pkV_iff hr (by omega)]
    refine ⟨fun z v3 e3 => ?_, fun z => ?_⟩
    · rw [w_id (by omega) (by omega)] at e3
      rw [e3, ← hv]
      refine ih (i + 1) (by omega) (fun j hj' => ?_)
      by_cases e : j = i
      · rw [e]; exact fun y => z y.symm
      · exact hj j (by omega)
    · rcases ix_spec ls wdX 0 with ⟨_, h2⟩ | ⟨m, h1, h2, h3, h4⟩
      · exact absurd (by rw [z]; exact wdX_mem ⟨i, by omega⟩) h2
      · rw [wdX_len] at h1
        have : m = i := by
          have := wdX_inj ⟨m, h1⟩ ⟨i, by omega⟩ (by simp only []; rw [h3, z])
          have := congrArg Fin.val this
          simpa using this
        rw [h2, this] at hK
        simpa using hK
theorem X_find {h : mf_M} (X : lxX T q h) (hk : tK T q = 1) (hK : K (tX T q) g h) : xM C l d YX10_find [(2, 1), (0, h 5 5)] g h K := by
  unfold tX at hK
  rw [if_pos hk] at hK
  rw [X.2.2.2.2.2.2.2.1 hk]
  exact wX10_find (x_findL (ls := tL T q) X.1.2.2.2.2 (tL_range hk) rfl hK 34 0 (by decide) (fun j hj => absurd hj (by omega)))
theorem X_isSign {c : Int} {h : mf_M} (X : lxX T q h) (h1 : sgB T q c = true → K 1 g h) (h0 : sgB T q c = false → K 0 g h) : xM C l d YX9_isSign [(2, 5), (0, c)] g h K := by
  have no : ¬ (tK T q = 3 ∧ tB T q = c) → sgB T q c = false := fun z => by
    cases e : sgB T q c with
    | false => rfl
    | true => exact absurd (sgB_iff.mp e) z
  have e2 := X.2.2.1
  refine wX9_isSign ⟨fun z => h0 (no (fun y => z (e2.trans y.1))), fun z => ?_⟩
  rw [e2] at z
  rw [X.2.2.2.2.2.2.1 z]
  exact ⟨fun y => h0 (no (fun w => y w.2)), fun y => h1 (sgB_iff.mpr ⟨z, y⟩)⟩
theorem X_passSign {c : Int} {h : mf_M} (hd : 3 ≤ d) (X : lxX T q h) (hb : h 5 8 = 0) (h1 : sgB T q c = true → ∀ h', lxX T (tN T q) h' → h' 5 8 = 0 → frW5 h h' → K 0 g h') (h0 : sgB T q c = false → ∀ h', flX (1, tA T q) h' → fr5 h h' → K 0 g h') : xM C l d YX9_passSign [(2, 5), (0, c)] g h K := by
  refine wX9_passSign hd ⟨fun z => absurd hb z, fun _ => X_isSign X (fun s => ⟨fun _ => ⟨fun z => absurd hb z, fun _ => X_step (by decide) X (sg_ne s) (fun h' X' f' => h1 s h' X' (f'.2.1.trans hb) f')⟩, fun z => absurd z (by decide)⟩) (fun s => ⟨fun z => absurd rfl z, fun _ => x_fail hb (fun h' F' f' _ => ?_)⟩)⟩
  rw [X.2.2.2.1] at F'
  exact ⟨fun _ => h0 s h' F' f', fun z => absurd (show (1 : Int) = 0 from F'.1.symm.trans z) (by decide)⟩
theorem X_passB {c : Int} {h : mf_M} (hd : 3 ≤ d) (hb : ¬ h 5 8 = 0) (hK : K 0 g h) : xM C l d YX9_passSign [(2, 5), (0, c)] g h K := wX9_passSign hd ⟨fun _ => ⟨fun _ => hK, fun z => absurd z hb⟩, fun z => absurd z hb⟩
theorem X_passWord {k : Nat} {h : mf_M} (hk : k < 34) (hd : 3 ≤ d) (X : lxX T q h) (hb : h 5 8 = 0) (h1 : tX T q = (k : Int) → ∀ h', lxX T (tN T q) h' → h' 5 8 = 0 → frW5 h h' → K 0 g h') (h0 : ¬ tX T q = (k : Int) → ∀ h', flX (1, tA T q) h' → fr5 h h' → K 0 g h') : xM C l d YX9_passWord [(2, 5), (0, (k : Int))] g h K := by
  refine wX9_passWord hd ⟨fun z => absurd hb z, fun _ => X_isWord hk (by decide) X (fun s => ⟨fun _ => ⟨fun z => absurd hb z, fun _ => X_step (by decide) X (tX_ne (by omega)) (fun h' X' f' => h1 s h' X' (f'.2.1.trans hb) f')⟩, fun z => absurd z (by decide)⟩) (fun s => ⟨fun z => absurd rfl z, fun _ => x_fail hb (fun h' F' f' _ => ?_)⟩)⟩
  rw [X.2.2.2.1] at F'
  exact ⟨fun _ => h0 s h' F' f', fun z => absurd (show (1 : Int) = 0 from F'.1.symm.trans z) (by decide)⟩
theorem X_passWB {k : Int} {h : mf_M} (hd : 3 ≤ d) (hb : ¬ h 5 8 = 0) (hK : K 0 g h) : xM C l d YX9_passWord [(2, 5), (0, k)] g h K := wX9_passWord hd ⟨fun _ => ⟨fun _ => hK, fun z => absurd z hb⟩, fun z => absurd z hb⟩
theorem X_passNumber {lo hi : Int} {h : mf_M} (hd : 3 ≤ d) (X : lxX T q h) (hb : h 5 8 = 0) (h1 : tK T q = 2 → tE T q - tA T q ≤ 4 → lo ≤ tV T q ∧ tV T q ≤ hi → ∀ h', lxX T (tN T q) h' → h' 5 8 = 0 → fr5 h h' → h' 5 7 = tA T q → K (tV T q) g h') (h2 : tK T q = 2 → tE T q - tA T q ≤ 4 → ¬ (lo ≤ tV T q ∧ tV T q ≤ hi) → ∀ h', flX (2, tA T q) h' → fr5 h h' → K (-1) g h') (h0 : ¬ (tK T q = 2 ∧ tE T q - tA T q ≤ 4) → ∀ h', flX (1, if tK T q = 2 then tA T q + 4 else tA T q) h' → fr5 h h' → K (-1) g h') : xM C l d YX9_passNumber [(2, 5), (0, lo), (0, hi)] g h K := by
  have t2 := X.1.1
  have al := tA_le T X.2.1.2
  have ag := tA_ge T q
  have q0 := X.2.1.1
  refine wX9_passNumber (fun h3 e3 => ?_)
  have r3 : fr5 h h3 := fun a ha => by rw [e3, up_row ha]
  have c3 : ∀ k, k ≠ 7 → h3 5 k = h 5 k := fun k hk => by rw [e3, up_col hk]
  have n3 : h3 5 7 = tA T q := by rw [e3, up_self]; exact X.2.2.2.1
  have b3 : h3 5 8 = 0 := by rw [c3 8 (by decide)]; exact hb
  have e2 : h3 5 2 = tK T q := by rw [c3 2 (by decide)]; exact X.2.2.1
  have a3 : h3 5 3 = tA T q := by rw [c3 3 (by decide)]; exact X.2.2.2.1
  have X3 : lxX T q h3 := ⟨X.1.to r3, X.2.1, e2, a3, by rw [c3 6 (by decide)]; exact X.2.2.2.2.1, by rw [c3 4 (by decide)]; exact X.2.2.2.2.2.1, by rw [c3 5 (by decide)]; exact X.2.2.2.2.2.2⟩
  have bad : ¬ (tK T q = 2 ∧ tE T q - tA T q ≤ 4) → BX9_passNumber_31 C l d K lo hi g h3 := by
    intro no
    have end57 : ∀ p h', p = (if tK T q = 2 then tA T q + 4 else tA T q) → flX (1, p) h' → fr5 h3 h' → BX9_passNumber_57 C l d K lo hi g h' := by
      intro p h' ep F' f'
      have nz : ¬ h' 5 8 = 0 := fun z => absurd (show (1 : Int) = 0 from F'.1.symm.trans z) (by decide)
      exact vX9_passNumber_57 hd ⟨fun _ => ⟨fun z => absurd z nz, fun _ => h0 no h' (by rw [← ep]; exact F') (r3.tr f')⟩, fun z => absurd z nz⟩
    refine vX9_passNumber_31 (by omega) ⟨fun z => x_fail b3 (fun h' F' f' _ => end57 _ h' ?_ F' f'), fun z => x_fail b3 (fun h' F' f' _ => end57 _ h' ?_ F' f')⟩
    · rw [if_neg (by rw [← e2]; exact z)]; exact a3
    · rw [if_pos (by rw [← e2]; exact z), a3, w_id (by omega) (by omega)]
  refine ⟨fun z => absurd b3 z, fun _ => ⟨fun z => bad (fun y => z (e2.trans y.1)), fun z => ?_⟩⟩
  rw [e2] at z
  have e4 := X3.2.2.2.2.2.1 (by rw [z]; decide)
  rw [e4]
  refine ⟨fun y => ?_, fun y => bad (fun w => y w.2)⟩
  have e5 := X3.2.2.2.2.2.2.2.2 z y
  have no2 : ¬ (lo ≤ tV T q ∧ tV T q ≤ hi) → BX9_passNumber_80 C l d K g h3 := fun no => vX9_passNumber_80 hd (x_fail b3 (fun h' F' f' _ => by
    rw [a3] at F'
    have nz : ¬ h' 5 8 = 0 := fun z => absurd (show (2 : Int) = 0 from F'.1.symm.trans z) (by decide)
    exact ⟨fun z => absurd z nz, fun _ => h2 z y no h' F' (r3.tr f')⟩))
  refine vX9_passNumber_57 hd ⟨fun w => absurd b3 w, fun _ => ?_⟩
  rw [e5]
  refine ⟨fun w => no2 (by omega), fun w => ⟨fun u => ⟨fun _ v5 ev => ?_, fun w2 => absurd b3 w2⟩, fun u => no2 (by omega)⟩⟩
  rw [ev]
  exact X_step (by decide) X3 (by rw [z]; decide) (fun h' X' f' => h1 z y ⟨by omega, u⟩ h' X' (f'.2.1.trans b3) (r3.tr f'.1) (f'.2.2.2.trans n3))
theorem X_passNB {lo hi : Int} {h : mf_M} (hd : 3 ≤ d) (hb : ¬ h 5 8 = 0) (hK : ∀ h', fr5 h h' → h' 5 8 = h 5 8 → h' 5 9 = h 5 9 → K (-1) g h') : xM C l d YX9_passNumber [(2, 5), (0, lo), (0, hi)] g h K := by
  refine wX9_passNumber (fun h3 e3 => ?_)
  have c8 : h3 5 8 = h 5 8 := by rw [e3, up_col (by decide)]
  refine ⟨fun _ => vX9_passNumber_57 hd ⟨fun _ => ⟨fun z => absurd z (by rw [c8]; exact hb), fun _ => hK h3 (fun a ha => by rw [e3, up_row ha]) c8 (by rw [e3, up_col (by decide)])⟩, fun z => absurd z (by rw [c8]; exact hb)⟩, fun z => absurd z (by rw [c8]; exact hb)⟩
theorem X_mayOpen {o : Int} {h : mf_M} (hd : 1 ≤ d) (X : lxX T q h) (hb : h 5 8 = 0) (h1 : o < 6 → K 1 g h) (h0 : 6 ≤ o → ∀ h', flX (4, tA T q) h' → fr5 h h' → K 0 g h') : xM C l d YX9_mayOpen [(2, 5), (0, o)] g h K := by
  refine wX9_mayOpen hd ⟨fun z => ⟨fun y => absurd hb y, fun _ => h1 z⟩, fun z => x_fail hb (fun h' F' f' _ => ?_)⟩
  rw [X.2.2.2.1] at F'
  exact ⟨fun _ => h0 (by omega) h' F' f', fun y => absurd (show (4 : Int) = 0 from F'.1.symm.trans y) (by decide)⟩
end SxLx
