/-! what is told is of its kind, and never piles up too high -/
theorem okT_num {c : Int} {cs : List Int} {ty : List Bool} {f : Bool} (h1 : 1000 ≤ c) (h2 : c ≤ 10999) (h3 : ty.length < 60) (h : okT cs (false :: ty) f) : okT (c :: cs) ty f := by
  unfold okT
  rw [if_pos h1]; exact ⟨h2, h3, h⟩
theorem okT_part {c : Int} {cs : List Int} {ty : List Bool} {f : Bool} (h1 : 40 ≤ c) (h2 : c ≤ 48) (h3 : ty.length < 60) (h : okT cs (false :: ty) f) : okT (c :: cs) ty f := by
  unfold okT
  rw [if_neg (by omega), if_neg (by omega), if_pos h1]; exact ⟨h2, h3, h⟩
theorem okT_of {cs : List Int} {t : List Bool} {f : Bool} (h : okT cs (false :: t) f) : okT (60 :: cs) (false :: t) f := by
  unfold okT
  rw [if_neg (by decide), if_pos (by decide)]; exact ⟨rfl, ⟨t, rfl⟩, h⟩
theorem okT_all {cs : List Int} {ty : List Bool} {f : Bool} (h3 : ty.length < 60) (h : okT cs (true :: ty) f) : okT (13 :: cs) ty f := by
  unfold okT
  rw [if_neg (by decide), if_neg (by decide), if_neg (by decide), if_pos rfl]; exact ⟨h3, h⟩
theorem okT_not {cs : List Int} {t : List Bool} {f : Bool} (h : okT cs (true :: t) f) : okT (12 :: cs) (true :: t) f := by
  unfold okT
  rw [if_neg (by decide), if_neg (by decide), if_neg (by decide), if_neg (by decide), if_pos rfl]; exact ⟨⟨t, rfl⟩, h⟩
theorem okT_bool {c : Int} {cs : List Int} {t : List Bool} {f : Bool} (hc : c = 10 ∨ c = 11) (h : okT cs (true :: t) f) : okT (c :: cs) (true :: true :: t) f := by
  unfold okT
  rw [if_neg (by omega), if_neg (by omega), if_neg (by omega), if_neg (by omega), if_neg (by omega), if_pos hc]; exact ⟨t, rfl, h⟩
theorem okT_cmp {c : Int} {cs : List Int} {t : List Bool} {f : Bool} (h1 : 7 ≤ c) (h2 : c ≤ 9) (h : okT cs (true :: t) f) : okT (c :: cs) (false :: false :: t) f := by
  unfold okT
  rw [if_neg (by omega), if_neg (by omega), if_neg (by omega), if_neg (by omega), if_neg (by omega), if_neg (by omega), if_pos ⟨h1, h2⟩]; exact ⟨t, rfl, h⟩
theorem okT_op {c : Int} {cs : List Int} {t : List Bool} {f : Bool} (h1 : 1 ≤ c) (h2 : c ≤ 6) (h : okT cs (false :: t) f) : okT (c :: cs) (false :: false :: t) f := by
  unfold okT
  rw [if_neg (by omega), if_neg (by omega), if_neg (by omega), if_neg (by omega), if_neg (by omega), if_neg (by omega), if_neg (by omega)]; exact ⟨h1, h2, t, rfl, h⟩
theorem prd_range (T : aT) (q : aQ) : prdS T q = 0 ∨ prdS T q = 3 ∨ prdS T q = 4 := by
  unfold prdS
  split
  · exact Or.inr (Or.inl rfl)
  · split
    · exact Or.inr (Or.inr rfl)
    · exact Or.inl rfl
theorem sm_range (T : aT) (q : aQ) : smS T q = 0 ∨ smS T q = 1 ∨ smS T q = 2 := by
  unfold smS
  split
  · exact Or.inr (Or.inl rfl)
  · split
    · exact Or.inr (Or.inr rfl)
    · exact Or.inl rfl
theorem cmp_range (T : aT) (q : aQ) : cmpS T q = 0 ∨ cmpS T q = 7 ∨ cmpS T q = 8 ∨ cmpS T q = 9 := by
  unfold cmpS
  split
  · exact Or.inr (Or.inl rfl)
  · split
    · exact Or.inr (Or.inr (Or.inl rfl))
    · split
      · exact Or.inr (Or.inr (Or.inr rfl))
      · exact Or.inl rfl
def pdT (b : Bool) (x : Int) (ty : List Bool) : List Bool := if x = 0 then ty else b :: ty
theorem pd_len (b : Bool) (x : Int) (ty : List Bool) : (pdT b x ty).length ≤ ty.length + 1 := by
  unfold pdT
  split <;> simp
theorem ls_op {x : Int} {r : List Int} {ty : List Bool} {f : Bool} (hx : x = 0 ∨ (1 ≤ x ∧ x ≤ 6)) (h : okT r (false :: ty) f) : okT (lsS x ++ r) (false :: pdT false x ty) f := by
  unfold lsS pdT
  by_cases e : x = 0
  · rw [if_pos e, if_pos e]; exact h
  · rw [if_neg e, if_neg e]; exact okT_op (by omega) (by omega) h
theorem ls_bool {x : Int} {r : List Int} {ty : List Bool} {f : Bool} (hx : x = 0 ∨ x = 10 ∨ x = 11) (h : okT r (true :: ty) f) : okT (lsS x ++ r) (true :: pdT true x ty) f := by
  unfold lsS pdT
  by_cases e : x = 0
  · rw [if_pos e, if_pos e]; exact h
  · rw [if_neg e, if_neg e]; exact okT_bool (by omega) h
theorem rd_typ (T : aT) (sc : Int → Bool) : ∀ (n : Nat) (b : Bool) (o p s : Int) (q : aQ) (x : aQ × List Int), rdS T sc n b o p s q = .ok x → o ≤ 6 → (p = 0 ∨ (1 ≤ p ∧ p ≤ 6)) → (s = 0 ∨ (1 ≤ s ∧ s ≤ 6)) → ∀ (rest : List Int) (ty : List Bool) (f : Bool), (ty.length : Int) + (if b then 2 else 0) + 1 + 3 * (6 - o) ≤ 60 → okT rest (false :: ty) f → okT (x.2 ++ rest) (if b then pdT false p (pdT false s ty) else ty) f
  | 0, b, o, p, s, q, x, h, _, _, _, _, _, _, _, _ => by unfold rdS at h; exact absurd h (by simp)
  | n + 1, true, o, p, s, q, x, h, ho, hp, hs, rest, ty, f, hl, hr => by
    unfold rdS at h
    obtain ⟨y, h1, h2⟩ := bnd_ok h
    simp only [if_true] at hl ⊢
    have l1 := pd_len false s ty
    have l2 := pd_len false p (pdT false s ty)
    have key : ∀ r1, okT r1 (false :: pdT false p (pdT false s ty)) f → okT (y.2 ++ r1) (pdT false p (pdT false s ty)) f := fun r1 h9 => by
      have := rd_typ T sc n false o 0 0 q y h1 ho (Or.inl rfl) (Or.inl rfl) r1 (pdT false p (pdT false s ty)) f (by simp only [Bool.false_eq_true, if_false]; omega) h9
      simpa using this
    split at h2
    · next z =>
      obtain ⟨w, h3, h4⟩ := bnd_ok h2
      have e : x = (w.1, y.2 ++ lsS p ++ w.2) := by injection h4 with h4; exact h4.symm
      have pr := prd_range T y.1
      have i2 := rd_typ T sc n true o _ s _ w h3 ho (by omega) hs rest ty f (by simp only [if_true]; omega) hr
      simp only [if_true] at i2
      rw [show pdT false (prdS T y.1) (pdT false s ty) = false :: pdT false s ty by unfold pdT; rw [if_neg z]] at i2
      subst e
      simp only [List.append_assoc]
      exact key _ (ls_op hp i2)
    · split at h2
      · next z =>
        obtain ⟨w, h3, h4⟩ := bnd_ok h2
        have e : x = (w.1, y.2 ++ lsS p ++ lsS s ++ w.2) := by injection h4 with h4; exact h4.symm
        have pr := sm_range T y.1
        have i2 := rd_typ T sc n true o 0 _ _ w h3 ho (Or.inl rfl) (by omega) rest ty f (by simp only [if_true]; omega) hr
        simp only [if_true] at i2
        rw [show pdT false 0 (pdT false (smS T y.1) ty) = false :: ty by unfold pdT; rw [if_pos rfl, if_neg z]] at i2
        subst e
        simp only [List.append_assoc]
        exact key _ (ls_op hp (ls_op hs i2))
      · have e : x = (y.1, y.2 ++ lsS p ++ lsS s) := by injection h2 with h4; exact h4.symm
        subst e
        simp only [List.append_assoc]
        exact key _ (ls_op hp (ls_op hs hr))
  | n + 1, false, o, p, s, q, x, h, ho, hp, hs, rest, ty, f, hl, hr => by
    unfold rdS at h
    simp only [Bool.false_eq_true, if_false] at hl ⊢
    have p00 : ∀ t, pdT false 0 (pdT false 0 t) = t := fun t => by unfold pdT; rw [if_pos rfl, if_pos rfl]
    split at h
    · next hk =>
      split at h
      · exact absurd h (by simp)
      · next h4 =>
        have e : x = (tN T q, [1000 + tV T q]) := by injection h with h4; exact h4.symm
        have v := tV_range hk (by omega)
        subst e
        exact okT_num (by omega) (by omega) (by omega) hr
    · split at h
      · split at h
        · split at h
          · exact absurd h (by simp)
          · obtain ⟨y, h1, h2⟩ := bnd_ok h
            split at h2
            · obtain ⟨w, h3, h4⟩ := bnd_ok h2
              split at h4
              · have e : x = (tN T w.1, y.2 ++ w.2 ++ [if tX T q = 10 then 5 else 6]) := by injection h4 with h4; exact h4.symm
                have i2 := rd_typ T sc n true (o + 1) 0 0 _ w h3 (by omega) (Or.inl rfl) (Or.inl rfl) ((if tX T q = 10 then 5 else 6) :: rest) (false :: ty) f (by simp only [if_true, List.length_cons]; omega) (okT_op (by split <;> decide) (by split <;> decide) hr)
                simp only [if_true, p00] at i2
                have i1 := rd_typ T sc n true (o + 1) 0 0 _ y h1 (by omega) (Or.inl rfl) (Or.inl rfl) (w.2 ++ ((if tX T q = 10 then 5 else 6) :: rest)) ty f (by simp only [if_true]; omega) i2
                simp only [if_true, p00] at i1
                subst e
                simp only [List.append_assoc, List.cons_append, List.nil_append]
                exact i1
              · exact absurd h4 (by simp)
            · exact absurd h2 (by simp)
        · exact absurd h (by simp)
      · split at h
        · split at h
          · exact absurd h (by simp)
          · obtain ⟨y, h1, h2⟩ := bnd_ok h
            split at h2
            · have e : x = (tN T y.1, y.2) := by injection h2 with h4; exact h4.symm
              have i1 := rd_typ T sc n true (o + 1) 0 0 _ y h1 (by omega) (Or.inl rfl) (Or.inl rfl) rest ty f (by simp only [if_true]; omega) hr
              simp only [if_true, p00] at i1
              subst e
              exact i1
            · exact absurd h2 (by simp)
        · split at h
          · next hw =>
            split at h
            · split at h
              · exact absurd h (by simp)
              · obtain ⟨y, h1, h2⟩ := bnd_ok h
                have e : x = (y.1, y.2 ++ [60]) := by injection h2 with h4; exact h4.symm
                have i1 := rd_typ T sc n false (o + 1) 0 0 _ y h1 (by omega) (Or.inl rfl) (Or.inl rfl) (60 :: rest) ty f (by simp only [Bool.false_eq_true, if_false]; omega) (okT_of hr)
                simp only [Bool.false_eq_true, if_false] at i1
                subst e
                simp only [List.append_assoc, List.cons_append, List.nil_append]
                exact i1
            · have e : x = (tN T q, [40 + tX T q]) := by injection h with h4; exact h4.symm
              subst e
              exact okT_part (by omega) (by omega) (by omega) hr
          · exact absurd h (by simp)
theorem rt_typ (T : aT) (sc : Int → Bool) : ∀ (n : Nat) (b : Bool) (o p s : Int) (q : aQ) (x : aQ × List Int), rtS T sc n b o p s q = .ok x → o ≤ 6 → (p = 0 ∨ p = 10 ∨ p = 11) → (s = 0 ∨ s = 10 ∨ s = 11) → ∀ (rest : List Int) (ty : List Bool) (f : Bool), (ty.length : Int) + (if b then 2 else 0) + 4 + 5 * (6 - o) ≤ 60 → okT rest (true :: ty) f → okT (x.2 ++ rest) (if b then pdT true p (pdT true s ty) else ty) f
  | 0, b, o, p, s, q, x, h, _, _, _, _, _, _, _, _ => by unfold rtS at h; exact absurd h (by simp)
  | n + 1, true, o, p, s, q, x, h, ho, hp, hs, rest, ty, f, hl, hr => by
    unfold rtS at h
    obtain ⟨y, h1, h2⟩ := bnd_ok h
    simp only [if_true] at hl ⊢
    have l1 := pd_len true s ty
    have l2 := pd_len true p (pdT true s ty)
    have key : ∀ r1, okT r1 (true :: pdT true p (pdT true s ty)) f → okT (y.2 ++ r1) (pdT true p (pdT true s ty)) f := fun r1 h9 => by
      have := rt_typ T sc n false o 0 0 q y h1 ho (Or.inl rfl) (Or.inl rfl) r1 (pdT true p (pdT true s ty)) f (by simp only [Bool.false_eq_true, if_false]; omega) h9
      simpa using this
    split at h2
    · next z =>
      obtain ⟨w, h3, h4⟩ := bnd_ok h2
      have e : x = (w.1, y.2 ++ lsS p ++ w.2) := by injection h4 with h4; exact h4.symm
      have i2 := rt_typ T sc n true o _ s _ w h3 ho (by decide) hs rest ty f (by simp only [if_true]; omega) hr
      simp only [if_true] at i2
      rw [show pdT true 10 (pdT true s ty) = true :: pdT true s ty by unfold pdT; rw [if_neg (by decide)]] at i2
      subst e
      simp only [List.append_assoc]
      exact key _ (ls_bool hp i2)
    · split at h2
      · next z =>
        obtain ⟨w, h3, h4⟩ := bnd_ok h2
        have e : x = (w.1, y.2 ++ lsS p ++ lsS s ++ w.2) := by injection h4 with h4; exact h4.symm
        have i2 := rt_typ T sc n true o 0 _ _ w h3 ho (Or.inl rfl) (by decide) rest ty f (by simp only [if_true]; omega) hr
        simp only [if_true] at i2
        rw [show pdT true 0 (pdT true 11 ty) = true :: ty by unfold pdT; rw [if_pos rfl, if_neg (by decide)]] at i2
        subst e
        simp only [List.append_assoc]
        exact key _ (ls_bool hp (ls_bool hs i2))
      · have e : x = (y.1, y.2 ++ lsS p ++ lsS s) := by injection h2 with h4; exact h4.symm
        subst e
        simp only [List.append_assoc]
        exact key _ (ls_bool hp (ls_bool hs hr))
  | n + 1, false, o, p, s, q, x, h, ho, hp, hs, rest, ty, f, hl, hr => by
    unfold rtS at h
    simp only [Bool.false_eq_true, if_false] at hl ⊢
    have p00 : ∀ b t, pdT b 0 (pdT b 0 t) = t := fun b t => by unfold pdT; rw [if_pos rfl, if_pos rfl]
    split at h
    · have e : x = (tN T q, [13]) := by injection h with h4; exact h4.symm
      subst e
      exact okT_all (by omega) hr
    · split at h
      · split at h
        · exact absurd h (by simp)
        · obtain ⟨y, h1, h2⟩ := bnd_ok h
          have e : x = (y.1, y.2 ++ [12]) := by injection h2 with h4; exact h4.symm
          have i1 := rt_typ T sc n false (o + 1) 0 0 _ y h1 (by omega) (Or.inl rfl) (Or.inl rfl) (12 :: rest) ty f (by simp only [Bool.false_eq_true, if_false]; omega) (okT_not hr)
          simp only [Bool.false_eq_true, if_false] at i1
          subst e
          simp only [List.append_assoc, List.cons_append, List.nil_append]
          exact i1
      · split at h
        · split at h
          · exact absurd h (by simp)
          · obtain ⟨y, h1, h2⟩ := bnd_ok h
            split at h2
            · have e : x = (tN T y.1, y.2) := by injection h2 with h4; exact h4.symm
              have i1 := rt_typ T sc n true (o + 1) 0 0 _ y h1 (by omega) (Or.inl rfl) (Or.inl rfl) rest ty f (by simp only [if_true]; omega) hr
              simp only [if_true, p00] at i1
              subst e
              exact i1
            · exact absurd h2 (by simp)
        · obtain ⟨y, h1, h2⟩ := bnd_ok h
          split at h2
          · next hc =>
            obtain ⟨w, h3, h4⟩ := bnd_ok h2
            have e : x = (w.1, y.2 ++ w.2 ++ [cmpS T y.1]) := by injection h4 with h4; exact h4.symm
            have cr := cmp_range T y.1
            have i2 := rd_typ T sc 4000 true o 0 0 _ w h3 ho (Or.inl rfl) (Or.inl rfl) (cmpS T y.1 :: rest) (false :: ty) f (by simp only [if_true, List.length_cons]; omega) (okT_cmp (by omega) (by omega) hr)
            simp only [if_true, p00] at i2
            have i1 := rd_typ T sc 4000 true o 0 0 _ y h1 ho (Or.inl rfl) (Or.inl rfl) (w.2 ++ (cmpS T y.1 :: rest)) ty f (by simp only [if_true]; omega) i2
            simp only [if_true, p00] at i1
            subst e
            simp only [List.append_assoc, List.cons_append, List.nil_append]
            exact i1
          · exact absurd h2 (by simp)
/-- which parts are told -/
def okC (sc : Int → Bool) (c : Int) : Prop := (1 ≤ c ∧ c < 40) ∨ (40 ≤ c ∧ c ≤ 48 ∧ sc (c - 40) = true) ∨ (c = 60 ∧ sc 9 = true) ∨ 1000 ≤ c
theorem ls_okC {sc : Int → Bool} {x : Int} (h : x = 0 ∨ (1 ≤ x ∧ x < 40)) : ∀ c ∈ lsS x, okC sc c := by
  intro c hc
  unfold lsS at hc
  split at hc
  · exact absurd hc (by simp)
  · have : c = x := by simpa using hc
    exact Or.inl (by omega)
theorem rd_sc (T : aT) (sc : Int → Bool) : ∀ (n : Nat) (b : Bool) (o p s : Int) (q : aQ) (x : aQ × List Int), rdS T sc n b o p s q = .ok x → (p = 0 ∨ (1 ≤ p ∧ p < 40)) → (s = 0 ∨ (1 ≤ s ∧ s < 40)) → ∀ c ∈ x.2, okC sc c
  | 0, b, o, p, s, q, x, h, _, _ => by unfold rdS at h; exact absurd h (by simp)
  | n + 1, true, o, p, s, q, x, h, hp, hs => by
    unfold rdS at h
    obtain ⟨y, h1, h2⟩ := bnd_ok h
    have i1 := rd_sc T sc n false o 0 0 q y h1 (Or.inl rfl) (Or.inl rfl)
    split at h2
    · next z =>
      obtain ⟨w, h3, h4⟩ := bnd_ok h2
      have e : x = (w.1, y.2 ++ lsS p ++ w.2) := by injection h4 with h4; exact h4.symm
      have pr := prd_range T y.1
      have i2 := rd_sc T sc n true o _ s _ w h3 (by omega) hs
      subst e
      intro c hc
      simp only [List.mem_append] at hc
      rcases hc with (hc | hc) | hc
      · exact i1 c hc
      · exact ls_okC hp c hc
      · exact i2 c hc
    · split at h2
      · next z =>
        obtain ⟨w, h3, h4⟩ := bnd_ok h2
        have e : x = (w.1, y.2 ++ lsS p ++ lsS s ++ w.2) := by injection h4 with h4; exact h4.symm
        have pr := sm_range T y.1
        have i2 := rd_sc T sc n true o 0 _ _ w h3 (Or.inl rfl) (by omega)
        subst e
        intro c hc
        simp only [List.mem_append] at hc
        rcases hc with ((hc | hc) | hc) | hc
        · exact i1 c hc
        · exact ls_okC hp c hc
        · exact ls_okC hs c hc
        · exact i2 c hc
      · have e : x = (y.1, y.2 ++ lsS p ++ lsS s) := by injection h2 with h4; exact h4.symm
        subst e
        intro c hc
        simp only [List.mem_append] at hc
        rcases hc with (hc | hc) | hc
        · exact i1 c hc
        · exact ls_okC hp c hc
        · exact ls_okC hs c hc
  | n + 1, false, o, p, s, q, x, h, hp, hs => by
    unfold rdS at h
    split at h
    · next hk =>
      split at h
      · exact absurd h (by simp)
      · next h4 =>
        have e : x = (tN T q, [1000 + tV T q]) := by injection h with h4; exact h4.symm
        have v := tV_range hk (by omega)
        subst e
        intro c hc
        have : c = 1000 + tV T q := by simpa using hc
        exact Or.inr (Or.inr (Or.inr (by omega)))
    · split at h
      · split at h
        · split at h
          · exact absurd h (by simp)
          · obtain ⟨y, h1, h2⟩ := bnd_ok h
            split at h2
            · obtain ⟨w, h3, h4⟩ := bnd_ok h2
              split at h4
              · have e : x = (tN T w.1, y.2 ++ w.2 ++ [if tX T q = 10 then 5 else 6]) := by injection h4 with h4; exact h4.symm
                have i1 := rd_sc T sc n true (o + 1) 0 0 _ y h1 (Or.inl rfl) (Or.inl rfl)
                have i2 := rd_sc T sc n true (o + 1) 0 0 _ w h3 (Or.inl rfl) (Or.inl rfl)
                subst e
                intro c hc
                simp only [List.mem_append, List.mem_singleton] at hc
                rcases hc with (hc | hc) | hc
                · exact i1 c hc
                · exact i2 c hc
                · rw [hc]; exact Or.inl (by split <;> decide)
              · exact absurd h4 (by simp)
            · exact absurd h2 (by simp)
        · exact absurd h (by simp)
      · split at h
        · split at h
          · exact absurd h (by simp)
          · obtain ⟨y, h1, h2⟩ := bnd_ok h
            split at h2
            · have e : x = (tN T y.1, y.2) := by injection h2 with h4; exact h4.symm
              subst e
              exact rd_sc T sc n true (o + 1) 0 0 _ y h1 (Or.inl rfl) (Or.inl rfl)
            · exact absurd h2 (by simp)
        · split at h
          · next hw =>
            split at h
            · next h9 =>
              split at h
              · exact absurd h (by simp)
              · obtain ⟨y, h1, h2⟩ := bnd_ok h
                have e : x = (y.1, y.2 ++ [60]) := by injection h2 with h4; exact h4.symm
                have i1 := rd_sc T sc n false (o + 1) 0 0 _ y h1 (Or.inl rfl) (Or.inl rfl)
                subst e
                intro c hc
                simp only [List.mem_append, List.mem_singleton] at hc
                rcases hc with hc | hc
                · exact i1 c hc
                · exact Or.inr (Or.inr (Or.inl ⟨hc, by rw [← h9]; exact hw.2.2⟩))
            · have e : x = (tN T q, [40 + tX T q]) := by injection h with h4; exact h4.symm
              subst e
              intro c hc
              have : c = 40 + tX T q := by simpa using hc
              exact Or.inr (Or.inl ⟨by omega, by omega, by rw [this, show 40 + tX T q - 40 = tX T q by omega]; exact hw.2.2⟩)
          · exact absurd h (by simp)
theorem rt_sc (T : aT) (sc : Int → Bool) : ∀ (n : Nat) (b : Bool) (o p s : Int) (q : aQ) (x : aQ × List Int), rtS T sc n b o p s q = .ok x → (p = 0 ∨ (1 ≤ p ∧ p < 40)) → (s = 0 ∨ (1 ≤ s ∧ s < 40)) → ∀ c ∈ x.2, okC sc c
  | 0, b, o, p, s, q, x, h, _, _ => by unfold rtS at h; exact absurd h (by simp)
  | n + 1, true, o, p, s, q, x, h, hp, hs => by
    unfold rtS at h
    obtain ⟨y, h1, h2⟩ := bnd_ok h
    have i1 := rt_sc T sc n false o 0 0 q y h1 (Or.inl rfl) (Or.inl rfl)
    split at h2
    · obtain ⟨w, h3, h4⟩ := bnd_ok h2
      have e : x = (w.1, y.2 ++ lsS p ++ w.2) := by injection h4 with h4; exact h4.symm
      have i2 := rt_sc T sc n true o _ s _ w h3 (by decide) hs
      subst e
      intro c hc
      simp only [List.mem_append] at hc
      rcases hc with (hc | hc) | hc
      · exact i1 c hc
      · exact ls_okC hp c hc
      · exact i2 c hc
    · split at h2
      · obtain ⟨w, h3, h4⟩ := bnd_ok h2
        have e : x = (w.1, y.2 ++ lsS p ++ lsS s ++ w.2) := by injection h4 with h4; exact h4.symm
        have i2 := rt_sc T sc n true o 0 _ _ w h3 (Or.inl rfl) (by decide)
        subst e
        intro c hc
        simp only [List.mem_append] at hc
        rcases hc with ((hc | hc) | hc) | hc
        · exact i1 c hc
        · exact ls_okC hp c hc
        · exact ls_okC hs c hc
        · exact i2 c hc
      · have e : x = (y.1, y.2 ++ lsS p ++ lsS s) := by injection h2 with h4; exact h4.symm
        subst e
        intro c hc
        simp only [List.mem_append] at hc
        rcases hc with (hc | hc) | hc
        · exact i1 c hc
        · exact ls_okC hp c hc
        · exact ls_okC hs c hc
  | n + 1, false, o, p, s, q, x, h, hp, hs => by
    unfold rtS at h
    split at h
    · have e : x = (tN T q, [13]) := by injection h with h4; exact h4.symm
      subst e
      intro c hc
      have : c = 13 := by simpa using hc
      exact Or.inl (by omega)
    · split at h
      · split at h
        · exact absurd h (by simp)
        · obtain ⟨y, h1, h2⟩ := bnd_ok h
          have e : x = (y.1, y.2 ++ [12]) := by injection h2 with h4; exact h4.symm
          have i1 := rt_sc T sc n false (o + 1) 0 0 _ y h1 (Or.inl rfl) (Or.inl rfl)
          subst e
          intro c hc
          simp only [List.mem_append, List.mem_singleton] at hc
          rcases hc with hc | hc
          · exact i1 c hc
          · exact Or.inl (by omega)
      · split at h
        · split at h
          · exact absurd h (by simp)
          · obtain ⟨y, h1, h2⟩ := bnd_ok h
            split at h2
            · have e : x = (tN T y.1, y.2) := by injection h2 with h4; exact h4.symm
              subst e
              exact rt_sc T sc n true (o + 1) 0 0 _ y h1 (Or.inl rfl) (Or.inl rfl)
            · exact absurd h2 (by simp)
        · obtain ⟨y, h1, h2⟩ := bnd_ok h
          split at h2
          · obtain ⟨w, h3, h4⟩ := bnd_ok h2
            have e : x = (w.1, y.2 ++ w.2 ++ [cmpS T y.1]) := by injection h4 with h4; exact h4.symm
            have i1 := rd_sc T sc 4000 true o 0 0 _ y h1 (Or.inl rfl) (Or.inl rfl)
            have i2 := rd_sc T sc 4000 true o 0 0 _ w h3 (Or.inl rfl) (Or.inl rfl)
            have cr := cmp_range T y.1
            subst e
            intro c hc
            simp only [List.mem_append, List.mem_singleton] at hc
            rcases hc with (hc | hc) | hc
            · exact i1 c hc
            · exact i2 c hc
            · exact Or.inl (by omega)
          · exact absurd h2 (by simp)
/-- which parts may be told, by the kind of text: opens, corn and steps, toll, a question -/
def scK (k w : Int) : Bool := if k = 0 then decide (w = 0) else if k = 1 then decide (w < 6) else if k = 2 then decide (w < 7) else decide (w ≠ 6)
def sumS (T : aT) (k : Int) (q : aQ) : aR := rdS T (scK k) 4000 true 0 0 0 q
def tstS (T : aT) (k : Int) (q : aQ) : aR := rtS T (scK k) 4000 true 0 0 0 q
theorem sum_rule {T : aT} {k : Int} {q : aQ} {x : aQ × List Int} (hk : k = 0 ∨ k = 1 ∨ k = 2) (h : sumS T k q = .ok x) : ruleS x.2 false (if k = 0 then 40 else if k = 1 then 45 else 46) := by
  unfold sumS at h
  have h1 := rd_typ T (scK k) 4000 true 0 0 0 q x h (by decide) (Or.inl rfl) (Or.inl rfl) [] [] false (by decide) rfl
  have h2 := rd_sc T (scK k) 4000 true 0 0 0 q x h (Or.inl rfl) (Or.inl rfl)
  rw [List.append_nil] at h1
  refine ⟨h1, fun c hc z => ?_, fun c hc z1 z2 => ?_⟩
  · rcases h2 c hc with y | y | y | y
    · omega
    · omega
    · have y2 := y.2
      unfold scK at y2
      rcases hk with rfl | rfl | rfl <;> simp at y2
    · omega
  · rcases h2 c hc with y | y | y | y
    · omega
    · have y2 := y.2.2
      unfold scK at y2
      rcases hk with rfl | rfl | rfl <;> simp at y2 ⊢ <;> omega
    · omega
    · omega
theorem tst_rule {T : aT} {q : aQ} {x : aQ × List Int} (h : tstS T 1 q = .ok x) : ruleS x.2 true 45 := by
  unfold tstS at h
  have h1 := rt_typ T (scK 1) 4000 true 0 0 0 q x h (by decide) (Or.inl rfl) (Or.inl rfl) [] [] true (by decide) rfl
  have h2 := rt_sc T (scK 1) 4000 true 0 0 0 q x h (Or.inl rfl) (Or.inl rfl)
  rw [List.append_nil] at h1
  refine ⟨h1, fun c hc z => ?_, fun c hc z1 z2 => ?_⟩
  · rcases h2 c hc with y | y | y | y
    · omega
    · omega
    · have y2 := y.2
      unfold scK at y2
      simp at y2
    · omega
  · rcases h2 c hc with y | y | y | y
    · omega
    · have y2 := y.2.2
      unfold scK at y2
      simp at y2
      omega
    · omega
    · omega
