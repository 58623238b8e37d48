/-! what a row of codes tells: the reference's codes (from 1000 on numbers, 60 whether it meets, from 40 on parts, 13 all, 12 not, 1 .. 11) -/
def biS (p : Prop) [Decidable p] : Int := if p then 1 else 0
def clS (v : Int) : Int := if 1000000 < v then 1000000 else if v < -1000000 then -1000000 else v
def flS (a b : Int) : Int := if b = 0 then 0 else if a.tmod b = 0 then a.tdiv b else if (a < 0 ↔ b < 0) then a.tdiv b else a.tdiv b - 1
def joinS (c a b : Int) : Int := if c = 1 then clS (a + b) else if c = 2 then clS (a - b) else if c = 3 then clS (a * b) else if c = 4 then flS a b else if c = 5 then (if b ≤ a then b else a) else if c = 6 then (if a ≤ b then b else a) else if c = 7 then biS (a < b) else if c = 8 then biS (b < a) else if c = 9 then biS (a = b) else if c = 10 then a * b else biS (0 < a + b)
def stepS (env mt : Int → Int) (c : Int) (st : List Int) : List Int :=
  if 1000 ≤ c then (c - 1000) :: st
  else if 60 ≤ c then (match st with | a :: t => mt a :: t | [] => [])
  else if 40 ≤ c then env (c - 40) :: st
  else if c = 13 then 1 :: st
  else if c = 12 then (match st with | a :: t => (1 - a) :: t | [] => [])
  else (match st with | b :: a :: t => joinS c a b :: t | _ => [])
def evS (env mt : Int → Int) : List Int → List Int → List Int
  | [], st => st
  | c :: cs, st => evS env mt cs (stepS env mt c st)
/-- the value, which is left alone -/
def valS (env mt : Int → Int) (cs : List Int) : Int := (evS env mt cs []).headD 0
/-- rows that are told: by the kinds of what waits (true: of a test) -/
def okT : List Int → List Bool → Bool → Prop
  | [], ty, f => ty = [f]
  | c :: cs, ty, f =>
    if 1000 ≤ c then c ≤ 10999 ∧ ty.length < 60 ∧ okT cs (false :: ty) f
    else if 60 ≤ c then c = 60 ∧ (∃ t, ty = false :: t) ∧ okT cs ty f
    else if 40 ≤ c then c ≤ 48 ∧ ty.length < 60 ∧ okT cs (false :: ty) f
    else if c = 13 then ty.length < 60 ∧ okT cs (true :: ty) f
    else if c = 12 then (∃ t, ty = true :: t) ∧ okT cs ty f
    else if c = 10 ∨ c = 11 then ∃ t, ty = true :: true :: t ∧ okT cs (true :: t) f
    else if 7 ≤ c ∧ c ≤ 9 then ∃ t, ty = false :: false :: t ∧ okT cs (true :: t) f
    else 1 ≤ c ∧ c ≤ 6 ∧ ∃ t, ty = false :: false :: t ∧ okT cs (false :: t) f
def okV : List Int → List Bool → Prop
  | [], [] => True
  | v :: st, b :: ty => (if b then v = 0 ∨ v = 1 else -1000000 ≤ v ∧ v ≤ 1000000) ∧ okV st ty
  | _, _ => False
theorem okV.len : ∀ {st : List Int} {ty : List Bool}, okV st ty → st.length = ty.length
  | [], [], _ => rfl
  | v :: st, b :: ty, h => by simp [okV.len h.2]
theorem cl_range (v : Int) : -1000000 ≤ clS v ∧ clS v ≤ 1000000 := by
  unfold clS
  split
  · omega
  · split <;> omega
theorem bi_range (p : Prop) [Decidable p] : biS p = 0 ∨ biS p = 1 := by
  unfold biS
  split
  · exact Or.inr rfl
  · exact Or.inl rfl
theorem tdiv_range {a b : Int} (h1 : -1000000 ≤ a) (h2 : a ≤ 1000000) : -1000000 ≤ a.tdiv b ∧ a.tdiv b ≤ 1000000 := by
  have h3 := Int.natAbs_tdiv_le_natAbs a b
  omega
theorem fl_range {a b : Int} (h1 : -1000000 ≤ a) (h2 : a ≤ 1000000) (hb1 : -1000000 ≤ b) (hb2 : b ≤ 1000000) : -1000000 ≤ flS a b ∧ flS a b ≤ 1000000 := by
  have h3 := tdiv_range (b := b) h1 h2
  unfold flS
  split
  · omega
  · split
    · exact h3
    · split
      · exact h3
      · rename_i hb0 hm hs
        refine ⟨?_, by omega⟩
        rcases Int.lt_or_le (-1000000) (a.tdiv b) with h4 | h4
        · omega
        · exfalso
          have h5 : a.tdiv b = -1000000 := by omega
          have h6 := Int.tmod_add_mul_tdiv a b
          rw [h5] at h6
          have h7 : b = 1 ∨ b = -1 ∨ 2 ≤ b ∨ b ≤ -2 := by omega
          have h8 := Int.natAbs_tdiv_le_natAbs a b
          rcases h7 with rfl | rfl | h9 | h9
          · exact hm (Int.tmod_one a)
          · have : a.tmod (-1) = 0 := by rw [Int.tmod_neg]; exact Int.tmod_one a
            exact hm this
          · have h10 : (a.tdiv b).natAbs ≤ a.natAbs / 2 := by
              rw [Int.natAbs_tdiv]
              exact Nat.div_le_div_left (by omega) (by omega)
            omega
          · have h10 : (a.tdiv b).natAbs ≤ a.natAbs / 2 := by
              rw [Int.natAbs_tdiv]
              exact Nat.div_le_div_left (by omega) (by omega)
            omega
/-- the stack in the reference's pile -/
def stM (h : mf_M) : List Int → Int → Prop
  | [], n => n = 0
  | a :: t, n => h 317 (n - 1) = a ∧ 0 < n ∧ stM h t (n - 1)
theorem stM.len {h : mf_M} : ∀ {st : List Int} {n : Int}, stM h st n → n = st.length
  | [], n, hs => hs
  | a :: t, n, hs => by
    have := stM.len hs.2.2
    simp; omega
theorem stM.keep {h h' : mf_M} : ∀ {st : List Int} {n : Int}, (∀ i, 0 ≤ i → i < n → h' 317 i = h 317 i) → stM h st n → stM h' st n
  | [], n, _, hs => hs
  | a :: t, n, hk, hs => ⟨by rw [hk (n - 1) (by have := hs.2.1; omega) (by omega)]; exact hs.1, hs.2.1, stM.keep (fun i h0 h1 => hk i h0 (by omega)) hs.2.2⟩
/-- only the pile, its height and the kind of text have changed -/
def frE (h h' : mf_M) : Prop := (∀ a, a ≠ 245 → a ≠ 317 → h' a = h a) ∧ ∀ k, k ≠ 101 → k ≠ 55 → h' 245 k = h 245 k
theorem frE.rf (h : mf_M) : frE h h := ⟨fun _ _ _ => rfl, fun _ _ _ => rfl⟩
theorem frE.tr {a b c : mf_M} (h1 : frE a b) (h2 : frE b c) : frE a c := ⟨fun x q1 q2 => (h2.1 x q1 q2).trans (h1.1 x q1 q2), fun k q1 q2 => (h2.2 k q1 q2).trans (h1.2 k q1 q2)⟩
theorem frE.up317 (h : mf_M) (i v : Int) : frE h (mf_up h 317 i v) := ⟨fun a _ h2 => up_row h2, fun k _ _ => by rw [up_row (by decide)]⟩
theorem frE.up101 (h : mf_M) (v : Int) : frE h (mf_up h 245 101 v) := ⟨fun a h1 _ => up_row h1, fun k h1 _ => up_col h1⟩
theorem frE.up55 (h : mf_M) (v : Int) : frE h (mf_up h 245 55 v) := ⟨fun a h1 _ => up_row h1, fun k _ h1 => up_col h1⟩
section SpE
variable {C : mf_G} {l : Launch} {d : Nat} {L : Int → mf_M → Prop} {h : mf_M}
theorem m_puts {st : List Int} {v : Int} (hs : stM h st (h 245 101)) (hn : st.length < 1700) (hK : ∀ h', frE h h' → stM h' (v :: st) (h' 245 101) → L 0 h') : mM C l d YX12_qPuts [(2, 245), (1, v)] h L := by
  have hl := hs.len
  refine wX12_qPuts ⟨by omega, by omega, fun h3 e3 h4 e4 => ?_⟩
  subst e3; subst e4
  rw [up_row (by decide), w_id (by omega) (by omega)]
  refine hK _ ((frE.up317 _ _ _).tr (frE.up101 _ _)) ?_
  rw [up_self]
  refine ⟨?_, by omega, ?_⟩
  · rw [up_row (by decide)]
    have e : h 245 101 + 1 - 1 = h 245 101 := by omega
    rw [e, up_self]
  · have e : h 245 101 + 1 - 1 = h 245 101 := by omega
    rw [e]
    exact hs.keep (fun i h0 h1 => by rw [up_row (by decide), up_col (by omega)])
theorem m_clip {v : Int} (hK : L (clS v) h) : mM C l d YX12_qClip [(1, v)] h L := by
  unfold clS at hK
  refine wX12_qClip ⟨fun q => ⟨fun z => ?_, fun z => ?_⟩, fun q => ?_⟩
  · rw [if_neg (by omega), if_neg (by omega)] at hK; exact hK
  · rw [if_neg (by omega), if_pos (by omega)] at hK; exact hK
  · rw [if_pos (by omega)] at hK; exact hK
theorem m_floor {a b : Int} (h1 : -1000000 ≤ a) (h2 : a ≤ 1000000) (hK : L (flS a b) h) : mM C l d YX12_qFloor [(1, a), (1, b)] h L := by
  have h3 := tdiv_range (b := b) h1 h2
  unfold flS at hK
  have fin : ∀ (s0 : Int), (s0 = if a < 0 then 1 else 0) → ¬ b = 0 → ¬ a.tmod b = 0 → BX12_qFloor_32 C l d L b (a.tdiv b) s0 h := by
    intro s0 hs0 hb hm
    rw [if_neg hb, if_neg hm] at hK
    refine vX12_qFloor_32 ?_
    rw [w64_id (x := a.tdiv b - 1) (by omega) (by omega)]
    by_cases ha : a < 0
    · rw [if_pos ha] at hs0
      subst hs0
      by_cases hbn : b < 0
      · rw [if_pos (by simp [ha, hbn])] at hK
        simp [hbn, hK] <;> omega
      · rw [if_neg (by simp [ha, hbn])] at hK
        simp [hbn, hK] <;> omega
    · rw [if_neg ha] at hs0
      subst hs0
      by_cases hbn : b < 0
      · rw [if_neg (by simp [ha, hbn])] at hK
        simp [hbn, hK] <;> omega
      · rw [if_pos (by simp [ha, hbn])] at hK
        simp [hbn, hK] <;> omega
  refine wX12_qFloor ⟨fun q => ⟨q, fun v ev => ⟨fun z => ?_, fun z => ⟨fun y => ?_, fun y => ?_⟩⟩⟩, fun q => ?_⟩
  · rw [if_neg q, if_pos z] at hK; rw [ev, w64_id (by omega) (by omega)]; exact hK
  · rw [ev, w64_id (by omega) (by omega)]; exact fin 0 (by rw [if_neg (by omega)]) q z
  · rw [ev, w64_id (by omega) (by omega)]; exact fin 1 (by rw [if_pos (by omega)]) q z
  · rw [if_pos q] at hK; exact hK
end SpE
