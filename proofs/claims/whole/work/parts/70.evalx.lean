/-! the class: what a row of codes tells -/
def clC (c : Int) : Int := if 1000 ≤ c then c - 960 else if 60 ≤ c then 13 else if 40 ≤ c then c - 20 else if c = 13 then 41 else c
/-- a script's codes, in a slot -/
def scrX (h : mf_M) (a s : Int) (cs : List Int) : Prop := (cs = [] ∧ h (a + 3) s ≤ h (a + 2) s) ∨ (cs ≠ [] ∧ 0 ≤ h (a + 2) s ∧ h (a + 2) s + cs.length = h (a + 3) s ∧ h (a + 3) s ≤ 1600 ∧ ∀ j : Nat, j < cs.length → h (a + 1) (h (a + 2) s + j) = clC (cs.getD j 0))
theorem scrX.keep {h h' : mf_M} {a s : Int} {cs : List Int} (e1 : h' (a + 1) = h (a + 1)) (e2 : h' (a + 2) = h (a + 2)) (e3 : h' (a + 3) = h (a + 3)) (hs : scrX h a s cs) : scrX h' a s cs := by
  unfold scrX at hs ⊢
  rw [e1, e2, e3]; exact hs
def stX (h : mf_M) : List Int → Int → Prop
  | [], n => n = 0
  | a :: t, n => h 50 (n - 1) = a ∧ 0 < n ∧ stX h t (n - 1)
theorem stX.len {h : mf_M} : ∀ {st : List Int} {n : Int}, stX h st n → n = st.length
  | [], n, hs => hs
  | a :: t, n, hs => by
    have := stX.len hs.2.2
    simp; omega
theorem stX.keep {h h' : mf_M} : ∀ {st : List Int} {n : Int}, (∀ i, 0 ≤ i → i < n → h' 50 i = h 50 i) → stX h st n → stX h' st n
  | [], n, _, hs => hs
  | a :: t, n, hk, hs => ⟨by rw [hk (n - 1) (by have := hs.2.1; omega) (by omega)]; exact hs.1, hs.2.1, stX.keep (fun i h0 h1 => hk i h0 (by omega)) hs.2.2⟩
def frK (h h' : mf_M) : Prop := ∀ a, a ≠ 47 → a ≠ 50 → h' a = h a
theorem frK.rf (h : mf_M) : frK h h := fun _ _ _ => rfl
theorem frK.tr {a b c : mf_M} (h1 : frK a b) (h2 : frK b c) : frK a c := fun x q1 q2 => (h2 x q1 q2).trans (h1 x q1 q2)
theorem frK.up50 (h : mf_M) (i v : Int) : frK h (mf_up h 50 i v) := fun a _ h2 => up_row h2
theorem frK.up47 (h : mf_M) (i v : Int) : frK h (mf_up h 47 i v) := fun a h1 _ => up_row h1
def mtX (h : mf_M) (v : Int) : Int := if 0 ≤ v ∧ v < 8 ∧ ¬ h 49 v = 0 then 1 else 0
section SxE
variable {C : mf_G} {l : Launch} {d : Nat} {K : mf_Kt} {g h : mf_M}
theorem x_push {st : List Int} {v : Int} (hs : stX h st (h 47 3)) (hn : st.length < 64) (hK : ∀ h', frK h h' → stX h' (v :: st) (h' 47 3) → K 0 g h') : xM C l d YX3_push [(2, 47), (0, v)] g h K := by
  have hl := hs.len
  refine wX3_push ⟨fun q => absurd q (by omega), fun _ => ⟨by omega, by omega, fun h3 e3 h4 e4 => ?_⟩⟩
  subst e3; subst e4
  rw [up_row (by decide), w_id (by omega) (by omega)]
  refine hK _ ((frK.up50 _ _ _).tr (frK.up47 _ _ _)) ?_
  rw [up_self]
  have e : h 47 3 + 1 - 1 = h 47 3 := by omega
  refine ⟨?_, by omega, ?_⟩
  · rw [up_row (by decide), e, up_self]
  · rw [e]
    exact hs.keep (fun i h0 h1 => by rw [up_row (by decide), up_col (by omega)])
theorem x_change {st : List Int} {a v c : Int} (hs : stX h (a :: st) (h 47 3)) (hn : st.length < 64) (hv : v = if c = 12 then (if a = 0 then 1 else 0) else mtX h a) (hK : ∀ h', frK h h' → stX h' (v :: st) (h' 47 3) → K 0 g h') : xM C l d YX3_changeTop [(2, 47), (0, c)] g h K := by
  have hl := hs.len
  simp only [List.length_cons] at hl
  obtain ⟨e1, -, hs2⟩ := hs
  have hw : mf_w32 (h 47 3 - 1) = h 47 3 - 1 := w_id (by omega) (by omega)
  have put : ∀ h3 : mf_M, h3 = mf_up h 50 (h 47 3 - 1) v → K 0 g h3 := by
    intro h3 e3
    have e47 : h3 47 3 = h 47 3 := by rw [e3, up_row (by decide)]
    refine hK h3 (by rw [e3]; exact frK.up50 _ _ _) ?_
    rw [e47]
    exact ⟨by rw [e3, up_self], by omega, hs2.keep (fun i h0 h1 => by rw [e3, up_col (by omega)])⟩
  have z0 : v = 0 → BX3_changeTop_78 C l d K 0 g h := fun q => by
    refine vX3_changeTop_78 ⟨fun _ => ?_, fun z => absurd rfl z⟩
    rw [hw]
    exact ⟨by omega, by omega, fun h3 e3 => put h3 (by rw [q]; exact e3)⟩
  have z1 : v = 1 → BX3_changeTop_78 C l d K 1 g h := fun q => by
    refine vX3_changeTop_78 ⟨fun z => absurd z (by decide), fun _ => ?_⟩
    rw [hw]
    exact ⟨by omega, by omega, fun h3 e3 => put h3 (by rw [q]; exact e3)⟩
  refine wX3_changeTop ⟨fun q => absurd q (by omega), fun _ => ⟨fun _ => ?_, fun q => absurd q (by omega)⟩⟩
  rw [hw]
  refine ⟨by omega, by omega, fun v3 ev3 => ?_⟩
  rw [e1] at ev3
  subst ev3
  unfold mtX at hv
  refine ⟨fun q => ⟨fun z => z0 ?_, fun z => ⟨fun y => z0 ?_, fun y => ⟨by omega, by omega, fun w => z0 ?_, fun w => z1 ?_⟩⟩⟩, fun q => ⟨fun z => z0 ?_, fun z => z1 ?_⟩⟩
  · rw [if_neg q, if_neg (by omega)] at hv; exact hv
  · rw [if_neg q, if_neg (by omega)] at hv; exact hv
  · rw [if_neg q, if_neg (fun x => x.2.2 w)] at hv; exact hv
  · rw [if_neg q, if_pos ⟨by omega, by omega, w⟩] at hv; exact hv
  · rw [if_pos q, if_neg z] at hv; exact hv
  · rw [if_pos q, if_pos z] at hv; exact hv
theorem x_fdiv {a b : Int} (h1 : -1000000 ≤ a) (h2 : a ≤ 1000000) (h3 : -1000000 ≤ b) (h4 : b ≤ 1000000) (hb : ¬ b = 0) (hK : K (flS a b) g h) : xM C l d YJ9_floorDiv_7cf53 [(0, a), (0, b)] g h K := by
  have hs := xor_sign (a := a) (b := b) (by omega) (by omega) (by omega) (by omega)
  have ht := tdiv_range (b := b) h1 h2
  have hm := Int.tmod_add_mul_tdiv a b
  have hp : (b * a.tdiv b).natAbs ≤ a.natAbs := by
    rw [Int.natAbs_mul, Int.natAbs_tdiv]
    exact Nat.mul_div_le _ _
  have hc : a.tdiv b * b = b * a.tdiv b := Int.mul_comm _ _
  unfold flS at hK
  rw [if_neg hb] at hK
  refine wJ9_floorDiv_7cf53 ⟨hb, fun v2 e2 => ?_⟩
  rw [w_id (by omega) (by omega)] at e2
  subst e2
  rw [w_id (x := a.tdiv b * b) (by omega) (by omega), w_id (x := a.tdiv b - 1) (by omega) (by omega)]
  refine ⟨fun q => ?_, fun q => ⟨fun z => ?_, fun z => ?_⟩⟩
  · rw [if_pos (hs.mp q)] at hK
    split at hK <;> exact hK
  · rw [if_pos (by omega)] at hK; exact hK
  · rw [if_neg (by omega), if_neg (fun y => q (hs.mpr y))] at hK; exact hK
theorem and01 {a b : Int} (ha : a = 0 ∨ a = 1) (hb : b = 0 ∨ b = 1) : mf_and a b = a * b := by
  rcases ha with rfl | rfl <;> rcases hb with rfl | rfl <;> decide
theorem or01 {a b : Int} (ha : a = 0 ∨ a = 1) (hb : b = 0 ∨ b = 1) : mf_or a b = biS (0 < a + b) := by
  rcases ha with rfl | rfl <;> rcases hb with rfl | rfl <;> decide
theorem x_cl {v : Int} (hv1 : -9223372036854775808 ≤ v) (hv2 : v ≤ 9223372036854775807) (hK : K (clS v) g h) : xM C l 0 YJ9_min_f86c9 [(1, 1000000), (1, mf_w64 v)] g h (fun r1 g2 h3 => xM C l 0 YJ9_max_f86c9 [(1, (-1000000)), (1, r1)] g2 h3 (fun r4 g5 h6 => K (mf_w32 r4) g5 h6)) := by
  have hr := cl_range v
  rw [w64_id hv1 hv2]
  refine x_minl (x_maxl ?_)
  have e : (if -1000000 < (if v < 1000000 then v else 1000000) then (if v < 1000000 then v else 1000000) else -1000000) = clS v := by
    unfold clS
    split <;> split <;> split <;> (try split) <;> omega
  rw [e, w_id (by omega) (by omega)]
  exact hK
theorem x_join {a b c : Int} (hd : 1 ≤ d) (ha1 : -1000000 ≤ a) (ha2 : a ≤ 1000000) (hb1 : -1000000 ≤ b) (hb2 : b ≤ 1000000) (hc1 : 1 ≤ c) (hc2 : c ≤ 11) (ht : 10 ≤ c → (a = 0 ∨ a = 1) ∧ (b = 0 ∨ b = 1)) (hK : K (joinS c a b) g h) : xM C l d YX3_join [(0, c), (0, a), (0, b)] g h K := by
  have hp := prod_range ha1 ha2 hb1 hb2
  refine wX3_join hd ⟨fun q => ?_, fun q => ?_, fun q => ?_, fun q => ?_, fun q => ?_, fun q => ?_, fun q => ?_, fun q => ?_, fun q => ?_, fun q => ?_, fun q => ?_, fun q => absurd q (by omega)⟩
  · subst q; exact x_cl (by omega) (by omega) (by simpa [joinS] using hK)
  · subst q; exact x_cl (by omega) (by omega) (by simpa [joinS] using hK)
  · subst q; exact x_cl (by omega) (by omega) (by simpa [joinS] using hK)
  · subst q
    have hK' : K (flS a b) g h := by simpa [joinS] using hK
    refine ⟨fun z => x_fdiv ha1 ha2 hb1 hb2 z hK', fun z => ?_⟩
    unfold flS at hK'
    rw [if_pos z] at hK'; exact hK'
  · subst q
    refine x_min ?_
    have e : joinS 5 a b = if b < a then b else a := by simp only [joinS]; simp; split <;> split <;> omega
    rw [e] at hK; exact hK
  · subst q
    refine x_max ?_
    have e : joinS 6 a b = if a < b then b else a := by simp only [joinS]; simp; split <;> split <;> omega
    rw [e] at hK; exact hK
  · subst q
    have e : joinS 7 a b = if a < b then 1 else 0 := by simp [joinS, biS]
    rw [e] at hK
    refine ⟨fun z => ?_, fun z => ?_⟩
    · rw [if_neg (by omega)] at hK; exact hK
    · rw [if_pos (by omega)] at hK; exact hK
  · subst q
    have e : joinS 8 a b = if b < a then 1 else 0 := by simp [joinS, biS]
    rw [e] at hK
    refine ⟨fun z => ?_, fun z => ?_⟩
    · rw [if_neg (by omega)] at hK; exact hK
    · rw [if_pos (by omega)] at hK; exact hK
  · subst q
    have e : joinS 9 a b = if a = b then 1 else 0 := by simp [joinS, biS]
    rw [e] at hK
    refine ⟨fun z => ?_, fun z => ?_⟩
    · rw [if_neg z] at hK; exact hK
    · rw [if_pos z] at hK; exact hK
  · subst q
    have e : joinS 10 a b = a * b := by simp [joinS]
    rw [e] at hK
    obtain ⟨t1, t2⟩ := ht (by omega)
    rw [and01 t1 t2]; exact hK
  · subst q
    have e : joinS 11 a b = biS (0 < a + b) := by simp [joinS]
    rw [e] at hK
    obtain ⟨t1, t2⟩ := ht (by omega)
    rw [or01 t1 t2]; exact hK
theorem x_joinTwo {st : List Int} {a b c : Int} {Q : mf_M → mf_M → Prop} {R : Prop} (hs : stX h (b :: a :: st) (h 47 3)) (hn : st.length < 60) (ha1 : -1000000 ≤ a) (ha2 : a ≤ 1000000) (hb1 : -1000000 ≤ b) (hb2 : b ≤ 1000000) (hc1 : 1 ≤ c) (hc2 : c ≤ 11) (ht : 10 ≤ c → (a = 0 ∨ a = 1) ∧ (b = 0 ∨ b = 1)) (hK : ∀ h', frK h h' → stX h' (joinS c a b :: st) (h' 47 3) → Q g h') : (h 47 3 < 2 → R) ∧ (¬ h 47 3 < 2 → ((64 < h 47 3 → R) ∧ (¬ 64 < h 47 3 → (∀ h13 : mf_M, h13 = mf_up h 47 3 (mf_w32 ((h 47 3) - 1)) → 0 ≤ mf_w32 ((h13 47 3) - 1) ∧ mf_w32 ((h13 47 3) - 1) < 64 ∧ 0 ≤ h13 47 3 ∧ h13 47 3 < 64 ∧ xM C l 1 YX3_join [(0, c), (0, h13 50 (mf_w32 ((h13 47 3) - 1))), (0, h13 50 (h13 47 3))] g h13 (fun r18 g19 h20 => (∀ h21 : mf_M, h21 = mf_up h20 50 (mf_w32 ((h13 47 3) - 1)) r18 → Q g19 h21)))))) := by
  have hl := hs.len
  simp only [List.length_cons] at hl
  obtain ⟨e1, -, e2, -, hs2⟩ := hs
  have ei : h 47 3 - 1 - 1 = h 47 3 - 2 := by omega
  rw [ei] at e2 hs2
  refine ⟨fun q => absurd q (by omega), fun _ => ⟨fun q => absurd q (by omega), fun _ h1 q1 => ?_⟩⟩
  rw [w_id (x := h 47 3 - 1) (by omega) (by omega)] at q1
  have e47 : h1 47 3 = h 47 3 - 1 := by rw [q1, up_self]
  have e50 : h1 50 = h 50 := by rw [q1, up_row (by decide)]
  rw [e47, w_id (x := h 47 3 - 1 - 1) (by omega) (by omega), ei, e50, e2, e1]
  refine ⟨by omega, by omega, by omega, by omega, ?_⟩
  refine x_join (by omega) ha1 ha2 hb1 hb2 hc1 hc2 ht (fun h11 q11 => ?_)
  refine hK h11 (by rw [q11, q1]; exact (frK.up47 _ _ _).tr (frK.up50 _ _ _)) ?_
  have f47 : h11 47 3 = h 47 3 - 1 := by rw [q11, up_row (by decide), e47]
  rw [f47]
  refine ⟨by rw [ei, q11, up_self], by omega, ?_⟩
  rw [ei]
  exact hs2.keep (fun i h0 h1' => by rw [q11, up_col (by omega), e50])
end SxE
