/-! small laws of numbers and of the map; the JDK's own methods; the reference's small ones -/
theorem w_id {x : Int} (h1 : -2147483648 ≤ x) (h2 : x ≤ 2147483647) : mf_w32 x = x := by
  unfold mf_w32
  exact Int.bmod_eq_of_le_mul_two (by omega) (by omega)
theorem w64_id {x : Int} (h1 : -9223372036854775808 ≤ x) (h2 : x ≤ 9223372036854775807) : mf_w64 x = x := by
  unfold mf_w64
  exact Int.bmod_eq_of_le_mul_two (by omega) (by omega)
theorem up_self (h : mf_M) (a i v : Int) : mf_up h a i v a i = v := by simp [mf_up]
theorem up_row {h : mf_M} {a i v b : Int} (hb : ¬ b = a) : mf_up h a i v b = h b := by simp [mf_up, hb]
theorem up_col {h : mf_M} {a i v j : Int} (hj : ¬ j = i) : mf_up h a i v a j = h a j := by simp [mf_up, hj]
theorem up_if (h : mf_M) (a i v b j : Int) : mf_up h a i v b j = if b = a ∧ j = i then v else h b j := by
  unfold mf_up
  by_cases h1 : b = a
  · subst h1
    by_cases h2 : j = i <;> simp [h2]
  · simp [h1]
theorem cpy_row {h : mf_M} {a b sp dp k c : Int} (hc : ¬ c = b) : mf_cpy h a b sp dp k c = h c := by simp [mf_cpy, hc]
theorem cpy_if (h : mf_M) (a b sp dp k c i : Int) : mf_cpy h a b sp dp k c i = if c = b then (if dp ≤ i ∧ i < dp + k then h a (sp + (i - dp)) else h b i) else h c i := by
  unfold mf_cpy
  by_cases h1 : c = b
  · simp [h1]
  · simp [h1]
/-! Int.bmod 256 -/
theorem b8_id {x : Int} (h1 : -128 ≤ x) (h2 : x ≤ 127) : mf_b8 x = x := by
  unfold mf_b8
  exact Int.bmod_eq_of_le_mul_two (by omega) (by omega)
theorem b8_b8 (x : Int) : mf_b8 (mf_b8 x) = mf_b8 x := by
  unfold mf_b8
  exact Int.bmod_bmod
theorem b8_range (x : Int) : -128 ≤ mf_b8 x ∧ mf_b8 x ≤ 127 := by
  unfold mf_b8
  have h1 := Int.le_bmod (x := x) (m := 256) (by omega)
  have h2 := Int.bmod_lt (x := x) (m := 256) (by omega)
  omega
section SpBase
variable {C : mf_G} {l : Launch} {d : Nat} {K : mf_Kt} {L : Int → mf_M → Prop} {g h : mf_M}
theorem x_min {a b : Int} (hK : K (if b < a then b else a) g h) : xM C l d YJ9_min_7cf53 [(0, a), (0, b)] g h K := by
  refine wJ9_min_7cf53 ⟨fun q => ?_, fun q => ?_⟩
  · rw [if_pos q] at hK; exact hK
  · rw [if_neg q] at hK; exact hK
theorem x_max {a b : Int} (hK : K (if a < b then b else a) g h) : xM C l d YJ9_max_7cf53 [(0, a), (0, b)] g h K := by
  refine wJ9_max_7cf53 ⟨fun q => ?_, fun q => ?_⟩
  · rw [if_pos q] at hK; exact hK
  · rw [if_neg q] at hK; exact hK
theorem x_maxl {a b : Int} (hK : K (if a < b then b else a) g h) : xM C l d YJ9_max_f86c9 [(1, a), (1, b)] g h K := by
  refine wJ9_max_f86c9 ⟨fun q => ?_, fun q => ?_⟩
  · rw [if_pos q] at hK; exact hK
  · rw [if_neg q] at hK; exact hK
theorem x_minl {a b : Int} (hK : K (if b < a then b else a) g h) : xM C l d YJ9_min_f86c9 [(1, a), (1, b)] g h K := by
  refine wJ9_min_f86c9 ⟨fun q => ?_, fun q => ?_⟩
  · rw [if_pos q] at hK; exact hK
  · rw [if_neg q] at hK; exact hK
theorem x_abs {a : Int} (h1 : -2147483648 < a) (h2 : a ≤ 2147483647) (hK : K (if 0 ≤ a then a else -a) g h) : xM C l d YJ9_abs_0f7a4 [(0, a)] g h K := by
  refine wJ9_abs_0f7a4 ⟨fun q => ?_, fun q => ?_⟩
  · rw [if_pos q] at hK; exact hK
  · rw [if_neg q] at hK; rw [w_id (by omega) (by omega)]; exact hK
/-! the sign of an exclusive or -/
theorem xor_sign {a b : Int} (ha1 : -2147483648 ≤ a) (ha2 : a ≤ 2147483647) (hb1 : -2147483648 ≤ b) (hb2 : b ≤ 2147483647) : 0 ≤ mf_xor a b ↔ (a < 0 ↔ b < 0) := by
  have key : ∀ x y : Int32, 0 ≤ (x ^^^ y).toInt ↔ (x.toInt < 0 ↔ y.toInt < 0) := by
    intro x y
    have e : ∀ z : Int32, z.toInt < 0 ↔ z.toBitVec.msb = true := by
      intro z
      rw [Int32.toInt, BitVec.toInt_neg_iff, BitVec.msb_eq_true_iff_two_mul_ge]
    rw [← Int.not_lt, e, e, e]
    simp only [Int32.toBitVec_xor, BitVec.msb_xor]
    cases x.toBitVec.msb <;> cases y.toBitVec.msb <;> decide
  have h1 : (Int32.ofInt a).toInt = a := by rw [Int32.toInt_ofInt]; exact w_id ha1 ha2
  have h2 : (Int32.ofInt b).toInt = b := by rw [Int32.toInt_ofInt]; exact w_id hb1 hb2
  have h3 := key (Int32.ofInt a) (Int32.ofInt b)
  rw [h1, h2] at h3
  exact h3
theorem x_fmod {a b : Int} (ha1 : -2147483648 ≤ a) (ha2 : a ≤ 2147483647) (hb1 : 0 < b) (hb2 : b ≤ 2147483647) (hK : K (a % b) g h) : xM C l d YJ9_floorMod_7cf53 [(0, a), (0, b)] g h K := by
  have hs := xor_sign ha1 ha2 (by omega : -2147483648 ≤ b) hb2
  have hb0 : b ≠ 0 := by omega
  refine wJ9_floorMod_7cf53 ⟨hb0, fun v hv => ?_⟩
  subst hv
  have e1 : 0 ≤ a → a.tmod b = a % b := fun h0 => Int.tmod_eq_emod_of_nonneg h0
  have hem := Int.emod_nonneg a hb0
  have hlt := Int.emod_lt_of_pos a hb1
  have e2 : a < 0 → a.tmod b = if a % b = 0 then 0 else a % b - b := by
    intro h0
    have h5 : a.tmod b = -((-a) % b) := by
      have h6 := Int.neg_tmod a b
      have h7 := Int.tmod_eq_emod_of_nonneg (a := -a) (b := b) (by omega)
      omega
    by_cases hz : a % b = 0
    · rw [if_pos hz, h5]
      have : (-a) % b = 0 := by
        have h8 := Int.emod_emod_of_dvd a (Int.dvd_refl b)
        exact Int.emod_eq_zero_of_dvd (Int.dvd_neg.mpr (Int.dvd_of_emod_eq_zero hz))
      omega
    · rw [if_neg hz, h5]
      have : (-a) % b = b - a % b := by
        have h8 : -a = (b - a % b) + b * (-(a / b) - 1) := by
          have h9 := Int.emod_add_mul_ediv a b
          rw [Int.mul_sub, Int.mul_neg]
          omega
        rw [h8, Int.add_mul_emod_self_left, Int.emod_eq_of_lt (by omega) (by omega)]
      omega
  refine ⟨fun q => ?_, fun q => ⟨fun z => ?_, fun z => ?_⟩⟩
  · have h0 : 0 ≤ a := by
      rcases Int.lt_or_le a 0 with h9 | h9
      · exact absurd ((hs.mp q).mp h9) (by omega)
      · exact h9
    rw [e1 h0]; exact hK
  · have h0 : a < 0 := by
      rcases Int.lt_or_le a 0 with h9 | h9
      · exact h9
      · exact absurd (hs.mpr ⟨fun _ => by omega, fun _ => by omega⟩) q
    rw [e2 h0] at z ⊢
    by_cases hz : a % b = 0
    · rw [if_pos hz]; rw [hz] at hK; exact hK
    · rw [if_neg hz] at z; omega
  · have h0 : a < 0 := by
      rcases Int.lt_or_le a 0 with h9 | h9
      · exact h9
      · exact absurd (hs.mpr ⟨fun _ => by omega, fun _ => by omega⟩) q
    rw [e2 h0] at z ⊢
    by_cases hz : a % b = 0
    · rw [if_pos hz] at z; exact absurd rfl z
    · rw [if_neg hz, w_id (by omega) (by omega)]
      have : a % b - b + b = a % b := by omega
      rw [this]; exact hK
end SpBase
