/-! what is made points right -/
def gZ : mf_M := mf_up (mf_up (lpG 102 103 20 0 (gX5 (fun _ _ => -1))) 0 10 243) 0 11 244
theorem gZ_px : (mf_px.all (fun q => decide (gZ q.1 q.2.1 = q.2.2) && decide (q.1 ≠ 245))) = true := by decide +kernel
theorem gZ_6 : ∀ k : Fin 319, (mf_sh k.val).1 = 6 → gZ k.val 0 = k.val + 1 ∧ gZ k.val 1 = k.val + 2 ∧ gZ k.val 2 = k.val + 3 ∧ gZ k.val 3 = k.val + 4 ∧ gZ k.val 4 = k.val + 5 ∧ gZ k.val 5 = k.val + 6 := by decide +kernel
theorem gZ_1 : ∀ k : Fin 319, (mf_sh k.val).1 = 1 → gZ k.val 0 = k.val + 1 ∧ gZ k.val 1 = k.val + 2 ∧ gZ k.val 2 = k.val + 3 ∧ gZ k.val 3 = k.val + 4 ∧ gZ k.val 4 = k.val + 5 ∧ gZ k.val 5 = k.val + 6 ∧ gZ k.val 6 = k.val + 10 := by decide +kernel
theorem gZ_4 : ∀ k : Fin 319, (mf_sh k.val).1 = 4 → gZ k.val 0 = k.val + 1 ∧ gZ k.val 1 = k.val + 2 ∧ gZ k.val 2 = k.val + 3 := by decide +kernel
theorem gZ_102 : ∀ k : Fin 20, gZ 102 (k.val : Int) = 103 + 7 * (k.val : Int) := by decide +kernel
theorem gZ_52 : ∀ k : Fin 3, gZ 52 (k.val : Int) = 67 + 7 * (k.val : Int) := by decide +kernel
theorem gZ_12 : gZ 0 12 = 11 ∧ gZ 0 13 = 28 := by decide +kernel
theorem gZ_GX {g : mf_M} (e : ∀ a, a ≠ 245 → g a = gZ a) : mf_GX g := by
  have n245 : ∀ (a : Int) (c : Nat), c ≠ 12 → mf_is 319 a c → ∃ k : Fin 319, a = (k.val : Int) ∧ (mf_sh k.val).1 = c ∧ g a = gZ (k.val : Int) := by
    intro a c hc hi
    obtain ⟨k, ek, hk, hs⟩ := mf_isI hi
    refine ⟨⟨k, hk⟩, ek, hs, ?_⟩
    rw [e a (fun z => ?_), ek]
    rw [ek] at z
    have : k = 245 := by omega
    subst this
    exact hc (hs.symm.trans (by decide +kernel))
  refine ⟨fun q hq => ?_, fun a hi => ?_, fun a hi => ?_, fun a hi => ?_, fun i i0 i1 => ?_, fun i i0 i1 => ?_⟩
  · have := List.all_eq_true.mp gZ_px q hq
    simp only [Bool.and_eq_true, decide_eq_true_eq] at this
    rw [e q.1 this.2]
    exact this.1
  · obtain ⟨k, ek, hs, eg⟩ := n245 a 6 (by decide) hi
    rw [eg, ek]
    exact gZ_6 k hs
  · obtain ⟨k, ek, hs, eg⟩ := n245 a 1 (by decide) hi
    rw [eg, ek]
    exact gZ_1 k hs
  · obtain ⟨k, ek, hs, eg⟩ := n245 a 4 (by decide) hi
    rw [eg, ek]
    exact gZ_4 k hs
  · have := gZ_102 ⟨i.toNat, by omega⟩
    simp only [] at this
    rw [show ((i.toNat : Nat) : Int) = i by omega] at this
    rw [e 102 (by decide)]
    exact this
  · have := gZ_52 ⟨i.toNat, by omega⟩
    simp only [] at this
    rw [show ((i.toNat : Nat) : Int) = i by omega] at this
    rw [e 52 (by decide)]
    exact this
