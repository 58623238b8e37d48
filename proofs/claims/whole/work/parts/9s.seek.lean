/-! the seeker is made -/
def lpG (r : Int) (b : Nat) : Nat → Nat → mf_M → mf_M
  | 0, _, g => g
  | m + 1, k, g => lpG r b m (k + 1) (mf_up (gS g ((b + 7 * k : Nat) : Int) (b + 7 * k + 1)) r (k : Int) ((b + 7 * k : Nat) : Int))
section Sek
variable {C : mf_G} {l : Launch} {d : Nat} {K : mf_Kt} {g h : mf_M}
theorem sk_sh : ∀ k : Fin 3, (mf_sh (67 + 7 * k.val)).1 = 6 ∧ mf_sh (67 + 7 * k.val + 1) = (20, 6) ∧ mf_sh (67 + 7 * k.val + 1 + 1) = (20, 8) ∧ mf_sh (67 + 7 * k.val + 1 + 2) = (20, 8) ∧ mf_sh (67 + 7 * k.val + 1 + 3) = (20, 8) ∧ mf_sh (67 + 7 * k.val + 1 + 4) = (20, 8) ∧ mf_sh (67 + 7 * k.val + 1 + 5) = (20, 40) := by decide +kernel
theorem x_sk (hd : 2 ≤ d) : ∀ (m k : Nat) (g : mf_M), k + m = 3 → frs (67 + 7 * k) g h → g 51 1 = 52 → K 0 (lpG 52 67 m k g) h → JX5_init_84 C l d 52 88 (67 + 7 * k) K 51 (k : Int) g h := by
  have i5 : ∀ n : Nat, 67 ≤ n → mf_is n 51 5 := fun n hn => ⟨by decide, by omega, by decide +kernel⟩
  have i25 : ∀ n : Nat, 67 ≤ n → mf_is n 52 25 := fun n hn => ⟨by decide, by omega, by decide +kernel⟩
  have ln : mf_len 52 = 3 := by decide +kernel
  intro m
  induction m with
  | zero =>
    intro k g km F g1 hK
    refine bX5_init_84 hd (by omega) ?_
    rw [g1, ln]
    exact ⟨i5 _ (by omega), i25 _ (by omega), fun _ => ⟨by omega, hK⟩, fun z => absurd (by omega) z⟩
  | succ m ih =>
    intro k g km F g1 hK
    obtain ⟨s0, s1⟩ := sk_sh ⟨k, by omega⟩
    refine bX5_init_84 hd (by omega) ?_
    rw [g1, ln]
    refine ⟨i5 _ (by omega), i25 _ (by omega), fun z => absurd z (by omega), fun _ => ⟨s0, moreR (by omega), fun j => F.1 _ (by omega) _, fun j => F.2 _ (by omega) _, fun v e => ⟨by omega, by omega, ?_⟩⟩⟩
    subst e
    refine c6 (n0 := 67 + 7 * k + 1) (by decide) (mf_isN (by omega) s0) s1 (F.mono (by omega)) ⟨i25 _ (by omega), by omega, by omega, mf_isN (by omega) s0, fun g2 e2 v ev => ?_⟩
    rw [w_id (by omega) (by omega)] at ev
    rw [ev, e2]
    have ek : (k : Int) + 1 = ((k + 1 : Nat) : Int) := by omega
    rw [ek]
    refine ih (k + 1) _ (by omega) ?_ ?_ hK
    · exact ((F.mono (by omega)).S (by omega)).ug (by omega)
    · rw [up_row (by decide)]
      unfold gS
      rw [up_row (by omega), up_row (by omega), up_row (by omega), up_row (by omega), up_row (by omega), up_row (by omega)]
      exact g1
end Sek
