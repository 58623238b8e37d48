/-! what is seen; images -/
def allN (p : Int → Bool) : Nat → Int → Bool
  | 0, _ => true
  | n + 1, k => p k && allN p n (k + 1)
def prsN (f : Int → Int) : Nat → Int → List (Int × Int)
  | 0, _ => []
  | n + 1, k => (f (2 * k), f (2 * k + 1)) :: prsN f n (k + 1)
def seeB (S : aS) : Bool := decide (2 ≤ S.tn) && decide (S.tn ≤ 32) && decide (S.tn % 2 = 0) && allN (fun k => decide (S.tp (2 * k) < S.F.nb) && decide (S.tp (2 * k + 1) < S.F.nc)) (S.tn / 2).toNat 0
def seeS (S : aS) : Int × aS := if seeB S then (S.tn / 2, (S.s_tn 0).s_sn (prsN S.tp (S.tn / 2).toNat 0)) else (-1, refS (S.s_tn 0) 1)
theorem allN_iff (p : Int → Bool) : ∀ (n : Nat) (k : Int), allN p n k = true ↔ ∀ i, k ≤ i → i < k + n → p i = true
  | 0, k => ⟨fun _ i h1 h2 => absurd h2 (by omega), fun _ => rfl⟩
  | n + 1, k => by
    unfold allN
    rw [Bool.and_eq_true, allN_iff p n (k + 1)]
    constructor
    · intro q i h1 h2
      by_cases e : i = k
      · rw [e]; exact q.1
      · exact q.2 i (by omega) (by omega)
    · intro q
      exact ⟨q k (by omega) (by omega), fun i h1 h2 => q i (by omega) (by omega)⟩
theorem prsN_len (f : Int → Int) : ∀ (n : Nat) (k : Int), (prsN f n k).length = n
  | 0, _ => rfl
  | n + 1, k => by simp [prsN, prsN_len f n]
theorem prsN_get (f : Int → Int) : ∀ (n : Nat) (k : Int) (j : Nat), j < n → (prsN f n k).getD j (0, 0) = (f (2 * (k + j)), f (2 * (k + j) + 1))
  | 0, _, j, h => absurd h (by omega)
  | n + 1, k, 0, _ => by simp [prsN]
  | n + 1, k, j + 1, h => by
    have := prsN_get f n (k + 1) j (by omega)
    have e : (prsN f (n + 1) k).getD (j + 1) (0, 0) = (prsN f n (k + 1)).getD j (0, 0) := by simp [prsN]
    rw [e, this, show k + 1 + (j : Int) = k + ((j + 1 : Nat) : Int) by omega]
theorem prsN_mem (f : Int → Int) : ∀ (n : Nat) (k : Int) (q : Int × Int), q ∈ prsN f n k → ∃ i, k ≤ i ∧ i < k + n ∧ q = (f (2 * i), f (2 * i + 1))
  | 0, _, q, h => by simp [prsN] at h
  | n + 1, k, q, h => by
    unfold prsN at h
    rcases List.mem_cons.mp h with h | h
    · exact ⟨k, by omega, by omega, h⟩
    · obtain ⟨i, h1, h2, h3⟩ := prsN_mem f n (k + 1) q h
      exact ⟨i, by omega, by omega, h3⟩
section SpSe
variable {C : mf_G} {l : Launch} {d : Nat} {L : Int → mf_M → Prop} {S : aS} {h : mf_M}
theorem okS.s_sn {S : aS} (o : okS S) {sn : List (Int × Int)} (h1 : sn.length ≤ 16) (h2 : ∀ q ∈ sn, 0 ≤ q.1 ∧ q.1 < S.F.nb ∧ 0 ≤ q.2 ∧ q.2 < S.F.nc) : okS (S.s_sn sn) := ⟨o.F, o.P, o.tn0, o.tn1, o.tp, o.un, o.us, o.nx0, o.nx1, h1, h2, o.sd0, o.sd1, o.oc⟩
theorem RM.s_sn (R : RM S h) {h' : mf_M} {sn : List (Int × Int)} (ok : okS (S.s_sn sn)) (r : ∀ a, a ≠ 245 → a ≠ 290 → h' a = h a) (c : ∀ k, k ≠ 65 → h' 245 k = h 245 k) (e1 : h' 245 65 = sn.length) (e2 : ∀ j : Nat, j < sn.length → h' 290 (2 * j) = (sn.getD j (0, 0)).1 ∧ h' 290 (2 * j + 1) = (sn.getD j (0, 0)).2) : RM (S.s_sn sn) h' := by
  refine ⟨ok, by rw [c 1 (by decide)]; exact R.tn, by rw [r 246 (by decide) (by decide)]; exact R.tp, by rw [c 7 (by decide)]; exact R.fa, by rw [c 8 (by decide)]; exact R.pl, by rw [r 247 (by decide) (by decide)]; exact R.rf, R.wd.keep (fun a ha => r a (by omega) (by omega)), R.fo.keep (fun a ha => r a ?_ ?_) (fun k hk => c k ?_), by rw [vM_row (r 286 (by decide) (by decide))]; exact R.vi, R.kp.row (r 286 (by decide) (by decide)), by rw [c 61 (by decide)]; exact R.th, by rw [c 69 (by decide)]; exact R.un, by rw [c 70 (by decide)]; exact R.nx, fun j hj => ⟨by rw [vM_row (r 292 (by decide) (by decide))]; exact (R.us j hj).1, (R.us j hj).2.row (r 292 (by decide) (by decide))⟩, e1, e2, by rw [c 71 (by decide)]; exact R.sd, by rw [c 105 (by decide)]; exact R.oc, by rw [r 318 (by decide) (by decide)]; exact R.os, by rw [c 59 (by decide)]; exact R.ao⟩
  · simp only [List.mem_cons, List.not_mem_nil, or_false] at ha; omega
  · simp only [List.mem_cons, List.not_mem_nil, or_false] at ha; omega
  · simp only [List.mem_cons, List.not_mem_nil, or_false] at hk; omega
theorem m_see2 {h0 : mf_M} {N : Int} (N0 : 0 ≤ N) (N1 : N ≤ 32) (hK : ∀ h1, (∀ a, a ≠ 290 → a ≠ 245 → h1 a = h0 a) → (∀ k, k ≠ 65 → h1 245 k = h0 245 k) → h1 245 65 = N / 2 → (∀ i, 0 ≤ i → i < N → h1 290 i = h0 246 i) → L (N / 2) h1) : ∀ (n : Nat) (k : Int) (h : mf_M), 0 ≤ k → k + n = N → (∀ a, a ≠ 290 → h a = h0 a) → (∀ i, 0 ≤ i → i < k → h 290 i = h0 246 i) → BX12_see_99 C l d L N k h := by
  intro n
  induction n with
  | zero =>
    intro k h k0 kn f1 f2
    refine vX12_see_99 ⟨fun _ h1 e1 => ?_, fun q => absurd (by omega) q⟩
    rw [Int.tdiv_eq_ediv_of_nonneg N0, w_id (by omega) (by omega)] at e1
    have e65 : h1 245 65 = N / 2 := by rw [e1, up_self]
    rw [e65]
    exact hK h1 (fun a q1 q2 => by rw [e1, up_row q2]; exact f1 a q1) (fun k q => by rw [e1, up_col q, f1 245 (by decide)]) e65 (fun i q1 q2 => by rw [e1, up_row (by decide)]; exact f2 i q1 (by omega))
  | succ n ih =>
    intro k h k0 kn f1 f2
    refine vX12_see_99 ⟨fun q => absurd q (by omega), fun _ => ⟨k0, by omega, by omega, fun h5 e5 v6 e6 => ?_⟩⟩
    rw [w_id (by omega) (by omega)] at e6
    rw [e6]
    refine ih (k + 1) h5 (by omega) (by omega) (fun a q => by rw [e5, up_row q]; exact f1 a q) (fun i q1 q2 => ?_)
    rw [e5, up_if]
    by_cases e : i = k
    · rw [if_pos ⟨rfl, e⟩, f1 246 (by decide), e]
    · rw [if_neg (by omega)]; exact f2 i q1 (by omega)
theorem m_see1 {N : Int} (hd : 2 ≤ d) (R : RM S h) (N1 : N ≤ 1600) (tp : ∀ i, 0 ≤ i → i < N → h 246 i = S.tp i) (he : N % 2 = 0) (bad : mM C l 0 YX12_refuses [(2, 245), (0, 1)] h (fun r1 h3 => L r1 h3)) : ∀ (n : Nat) (k : Int), 0 ≤ k → 2 * k + 2 * n = N → (allN (fun k => decide (S.tp (2 * k) < S.F.nb) && decide (S.tp (2 * k + 1) < S.F.nc)) n k = true → BX12_see_99 C l d L N 0 h) → BX12_see_36 C l d L N 1 (2 * k) h := by
  have zero : ∀ k, BX12_see_36 C l d L N 0 k h := by
    intro k
    by_cases q : N ≤ k
    · exact vX12_see_36 hd ⟨fun _ => ⟨fun z => absurd rfl z, fun _ => bad⟩, fun z => absurd q z⟩
    · exact vX12_see_36 hd ⟨fun z => absurd z q, fun _ => ⟨fun _ => ⟨fun z => absurd rfl z, fun _ => bad⟩, fun z => absurd rfl z⟩⟩
  intro n
  induction n with
  | zero =>
    intro k k0 kn hK
    exact vX12_see_36 hd ⟨fun _ => ⟨fun _ => hK rfl, fun z => absurd z (by decide)⟩, fun q => absurd (by omega) q⟩
  | succ n ih =>
    intro k k0 kn hK
    refine vX12_see_36 hd ⟨fun q => absurd q (by omega), fun _ => ⟨fun z => absurd z (by decide), fun _ => ⟨by omega, by omega, ?_⟩⟩⟩
    rw [tp (2 * k) (by omega) (by omega)]
    have b1 := R.ok.tp (2 * k)
    refine M_isBeing (by decide) R (fun hb => ⟨fun z => absurd z (by decide), fun _ => ?_⟩) (fun hb => ⟨fun _ v12 _ => zero v12, fun z => absurd rfl z⟩)
    rw [w_id (x := 2 * k + 1) (by omega) (by omega), R.fo.c, tp (2 * k + 1) (by omega) (by omega)]
    refine ⟨by omega, by omega, fun _ v15 _ => zero v15, fun hc v16 e16 => ?_⟩
    rw [w_id (by omega) (by omega), show 2 * k + 2 = 2 * (k + 1) by omega] at e16
    rw [e16]
    refine ih (k + 1) (by omega) (by omega) (fun q => hK ?_)
    unfold allN
    rw [q, Bool.and_true, Bool.and_eq_true]
    exact ⟨decide_eq_true hb.2, decide_eq_true (by omega)⟩
theorem M_see (hd : 2 ≤ d) (R : RM S h) (hK : ∀ h', RM (seeS S).2 h' → frX h h' → L (seeS S).1 h') : mM C l d YX12_see [(2, 245)] h L := by
  have t0 := R.ok.tn0
  have t1 := R.ok.tn1
  unfold seeS at hK
  refine wX12_see (fun v1 e1 h2 e2 => ?_)
  rw [R.tn] at e1
  rw [e1]
  have R2 : RM (S.s_tn 0) h2 := by rw [e2]; exact R.s_tn (by decide) t0
  have f2 : frX h h2 := by rw [e2]; exact frX.up (by decide)
  have tp2 : ∀ i, 0 ≤ i → i < S.tn → h2 246 i = (S.s_tn 0).tp i := fun i q1 q2 => by rw [e2, up_row (by decide)]; exact R.tp i q1 q2
  have bad : seeB S = false → mM C l 0 YX12_refuses [(2, 245), (0, 1)] h2 (fun r1 h3 => L r1 h3) := by
    intro q
    rw [if_neg (by rw [q]; decide)] at hK
    refine wX12_refuses ⟨by decide, by decide, fun h3 e3 => ?_⟩
    rw [e3]; exact hK _ (R2.ref (by decide) (by decide)) (f2.tr (frX.up (by decide)))
  have zero : seeB S = false → BX12_see_36 C l d L S.tn 0 0 h2 := by
    intro q
    by_cases y : S.tn ≤ 0
    · exact vX12_see_36 hd ⟨fun _ => ⟨fun z => absurd rfl z, fun _ => bad q⟩, fun z => absurd y z⟩
    · exact vX12_see_36 hd ⟨fun z => absurd z y, fun _ => ⟨fun _ => ⟨fun z => absurd rfl z, fun _ => bad q⟩, fun z => absurd rfl z⟩⟩
  rw [Int.tmod_eq_emod_of_nonneg t0, Int.tdiv_eq_ediv_of_nonneg t0, w_id (x := S.tn / 2) (by omega) (by omega)]
  refine ⟨fun q => zero ?_, fun q => ⟨fun y => zero ?_, fun y => ⟨fun x => zero ?_, fun x => ?_⟩⟩⟩
  · unfold seeB; rw [decide_eq_false (by omega)]; rfl
  · unfold seeB; rw [decide_eq_false y]; simp
  · unfold seeB; rw [decide_eq_false (by omega : ¬ S.tn ≤ 32)]; simp
  · by_cases g : allN (fun k => decide (S.tp (2 * k) < S.F.nb) && decide (S.tp (2 * k + 1) < S.F.nc)) (S.tn / 2).toNat 0 = true
    · have sb : seeB S = true := by
        unfold seeB; rw [g, decide_eq_true (by omega), decide_eq_true (by omega), decide_eq_true y]; rfl
      have hz : BX12_see_36 C l d L S.tn 1 (2 * 0) h2 := by
        rw [if_pos sb] at hK
        -- what is refused is not asked here
        have gg := (allN_iff _ _ _).mp g
        refine (fun (K : BX12_see_99 C l d L S.tn 0 h2) => ?_) ?_
        · have run : ∀ (n : Nat) (k : Int), 0 ≤ k → 2 * k + 2 * n = S.tn → BX12_see_36 C l d L S.tn 1 (2 * k) h2 := by
            intro n
            induction n with
            | zero =>
              intro k k0 kn
              exact vX12_see_36 hd ⟨fun _ => ⟨fun _ => K, fun z => absurd z (by decide)⟩, fun q => absurd (by omega) q⟩
            | succ n ih =>
              intro k k0 kn
              have gk := gg k k0 (by omega)
              rw [Bool.and_eq_true, decide_eq_true_eq, decide_eq_true_eq] at gk
              have b1 := R.ok.tp (2 * k)
              refine vX12_see_36 hd ⟨fun q => absurd q (by omega), fun _ => ⟨fun z => absurd z (by decide), fun _ => ⟨by omega, by omega, ?_⟩⟩⟩
              have et : h2 246 (2 * k) = S.tp (2 * k) := tp2 (2 * k) (by omega) (by omega)
              have et2 : h2 246 (2 * k + 1) = S.tp (2 * k + 1) := tp2 (2 * k + 1) (by omega) (by omega)
              rw [et]
              refine M_isBeing (by decide) R2 (fun hb => ⟨fun z => absurd z (by decide), fun _ => ?_⟩) (fun hb => absurd ⟨b1.1, gk.1⟩ hb)
              rw [w_id (x := 2 * k + 1) (by omega) (by omega), R2.fo.c, et2]
              refine ⟨by omega, by omega, fun hc => absurd (show S.F.nc ≤ S.tp (2 * k + 1) from hc) (by omega), fun hc v16 e16 => ?_⟩
              rw [w_id (by omega) (by omega), show 2 * k + 2 = 2 * (k + 1) by omega] at e16
              rw [e16]; exact ih (k + 1) (by omega) (by omega)
          exact run (S.tn / 2).toNat 0 (by decide) (by omega)
        · refine m_see2 t0 (by omega) (fun h3 g1 g2 g3 g4 => ?_) S.tn.toNat 0 h2 (by decide) (by omega) (fun _ _ => rfl) (fun i q1 q2 => absurd q2 (by omega))
          have len : (prsN S.tp (S.tn / 2).toNat 0).length = (S.tn / 2).toNat := prsN_len _ _ _
          refine hK h3 (R2.s_sn (R2.ok.s_sn (by rw [len]; omega) (fun p hp => ?_)) (fun a q1 q2 => g1 a q2 q1) g2 (by rw [g3, len]; omega) (fun j hj => ?_)) (f2.tr (fun a ha => g1 a (by omega) (by omega)))
          · obtain ⟨i, i0, i1, ei⟩ := prsN_mem _ _ _ p hp
            have gi := gg i i0 (by omega)
            rw [Bool.and_eq_true, decide_eq_true_eq, decide_eq_true_eq] at gi
            rw [ei]
            exact ⟨(R.ok.tp _).1, gi.1, (R.ok.tp _).1, gi.2⟩
          · rw [len] at hj
            rw [prsN_get _ _ _ _ hj, Int.zero_add, g4 (2 * j) (by omega) (by omega), g4 (2 * j + 1) (by omega) (by omega)]
            exact ⟨tp2 _ (by omega) (by omega), tp2 _ (by omega) (by omega)⟩
      exact hz
    · have sb : seeB S = false := by
        unfold seeB
        have : allN (fun k => decide (S.tp (2 * k) < S.F.nb) && decide (S.tp (2 * k + 1) < S.F.nc)) (S.tn / 2).toNat 0 = false := by simpa using g
        rw [this, Bool.and_false]
      exact m_see1 hd R2 t1 tp2 y (bad sb) (S.tn / 2).toNat 0 (by decide) (by omega) (fun z => absurd z g)
end SpSe
