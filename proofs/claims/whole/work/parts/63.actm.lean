/-! acts -/
def aS.act (o : aS) (σ : mf_M) (ks : List (Int × Int × Int)) (un : List (mf_M × List (Int × Int × Int))) (nx : Int) : aS := (o.F, o.tp, o.tn, σ, ks, un, nx, o.sn, o.sd, o.rf, o.fa, o.pl, o.oc)
def savS (S : aS) : aS := S.act S.st S.ks ((S.st, S.ks) :: S.un.take 19) ((S.nx + 1) % 20)
def undoS (S : aS) : Int × aS := if S.un = [] then (0, refS S 4) else (1, S.act (S.un.headD aD).1 (S.un.headD aD).2 (S.un.drop 1) ((S.nx + 19) % 20))
def goS2 (S : aS) (b a c : Int) : Int × aS := if (0 ≤ b ∧ b < S.F.nb) ∧ (0 ≤ a ∧ a < S.F.nl ∧ 0 ≤ c ∧ c < S.F.nc) ∧ freeB S.st S.F.nb a c then (1, (savS S).act (mf_up (mf_up S.st 2 b a) 3 b c) S.ks (savS S).un (savS S).nx) else (0, refS S 2)
/-- the nearest free cell of a leaf, from far on, n times -/
def refugeS (S : aS) (a c : Int) : Nat → Int → Int
  | 0, _ => -1
  | n + 1, far => if 0 ≤ c - far ∧ freeB S.st S.F.nb a (c - far) then c - far else if c + far < S.F.nc ∧ freeB S.st S.F.nb a (c + far) then c + far else refugeS S a c n (far + 1)
def glossS (S : aS) (a c : Int) : Int × aS :=
  if (0 ≤ a ∧ a < S.F.nl ∧ 0 ≤ c ∧ c < S.F.nc) ∧ ¬ bitS (S.st 1 a) c = 1 then
    (if whoS S.st S.F.nb a c = -1 then (100, (savS S).act (mf_up S.st 1 a (mf_or (S.st 1 a) (mf_shl 1 c))) S.ks (savS S).un (savS S).nx)
     else if refugeS S a c 7 1 = -1 then (-1, refS S 2)
     else (refugeS S a c 7 1, (savS S).act (mf_up (mf_up S.st 1 a (mf_or (S.st 1 a) (mf_shl 1 c))) 3 (whoS S.st S.F.nb a c) (refugeS S a c 7 1)) S.ks (savS S).un (savS S).nx))
  else (-1, refS S 2)
section SpAc
variable {C : mf_G} {l : Launch} {d : Nat} {L : Int → mf_M → Prop} {S : aS} {h : mf_M}
theorem okS.act (o : okS S) {σ : mf_M} {ks : List (Int × Int × Int)} {un : List (mf_M × List (Int × Int × Int))} {nx : Int} (p : okP S.F σ ks) (u1 : un.length ≤ 20) (u2 : ∀ q ∈ un, okP S.F q.1 q.2) (n0 : 0 ≤ nx) (n1 : nx < 20) : okS (S.act σ ks un nx) := ⟨o.F, p, o.tn0, o.tn1, o.tp, u1, u2, n0, n1, o.sn, o.ss, o.sd0, o.sd1, o.oc⟩
theorem RM.act (R : RM S h) {h' : mf_M} {σ : mf_M} {ks : List (Int × Int × Int)} {un : List (mf_M × List (Int × Int × Int))} {nx : Int} (ok : okS (S.act σ ks un nx))
    (fr : ∀ a, a ≠ 245 → a ≠ 286 → a ≠ 287 → a ≠ 288 → a ≠ 289 → a ≠ 291 → a ≠ 292 → a ≠ 315 → a ≠ 316 → a ≠ 317 → h' a = h a) (co : ∀ k ∈ ([1, 7, 8, 48, 54, 61, 65, 71, 105] : List Int), h' 245 k = h 245 k) (ao : -1000 ≤ h' 245 59 ∧ h' 245 59 ≤ 1000)
    (vi : vM h' 286 0 S.F.nb = σ) (kp : kpM h' 286 0 ks) (e1 : h' 245 69 = un.length) (e2 : h' 245 70 = nx) (us : ∀ j : Nat, j < un.length → vM h' 292 (160 * ((nx - j) % 20)) S.F.nb = (un.getD j aD).1 ∧ kpM h' 292 (160 * ((nx - j) % 20)) (un.getD j aD).2) : RM (S.act σ ks un nx) h' := by
  have r : ∀ a, a ≠ 245 → a ≠ 286 → a ≠ 287 → a ≠ 288 → a ≠ 289 → a ≠ 291 → a ≠ 292 → a ≠ 315 → a ≠ 316 → a ≠ 317 → h' a = h a := fr
  have r0 : h' 290 = h 290 := r 290 (by decide) (by decide) (by decide) (by decide) (by decide) (by decide) (by decide) (by decide) (by decide) (by decide)
  have r8 : h' 318 = h 318 := r 318 (by decide) (by decide) (by decide) (by decide) (by decide) (by decide) (by decide) (by decide) (by decide) (by decide)
  have r46 : h' 246 = h 246 := r 246 (by decide) (by decide) (by decide) (by decide) (by decide) (by decide) (by decide) (by decide) (by decide) (by decide)
  have r47 : h' 247 = h 247 := r 247 (by decide) (by decide) (by decide) (by decide) (by decide) (by decide) (by decide) (by decide) (by decide) (by decide)
  refine ⟨ok, by rw [co 1 (by simp)]; exact R.tn, by rw [r46]; exact R.tp, by rw [co 7 (by simp)]; exact R.fa, by rw [co 8 (by simp)]; exact R.pl, by rw [r47]; exact R.rf, R.wd.keep (fun a ha => r a (by omega) (by omega) (by omega) (by omega) (by omega) (by omega) (by omega) (by omega) (by omega) (by omega)), R.fo.keep (fun a ha => ?_) (fun k hk => co k ?_), vi, kp, by rw [co 61 (by simp)]; exact R.th, e1, e2, us, by rw [co 65 (by simp)]; exact R.sn, by rw [r0]; exact R.ss, by rw [co 71 (by simp)]; exact R.sd, by rw [co 105 (by simp)]; exact R.oc, by rw [r8]; exact R.os, ao⟩
  · simp only [List.mem_cons, List.not_mem_nil, or_false] at ha
    exact r a (by omega) (by omega) (by omega) (by omega) (by omega) (by omega) (by omega) (by omega) (by omega) (by omega)
  · simp only [List.mem_cons, List.not_mem_nil, or_false] at hk ⊢
    omega
theorem m_keeps {h0 : mf_M} {x : Int} (x0 : 0 ≤ x) (x1 : x < 20) (e70 : h0 245 70 = x) (hK : ∀ h1, (∀ a, a ≠ 292 → h1 a = h0 a) → (∀ k, 0 ≤ k → k < 160 → h1 292 (160 * x + k) = h0 286 k) → (∀ i, ¬ (160 * x ≤ i ∧ i < 160 * x + 160) → h1 292 i = h0 292 i) → ((20 ≤ h1 245 69 → L 0 h1) ∧ (¬ 20 ≤ h1 245 69 → (∀ h2 : mf_M, h2 = mf_up h1 245 69 (mf_w32 ((h1 245 69) + 1)) → L 0 h2)))) : ∀ (n : Nat) (k : Int) (h : mf_M), 0 ≤ k → k + n = 160 → (∀ a, a ≠ 292 → h a = h0 a) → (∀ i, 0 ≤ i → i < k → h 292 (160 * x + i) = h0 286 i) → (∀ i, ¬ (160 * x ≤ i ∧ i < 160 * x + 160) → h 292 i = h0 292 i) → BX12_keeps_15 C l d L k h := by
  intro n
  induction n with
  | zero =>
    intro k h k0 kn f1 f2 f3
    exact vX12_keeps_15 ⟨fun _ => hK h f1 (fun i q1 q2 => f2 i q1 (by omega)) f3, fun q => absurd (by omega) q⟩
  | succ n ih =>
    intro k h k0 kn f1 f2 f3
    refine vX12_keeps_15 ⟨fun q => absurd q (by omega), fun _ => ?_⟩
    rw [f1 245 (by decide), e70, w_id (x := 160 * x) (by omega) (by omega), w_id (x := 160 * x + k) (by omega) (by omega)]
    refine ⟨k0, by omega, by omega, by omega, fun h6 e6 v7 e7 => ?_⟩
    rw [w_id (by omega) (by omega)] at e7
    rw [e7]
    refine ih (k + 1) h6 (by omega) (by omega) (fun a q => by rw [e6, up_row q]; exact f1 a q) (fun i q1 q2 => ?_) (fun i q => ?_)
    · rw [e6, up_if]
      by_cases e : i = k
      · rw [if_pos ⟨rfl, by omega⟩, f1 286 (by decide), e]
      · rw [if_neg (by omega)]; exact f2 i q1 (by omega)
    · rw [e6, up_col (by omega)]; exact f3 i q
theorem okS.sav (o : okS S) : okS (savS S) := by
  refine o.act o.P ?_ ?_ (by omega) (by omega)
  · simp only [List.length_cons, List.length_take]; omega
  · intro q hq
    simp only [List.mem_cons] at hq
    rcases hq with rfl | hq
    · exact o.P
    · exact o.us q (List.mem_of_mem_take hq)
theorem M_keeps (R : RM S h) (hK : ∀ h', RM (savS S) h' → frX h h' → h' 286 = h 286 → h' 245 62 = h 245 62 → L 0 h') : mM C l d YX12_keeps [(2, 245)] h L := by
  have n0 := R.ok.nx0
  have n1 := R.ok.nx1
  have u20 := R.ok.un
  refine wX12_keeps (fun h1 e1 => ?_)
  have ex : h1 245 70 = (S.nx + 1) % 20 := by
    rw [e1, up_self, R.nx, w_id (by omega) (by omega), Int.tmod_eq_emod_of_nonneg (by omega)]
  have r1 : ∀ a, a ≠ 245 → h1 a = h a := fun a q => by rw [e1, up_row q]
  have c1 : ∀ k, k ≠ 70 → h1 245 k = h 245 k := fun k q => by rw [e1, up_col q]
  refine m_keeps (x := (S.nx + 1) % 20) (by omega) (by omega) ex (fun h2 g1 g2 g3 => ?_) 160 0 h1 (by decide) (by decide) (fun _ _ => rfl) (fun i q1 q2 => absurd q2 (by omega)) (fun _ _ => rfl)
  have r2 : ∀ a, a ≠ 245 → a ≠ 292 → h2 a = h a := fun a q1 q2 => by rw [g1 a q2, r1 a q1]
  have c2 : ∀ k, k ≠ 70 → h2 245 k = h 245 k := fun k q => by rw [g1 245 (by decide), c1 k q]
  have fin : ∀ h3 : mf_M, (∀ a, a ≠ 245 → h3 a = h2 a) → (∀ k, k ≠ 69 → h3 245 k = h2 245 k) → h3 245 69 = (savS S).un.length → L 0 h3 := by
    intro h3 p1 p2 p3
    have r3 : ∀ a, a ≠ 245 → a ≠ 292 → h3 a = h a := fun a q1 q2 => by rw [p1 a q1, r2 a q1 q2]
    have c3 : ∀ k, k ≠ 69 → k ≠ 70 → h3 245 k = h 245 k := fun k q1 q2 => by rw [p2 k q1, c2 k q2]
    have s292 : h3 292 = h2 292 := p1 292 (by decide)
    refine hK h3 (R.act R.ok.sav (fun a q1 _ _ _ _ _ q2 _ _ _ => r3 a q1 q2) (fun k hk => c3 k (by rintro rfl; simp at hk) (by rintro rfl; simp at hk)) (by rw [c3 59 (by decide) (by decide)]; exact R.ao) (by rw [vM_row (r3 286 (by decide) (by decide))]; exact R.vi) (R.kp.row (r3 286 (by decide) (by decide))) p3 (by rw [p2 70 (by decide), g1 245 (by decide)]; exact ex) (fun j hj => ?_)) (fun a ha => r3 a (by omega) (by omega)) (r3 286 (by decide) (by decide)) (c3 62 (by decide) (by decide))
    simp only [List.length_cons, List.length_take] at hj
    cases j with
    | zero =>
      rw [show ((S.nx + 1) % 20 - ((0 : Nat) : Int)) % 20 = (S.nx + 1) % 20 by omega]
      show vM h3 292 (160 * ((S.nx + 1) % 20)) S.F.nb = S.st ∧ kpM h3 292 (160 * ((S.nx + 1) % 20)) S.ks
      have bl : ∀ k, 0 ≤ k → k < 160 → h3 292 (160 * ((S.nx + 1) % 20) + k) = h 286 (0 + k) := fun k q1 q2 => by rw [s292, g2 k q1 q2, r1 286 (by decide), Int.zero_add]
      refine ⟨?_, kpM_pos (fun k q1 q2 => bl k (by omega) q2) R.kp⟩
      rw [← R.vi]
      exact vM_pos (fun k q1 q2 => bl k q1 (by omega)) R.ok.F.b8
    | succ j =>
      have ej : ((S.nx + 1) % 20 - ((j + 1 : Nat) : Int)) % 20 = (S.nx - j) % 20 := by omega
      rw [ej]
      have eg : (((S.st, S.ks) :: S.un.take 19).getD (j + 1) aD) = S.un.getD j aD := by
        rw [List.getD_eq_getElem?_getD, List.getD_eq_getElem?_getD, List.getElem?_cons_succ, List.getElem?_take_of_lt (by omega)]
      rw [eg]
      have bl : ∀ k, 0 ≤ k → k < 160 → h3 292 (160 * ((S.nx - j) % 20) + k) = h 292 (160 * ((S.nx - j) % 20) + k) := fun k q1 q2 => by
        rw [s292, g3 _ (by omega), r1 292 (by decide)]
      obtain ⟨b1, b2⟩ := R.us j (by omega)
      refine ⟨?_, kpM_pos (fun k q1 q2 => bl k (by omega) q2) b2⟩
      rw [← b1]
      exact vM_pos (fun k q1 q2 => bl k q1 (by omega)) R.ok.F.b8
  have e69 : h2 245 69 = S.un.length := by rw [c2 69 (by decide)]; exact R.un
  have ul : ((savS S).un.length : Int) = if S.un.length < 20 then (S.un.length : Int) + 1 else 20 := by
    show ((((S.st, S.ks) :: S.un.take 19).length : Nat) : Int) = _
    simp only [List.length_cons, List.length_take]
    split <;> omega
  refine ⟨fun q => fin h2 (fun _ _ => rfl) (fun _ _ => rfl) ?_, fun q h3 e3 => fin h3 (fun a q1 => by rw [e3, up_row q1]) (fun k q1 => by rw [e3, up_col q1]) ?_⟩
  · rw [ul, if_neg (by omega)]; omega
  · rw [e3, up_self, ul, if_pos (by omega), w_id (by omega) (by omega)]; omega
theorem m_undo {h0 : mf_M} {x : Int} (x0 : 0 ≤ x) (x1 : x < 20) (e70 : h0 245 70 = x) (hK : ∀ h1, (∀ a, a ≠ 286 → h1 a = h0 a) → (∀ k, 0 ≤ k → k < 160 → h1 286 k = h0 292 (160 * x + k)) → (∀ h2 : mf_M, h2 = mf_up h1 245 70 ((mf_w32 ((mf_w32 ((h1 245 70) + 20)) - 1)).tmod 20) → (∀ h3 : mf_M, h3 = mf_up h2 245 69 (mf_w32 ((h2 245 69) - 1)) → L 1 h3))) : ∀ (n : Nat) (k : Int) (h : mf_M), 0 ≤ k → k + n = 160 → (∀ a, a ≠ 286 → h a = h0 a) → (∀ i, 0 ≤ i → i < k → h 286 i = h0 292 (160 * x + i)) → BX12_undo_21 C l d L k h := by
  intro n
  induction n with
  | zero =>
    intro k h k0 kn f1 f2
    exact vX12_undo_21 ⟨fun _ => hK h f1 (fun i q1 q2 => f2 i q1 (by omega)), fun q => absurd (by omega) q⟩
  | succ n ih =>
    intro k h k0 kn f1 f2
    refine vX12_undo_21 ⟨fun q => absurd q (by omega), fun _ => ?_⟩
    rw [f1 245 (by decide), e70, w_id (x := 160 * x) (by omega) (by omega), w_id (x := 160 * x + k) (by omega) (by omega)]
    refine ⟨by omega, by omega, k0, by omega, fun h6 e6 v7 e7 => ?_⟩
    rw [w_id (by omega) (by omega)] at e7
    rw [e7]
    refine ih (k + 1) h6 (by omega) (by omega) (fun a q => by rw [e6, up_row q]; exact f1 a q) (fun i q1 q2 => ?_)
    rw [e6, up_if]
    by_cases e : i = k
    · rw [if_pos ⟨rfl, e⟩, f1 292 (by decide), e]
    · rw [if_neg (by omega)]; exact f2 i q1 (by omega)
theorem M_undo (R : RM S h) (hK : ∀ h', RM (undoS S).2 h' → frX h h' → L (undoS S).1 h') : mM C l d YX12_undo [(2, 245)] h L := by
  have n0 := R.ok.nx0
  have n1 := R.ok.nx1
  have u20 := R.ok.un
  unfold undoS at hK
  refine wX12_undo ⟨fun q => ?_, fun q h1 e1 => ?_⟩
  · rw [R.un] at q
    have hne : S.un ≠ [] := fun z => q (by rw [z]; rfl)
    rw [if_neg hne] at hK
    have hpos : 0 < S.un.length := by omega
    refine m_undo (x := S.nx) n0 n1 R.nx (fun h1 g1 g2 h2 e2 h3 e3 => ?_) 160 0 h (by decide) (by decide) (fun _ _ => rfl) (fun i q1 q2 => absurd q2 (by omega))
    have c3 : ∀ k, k ≠ 69 → k ≠ 70 → h3 245 k = h 245 k := fun k q1 q2 => by rw [e3, up_col q1, e2, up_col q2, g1 245 (by decide)]
    have r3 : ∀ a, a ≠ 245 → a ≠ 286 → h3 a = h a := fun a q1 q2 => by rw [e3, up_row q1, e2, up_row q1, g1 a q2]
    have r286 : h3 286 = h1 286 := by rw [e3, up_row (by decide), e2, up_row (by decide)]
    obtain ⟨b1, b2⟩ := R.us 0 hpos
    rw [show (S.nx - ((0 : Nat) : Int)) % 20 = S.nx by omega] at b1 b2
    have eh : S.un.getD 0 aD = S.un.headD aD := by cases S.un <;> rfl
    rw [eh] at b1 b2
    have hm : S.un.headD aD ∈ S.un := by
      cases hu : S.un with
      | nil => exact absurd hu hne
      | cons x t => simp
    have bl : ∀ k, 0 ≤ k → k < 160 → h3 286 (0 + k) = h 292 (160 * S.nx + k) := fun k q1 q2 => by rw [r286, Int.zero_add, g2 k q1 q2]
    refine hK h3 (R.act (R.ok.act (R.ok.us _ hm) (by simp; omega) (fun q hq => R.ok.us q (List.mem_of_mem_drop hq)) (by omega) (by omega)) (fun a q1 q2 _ _ _ _ _ _ _ _ => r3 a q1 q2) (fun k hk => c3 k (by rintro rfl; simp at hk) (by rintro rfl; simp at hk)) (by rw [c3 59 (by decide) (by decide)]; exact R.ao) ?_ (kpM_pos (fun k q1 q2 => bl k (by omega) q2) b2) ?_ ?_ (fun j hj => ?_)) (fun a ha => r3 a (by omega) (by omega))
    · rw [← b1]
      exact vM_pos (fun k q1 q2 => bl k q1 (by omega)) R.ok.F.b8
    · rw [e3, up_self, e2, up_col (by decide), g1 245 (by decide), R.un, w_id (by omega) (by omega), List.length_drop]; omega
    · rw [e3, up_col (by decide), e2, up_self, g1 245 (by decide), R.nx, w_id (x := S.nx + 20) (by omega) (by omega), w_id (by omega) (by omega), Int.tmod_eq_emod_of_nonneg (by omega)]
      congr 1; omega
    · rw [List.length_drop] at hj
      obtain ⟨d1, d2⟩ := R.us (j + 1) (by omega)
      have ej : ((S.nx + 19) % 20 - (j : Int)) % 20 = (S.nx - ((j + 1 : Nat) : Int)) % 20 := by omega
      have eg : (S.un.drop 1).getD j aD = S.un.getD (j + 1) aD := by
        rw [List.getD_eq_getElem?_getD, List.getD_eq_getElem?_getD, List.getElem?_drop, Nat.add_comm]
      rw [ej, eg, vM_row (r3 292 (by decide) (by decide))]
      exact ⟨d1, d2.row (r3 292 (by decide) (by decide))⟩
  · rw [R.un] at q
    have hne : S.un = [] := List.length_eq_zero_iff.mp (by omega)
    rw [if_pos hne] at hK
    rw [e1]; exact hK _ (R.ref (by decide) (by decide)) (frX.up (by decide))
end SpAc
