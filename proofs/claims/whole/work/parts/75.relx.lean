/-! the class: how it holds what stands -/
def wdX : List (List Int) := [[4, 1, 25], [12, 5, 1, 6], [3, 5, 12, 12], [20, 18, 1, 4, 5], [16, 21, 18, 19, 5], [15, 16, 5, 14], [15, 20, 8, 5, 18], [14, 21, 13, 2, 5, 18], [13, 5, 20], [13, 5, 5, 20, 19], [13, 9, 14], [13, 1, 24], [15, 18], [1, 14, 4], [14, 15, 20], [1, 12, 12], [6, 15, 12, 9, 15], [3, 5, 12, 12, 19], [7, 12, 15, 19, 19], [23, 15, 18, 13], [2, 5, 9, 14, 7], [15, 14], [1, 20], [15, 16, 5, 14, 19], [3, 15, 18, 14], [20, 15, 12, 12], [19, 20, 5, 16, 19], [20, 8, 21, 13, 2], [6, 9, 18, 19, 20], [12, 1, 19, 20], [15, 6, 20, 5, 14], [20, 15, 20, 1, 12], [13, 15, 19, 20], [12, 5, 1, 19, 20]]
def wordsX (h : mf_M) : Prop := ∀ w : Nat, w < 34 → h 2 w = pkP (wdX.getD w [])
theorem wordsX.keep {h h' : mf_M} (e : h' 2 = h 2) (o : wordsX h) : wordsX h' := by
  unfold wordsX at o ⊢
  rw [e]; exact o
def RX (S : aS) (g h : mf_M) : Prop := (okS S) ∧ ((g 0 12 = 11 ∧ g 0 13 = 28) ∨ (g 0 12 = 28 ∧ g 0 13 = 11)) ∧ (h 3 1 = S.tn) ∧ (∀ i, 0 ≤ i → i < S.tn → h 4 i = mf_b8 (S.tp i)) ∧ (h 0 17 = S.fa) ∧ (h 0 18 = S.pl) ∧ (∀ i, 0 ≤ i → i < 6 → h 243 i = S.rf i) ∧ (wordsX h) ∧ (folX S.F (g 0 12) h) ∧ (vX h 88 S.F.nb = S.st) ∧ (kpX h 88 S.ks) ∧ (h 88 6 ≤ 64 * h 88 7) ∧ (h 0 15 = S.un.length) ∧ (h 0 16 = S.nx) ∧ (∀ j : Nat, j < S.un.length → vX h (103 + 7 * ((S.nx - 1 - j) % 20)) S.F.nb = (S.un.getD j aD).1 ∧ kpX h (103 + 7 * ((S.nx - 1 - j) % 20)) (S.un.getD j aD).2 ∧ h (103 + 7 * ((S.nx - 1 - j) % 20)) 6 ≤ 64 * h (103 + 7 * ((S.nx - 1 - j) % 20)) 7) ∧ (h 51 11 = S.sn.length) ∧ (∀ j : Nat, j < S.sn.length → h 65 j = (S.sn.getD j (0, 0)).1 ∧ h 66 j = (S.sn.getD j (0, 0)).2) ∧ (h 0 19 = S.sd) ∧ (h 0 14 = S.oc.length) ∧ (∀ j : Nat, j < S.oc.length → h 244 j = S.oc.getD j 0) ∧ (∀ a ∈ ([53, 67, 74, 81] : List Int), inr (h a 6))
theorem RX.ok {S : aS} {g h : mf_M} (o : RX S g h) : okS S := o.1
theorem RX.cf {S : aS} {g h : mf_M} (o : RX S g h) : (g 0 12 = 11 ∧ g 0 13 = 28) ∨ (g 0 12 = 28 ∧ g 0 13 = 11) := o.2.1
theorem RX.tn {S : aS} {g h : mf_M} (o : RX S g h) : h 3 1 = S.tn := o.2.2.1
theorem RX.tp {S : aS} {g h : mf_M} (o : RX S g h) : ∀ i, 0 ≤ i → i < S.tn → h 4 i = mf_b8 (S.tp i) := o.2.2.2.1
theorem RX.fa {S : aS} {g h : mf_M} (o : RX S g h) : h 0 17 = S.fa := o.2.2.2.2.1
theorem RX.pl {S : aS} {g h : mf_M} (o : RX S g h) : h 0 18 = S.pl := o.2.2.2.2.2.1
theorem RX.rf {S : aS} {g h : mf_M} (o : RX S g h) : ∀ i, 0 ≤ i → i < 6 → h 243 i = S.rf i := o.2.2.2.2.2.2.1
theorem RX.wd {S : aS} {g h : mf_M} (o : RX S g h) : wordsX h := o.2.2.2.2.2.2.2.1
theorem RX.fo {S : aS} {g h : mf_M} (o : RX S g h) : folX S.F (g 0 12) h := o.2.2.2.2.2.2.2.2.1
theorem RX.vi {S : aS} {g h : mf_M} (o : RX S g h) : vX h 88 S.F.nb = S.st := o.2.2.2.2.2.2.2.2.2.1
theorem RX.kp {S : aS} {g h : mf_M} (o : RX S g h) : kpX h 88 S.ks := o.2.2.2.2.2.2.2.2.2.2.1
theorem RX.kb {S : aS} {g h : mf_M} (o : RX S g h) : h 88 6 ≤ 64 * h 88 7 := o.2.2.2.2.2.2.2.2.2.2.2.1
theorem RX.un {S : aS} {g h : mf_M} (o : RX S g h) : h 0 15 = S.un.length := o.2.2.2.2.2.2.2.2.2.2.2.2.1
theorem RX.nx {S : aS} {g h : mf_M} (o : RX S g h) : h 0 16 = S.nx := o.2.2.2.2.2.2.2.2.2.2.2.2.2.1
theorem RX.us {S : aS} {g h : mf_M} (o : RX S g h) : ∀ j : Nat, j < S.un.length → vX h (103 + 7 * ((S.nx - 1 - j) % 20)) S.F.nb = (S.un.getD j aD).1 ∧ kpX h (103 + 7 * ((S.nx - 1 - j) % 20)) (S.un.getD j aD).2 ∧ h (103 + 7 * ((S.nx - 1 - j) % 20)) 6 ≤ 64 * h (103 + 7 * ((S.nx - 1 - j) % 20)) 7 := o.2.2.2.2.2.2.2.2.2.2.2.2.2.2.1
theorem RX.sn {S : aS} {g h : mf_M} (o : RX S g h) : h 51 11 = S.sn.length := o.2.2.2.2.2.2.2.2.2.2.2.2.2.2.2.1
theorem RX.ss {S : aS} {g h : mf_M} (o : RX S g h) : ∀ j : Nat, j < S.sn.length → h 65 j = (S.sn.getD j (0, 0)).1 ∧ h 66 j = (S.sn.getD j (0, 0)).2 := o.2.2.2.2.2.2.2.2.2.2.2.2.2.2.2.2.1
theorem RX.sd {S : aS} {g h : mf_M} (o : RX S g h) : h 0 19 = S.sd := o.2.2.2.2.2.2.2.2.2.2.2.2.2.2.2.2.2.1
theorem RX.oc {S : aS} {g h : mf_M} (o : RX S g h) : h 0 14 = S.oc.length := o.2.2.2.2.2.2.2.2.2.2.2.2.2.2.2.2.2.2.1
theorem RX.os {S : aS} {g h : mf_M} (o : RX S g h) : ∀ j : Nat, j < S.oc.length → h 244 j = S.oc.getD j 0 := o.2.2.2.2.2.2.2.2.2.2.2.2.2.2.2.2.2.2.2.1
theorem RX.tr {S : aS} {g h : mf_M} (o : RX S g h) : ∀ a ∈ ([53, 67, 74, 81] : List Int), inr (h a 6) := o.2.2.2.2.2.2.2.2.2.2.2.2.2.2.2.2.2.2.2.2
def frH (h h' : mf_M) : Prop := ∀ a, 245 ≤ a → h' a = h a
theorem frH.rf (h : mf_M) : frH h h := fun _ _ => rfl
theorem frH.tr {a b c : mf_M} (h1 : frH a b) (h2 : frH b c) : frH a c := fun x hx => (h2 x hx).trans (h1 x hx)
theorem frH.up {h : mf_M} {a i v : Int} (ha : a < 245) : frH h (mf_up h a i v) := fun b hb => up_row (by omega)
/-- what was written is nothing that stays -/
def frN (h h' : mf_M) : Prop := (∀ a, a ≠ 47 → a ≠ 48 → a ≠ 49 → a ≠ 50 → a ≠ 51 → ¬ (53 ≤ a ∧ a ≤ 64) → ¬ (67 ≤ a ∧ a ≤ 87) → ¬ (95 ≤ a ∧ a ≤ 101) → h' a = h a) ∧ h' 51 11 = h 51 11 ∧ ∀ a ∈ ([53, 67, 74, 81] : List Int), inr (h a 6) → inr (h' a 6)
theorem frN.rf (h : mf_M) : frN h h := ⟨fun _ _ _ _ _ _ _ _ _ => rfl, rfl, fun _ _ => id⟩
theorem frN.tr {a b c : mf_M} (h1 : frN a b) (h2 : frN b c) : frN a c := ⟨fun x q1 q2 q3 q4 q5 q6 q7 q8 => (h2.1 x q1 q2 q3 q4 q5 q6 q7 q8).trans (h1.1 x q1 q2 q3 q4 q5 q6 q7 q8), h2.2.1.trans h1.2.1, fun x hx q => h2.2.2 x hx (h1.2.2 x hx q)⟩
theorem frN.H {h h' : mf_M} (f : frN h h') : frH h h' := fun a ha => f.1 a (by omega) (by omega) (by omega) (by omega) (by omega) (by omega) (by omega) (by omega)
theorem frK.N {h h' : mf_M} (f : frK h h') : frN h h' := by
  refine ⟨fun a q1 _ _ q4 _ _ _ _ => f a q1 q4, by rw [f 51 (by decide) (by decide)], fun a ha q => ?_⟩
  have : a = 53 ∨ a = 67 ∨ a = 74 ∨ a = 81 := by simpa using ha
  rw [f a (by omega) (by omega)]; exact q
section RXk
variable {S : aS} {g h h' : mf_M}
theorem RX.fi (R : RX S g h) : g 0 12 = 11 ∨ g 0 12 = 28 := R.cf.elim (fun q => Or.inl q.1) (fun q => Or.inr q.1)
theorem RX.keep (R : RX S g h) (f : frN h h') : RX S g h' := by
  have hf := R.fi
  have r : ∀ a, (a < 47 ∨ a = 65 ∨ a = 66 ∨ (88 ≤ a ∧ a ≤ 94) ∨ 102 ≤ a) → h' a = h a := fun a q => f.1 a (by omega) (by omega) (by omega) (by omega) (by omega) (by omega) (by omega) (by omega)
  refine ⟨R.ok, R.cf, by rw [r 3 (by decide)]; exact R.tn, by rw [r 4 (by decide)]; exact R.tp, by rw [r 0 (by decide)]; exact R.fa, by rw [r 0 (by decide)]; exact R.pl, by rw [r 243 (by decide)]; exact R.rf, R.wd.keep (r 2 (by decide)), R.fo.keep (fun x h1 h2 => r x (by omega)), ?_, R.kp.keep (by rw [r 88 (by decide)]) (r _ (by decide)), by rw [r 88 (by decide)]; exact R.kb, by rw [r 0 (by decide)]; exact R.un, by rw [r 0 (by decide)]; exact R.nx, fun j hj => ?_, by rw [f.2.1]; exact R.sn, by rw [r 65 (by decide), r 66 (by decide)]; exact R.ss, by rw [r 0 (by decide)]; exact R.sd, by rw [r 0 (by decide)]; exact R.oc, by rw [r 244 (by decide)]; exact R.os, fun a ha => f.2.2 a ha (R.tr a ha)⟩
  · rw [vX_row (h := h) (by rw [r 88 (by decide)]) (fun j j1 j2 => r _ (by omega))]; exact R.vi
  · obtain ⟨u1, u2, u3⟩ := R.us j hj
    have ra : ∀ i, 0 ≤ i → h' (103 + 7 * ((S.nx - 1 - j) % 20) + i) = h (103 + 7 * ((S.nx - 1 - j) % 20) + i) := fun i hi => r _ (by omega)
    have r0 : h' (103 + 7 * ((S.nx - 1 - j) % 20)) = h (103 + 7 * ((S.nx - 1 - j) % 20)) := r _ (by omega)
    exact ⟨by rw [vX_row (h := h) (by rw [r0]) (fun i j1 j2 => ra i (by omega))]; exact u1, u2.keep (by rw [r0]) (ra 6 (by decide)), by rw [r0]; exact u3⟩
theorem RX.D (R : RX S g h) : cD S.F (g 0 12) 88 h S.st := by
  have k := R.kp.1
  have kb := R.kb
  have hd := R.ok.P.st.2.2
  have e7 : h 88 7 = S.st 0 0 := by rw [← R.vi, vX_day]
  exact ⟨R.fi, ⟨is88, by decide, by decide⟩, R.ok.F, R.fo, R.vi, R.ok.P.st, by unfold inr; omega⟩
theorem RX.ref (R : RX S g h) {i : Int} (h0 : 0 ≤ i) (h6 : i < 6) : RX (refS S i) g (mf_up h 243 i (mf_w32 (h 243 i + 1))) := by
  have hf := R.fi
  have r : ∀ a, a ≠ 243 → mf_up h 243 i (mf_w32 (h 243 i + 1)) a = h a := fun a q => up_row q
  refine ⟨R.ok.ref i, R.cf, by rw [r 3 (by decide)]; exact R.tn, by rw [r 4 (by decide)]; exact R.tp, by rw [r 0 (by decide)]; exact R.fa, by rw [r 0 (by decide)]; exact R.pl, fun j hj0 hj => ?_, R.wd.keep (r 2 (by decide)), R.fo.keep (fun x h1 h2 => r x (by omega)), ?_, R.kp.keep (by rw [r 88 (by decide)]) (r _ (by decide)), by rw [r 88 (by decide)]; exact R.kb, by rw [r 0 (by decide)]; exact R.un, by rw [r 0 (by decide)]; exact R.nx, fun j hj => ?_, by rw [r 51 (by decide)]; exact R.sn, by rw [r 65 (by decide), r 66 (by decide)]; exact R.ss, by rw [r 0 (by decide)]; exact R.sd, by rw [r 0 (by decide)]; exact R.oc, by rw [r 244 (by decide)]; exact R.os, fun a ha => ?_⟩
  · rw [up_if]
    show _ = if j = i then mf_w32 (S.rf i + 1) else S.rf j
    by_cases e : j = i
    · rw [if_pos ⟨rfl, e⟩, if_pos e, R.rf i h0 h6]
    · rw [if_neg (fun q => e q.2), if_neg e, R.rf j hj0 hj]
  · rw [vX_row (h := h) (by rw [r 88 (by decide)]) (fun j j1 j2 => r _ (by omega))]; exact R.vi
  · obtain ⟨u1, u2, u3⟩ := R.us j hj
    exact ⟨by rw [vX_row (h := h) (by rw [r _ (by omega)]) (fun i j1 j2 => r _ (by omega))]; exact u1, u2.keep (by rw [r _ (by omega)]) (r _ (by omega)), by rw [r _ (by omega)]; exact u3⟩
  · have : a = 53 ∨ a = 67 ∨ a = 74 ∨ a = 81 := by simpa using ha
    rw [r a (by omega)]; exact R.tr a ha
end RXk
