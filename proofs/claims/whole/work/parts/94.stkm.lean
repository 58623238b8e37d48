/-! what waits and what is told, in the reference -/
def frQs (h h' : mf_M) : Prop := (∀ a, a ≠ 245 → a ≠ 315 → a ≠ 316 → h' a = h a) ∧ ∀ k, k ≠ 2 → k ≠ 4 → k ≠ 5 → k ≠ 6 → k ≠ 10 → k ≠ 39 → k ≠ 95 → k ≠ 97 → k ≠ 98 → k ≠ 99 → h' 245 k = h 245 k
theorem frQs.rf (h : mf_M) : frQs h h := ⟨fun _ _ _ _ => rfl, fun _ _ _ _ _ _ _ _ _ _ _ => rfl⟩
theorem frQs.tr {a b c : mf_M} (h1 : frQs a b) (h2 : frQs b c) : frQs a c := ⟨fun x q1 q2 q3 => (h2.1 x q1 q2 q3).trans (h1.1 x q1 q2 q3), fun k q1 q2 q3 q4 q5 q6 q7 q8 q9 q0 => (h2.2 k q1 q2 q3 q4 q5 q6 q7 q8 q9 q0).trans (h1.2 k q1 q2 q3 q4 q5 q6 q7 q8 q9 q0)⟩
theorem frL.Q {h h' : mf_M} (f : frL h h') : frQs h h' := ⟨fun a q _ _ => f.1 a q, fun k q1 q2 q3 q4 q5 q6 _ _ _ _ => f.2 k q1 q2 q3 q4 q5 q6⟩
/-- codes, what waits, their numbers alone were written -/
def fr3 (h h' : mf_M) : Prop := (∀ a, a ≠ 245 → a ≠ 315 → a ≠ 316 → h' a = h a) ∧ ∀ k, k ≠ 95 → k ≠ 97 → k ≠ 98 → k ≠ 99 → h' 245 k = h 245 k
theorem fr3.rf (h : mf_M) : fr3 h h := ⟨fun _ _ _ _ => rfl, fun _ _ _ _ _ => rfl⟩
theorem fr3.tr {a b c : mf_M} (h1 : fr3 a b) (h2 : fr3 b c) : fr3 a c := ⟨fun x q1 q2 q3 => (h2.1 x q1 q2 q3).trans (h1.1 x q1 q2 q3), fun k q7 q8 q9 q0 => (h2.2 k q7 q8 q9 q0).trans (h1.2 k q7 q8 q9 q0)⟩
theorem fr3.Q {h h' : mf_M} (f : fr3 h h') : frQs h h' := ⟨f.1, fun k _ _ _ _ _ _ q7 q8 q9 q0 => f.2 k q7 q8 q9 q0⟩
theorem fr3.up {h : mf_M} {k v : Int} (hk : k = 95 ∨ k = 97 ∨ k = 98 ∨ k = 99) : fr3 h (mf_up h 245 k v) := ⟨fun a q _ _ => up_row q, fun j _ _ _ _ => up_col (by omega)⟩
theorem fr3.up315 (h : mf_M) (i v : Int) : fr3 h (mf_up h 315 i v) := ⟨fun a _ q _ => up_row q, fun j _ _ _ _ => by rw [up_row (by decide)]⟩
theorem fr3.up316 (h : mf_M) (i v : Int) : fr3 h (mf_up h 316 i v) := ⟨fun a _ _ q => up_row q, fun j _ _ _ _ => by rw [up_row (by decide)]⟩
theorem txM.f3 {T : aT} {h h' : mf_M} (X : txM T h) (f : fr3 h h') : txM T h' := by
  obtain ⟨h1, h2, h3, h4, h5⟩ := X
  exact ⟨h1, h2, by rw [f.2 3 (by decide) (by decide) (by decide) (by decide)]; exact h3, by rw [f.1 246 (by decide) (by decide) (by decide)]; exact h4, h5.keep (fun a ha => f.1 a (by omega) (by omega) (by omega))⟩
theorem lxM.f3 {T : aT} {q : aQ} {h h' : mf_M} (X : lxM T q h) (f : fr3 h h') : lxM T q h' := by
  obtain ⟨t, q1, b, a, e1, e2, e6⟩ := X
  have e : ∀ k, k = 2 ∨ k = 4 ∨ k = 5 ∨ k = 6 → h' 245 k = h 245 k := fun k hk => f.2 k (by omega) (by omega) (by omega) (by omega)
  exact ⟨t.f3 f, q1, by rw [e 5 (by decide)]; exact b, by rw [e 2 (by decide)]; exact a, fun z => by rw [e 4 (by decide)]; exact e1 z, fun z => by rw [e 4 (by decide)]; exact e2 z, by rw [e 6 (by decide)]; exact e6⟩
theorem ltM.f3 {T : aT} {q : aQ} {h h' : mf_M} (X : ltM T q h) (f : fr3 h h') : ltM T q h' := ⟨X.1.f3 f, by rw [f.2 2 (by decide) (by decide) (by decide) (by decide)]; exact X.2⟩
/-- what waits, the newest first -/
def wtM (h : mf_M) : List Int → Int → Prop
  | [], n => n = 0
  | a :: t, n => h 316 (n - 1) = a ∧ 0 < n ∧ wtM h t (n - 1)
theorem wtM.len {h : mf_M} : ∀ {V : List Int} {n : Int}, wtM h V n → n = V.length
  | [], n, hs => hs
  | a :: t, n, hs => by
    have := wtM.len hs.2.2
    simp; omega
theorem wtM.keep {h h' : mf_M} : ∀ {V : List Int} {n : Int}, (∀ i, 0 ≤ i → i < n → h' 316 i = h 316 i) → wtM h V n → wtM h' V n
  | [], n, _, hs => hs
  | a :: t, n, hk, hs => ⟨by rw [hk (n - 1) (by have := hs.2.1; omega) (by omega)]; exact hs.1, hs.2.1, wtM.keep (fun i h0 h1 => hk i h0 (by omega)) hs.2.2⟩
def cnV : List Int → Int
  | [] => 0
  | x :: V => (if x = 12 ∨ 20 ≤ x then 1 else 0) + cnV V
theorem cnV_ge : ∀ (V : List Int), 0 ≤ cnV V
  | [] => Int.le_refl _
  | x :: V => by
    have := cnV_ge V
    unfold cnV
    split <;> omega
theorem cnV_ops : ∀ (A V : List Int), (∀ x ∈ A, x ≠ 12 ∧ x < 20) → cnV (A ++ V) = cnV V
  | [], V, _ => rfl
  | x :: A, V, h => by
    have h1 := h x List.mem_cons_self
    have h2 := cnV_ops A V (fun y hy => h y (List.mem_cons_of_mem _ hy))
    show (if x = 12 ∨ 20 ≤ x then 1 else 0) + cnV (A ++ V) = _
    rw [h2, if_neg (by omega)]; omega
def PSm (h0 : mf_M) (T : aT) (kd : Int) (q : aQ) (W B : List Int) (c : Int) (cs : List Int) (h : mf_M) : Prop := frQs h0 h ∧ lxM T q h ∧ (h 245 95 = cs.length ∧ ∀ j : Nat, j < cs.length → h 315 j = cs.getD j 0) ∧ wtM h (W ++ B) (h 245 97) ∧ h 245 99 = B.length ∧ h 245 98 = c ∧ h 245 55 = kd
def FMm (h0 : mf_M) (e : Int × Int) (h : mf_M) : Prop := flM e h ∧ ¬ h 245 5 = 0 ∧ frQs h0 h ∧ 0 ≤ h 245 95 ∧ h 245 95 < 1699
section PSs
variable {h0 : mf_M} {T : aT} {kd : Int} {q : aQ} {W B cs : List Int} {c : Int} {h h' : mf_M}
theorem PSm.fr (P : PSm h0 T kd q W B c cs h) : frQs h0 h := P.1
theorem PSm.lx (P : PSm h0 T kd q W B c cs h) : lxM T q h := P.2.1
theorem PSm.cd (P : PSm h0 T kd q W B c cs h) : h 245 95 = cs.length := P.2.2.1.1
theorem PSm.cj (P : PSm h0 T kd q W B c cs h) : ∀ j : Nat, j < cs.length → h 315 j = cs.getD j 0 := P.2.2.1.2
theorem PSm.wt (P : PSm h0 T kd q W B c cs h) : wtM h (W ++ B) (h 245 97) := P.2.2.2.1
theorem PSm.wn (P : PSm h0 T kd q W B c cs h) : h 245 97 = W.length + B.length := by rw [P.wt.len, List.length_append]; omega
theorem PSm.bs (P : PSm h0 T kd q W B c cs h) : h 245 99 = B.length := P.2.2.2.2.1
theorem PSm.op (P : PSm h0 T kd q W B c cs h) : h 245 98 = c := P.2.2.2.2.2.1
theorem PSm.ki (P : PSm h0 T kd q W B c cs h) : h 245 55 = kd := P.2.2.2.2.2.2
theorem PSm.b0 (P : PSm h0 T kd q W B c cs h) : h 245 5 = 0 := P.lx.2.2.1
/-- one reads on -/
theorem PSm.lex {q' : aQ} (P : PSm h0 T kd q W B c cs h) (f : frL h h') (X : lxM T q' h') : PSm h0 T kd q' W B c cs h' := by
  have e : ∀ k, k = 95 ∨ k = 97 ∨ k = 98 ∨ k = 99 ∨ k = 55 → h' 245 k = h 245 k := fun k hk => f.2 k (by omega) (by omega) (by omega) (by omega) (by omega) (by omega)
  refine ⟨P.fr.tr f.Q, X, ⟨by rw [e 95 (by decide)]; exact P.cd, by rw [f.1 315 (by decide)]; exact P.cj⟩, ?_, by rw [e 99 (by decide)]; exact P.bs, by rw [e 98 (by decide)]; exact P.op, by rw [e 55 (by decide)]; exact P.ki⟩
  rw [e 97 (by decide)]
  exact P.wt.keep (fun i _ _ => by rw [f.1 316 (by decide)])
theorem PSm.lt (P : PSm h0 T kd q W B c cs h) (f : frL h h') (X : ltM T q h') : PSm h0 T kd q W B c cs h' := P.lex f X.1
theorem PSm.bad {k p : Int} (P : PSm h0 T kd q W B c cs h) (f : frL h h') (F : flM (k, p) h') (he : k ≠ 0) (hcs : cs.length ≤ 1690) : FMm h0 (k, p) h' := ⟨F, fun z => he (F.1.symm.trans z), P.fr.tr f.Q, by rw [f.2 95 (by decide) (by decide) (by decide) (by decide) (by decide) (by decide), P.cd]; omega, by rw [f.2 95 (by decide) (by decide) (by decide) (by decide) (by decide) (by decide), P.cd]; omega⟩
end PSs
section SpSt
variable {C : mf_G} {l : Launch} {d : Nat} {L : Int → mf_M → Prop} {h0 : mf_M} {T : aT} {kd : Int} {q : aQ} {W B cs : List Int} {c : Int}
theorem getD_snoc {cs : List Int} {x : Int} {j : Nat} (hj : j < cs.length) : (cs ++ [x]).getD j 0 = cs.getD j 0 := by
  rw [List.getD_eq_getElem?_getD, List.getD_eq_getElem?_getD, List.getElem?_append_left hj]
theorem m_qCode {x : Int} {h : mf_M} (P : PSm h0 T kd q W B c cs h) (hl : cs.length < 1700) (hK : ∀ h', PSm h0 T kd q W B c (cs ++ [x]) h' → fr3 h h' → L 0 h') : mM C l d YX12_qCode [(2, 245), (0, x)] h L := by
  have e95 := P.cd
  refine wX12_qCode ⟨by omega, by omega, fun h3 e3 h4 e4 => ?_⟩
  rw [e3, up_row (by decide), e95, w_id (by omega) (by omega)] at e4
  rw [e95] at e3
  have f3 : fr3 h (mf_up h 315 (cs.length : Int) x) := fr3.up315 _ _ _
  have f4 : fr3 h h4 := by rw [e4]; exact f3.tr (fr3.up (by decide))
  have r316 : h4 316 = h 316 := by rw [e4, up_row (by decide), up_row (by decide)]
  have c4 : ∀ k, k ≠ 95 → h4 245 k = h 245 k := fun k hk => by rw [e4, up_col hk, up_row (by decide)]
  refine hK h4 ⟨P.fr.tr f4.Q, P.lx.f3 f4, ⟨by rw [e4, up_self, List.length_append]; simp, fun j hj => ?_⟩, ?_, by rw [c4 99 (by decide)]; exact P.bs, by rw [c4 98 (by decide)]; exact P.op, by rw [c4 55 (by decide)]; exact P.ki⟩ f4
  · rw [e4, up_row (by decide), up_if]
    by_cases e : j = cs.length
    · rw [if_pos ⟨rfl, by omega⟩, e]; simp
    · rw [List.length_append] at hj
      simp only [List.length_cons, List.length_nil] at hj
      rw [if_neg (fun z => e (by omega)), P.cj j (by omega), getD_snoc (by omega)]
  · rw [c4 97 (by decide)]
    exact P.wt.keep (fun i _ _ => by rw [r316])
theorem m_qCodeF {x : Int} {e : Int × Int} {h : mf_M} (F : FMm h0 e h) (h96 : h 245 95 < 1690) (hK : ∀ h', FMm h0 e h' → L 0 h') : mM C l d YX12_qCode [(2, 245), (0, x)] h L := by
  have h95 := F.2.2.2.1
  refine wX12_qCode ⟨h95, by omega, fun h3 e3 h4 e4 => ?_⟩
  have s4 : h4 245 95 = h 245 95 + 1 := by rw [e4, up_self, e3, up_row (by decide), w_id (by omega) (by omega)]
  have f3 : fr3 h h3 := by rw [e3]; exact fr3.up315 _ _ _
  have f4 : fr3 h3 h4 := by rw [e4]; exact fr3.up (by decide)
  have f := f3.tr f4
  have e5 := f.2 5 (by decide) (by decide) (by decide) (by decide)
  have e6 := f.2 6 (by decide) (by decide) (by decide) (by decide)
  exact hK h4 ⟨⟨by rw [e5]; exact F.1.1, by rw [e6]; exact F.1.2⟩, by rw [e5]; exact F.2.1, F.2.2.1.tr f.Q, by omega, by omega⟩
theorem m_qOpens {x p : Int} {h : mf_M} (hd : 1 ≤ d) (P : PSm h0 T kd q W B c cs h) (hc : 0 ≤ c ∧ c ≤ 6) (hl : W.length + B.length < 1700) (hcs : cs.length ≤ 1690) (hK6 : c = 6 → ∀ h', FMm h0 (4, p) h' → frL h h' → L 0 h') (hK : c < 6 → ∀ h', PSm h0 T kd q (x :: W) B (c + 1) cs h' → fr3 h h' → L 0 h') : mM C l d YX12_qOpens [(2, 245), (0, x), (0, p)] h L := by
  have e98 := P.op
  have e97 := P.wn
  refine wX12_qOpens hd ⟨fun _ => ⟨fun z h1 e1 => ?_, fun z => m_fail P.b0 (fun h' F' f' => hK6 (by omega) h' (P.bad f' F' (by decide) hcs) f')⟩, fun z => absurd P.b0 z⟩
  rw [e98, w_id (by omega) (by omega)] at e1
  have s1 : h1 245 97 = h 245 97 := by rw [e1, up_col (by decide)]
  rw [s1, e97]
  refine ⟨by omega, by omega, fun h4 e4 h5 e5 => ?_⟩
  have s4 : h4 245 97 = h 245 97 := by rw [e4, up_row (by decide)]; exact s1
  rw [s4, e97, w_id (by omega) (by omega)] at e5
  have f1 : fr3 h h1 := by rw [e1]; exact fr3.up (by decide)
  have f4 : fr3 h1 h4 := by rw [e4]; exact fr3.up316 _ _ _
  have f5 : fr3 h4 h5 := by rw [e5]; exact fr3.up (by decide)
  have f := (f1.tr f4).tr f5
  have c5 : ∀ k, k ≠ 97 → k ≠ 98 → h5 245 k = h 245 k := fun k k1 k2 => by rw [e5, up_col k1, e4, up_row (by decide), e1, up_col k2]
  refine hK (by omega) h5 ⟨P.fr.tr f.Q, P.lx.f3 f, ⟨by rw [c5 95 (by decide) (by decide)]; exact P.cd, ?_⟩, ?_, by rw [c5 99 (by decide) (by decide)]; exact P.bs, by rw [e5, up_col (by decide), e4, up_row (by decide), e1, up_self], by rw [c5 55 (by decide) (by decide)]; exact P.ki⟩ f
  · rw [e5, up_row (by decide), e4, up_row (by decide), e1, up_row (by decide)]; exact P.cj
  · rw [e5, up_self]
    have r316 : ∀ i, i < (W.length : Int) + B.length → mf_up h4 245 97 (W.length + B.length + 1) 316 i = h 316 i := fun i hi => by rw [up_row (by decide), e4, up_col (by omega), e1, up_row (by decide)]
    refine ⟨?_, by omega, ?_⟩
    · rw [up_row (by decide), e4, show (W.length : Int) + B.length + 1 - 1 = W.length + B.length by omega, up_self]
    · rw [show (W.length : Int) + B.length + 1 - 1 = W.length + B.length by omega]
      have w := P.wt
      rw [e97] at w
      exact w.keep (fun i _ hi => r316 i hi)
theorem m_qIsOn {x : Int} {V : List Int} {h : mf_M} (w : wtM h V (h 245 97)) (hl : V.length ≤ 1700) (h1 : V.head? = some x → L 1 h) (h0' : ¬ V.head? = some x → L 0 h) : mM C l d YX12_qIsOn [(2, 245), (0, x)] h L := by
  match V, w, hl with
  | [], w, _ => exact wX12_qIsOn ⟨fun _ => h0' (by simp), fun z => absurd (by have := w.len; simp at this; omega) z⟩
  | y :: V, w, hl =>
    have ln := w.len
    simp only [List.length_cons] at ln hl
    refine wX12_qIsOn ⟨fun z => absurd z (by omega), fun _ => ?_⟩
    rw [w_id (by omega) (by omega), w.1]
    exact ⟨by omega, by omega, fun z => h0' (fun y' => z (by simpa using y')), fun z => h1 (by simpa using z)⟩
theorem m_qDrops {x : Int} {h : mf_M} (hd : 1 ≤ d) (P : PSm h0 T kd q (x :: W) B c cs h) (hl : W.length + B.length + 1 + cs.length ≤ 1699) (hK : ∀ h', PSm h0 T kd q W B c (cs ++ [x]) h' → fr3 h h' → L 0 h') : mM C l d YX12_qDrops [(2, 245)] h L := by
  have e97 := P.wn
  simp only [List.length_cons] at e97
  have w := P.wt
  refine wX12_qDrops hd (fun h1 e1 => ?_)
  rw [e97, w_id (by omega) (by omega), show ((W.length + 1 : Nat) : Int) + B.length - 1 = W.length + B.length by omega] at e1
  have s1 : h1 245 97 = W.length + B.length := by rw [e1, up_self]
  have r1 : ∀ a, a ≠ 245 → h1 a = h a := fun a ha => by rw [e1, up_row ha]
  have c1 : ∀ k, k ≠ 97 → h1 245 k = h 245 k := fun k hk => by rw [e1, up_col hk]
  have f1 : fr3 h h1 := by rw [e1]; exact fr3.up (by decide)
  have w1 := w.1
  rw [e97, show ((W.length + 1 : Nat) : Int) + B.length - 1 = W.length + B.length by omega] at w1
  have P1 : PSm h0 T kd q W B c cs h1 := by
    refine ⟨P.fr.tr f1.Q, P.lx.f3 f1, ⟨by rw [c1 95 (by decide)]; exact P.cd, by rw [r1 315 (by decide)]; exact P.cj⟩, ?_, by rw [c1 99 (by decide)]; exact P.bs, by rw [c1 98 (by decide)]; exact P.op, by rw [c1 55 (by decide)]; exact P.ki⟩
    have w2 := w.2.2
    rw [e97, show ((W.length + 1 : Nat) : Int) + B.length - 1 = W.length + B.length by omega] at w2
    rw [s1]
    exact w2.keep (fun i _ _ => by rw [r1 316 (by decide)])
  rw [s1, r1 316 (by decide), w1]
  exact ⟨by omega, by omega, m_qCode P1 (by omega) (fun h2 P2 f2 => hK h2 P2 (f1.tr f2))⟩
def brk : List Int → Int
  | [] => -1
  | x :: W => if 20 ≤ x ∧ x ≤ 24 then x else brk W
theorem m_isBr {x : Int} {h : mf_M} (h1 : 20 ≤ x ∧ x ≤ 24 → L 1 h) (h0' : ¬ (20 ≤ x ∧ x ≤ 24) → L 0 h) : mM C l d YX12_qIsBracket [(0, x)] h L :=
  wX12_qIsBracket ⟨fun z => h0' (by omega), fun z => ⟨fun y => h0' (by omega), fun y => h1 (by omega)⟩⟩
theorem m_brkL {h : mf_M} (hd : 1 ≤ d) (hb : h 245 99 = B.length) : ∀ (W : List Int) (n : Int), wtM h (W ++ B) n → n ≤ 1700 → L (brk W) h → BX12_qBracket_7 C l d L (n - 1) h
  | [], n, w, hn, hK => by
    have := w.len
    simp only [List.nil_append] at this
    exact vX12_qBracket_7 hd ⟨fun _ => ⟨fun _ => hK, fun z => absurd (by omega) z⟩, fun z => absurd (by omega) z⟩
  | x :: W, n, w, hn, hK => by
    have ln := w.len
    simp only [List.cons_append, List.length_cons, List.length_append] at ln
    refine vX12_qBracket_7 hd ⟨fun z => absurd z (by omega), fun _ => ⟨by omega, by omega, ?_⟩⟩
    rw [w.1]
    unfold brk at hK
    refine m_isBr (fun z => ⟨fun _ => ⟨fun y => absurd y (by omega), fun _ => ?_⟩, fun y => absurd y (by decide)⟩) (fun z => ⟨fun y => absurd rfl y, fun _ v8 e8 => ?_⟩)
    · rw [if_pos z] at hK
      rw [w.1]; exact hK
    · rw [if_neg z] at hK
      rw [w_id (by omega) (by omega)] at e8
      rw [e8, show n - 1 + -1 = n - 1 - 1 by omega]
      exact m_brkL hd hb W (n - 1) w.2.2 (by omega) hK
theorem m_qBracket {h : mf_M} (hd : 1 ≤ d) (P : PSm h0 T kd q W B c cs h) (hl : W.length + B.length ≤ 1700) (hK : L (brk W) h) : mM C l d YX12_qBracket [(2, 245)] h L := by
  have e97 := P.wn
  refine wX12_qBracket (fun v1 e1 => ?_)
  rw [w_id (by omega) (by omega)] at e1
  rw [e1]
  exact m_brkL hd P.bs W (h 245 97) P.wt (by omega) hK
theorem m_dropsTo {R : List Int} (hd : 2 ≤ d) (hR : R = [] ∨ ∃ x R', R = x :: R' ∧ 20 ≤ x ∧ x ≤ 24) : ∀ (A cs : List Int) (h : mf_M), (∀ x ∈ A, ¬ (20 ≤ x ∧ x ≤ 24)) → PSm h0 T kd q (A ++ R) B c cs h → A.length + R.length + B.length + cs.length ≤ 1690 → (∀ h', PSm h0 T kd q R B c (cs ++ A) h' → fr3 h h' → L 0 h') → BX12_qDropsToBracket_0 C l d L h
  | [], cs, h, hA, P, hl, hK => by
    have k1 := hK h (by rw [List.append_nil]; exact P) (fr3.rf h)
    have e97 := P.wn
    have e99 := P.bs
    rcases hR with rfl | ⟨x, R', rfl, hx⟩
    · simp at e97
      exact vX12_qDropsToBracket_0 hd ⟨fun _ => k1, fun z => absurd (by omega) z⟩
    · simp only [List.nil_append, List.length_cons] at e97 hl
      refine vX12_qDropsToBracket_0 hd ⟨fun _ => k1, fun z => ?_⟩
      have w := P.wt.1
      rw [w_id (by omega) (by omega), w]
      exact ⟨by omega, by omega, m_isBr (fun _ => ⟨fun _ => k1, fun y => absurd y (by decide)⟩) (fun y => absurd hx y)⟩
  | x :: A, cs, h, hA, P, hl, hK => by
    have e97 := P.wn
    have e99 := P.bs
    simp only [List.cons_append, List.length_cons, List.length_append] at e97 hl
    refine vX12_qDropsToBracket_0 hd ⟨fun z => absurd z (by omega), fun _ => ?_⟩
    have w := P.wt.1
    rw [w_id (by omega) (by omega), w]
    refine ⟨by omega, by omega, m_isBr (fun y => absurd y (hA x List.mem_cons_self)) (fun y => ⟨fun z => absurd rfl z, fun _ => m_qDrops (W := A ++ R) (by decide) P (by simp only [List.length_append]; omega) (fun h2 P2 f2 => ?_)⟩)⟩
    refine m_dropsTo hd hR A (cs ++ [x]) h2 (fun y hy => hA y (List.mem_cons_of_mem _ hy)) P2 (by simp only [List.length_append, List.length_cons, List.length_nil]; omega) (fun h3 P3 f3 => hK h3 ?_ (f2.tr f3))
    rw [List.append_assoc] at P3; exact P3
theorem m_qDropsTo {R A : List Int} {h : mf_M} (hd : 2 ≤ d) (hR : R = [] ∨ ∃ x R', R = x :: R' ∧ 20 ≤ x ∧ x ≤ 24) (hA : ∀ x ∈ A, ¬ (20 ≤ x ∧ x ≤ 24)) (P : PSm h0 T kd q (A ++ R) B c cs h) (hl : A.length + R.length + B.length + cs.length ≤ 1690) (hK : ∀ h', PSm h0 T kd q R B c (cs ++ A) h' → fr3 h h' → L 0 h') : mM C l d YX12_qDropsToBracket [(2, 245)] h L :=
  wX12_qDropsToBracket (m_dropsTo hd hR A cs h hA P hl hK)
/-- what waits for one part -/
def stp : List Int → List Int → List Int × List Int
  | [], cs => ([], cs)
  | x :: W, cs => if 60 ≤ x then stp W (cs ++ [x]) else (x :: W, cs)
theorem m_endsL (hd : 2 ≤ d) : ∀ (W cs : List Int) (c : Int) (h : mf_M), PSm h0 T kd q W B c cs h → c = cnV (W ++ B) → W.length + B.length + cs.length ≤ 1690 → (∀ h', PSm h0 T kd q (stp W cs).1 B (cnV ((stp W cs).1 ++ B)) (stp W cs).2 h' → fr3 h h' → L 0 h') → BX12_qEndsPart_0 C l d L h
  | [], cs, c, h, P, hc, hl, hK => by
    have e97 := P.wn
    have e99 := P.bs
    simp at e97
    subst hc
    exact vX12_qEndsPart_0 hd ⟨fun z => absurd P.b0 z, fun _ => ⟨fun _ => hK h P (fr3.rf h), fun z => absurd (by omega) z⟩⟩
  | x :: W, cs, c, h, P, hc, hl, hK => by
    have e97 := P.wn
    have e99 := P.bs
    have e98 := P.op
    simp only [List.length_cons] at e97 hl
    have cg := cnV_ge (W ++ B)
    have cl : cnV (W ++ B) ≤ c := by
      rw [hc]
      show _ ≤ (if x = 12 ∨ 20 ≤ x then 1 else 0) + cnV (W ++ B)
      split <;> omega
    refine vX12_qEndsPart_0 hd ⟨fun z => absurd P.b0 z, fun _ => ⟨fun z => absurd z (by omega), fun _ => ?_⟩⟩
    have w := P.wt.1
    rw [w_id (x := h 245 97 - 1) (by omega) (by omega), w]
    unfold stp at hK
    refine ⟨by omega, by omega, fun z => ?_, fun z h3 e3 => ?_⟩
    · rw [if_neg (by omega)] at hK
      subst hc
      exact hK h P (fr3.rf h)
    · rw [if_pos (by omega)] at hK
      have ec : c = cnV (W ++ B) + 1 := by
        rw [hc]
        show (if x = 12 ∨ 20 ≤ x then 1 else 0) + cnV (W ++ B) = _
        rw [if_pos (Or.inr (by omega))]; omega
      have cb : cnV (W ++ B) ≤ 2000 := by
        have key : ∀ V : List Int, cnV V ≤ V.length := by
          intro V
          induction V with
          | nil => exact Int.le_refl _
          | cons y V iv =>
            show (if y = 12 ∨ 20 ≤ y then 1 else 0) + cnV V ≤ _
            simp only [List.length_cons]
            split <;> omega
        have := key (W ++ B)
        rw [List.length_append] at this
        omega
      rw [e98, w_id (by omega) (by omega), show c - 1 = cnV (W ++ B) by omega] at e3
      have f3 : fr3 h h3 := by rw [e3]; exact fr3.up (by decide)
      have c3 : ∀ k, k ≠ 98 → h3 245 k = h 245 k := fun k hk => by rw [e3, up_col hk]
      have r3 : ∀ a, a ≠ 245 → h3 a = h a := fun a ha => by rw [e3, up_row ha]
      have P3 : PSm h0 T kd q (x :: W) B (cnV (W ++ B)) cs h3 := by
        refine ⟨P.fr.tr f3.Q, P.lx.f3 f3, ⟨by rw [c3 95 (by decide)]; exact P.cd, by rw [r3 315 (by decide)]; exact P.cj⟩, ?_, by rw [c3 99 (by decide)]; exact P.bs, by rw [e3, up_self], by rw [c3 55 (by decide)]; exact P.ki⟩
        rw [c3 97 (by decide)]
        exact P.wt.keep (fun i _ _ => by rw [r3 316 (by decide)])
      refine m_qDrops (by decide) P3 (by omega) (fun h4 P4 f4 => ?_)
      exact m_endsL hd W (cs ++ [x]) _ h4 P4 rfl (by simp only [List.length_append, List.length_cons, List.length_nil]; omega) (fun h5 P5 f5 => hK h5 P5 ((f3.tr f4).tr f5))
theorem m_qEndsPart {h : mf_M} (hd : 2 ≤ d) (P : PSm h0 T kd q W B c cs h) (hc : c = cnV (W ++ B)) (hl : W.length + B.length + cs.length ≤ 1690) (hK : ∀ h', PSm h0 T kd q (stp W cs).1 B (cnV ((stp W cs).1 ++ B)) (stp W cs).2 h' → fr3 h h' → L 0 h') : mM C l d YX12_qEndsPart [(2, 245)] h L :=
  wX12_qEndsPart (m_endsL hd W cs c h P hc hl hK)
theorem m_endsF {e : Int × Int} {h : mf_M} (hd : 2 ≤ d) (F : FMm h0 e h) (hK : L 0 h) : mM C l d YX12_qEndsPart [(2, 245)] h L :=
  wX12_qEndsPart (vX12_qEndsPart_0 hd ⟨fun _ => hK, fun z => absurd z F.2.1⟩)
/-- the words of parts -/
theorem m_wordHere {h : mf_M} (hd : 2 ≤ d) (X : lxM T q h) (hK : ∀ h', ltM T q h' → frL h h' → L (if tX T q ≤ 9 then tX T q else -1) h') : mM C l d YX12_qWordHere [(2, 245)] h L := by
  have tr := tX_range T q
  have yes : ∀ k : Int, tX T q = k → k ≤ 9 → ∀ h', ltM T q h' → frL h h' → L k h' := fun k hk k9 h' X' f' => by
    have := hK h' X' f'
    rw [if_pos (by omega), hk] at this
    exact this
  refine wX12_qWordHere hd ?_
  refine M_isHere (k := 0) (by decide) (by decide) X (fun e h1 X1 f1 => ⟨fun z => absurd z (by decide), fun _ => yes 0 e (by decide) h1 X1 f1⟩) (fun e0 h1 X1 f1 => ⟨fun _ => ?_, fun z => absurd rfl z⟩)
  refine M_isHere (k := 1) (by decide) (by decide) X1.1 (fun e h2 X2 f2 => ⟨fun z => absurd z (by decide), fun _ => yes 1 e (by decide) h2 X2 (f1.tr f2)⟩) (fun e1 h2 X2 f2 => ⟨fun _ => ?_, fun z => absurd rfl z⟩)
  refine M_isHere (k := 2) (by decide) (by decide) X2.1 (fun e h3 X3 f3 => ⟨fun z => absurd z (by decide), fun _ => yes 2 e (by decide) h3 X3 ((f1.tr f2).tr f3)⟩) (fun e2 h3 X3 f3 => ⟨fun _ => ?_, fun z => absurd rfl z⟩)
  have g3 := (f1.tr f2).tr f3
  refine M_isHere (k := 3) (by decide) (by decide) X3.1 (fun e h4 X4 f4 => ⟨fun z => absurd z (by decide), fun _ => yes 3 e (by decide) h4 X4 (g3.tr f4)⟩) (fun e3 h4 X4 f4 => ⟨fun _ => ?_, fun z => absurd rfl z⟩)
  have g4 := g3.tr f4
  refine M_isHere (k := 4) (by decide) (by decide) X4.1 (fun e h5 X5 f5 => ⟨fun z => absurd z (by decide), fun _ => yes 4 e (by decide) h5 X5 (g4.tr f5)⟩) (fun e4 h5 X5 f5 => ⟨fun _ => ?_, fun z => absurd rfl z⟩)
  have g5 := g4.tr f5
  refine M_isHere (k := 5) (by decide) (by decide) X5.1 (fun e h6 X6 f6 => ⟨fun z => absurd z (by decide), fun _ => yes 5 e (by decide) h6 X6 (g5.tr f6)⟩) (fun e5 h6 X6 f6 => ⟨fun _ => ?_, fun z => absurd rfl z⟩)
  have g6 := g5.tr f6
  refine M_isHere (k := 6) (by decide) (by decide) X6.1 (fun e h7 X7 f7 => ⟨fun z => absurd z (by decide), fun _ => yes 6 e (by decide) h7 X7 (g6.tr f7)⟩) (fun e6 h7 X7 f7 => ⟨fun _ => ?_, fun z => absurd rfl z⟩)
  have g7 := g6.tr f7
  refine M_isHere (k := 7) (by decide) (by decide) X7.1 (fun e h8 X8 f8 => ⟨fun z => absurd z (by decide), fun _ => yes 7 e (by decide) h8 X8 (g7.tr f8)⟩) (fun e7 h8 X8 f8 => ⟨fun _ => ?_, fun z => absurd rfl z⟩)
  have g8 := g7.tr f8
  refine M_isHere (k := 8) (by decide) (by decide) X8.1 (fun e h9 X9 f9 => ⟨fun z => absurd z (by decide), fun _ => yes 8 e (by decide) h9 X9 (g8.tr f9)⟩) (fun e8 h9 X9 f9 => ⟨fun _ => ?_, fun z => absurd rfl z⟩)
  have g9 := g8.tr f9
  refine M_isHere (k := 9) (by decide) (by decide) X9.1 (fun e h10 X10 f10 => ⟨fun z => absurd z (by decide), fun _ => yes 9 e (by decide) h10 X10 (g9.tr f10)⟩) (fun e9 h10 X10 f10 => ⟨fun _ => ?_, fun z => absurd rfl z⟩)
  have := hK h10 X10 (g9.tr f10)
  by_cases hn : tX T q = -1
  · rw [hn] at this
    exact this
  · rw [if_neg (by omega)] at this
    exact this
theorem m_allowed {k : Int} {h : mf_M} (hk : h 245 55 = kd) (k0 : 0 ≤ k) (hkd : kd = 0 ∨ kd = 1 ∨ kd = 2 ∨ kd = 3) (h1 : scK kd k = true → L 1 h) (h0' : scK kd k = false → L 0 h) : mM C l d YX12_isAllowed [(2, 245), (0, k)] h L := by
  unfold scK at h1 h0'
  refine wX12_isAllowed ?_
  rw [hk]
  rcases hkd with rfl | rfl | rfl | rfl
  · exact ⟨fun z => absurd rfl z, fun _ => ⟨fun z => h0' (by simpa using z), fun z => h1 (by simpa using z)⟩⟩
  · exact ⟨fun _ => ⟨fun z => absurd rfl z, fun _ => ⟨fun z => h0' (by simp; omega), fun z => h1 (by simp; omega)⟩⟩, fun z => absurd z (by decide)⟩
  · exact ⟨fun _ => ⟨fun _ => ⟨fun z => absurd rfl z, fun _ => ⟨fun z => h0' (by simp; omega), fun z => h1 (by simp; omega)⟩⟩, fun z => absurd z (by decide)⟩, fun z => absurd z (by decide)⟩
  · exact ⟨fun _ => ⟨fun _ => ⟨fun _ => ⟨fun z => h0' (by simp; omega), fun z => h1 (by simp; omega)⟩, fun z => absurd z (by decide)⟩, fun z => absurd z (by decide)⟩, fun z => absurd z (by decide)⟩
theorem m_wordOf {lo hi : Int} {h : mf_M} (hd : 3 ≤ d) (X : lxM T q h) (hk : h 245 55 = kd) (hkd : kd = 0 ∨ kd = 1 ∨ kd = 2 ∨ kd = 3) (lo0 : 0 ≤ lo) (hi10 : hi ≤ 10) (hY : lo ≤ tX T q → tX T q < hi → scK kd (tX T q) = true → ∀ h', ltM T q h' → frL h h' → L (tX T q) h') (hN : ¬ (lo ≤ tX T q ∧ tX T q < hi ∧ scK kd (tX T q) = true) → ∀ h', ltM T q h' → frL h h' → L (-1) h') : mM C l d YX12_qWordOf [(2, 245), (0, lo), (0, hi)] h L := by
  refine wX12_qWordOf hd (m_wordHere (by decide) X (fun h1 X1 f1 => ?_))
  have tr := tX_range T q
  by_cases h9 : tX T q ≤ 9
  · rw [if_pos h9]
    refine ⟨fun z => hN (by omega) h1 X1 f1, fun z => ⟨fun y => hN (by omega) h1 X1 f1, fun y => ?_⟩⟩
    refine m_allowed (kd := kd) (by rw [f1.2 55 (by decide) (by decide) (by decide) (by decide) (by decide) (by decide)]; exact hk) (by omega) hkd (fun s => ⟨fun w => absurd w (by decide), fun _ => hY (by omega) (by omega) s h1 X1 f1⟩) (fun s => ⟨fun _ => hN (fun w => by rw [s] at w; exact absurd w.2.2 (by decide)) h1 X1 f1, fun w => absurd rfl w⟩)
  · rw [if_neg h9]
    exact ⟨fun z => hN (by omega) h1 X1 f1, fun z => absurd (by omega) z⟩
theorem m_asksWord {h : mf_M} (hd : 4 ≤ d) (X : lxM T q h) (t0 : 0 ≤ tX T q) (t9 : tX T q ≤ 9) (hK : ∀ h', lxM T (tN T q) h' → frL h h' → L 0 h') : mM C l d YX12_qAsksWord [(2, 245), (0, tX T q)] h L := by
  have one : ∀ (x : Int) (k : Nat), (x, k) ∈ wdI → tX T q = (k : Int) → mM C l 3 YX12_asks [(2, 245), (2, x)] h (fun r1 h3 => L 0 h3) := fun x k hm e => M_asks hm (by decide) X (fun _ h1 X1 f1 => hK h1 X1 f1) (fun z => absurd e z)
  exact wX12_qAsksWord hd ⟨fun e => one 305 0 (by decide) e, fun e => one 306 1 (by decide) e, fun e => one 307 2 (by decide) e, fun e => one 308 3 (by decide) e, fun e => one 309 4 (by decide) e, fun e => one 310 5 (by decide) e, fun e => one 311 6 (by decide) e, fun e => one 312 7 (by decide) e, fun e => one 313 8 (by decide) e, fun e => one 314 9 (by decide) (by omega)⟩
end SpSt
