/-! questions in the reference -/
def frA (h h' : mf_M) : Prop := (∀ a, a ≠ 245 → h' a = h a) ∧ ∀ k, k ≠ 102 → k ≠ 103 → h' 245 k = h 245 k
theorem frA.rf (h : mf_M) : frA h h := ⟨fun _ _ => rfl, fun _ _ _ => rfl⟩
theorem frA.tr {a b c : mf_M} (h1 : frA a b) (h2 : frA b c) : frA a c := ⟨fun x q => (h2.1 x q).trans (h1.1 x q), fun k q1 q2 => (h2.2 k q1 q2).trans (h1.2 k q1 q2)⟩
theorem frA.up {h : mf_M} {k v : Int} (hk : k = 102 ∨ k = 103) : frA h (mf_up h 245 k v) := ⟨fun a q => up_row q, fun j _ _ => up_col (by omega)⟩
theorem frA.M {h h' : mf_M} (f : frA h h') : frM h h' := by
  refine ⟨fun a q1 _ _ _ _ _ _ _ _ => f.1 a q1, fun k hk => f.2 k (by rintro rfl; simp at hk) (by rintro rfl; simp at hk), fun q => by rw [f.2 59 (by decide) (by decide)]; exact q, fun k _ => by rw [f.1 286 (by decide)]⟩
def t90 (k v a nw : Int) : Int := if k ≤ 3 then a else if nw ≠ 0 then v else if k = 4 then (if a < v then v else a) else (if v < a then v else a)
def t55 (k v s a : Int) : Int := if k = 2 then (if s = 0 then a else mf_w64 (a + 1)) else if k = 3 then mf_w64 (a + v) else a
def t16 (k s i a : Int) : Int := if k = 0 then (if s ≠ 0 ∧ a = -1 then i else a) else if k = 1 then (if s ≠ 0 then i else a) else a
section SpA2
variable {C : mf_G} {l : Launch} {d : Nat} {L : Int → mf_M → Prop}
theorem m_t90 {x1 x2 : Int} {h : mf_M} (hK : ∀ h', frA h h' → h' 245 103 = 0 → h' 245 102 = t90 x1 x2 (h 245 102) (h 245 103) → L 0 h') : BX12_qTakes_90 C l d L x1 x2 h := by
  unfold t90 at hK
  have one : ∀ h1 : mf_M, h1 = mf_up h 245 103 0 → frA h h1 ∧ h1 245 103 = 0 ∧ h1 245 102 = h 245 102 := fun h1 e1 => ⟨by rw [e1]; exact frA.up (by decide), by rw [e1, up_self], by rw [e1, up_col (by decide)]⟩
  have two : ∀ h1 h2 : mf_M, h1 = mf_up h 245 102 x2 → h2 = mf_up h1 245 103 0 → frA h h2 ∧ h2 245 103 = 0 ∧ h2 245 102 = x2 := fun h1 h2 e1 e2 => by
    have f1 : frA h h1 := by rw [e1]; exact frA.up (by decide)
    have f2 : frA h1 h2 := by rw [e2]; exact frA.up (by decide)
    exact ⟨f1.tr f2, by rw [e2, up_self], by rw [e2, up_col (by decide), e1, up_self]⟩
  refine vX12_qTakes_90 ⟨fun z h1 e1 => ?_, fun z => ⟨fun y h2 e2 h3 e3 => ?_, fun y => ⟨fun w => ⟨fun v h4 e4 => ?_, fun v h5 e5 h6 e6 => ?_⟩, fun w => ⟨fun v h7 e7 => ?_, fun v h8 e8 h9 e9 => ?_⟩⟩⟩⟩
  · obtain ⟨a1, a2, a3⟩ := one h1 e1
    exact hK h1 a1 a2 (by rw [a3, if_pos z])
  · obtain ⟨a1, a2, a3⟩ := two h2 h3 e2 e3
    exact hK h3 a1 a2 (by rw [a3, if_neg z, if_pos y])
  · obtain ⟨a1, a2, a3⟩ := one h4 e4
    exact hK h4 a1 a2 (by rw [a3, if_neg z, if_neg (fun u => u y), if_neg w, if_neg (by omega)])
  · obtain ⟨a1, a2, a3⟩ := two h5 h6 e5 e6
    exact hK h6 a1 a2 (by rw [a3, if_neg z, if_neg (fun u => u y), if_neg w, if_pos (by omega)])
  · obtain ⟨a1, a2, a3⟩ := one h7 e7
    exact hK h7 a1 a2 (by rw [a3, if_neg z, if_neg (fun u => u y), if_pos w, if_neg (by omega)])
  · obtain ⟨a1, a2, a3⟩ := two h8 h9 e8 e9
    exact hK h9 a1 a2 (by rw [a3, if_neg z, if_neg (fun u => u y), if_pos w, if_pos (by omega)])
theorem m_t55 {x1 x2 x5 : Int} {h : mf_M} (hK : ∀ h', frA h h' → h' 245 103 = 0 → h' 245 102 = t90 x1 x2 (t55 x1 x2 x5 (h 245 102)) (h 245 103) → L 0 h') : BX12_qTakes_55 C l d L x1 x2 x5 h := by
  have nx : ∀ h1 : mf_M, frA h h1 → h1 245 103 = h 245 103 → h1 245 102 = t55 x1 x2 x5 (h 245 102) → BX12_qTakes_90 C l d L x1 x2 h1 := fun h1 f1 a1 a2 => m_t90 (fun h' f' b1 b2 => hK h' (f1.tr f') b1 (by rw [b2, a1, a2]))
  unfold t55 at nx
  refine vX12_qTakes_55 ⟨fun z => ⟨fun y => nx h (frA.rf h) rfl (by rw [if_neg z, if_neg y]), fun y h1 e1 => nx h1 (by rw [e1]; exact frA.up (by decide)) (by rw [e1, up_col (by decide)]) (by rw [e1, up_self, if_neg z, if_pos y])⟩, fun z => ⟨fun y => ⟨fun w => nx h (frA.rf h) rfl (by rw [if_pos z, if_pos y]), fun w => absurd w (by omega)⟩, fun y h3 e3 => ⟨fun w => nx h3 (by rw [e3]; exact frA.up (by decide)) (by rw [e3, up_col (by decide)]) (by rw [e3, up_self, if_pos z, if_neg y]), fun w => absurd w (by omega)⟩⟩⟩
theorem m_t16 {x1 x2 x4 s0 : Int} {h : mf_M} (hK : ∀ h', frA h h' → h' 245 103 = 0 → h' 245 102 = t90 x1 x2 (t55 x1 x2 s0 (t16 x1 s0 x4 (h 245 102))) (h 245 103) → L 0 h') : BX12_qTakes_16 C l d L x1 x2 x4 s0 h := by
  have nx : ∀ h1 : mf_M, frA h h1 → h1 245 103 = h 245 103 → h1 245 102 = t16 x1 s0 x4 (h 245 102) → BX12_qTakes_55 C l d L x1 x2 s0 h1 := fun h1 f1 a1 a2 => m_t55 (fun h' f' b1 b2 => hK h' (f1.tr f') b1 (by rw [b2, a1, a2]))
  unfold t16 at nx
  have st : ∀ h1 : mf_M, h1 = mf_up h 245 102 x4 → x4 = (if x1 = 0 then (if s0 ≠ 0 ∧ h 245 102 = -1 then x4 else h 245 102) else if x1 = 1 then (if s0 ≠ 0 then x4 else h 245 102) else h 245 102) → BX12_qTakes_55 C l d L x1 x2 s0 h1 := fun h1 e1 ev => nx h1 (by rw [e1]; exact frA.up (by decide)) (by rw [e1, up_col (by decide)]) (by rw [e1, up_self]; exact ev)
  refine vX12_qTakes_16 ⟨fun z => ⟨fun y => nx h (frA.rf h) rfl (by rw [if_neg z, if_neg y]), fun y => ⟨fun w => nx h (frA.rf h) rfl (by rw [if_neg z, if_pos y, if_neg (fun u => u w)]), fun w h1 e1 => st h1 e1 (by rw [if_neg z, if_pos y, if_pos w])⟩⟩, fun z => ⟨fun y => ⟨fun w => nx h (frA.rf h) rfl (by rw [if_pos z, if_neg (fun u => u.1 y)]), fun w => absurd w (by omega)⟩, fun y => ⟨fun w h3 e3 => st h3 e3 (by rw [if_pos z, if_pos ⟨y, w⟩]), fun w => ⟨fun v => nx h (frA.rf h) rfl (by rw [if_pos z, if_neg (fun u => w u.2)]), fun v => absurd v (by omega)⟩⟩⟩⟩
/-- one more being is asked -/
theorem m_qTakes {k v : Int} {n : Nat} {vf : Int → Int} {h : mf_M} (k0 : 0 ≤ k) (k5 : k ≤ 5) (hv : v = vf n) (v1 : -1000000 ≤ v) (v2 : v ≤ 1000000) (ea : h 245 102 = tkS (k + 28) vf n) (en : h 245 103 = if n = 0 then 1 else 0) (ar1 : -1000000000 ≤ h 245 102) (ar2 : h 245 102 ≤ 1000000000) (hK : ∀ h', frA h h' → h' 245 103 = 0 → h' 245 102 = tkS (k + 28) vf (n + 1) → L 0 h') : mM C l d YX12_qTakes [(2, 245), (0, k), (1, v), (0, (n : Int))] h L := by
  have fin : ∀ s : Int, (s = if k < 3 ∧ v = 1 then 1 else 0) → BX12_qTakes_16 C l d L k v n s h := by
    intro s hs
    refine m_t16 (fun h' f' a1 a2 => hK h' f' a1 ?_)
    rw [a2, en]
    show _ = if k + 28 = 28 then (if tkS (k + 28) vf n = -1 ∧ vf n = 1 then (n : Int) else tkS (k + 28) vf n) else if k + 28 = 29 then (if vf n = 1 then (n : Int) else tkS (k + 28) vf n) else if k + 28 = 30 then (if vf n = 1 then tkS (k + 28) vf n + 1 else tkS (k + 28) vf n) else if k + 28 = 31 then tkS (k + 28) vf n + vf n else if k + 28 = 32 then (if n = 0 ∨ tkS (k + 28) vf n < vf n then vf n else tkS (k + 28) vf n) else (if n = 0 ∨ vf n < tkS (k + 28) vf n then vf n else tkS (k + 28) vf n)
    rw [← ea, ← hv]
    generalize h 245 102 = a at ar1 ar2
    have w1 : mf_w64 (a + 1) = a + 1 := w64_id (by omega) (by omega)
    have w2 : mf_w64 (a + v) = a + v := w64_id (by omega) (by omega)
    have hk : k = 0 ∨ k = 1 ∨ k = 2 ∨ k = 3 ∨ k = 4 ∨ k = 5 := by omega
    unfold t90 t55 t16
    rw [hs]
    rcases hk with rfl | rfl | rfl | rfl | rfl | rfl
    · by_cases e : v = 1 <;> by_cases f : a = -1 <;> simp [e, f]
    · by_cases e : v = 1 <;> simp [e]
    · by_cases e : v = 1 <;> simp [e, w1]
    · simp [w2]
    · by_cases e : n = 0 <;> simp [e]
    · by_cases e : n = 0 <;> simp [e]
  refine wX12_qTakes ⟨fun z => fin 0 (by rw [if_neg (by omega)]), fun z => ⟨fun y => fin 0 (by rw [if_neg (fun w => y w.2)]), fun y => fin 1 (by rw [if_pos ⟨by omega, y⟩])⟩⟩
theorem tk_range {kd : Int} {vf : Int → Int} (hv : ∀ i : Nat, i < 8 → -1000000 ≤ vf i ∧ vf i ≤ 1000000) : ∀ (n : Nat), n ≤ 8 → -1000001 * (n + 1 : Int) ≤ tkS kd vf n ∧ tkS kd vf n ≤ 1000001 * (n + 1 : Int)
  | 0, _ => by
    unfold tkS
    split <;> omega
  | n + 1, hn => by
    have ih := tk_range (kd := kd) hv n (by omega)
    have h1 := hv n (by omega)
    unfold tkS
    split
    · split <;> omega
    · split
      · split <;> omega
      · split
        · split <;> omega
        · split
          · omega
          · split
            · split <;> omega
            · split <;> omega
theorem qv_range {S : aS} {cs : List Int} {f : Bool} {o b : Int} (ok : okS S) (hq : okQ f cs) (b0 : 0 ≤ b) (b1 : b < S.F.nb) : if f then qvS S cs o b = 0 ∨ qvS S cs o b = 1 else -1000000 ≤ qvS S cs o b ∧ qvS S cs o b ≤ 1000000 := by
  have hle : ∀ c ∈ cs, 40 ≤ c → c < 60 → c ≤ 48 := by
    have gen : ∀ (cs : List Int) (ty : List Bool), okT cs ty f → ∀ c ∈ cs, 40 ≤ c → c < 60 → c ≤ 48 := by
      intro cs
      induction cs with
      | nil => intro ty _ c hc; exact absurd hc (by simp)
      | cons x cs ih =>
        intro ty ho c hc c40 c60
        unfold okT at ho
        rcases List.mem_cons.mp hc with e | e
        · subst e
          rw [if_neg (by omega), if_neg (by omega), if_pos c40] at ho
          exact ho.1
        · split at ho
          · exact ih _ ho.2.2 c e c40 c60
          · split at ho
            · exact ih _ ho.2.2 c e c40 c60
            · split at ho
              · exact ih _ ho.2.2 c e c40 c60
              · split at ho
                · exact ih _ ho.2 c e c40 c60
                · split at ho
                  · exact ih _ ho.2 c e c40 c60
                  · split at ho
                    · obtain ⟨t, -, ho⟩ := ho
                      exact ih _ ho c e c40 c60
                    · split at ho
                      · obtain ⟨t, -, ho⟩ := ho
                        exact ih _ ho c e c40 c60
                      · obtain ⟨-, -, t, -, ho⟩ := ho
                        exact ih _ ho c e c40 c60
    exact gen cs [] hq.1
  exact val_range (mtS_01 S o b) (fun c hc c40 c60 => envS_range ok b0 b1 (by omega) (by have := hle c hc c40 c60; omega)) hq.1
theorem m_ask212 {S : aS} {cs : List Int} {f : Bool} {k o : Int} (hd : 5 ≤ d) (k0 : 0 ≤ k) (k5 : k ≤ 5) (hq : okQ f cs) (o1 : -1000 ≤ o) (o2 : o ≤ 1000) : ∀ (m n : Nat) (h : mf_M), RM S h → (n : Int) + m = S.F.nb → h 245 59 = o → h 245 58 = S.st 0 0 → h 245 95 = cs.length → (∀ j : Nat, j < cs.length → h 315 j = cs.getD j 0) → h 245 102 = tkS (k + 28) (qvS S cs o) n → (h 245 103 = if n = 0 then 1 else 0) → (∀ h', RM S h' → frX h h' → L (tkS (k + 28) (qvS S cs o) S.F.nb.toNat) h') → BX12_ask_212 C l d L k n h := by
  intro m
  induction m with
  | zero =>
    intro n h R hn ho hday hc hj ea en hK
    refine vX12_ask_212 hd (wX12_beingMany ⟨fun _ => ?_, fun z => absurd (by rw [R.fo.b]; omega) z⟩)
    have k1 := hK h R (frX.rf h)
    rw [show S.F.nb.toNat = n by omega] at k1
    rw [ea]; exact k1
  | succ m ih =>
    intro n h R hn ho hday hc hj ea en hK
    have b8 := R.ok.F.b8
    have vr : ∀ i : Int, 0 ≤ i → i < S.F.nb → -1000000 ≤ qvS S cs o i ∧ qvS S cs o i ≤ 1000000 := fun i i0 i1 => by
      have := qv_range (o := o) R.ok hq i0 i1
      cases f with
      | true => simp only [if_true] at this; omega
      | false => simpa using this
    have tr : -1000000000 ≤ tkS (k + 28) (qvS S cs o) n ∧ tkS (k + 28) (qvS S cs o) n ≤ 1000000000 := by
      have gen : ∀ j : Nat, j ≤ n → -1000001 * (j + 1 : Int) ≤ tkS (k + 28) (qvS S cs o) j ∧ tkS (k + 28) (qvS S cs o) j ≤ 1000001 * (j + 1 : Int) := by
        intro j
        induction j with
        | zero => intro _; unfold tkS; split <;> omega
        | succ j ij =>
          intro hj'
          have i1 := ij (by omega)
          have v1 := vr j (by omega) (by omega)
          unfold tkS
          split
          · split <;> omega
          · split
            · split <;> omega
            · split
              · split <;> omega
              · split
                · omega
                · split
                  · split <;> omega
                  · split <;> omega
      have := gen n (Nat.le_refl _)
      omega
    have v1 := vr n (by omega) (by omega)
    refine vX12_ask_212 hd (wX12_beingMany ⟨fun z => absurd z (by rw [R.fo.b]; omega), fun _ => M_qTold (by decide) R ho hday o1 o2 (by omega) (by omega) hc hj hq (fun h1 f1 => ?_)⟩)
    have c1 : ∀ j, j ≠ 101 → j ≠ 55 → h1 245 j = h 245 j := f1.2
    have R1 := R.keep f1.M
    refine m_qTakes (vf := qvS S cs o) k0 k5 rfl v1.1 v1.2 (by rw [c1 102 (by decide) (by decide)]; exact ea) (by rw [c1 103 (by decide) (by decide)]; exact en) (by rw [c1 102 (by decide) (by decide), ea]; omega) (by rw [c1 102 (by decide) (by decide), ea]; omega) (fun h2 f2 a1 a2 v10 e10 => ?_)
    rw [w_id (by omega) (by omega)] at e10
    rw [e10]
    have c2 : ∀ j, j ≠ 101 → j ≠ 55 → j ≠ 102 → j ≠ 103 → h2 245 j = h 245 j := fun j q1 q2 q3 q4 => (f2.2 j q3 q4).trans (c1 j q1 q2)
    exact ih (n + 1) h2 (R1.keep f2.M) (by omega) (by rw [c2 59 (by decide) (by decide) (by decide) (by decide)]; exact ho) (by rw [c2 58 (by decide) (by decide) (by decide) (by decide)]; exact hday) (by rw [c2 95 (by decide) (by decide) (by decide) (by decide)]; exact hc) (by rw [f2.1 315 (by decide), f1.1 315 (by decide) (by decide)]; exact hj) a2 (by rw [a1, if_neg (by omega)]) (fun h3 R3 f3 => hK h3 R3 ((f1.M.X.tr f2.M.X).tr f3))
/-- the kind of a question -/
theorem m_qKind {T : aT} {q : aQ} {h : mf_M} (hd : 4 ≤ d) (X : lxM T q h) (hY : 28 ≤ tX T q → ∀ h', lxM T (tN T q) h' → frL h h' → L (tX T q - 28) h') (hN : ¬ 28 ≤ tX T q → ∀ h', flM (1, tA T q) h' → frL h h' → L 5 h') : mM C l d YX12_qKind [(2, 245)] h L := by
  have tr := tX_range T q
  have yes : ∀ k : Int, tX T q = k + 28 → 0 ≤ k → ∀ h', lxM T (tN T q) h' → frL h h' → L k h' := fun k hk k0 h' X' f' => by
    have := hY (by omega) h' X' f'
    rw [show tX T q - 28 = k by omega] at this
    exact this
  refine wX12_qKind hd ?_
  refine M_takes (k := 28) (by decide) (by decide) X (fun (e : tX T q = 28) h1 X1 f1 => ⟨fun z => absurd z (by decide), fun _ => ⟨fun _ => yes 0 e (by decide) h1 X1 f1, fun z => absurd z (by decide)⟩⟩) (fun (n28 : ¬ tX T q = 28) h1 X1 f1 => ⟨fun _ => ?_, fun z => absurd rfl z⟩)
  refine M_takes (k := 29) (by decide) (by decide) X1.1 (fun (e : tX T q = 29) h2 X2 f2 => ⟨fun z => absurd z (by decide), fun _ => ⟨fun _ => yes 1 e (by decide) h2 X2 (f1.tr f2), fun z => absurd z (by decide)⟩⟩) (fun (n29 : ¬ tX T q = 29) h2 X2 f2 => ⟨fun _ => ?_, fun z => absurd rfl z⟩)
  have g2 := f1.tr f2
  refine M_takes (k := 30) (by decide) (by decide) X2.1 (fun (e : tX T q = 30) h3 X3 f3 => ⟨fun z => absurd z (by decide), fun _ => ⟨fun _ => yes 2 e (by decide) h3 X3 (g2.tr f3), fun z => absurd z (by decide)⟩⟩) (fun (n30 : ¬ tX T q = 30) h3 X3 f3 => ⟨fun _ => ?_, fun z => absurd rfl z⟩)
  have g3 := g2.tr f3
  refine M_takes (k := 31) (by decide) (by decide) X3.1 (fun (e : tX T q = 31) h4 X4 f4 => ⟨fun z => absurd z (by decide), fun _ => ⟨fun _ => yes 3 e (by decide) h4 X4 (g3.tr f4), fun z => absurd z (by decide)⟩⟩) (fun (n31 : ¬ tX T q = 31) h4 X4 f4 => ⟨fun _ => ?_, fun z => absurd rfl z⟩)
  have g4 := g3.tr f4
  refine M_takes (k := 32) (by decide) (by decide) X4.1 (fun (e : tX T q = 32) h5 X5 f5 => ⟨fun z => absurd z (by decide), fun _ => ⟨fun _ => yes 4 e (by decide) h5 X5 (g4.tr f5), fun z => absurd z (by decide)⟩⟩) (fun (n32 : ¬ tX T q = 32) h5 X5 f5 => ⟨fun _ => ⟨fun z => absurd rfl z, fun _ => ?_⟩, fun z => absurd rfl z⟩)
  have g5 := g4.tr f5
  exact M_asks (k := 33) (by decide) (by decide) X5.1 (fun (e : tX T q = 33) h6 X6 f6 => yes 5 e (by decide) h6 X6 (g5.tr f6)) (fun (n33 : ¬ tX T q = 33) h6 F6 f6 => hN (by omega) h6 F6 (g5.tr f6))
/-- behind a text that is read: its fault -/
theorem RM.flt {S : aS} {h h' : mf_M} {e : Int × Int} (R : RM S h) (r : ∀ a, a ≠ 245 → a ≠ 315 → a ≠ 316 → a ≠ 317 → h' a = h a) (c : ∀ k ∈ ([48, 54, 59, 61, 65, 69, 70, 71, 105] : List Int), h' 245 k = h 245 k) (e1 : h' 245 1 = 0) (e7 : h' 245 7 = e.1) (e8 : h' 245 8 = e.2) : RM (S.flt e) h' := by
  have r2 : ∀ a, 246 ≤ a → a ≤ 292 ∨ a = 318 → h' a = h a := fun a a1 a2 => r a (by omega) (by omega) (by omega) (by omega)
  refine ⟨R.ok.flt e, e1, fun i i0 i1 => absurd i1 (by show ¬ i < (0 : Int); omega), e7, e8, by rw [r2 247 (by decide) (by decide)]; exact R.rf, R.wd.keep (fun a ha => r a (by omega) (by omega) (by omega) (by omega)), R.fo.keep (fun a ha => ?_) (fun k hk => c k ?_), by rw [vM_row (r2 286 (by decide) (by decide))]; exact R.vi, R.kp.row (r2 286 (by decide) (by decide)), by rw [c 61 (by simp)]; exact R.th, by rw [c 69 (by simp)]; exact R.un, by rw [c 70 (by simp)]; exact R.nx, fun j hj => ⟨by rw [vM_row (r2 292 (by decide) (by decide))]; exact (R.us j hj).1, (R.us j hj).2.row (r2 292 (by decide) (by decide))⟩, by rw [c 65 (by simp)]; exact R.sn, by rw [r2 290 (by decide) (by decide)]; exact R.ss, by rw [c 71 (by simp)]; exact R.sd, by rw [c 105 (by simp)]; exact R.oc, by rw [r2 318 (by decide) (by decide)]; exact R.os, by rw [c 59 (by simp)]; exact R.ao⟩
  · simp only [List.mem_cons, List.not_mem_nil, or_false] at ha
    exact r2 a (by omega) (by omega)
  · simp only [List.mem_cons, List.not_mem_nil, or_false] at hk ⊢
    omega
theorem M_ask {S : aS} {h : mf_M} (hd : 9 ≤ d) (R : RM S h) (hK : ∀ h', RM (askS S).2 h' → frX h h' → L (askS S).1 h') : mM C l d YX12_ask [(2, 245)] h L := by
  have o := R.ok
  have iF := R.isF
  unfold askS at hK
  refine wX12_ask hd ⟨fun z h1 e1 h2 e2 h3 e3 h4 e4 h5 e5 h6 e6 h7 e7 h8 e8 h9 e9 h10 e10 h11 e11 => ?_, fun z h1 e1 => ?_⟩
  · have nl : ¬ S.F.nl = 0 := fun y => z (iF.mpr y)
    rw [if_neg nl] at hK
    have r : ∀ a, a ≠ 245 → h11 a = h a := fun a ha => by rw [e11, up_row ha, e10, up_row ha, e9, up_row ha, e8, up_row ha, e7, up_row ha, e6, up_row ha, e5, up_row ha, e4, up_row ha, e3, up_row ha, e2, up_row ha, e1, up_row ha]
    have ck : ∀ k, k ≠ 1 → k ≠ 2 → k ≠ 3 → k ≠ 4 → k ≠ 5 → k ≠ 6 → k ≠ 55 → k ≠ 95 → k ≠ 97 → k ≠ 98 → k ≠ 99 → h11 245 k = h 245 k := fun k q1 q2 q3 q4 q5 q6 q7 q8 q9 q10 q11 => by rw [e11, up_col q11, e10, up_col q10, e9, up_col q9, e8, up_col q8, e7, up_col q7, e6, up_col q6, e5, up_col q5, e4, up_col q4, e3, up_col q2, e2, up_col q1, e1, up_col q3]
    have d99 : h11 245 99 = 0 := by rw [e11, up_self]
    have d98 : h11 245 98 = 0 := by rw [e11, up_col (by decide), e10, up_self]
    have d97 : h11 245 97 = 0 := by rw [e11, up_col (by decide), e10, up_col (by decide), e9, up_self]
    have d95 : h11 245 95 = 0 := by rw [e11, up_col (by decide), e10, up_col (by decide), e9, up_col (by decide), e8, up_self]
    have d55 : h11 245 55 = 3 := by rw [e11, up_col (by decide), e10, up_col (by decide), e9, up_col (by decide), e8, up_col (by decide), e7, up_self]
    have d6 : h11 245 6 = -1 := by rw [e11, up_col (by decide), e10, up_col (by decide), e9, up_col (by decide), e8, up_col (by decide), e7, up_col (by decide), e6, up_self]
    have d5 : h11 245 5 = 0 := by rw [e11, up_col (by decide), e10, up_col (by decide), e9, up_col (by decide), e8, up_col (by decide), e7, up_col (by decide), e6, up_col (by decide), e5, up_self]
    have d4 : h11 245 4 = -1 := by rw [e11, up_col (by decide), e10, up_col (by decide), e9, up_col (by decide), e8, up_col (by decide), e7, up_col (by decide), e6, up_col (by decide), e5, up_col (by decide), e4, up_self]
    have d2 : h11 245 2 = 0 := by rw [e11, up_col (by decide), e10, up_col (by decide), e9, up_col (by decide), e8, up_col (by decide), e7, up_col (by decide), e6, up_col (by decide), e5, up_col (by decide), e4, up_col (by decide), e3, up_self]
    have d1 : h11 245 1 = 0 := by rw [e11, up_col (by decide), e10, up_col (by decide), e9, up_col (by decide), e8, up_col (by decide), e7, up_col (by decide), e6, up_col (by decide), e5, up_col (by decide), e4, up_col (by decide), e3, up_col (by decide), e2, up_self]
    have d3 : h11 245 3 = S.tn := by rw [e11, up_col (by decide), e10, up_col (by decide), e9, up_col (by decide), e8, up_col (by decide), e7, up_col (by decide), e6, up_col (by decide), e5, up_col (by decide), e4, up_col (by decide), e3, up_col (by decide), e2, up_col (by decide), e1, up_self]; exact R.tn
    have X : lxM (S.tp, S.tn) (0, false) h11 := ⟨⟨⟨o.tn0, o.tn1⟩, o.tp, d3, by rw [r 246 (by decide)]; exact R.tp, R.wd.keep (fun a ha => r a (by omega))⟩, ⟨Int.le_refl _, o.tn0⟩, d5, ⟨by rw [d2]; exact Int.le_refl _, by rw [d2]; exact tA_ge (S.tp, S.tn) (0, false)⟩, fun z => absurd z (by decide), fun _ => by rw [d4]; decide, d6⟩
    have P : PSm h11 (S.tp, S.tn) 3 (0, false) [] [] 0 [] h11 := ⟨frQs.rf h11, X, ⟨d95, fun j hj => absurd hj (by simp)⟩, d97, d99, d98, d55⟩
    have t2 : (S.tp, S.tn).2 ≤ 1600 := o.tn1
    -- behind all that is read
    have keepF : ∀ (h' : mf_M) (e : Int × Int), frQs h11 h' → h' 245 5 = e.1 → h' 245 6 = e.2 → ∀ h2' h3' : mf_M, h2' = mf_up h' 245 7 (h' 245 5) → h3' = mf_up h2' 245 8 (h2' 245 6) → RM (S.flt e) h3' ∧ frX h h3' := by
      intro h' e f a5 a6 h2' h3' b1 b2
      have cc : ∀ k, k ≠ 7 → k ≠ 8 → h3' 245 k = h' 245 k := fun k q1 q2 => by rw [b2, up_col q2, b1, up_col q1]
      have rr : ∀ a, a ≠ 245 → h3' a = h' a := fun a ha => by rw [b2, up_row ha, b1, up_row ha]
      refine ⟨R.flt (fun a q1 q2 q3 _ => by rw [rr a q1, f.1 a q1 q2 q3, r a q1]) (fun k hk => ?_) ?_ ?_ ?_, fun a ha => by rw [rr a (by omega), f.1 a (by omega) (by omega) (by omega), r a (by omega)]⟩
      · simp only [List.mem_cons, List.not_mem_nil, or_false] at hk
        rw [cc k (by omega) (by omega), f.2 k (by omega) (by omega) (by omega) (by omega) (by omega) (by omega) (by omega) (by omega) (by omega) (by omega), ck k (by omega) (by omega) (by omega) (by omega) (by omega) (by omega) (by omega) (by omega) (by omega) (by omega) (by omega)]
      · rw [cc 1 (by decide) (by decide), f.2 1 (by decide) (by decide) (by decide) (by decide) (by decide) (by decide) (by decide) (by decide) (by decide) (by decide)]; exact d1
      · rw [b2, up_col (by decide), b1, up_self]; exact a5
      · rw [b2, up_self, b1, up_col (by decide)]; exact a6
    have bad133 : ∀ (k : Int) (e : Int × Int), qstS (S.tp, S.tn) = .error e → ∀ h', FWm h11 e h' → BX12_ask_133 C l d L k h' := by
      intro k e he h' F
      rw [he] at hK
      refine vX12_ask_133 (fun h2' b1 h3' b2 => ?_)
      obtain ⟨R3, f3⟩ := keepF h' e F.2.2 F.1.1 F.1.2 h2' h3' b1 b2
      have b5 : h3' 245 5 = h' 245 5 := by rw [b2, up_col (by decide), b1, up_col (by decide)]
      exact ⟨fun y => absurd (b5.symm.trans y) F.2.1, fun _ => hK h3' R3 f3⟩
    have bad109 : ∀ (k : Int) (e : Int × Int), qstS (S.tp, S.tn) = .error e → ∀ h', FWm h11 e h' → BX12_ask_109 C l d L k h' := fun k e he h' F => vX12_ask_109 (by omega) ⟨fun _ => bad133 k e he h' F, fun y => absurd y F.2.1⟩
    have good109 : ∀ (x : aQ × List Int) (f : Bool), 28 ≤ tX (S.tp, S.tn) (0, false) → (if tX (S.tp, S.tn) (0, false) ≤ 30 then tstS (S.tp, S.tn) 3 (tN (S.tp, S.tn) (0, false)) else sumS (S.tp, S.tn) 3 (tN (S.tp, S.tn) (0, false))) = .ok x → okQ f x.2 → ∀ h', PSm h11 (S.tp, S.tn) 3 x.1 [] [] 0 x.2 h' → BX12_ask_109 C l d L (tX (S.tp, S.tn) (0, false) - 28) h' := by
      intro x f h28 hx hq h' P'
      refine vX12_ask_109 (by omega) ⟨fun y => absurd P'.b0 y, fun _ => m_look P'.lx (fun h2' X2 f2 => ?_)⟩
      have P2 := P'.lt f2 X2
      have al := tA_le (S.tp, S.tn) P'.lx.2.1.2
      refine ⟨fun y => ?_, fun y => m_fail P2.b0 (fun h3' F3 f3 => ?_)⟩
      · have k0 : tK (S.tp, S.tn) x.1 = 0 := by
          refine tK_end.mpr ?_
          by_cases w : tA (S.tp, S.tn) x.1 < (S.tp, S.tn).2
          · rw [if_pos w] at y
            have := (o.tp (tA (S.tp, S.tn) x.1)).1
            have y' : S.tp (tA (S.tp, S.tn) x.1) = -1 := y
            omega
          · omega
        have key : qstS (S.tp, S.tn) = .ok (tX (S.tp, S.tn) (0, false), x.2) := by
          unfold qstS
          rw [if_pos h28, hx]
          simp only []
          rw [if_pos k0]
        rw [key] at hK
        simp only [] at hK
        refine vX12_ask_133 (fun h3' b1 h4' b2 => ?_)
        obtain ⟨R4, f4⟩ := keepF h2' (0, -1) P2.fr P2.b0 P2.lx.2.2.2.2.2.2 h3' h4' b1 b2
        have cc : ∀ k, k ≠ 7 → k ≠ 8 → h4' 245 k = h2' 245 k := fun k q1 q2 => by rw [b2, up_col q2, b1, up_col q1]
        have rr : ∀ a, a ≠ 245 → h4' a = h2' a := fun a ha => by rw [b2, up_row ha, b1, up_row ha]
        have day : h4' 286 0 = S.st 0 0 := R4.day
        have orr := opn_range (S := S.flt (0, -1)) R4.ok.F (S.st 0 0)
        have l6 := o.F.l6
        have orr2 : 0 ≤ opnS (S.flt (0, -1)) (S.st 0 0) ∧ opnS (S.flt (0, -1)) (S.st 0 0) ≤ 6 := ⟨orr.1, by have : (S.flt (0, -1)).F.nl = S.F.nl := rfl; omega⟩
        have dr := o.P.st.2.2
        have go : ∀ s1 : Int, (s1 = if tX (S.tp, S.tn) (0, false) ≤ 29 then -1 else 0) → BX12_ask_173 C l d L (tX (S.tp, S.tn) (0, false) - 28) 245 s1 h4' := by
          intro s1 hs1
          refine vX12_ask_173 (by omega) ⟨is245, fun h5' b5 h6' b6 => ?_⟩
          have fa5 : frA h4' h5' := by rw [b5]; exact frA.up (by decide)
          have fa6 : frA h5' h6' := by rw [b6]; exact frA.up (by decide)
          have R6 := R4.keep (fa5.tr fa6).M
          have day6 : h6' 286 0 = S.st 0 0 := R6.day
          rw [day6]
          refine M_openingOn (by decide) R6 (by omega) (by omega) (fun h7' R7 f7 h8' b8 h9' b9 h10' b10 => ?_)
          have cq : ∀ k, k ≠ 55 → k ≠ 58 → k ≠ 59 → k ≠ 101 → h10' 245 k = h6' 245 k := fun k q1 q2 q3 q4 => by rw [b10, up_col q1, b9, up_col q2, b8, up_col q3, f7.2 k q4 q1 q2]
          have rq : ∀ a, a ≠ 245 → a ≠ 317 → h10' a = h6' a := fun a q1 q2 => by rw [b10, up_row q1, b9, up_row q1, b8, up_row q1, f7.1 a q1 q2]
          have e59 : h10' 245 59 = opnS (S.flt (0, -1)) (S.st 0 0) := by rw [b10, up_col (by decide), b9, up_col (by decide), b8, up_self]
          have fm : frM h6' h10' := by
            refine ⟨fun a q1 _ _ _ _ _ _ _ q9 => rq a q1 q9, fun k hk => ?_, fun _ => by rw [e59]; omega, fun k _ => by rw [rq 286 (by decide) (by decide)]⟩
            simp only [List.mem_cons, List.not_mem_nil, or_false] at hk
            exact cq k (by omega) (by omega) (by omega) (by omega)
          have R10 := R6.keep fm
          have e58 : h10' 245 58 = S.st 0 0 := by
            rw [b10, up_col (by decide), b9, up_self]
            have : h8' 286 = h6' 286 := by rw [b8, up_row (by decide), f7.1 286 (by decide) (by decide)]
            rw [this]; exact day6
          have cc6 : ∀ k, k ≠ 102 → k ≠ 103 → h6' 245 k = h4' 245 k := (fa5.tr fa6).2
          have h95 : h10' 245 95 = x.2.length := by rw [cq 95 (by decide) (by decide) (by decide) (by decide), cc6 95 (by decide) (by decide), cc 95 (by decide) (by decide)]; exact P2.cd
          have h315 : ∀ j : Nat, j < x.2.length → h10' 315 j = x.2.getD j 0 := by
            rw [rq 315 (by decide) (by decide), (fa5.tr fa6).1 315 (by decide), rr 315 (by decide)]
            exact P2.cj
          have h102 : h10' 245 102 = s1 := by rw [cq 102 (by decide) (by decide) (by decide) (by decide), b6, up_col (by decide), b5, up_self]
          have h103 : h10' 245 103 = 1 := by rw [cq 103 (by decide) (by decide) (by decide) (by decide), b6, up_self]
          have trr := tX_range (S.tp, S.tn) (0, false)
          have := m_ask212 (C := C) (l := l) (d := d) (L := L) (S := S.flt (0, -1)) (cs := x.2) (f := f) (k := tX (S.tp, S.tn) (0, false) - 28) (o := opnS (S.flt (0, -1)) (S.st 0 0)) (by omega) (by omega) (by omega) hq (by omega) (by omega) S.F.nb.toNat 0 h10' R10 (by have := o.F.b0; show ((0 : Nat) : Int) + (S.F.nb.toNat : Int) = S.F.nb; omega) e59 e58 h95 h315 (by rw [h102, hs1, show tX (S.tp, S.tn) (0, false) - 28 + 28 = tX (S.tp, S.tn) (0, false) by omega]; rfl) (by rw [h103]; rfl) (fun h11' R11 f11 => ?_)
          · exact this
          · rw [show tX (S.tp, S.tn) (0, false) - 28 + 28 = tX (S.tp, S.tn) (0, false) by omega]
            exact hK h11' R11 (((f4.tr (fa5.tr fa6).M.X).tr fm.X).tr f11)
        have b5 : h4' 245 5 = 0 := by rw [cc 5 (by decide) (by decide)]; exact P2.b0
        refine ⟨fun _ => ⟨fun w => go 0 (by rw [if_neg (by omega)]), fun w => go (-1) (by rw [if_pos (by omega)])⟩, fun w => absurd b5 w⟩
      · have k0 : ¬ tK (S.tp, S.tn) x.1 = 0 := fun w => y (by rw [if_neg (by have := tK_end.mp w; omega)])
        have key : qstS (S.tp, S.tn) = .error (1, tA (S.tp, S.tn) x.1) := by
          unfold qstS
          rw [if_pos h28, hx]
          simp only []
          rw [if_neg k0]
        rw [X2.2] at F3
        exact bad133 _ _ key h3' (P2.bad f3 F3 (by decide) (by have := hq.2.2.2; omega)).w
    refine m_qKind (by decide) X (fun h28 h12 X12 f12 => ?_) (fun n28 h12 F12 f12 => ?_)
    · have P12 := P.lex f12 X12
      have q0 := X12.2.1
      have b12 := P12.b0
      have good : 3 ≤ tX (S.tp, S.tn) (0, false) - 28 → mM C l 6 YX12_qSums [(2, 245)] h12 (fun r18 h20 => BX12_ask_109 C l d L (tX (S.tp, S.tn) (0, false) - 28) h20) := by
        intro k3
        refine M_qSums (W0 := []) (B := []) (by decide) t2 (Or.inr (Or.inr (Or.inr rfl))) (fun x hx => absurd hx (by simp)) P12 (by simp only [List.length_nil]; omega) (by decide) (fun e he h13 F13 => bad109 _ e ?_ h13 F13.w) (fun x hx h13 P13 => ?_)
        · unfold qstS
          rw [if_pos h28, if_neg (by omega)]
          have : sumS (S.tp, S.tn) 3 (tN (S.tp, S.tn) (0, false)) = .error e := he
          rw [this]
        · have hx' : sumS (S.tp, S.tn) 3 (tN (S.tp, S.tn) (0, false)) = .ok x := hx
          exact good109 x false h28 (by rw [if_neg (by omega)]; exact hx') (sum_q q0.1 q0.2 t2 hx') h13 P13
      refine ⟨fun y => absurd b12 y, fun _ => ⟨fun k3 => ⟨fun y => absurd b12 y, fun _ => good k3⟩, fun k3 => ?_⟩⟩
      refine M_qTest (by decide) t2 (Or.inr (Or.inr (Or.inr rfl))) P12 (fun e he h13 F13 => bad109 _ e ?_ h13 F13) (fun x hx h13 P13 => ?_)
      · unfold qstS
        rw [if_pos h28, if_pos (by omega)]
        have : tstS (S.tp, S.tn) 3 (tN (S.tp, S.tn) (0, false)) = .error e := he
        rw [this]
      · have hx' : tstS (S.tp, S.tn) 3 (tN (S.tp, S.tn) (0, false)) = .ok x := hx
        exact good109 x true h28 (by rw [if_pos (by omega)]; exact hx') (tst_q q0.1 q0.2 t2 hx') h13 P13
    · have F := (P.bad f12 F12 (by decide) (by simp)).w
      have key : qstS (S.tp, S.tn) = .error (1, tA (S.tp, S.tn) (0, false)) := by unfold qstS; rw [if_neg n28]
      exact ⟨fun _ => ⟨fun _ => bad109 _ _ key h12 F, fun y => absurd y F.2.1⟩, fun y => absurd y F.2.1⟩
  · have nl : S.F.nl = 0 := iF.mp z
    rw [if_pos nl] at hK
    have R1 := R.s_tn (n := 0) (Int.le_refl _) o.tn0
    rw [← e1] at R1
    exact hK h1 R1 (by rw [e1]; exact frX.up (by decide))
end SpA2
