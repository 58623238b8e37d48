/-! contracts, calls, ends -/
def mf_rm (d n0 n1 : Nat) : Room := { frames := d, cells := n1 - n0, slots := mf_sl n1 - mf_sl n0, locals := 64 * d }
def mf_ws (Y : mf_Y) : List Cond := Cond.code Y.1 Y.2.1 Y.2.2.1 Y.2.2.2 :: mf_tbl
def mf_Pc (C : mf_G) (n : Nat) (g h : mf_M) (as : List mf_AV) : Array Value → State → Prop := fun v U => ∃ vs : List Value, v = vs.toArray ∧ mf_S C vs as ∧ mf_R C n g h U.heap ∧ mf_K C U ∧ mf_N C U U.heap
def mf_rv (C : mf_G) (r : Option FieldType) (o : Option Value) (x : Int) : Prop := match r with
  | none => o = none ∧ x = 0
  | some ty => ∃ v, o = some v ∧ mf_V C (mf_tg ty) v x
abbrev mf_Kt : Type := Int → mf_M → mf_M → Prop
def mf_Qc (C : mf_G) (Y : mf_Y) (n1 : Nat) (K : mf_Kt) : Array Value → State → Outcome → State → Prop := fun _ st o t => (∃ (ov : Option Value) (x : Int) (g' h' : mf_M), o = .returned ov ∧ mf_rv C Y.2.2.2 ov x ∧ mf_R C n1 g' h' t.heap ∧ K x g' h') ∧ ∀ q : Nat, q < C.1.1 → t.heap[q]? = st.heap[q]?
def mf_MT (C : mf_G) (l : Launch) (d : Nat) (Y : mf_Y) (as : List mf_AV) (n n1 : Nat) (g h : mf_M) (K : mf_Kt) : Prop :=
  Met l Y.1 (mf_ws Y) (mf_rm d n n1) (mf_Pc C n g h as) (mf_Qc C Y n1 K) (n1 - n) (mf_sl n1 - mf_sl n) (fun q : Nat => C.1.1 ≤ q)
def mf_Zm (C : mf_G) (Y : mf_Y) (n0 n1 : Nat) (K : mf_Kt) : mf_Zt := fun below args s => MQ below (mf_Qc C Y n1 K) args s (n1 - n0) (mf_sl n1 - mf_sl n0) (fun q : Nat => C.1.1 ≤ q)
def mf_args : Nat → List mf_AV → List (Nat × mf_AV)
  | _, [] => []
  | i, a :: as => (i, a) :: mf_args (if a.1 == 1 then i + 2 else i + 1) as
def mf_words : List mf_AV → Nat
  | [] => 0
  | a :: as => (if a.1 == 1 then 2 else 1) + mf_words as
theorem mf_L.args {C : mf_G} : ∀ {vs : List Value} {as : List mf_AV} (i : Nat), mf_S C vs as → mf_L C (lv_args i vs) (mf_args i as)
  | [], [], _, _ => trivial
  | v :: vs, a :: as, i, h => by
    have e : (if v.category = 2 then i + 2 else i + 1) = (if a.1 == 1 then i + 2 else i + 1) := by
      have h1 := mf_cat h.1
      by_cases hc : v.category = 2
      · have h2 : (a.1 == 1) = true := by rw [← h1, hc]; rfl
        rw [if_pos hc, if_pos h2]
      · have h2 : ¬ (a.1 == 1) = true := by rw [← h1]; simpa using hc
        rw [if_neg hc, if_neg h2]
    show mf_L C ((i, v) :: lv_args (if v.category = 2 then i + 2 else i + 1) vs) ((i, a) :: mf_args (if a.1 == 1 then i + 2 else i + 1) as)
    rw [e]
    exact ⟨rfl, h.1, mf_L.args _ h.2⟩
theorem mf_S.words {C : mf_G} : ∀ {vs : List Value} {as : List mf_AV}, mf_S C vs as → (lg_sl vs).length = mf_words as
  | [], [], _ => rfl
  | v :: vs, a :: as, h => by
    have ih := mf_S.words h.2
    have h1 := mf_cat h.1
    unfold lg_sl at ih ⊢
    rw [List.flatMap_cons, List.length_append, ih, show mf_words (a :: as) = (if a.1 == 1 then 2 else 1) + mf_words as from rfl]
    by_cases hc : v.category = 2
    · have h2 : (a.1 == 1) = true := by rw [← h1, hc]; rfl
      rw [if_pos hc, if_pos h2]; rfl
    · have h2 : ¬ (a.1 == 1) = true := by rw [← h1]; simpa using hc
      rw [if_neg hc, if_neg h2]; rfl
section MfCalls
variable {C : mf_G} {l : Launch} {Y : mf_Y} {R : Room} {n0 : Nat} {Z : mf_Zt} {X : mf_Xt} {pc : Nat} {lv : List (Nat × mf_AV)} {st : List mf_AV} {n : Nat} {g h : mf_M}
theorem mf_entry {d n1 : Nat} {as : List mf_AV} {K : mf_Kt} (hp : plainName Y.1.cls = true) (hw : mf_words as ≤ Y.2.2.1) (k : mf_AW C l Y (mf_rm d n n1) n (mf_Zm C Y n n1 K) (fun _ _ => True) 0 (mf_args 0 as) [] n g h) : mf_MT C l d Y as n n1 g h K := by
  refine Met.ofW (cc := Y.2.1) (maxL := Y.2.2.1) (ret := Y.2.2.2) hp rfl ?_
  intro p e s m args below meth c s₁ B hml hv
  obtain ⟨vs, rfl, hS, hR, hK, hNw⟩ := hv
  have hts := atoms_spec (ws := mf_ws Y) B.pre
  have hown : s.vm.findClass Y.1.cls = some m.cls := findClass_of_methodNamed B.named
  have hl := lv_entry vs (n := Y.2.2.1) (by rw [mf_S.words hS]; exact hw)
  rw [lg_entry_eq]
  have kk := k p e s m vs.toArray below meth c s.heap [] _ [] _ ⟨B.exec, B.bytes, hml, B.returns, B.notSynchronized, hown, fun w hw => hts w (List.mem_cons_of_mem _ hw), hK, by rw [hR.1]; exact Nat.le_add_right _ _, (name_of_methodNamed B.named B.method).1, hNw⟩ trivial hl (mf_L.args 0 hS) trivial hR va_S.rf (Nat.le_refl n)
  rw [Nat.sub_self, Nat.sub_self] at kk
  exact kk
theorem mf_MT.mono {d n1 : Nat} {as : List mf_AV} {K K' : mf_Kt} (hK : ∀ x g' h', K x g' h' → K' x g' h') (hM : mf_MT C l d Y as n n1 g h K) : mf_MT C l d Y as n n1 g h K' := by
  intro p e ha hc hk s m args below hf happ hP hT
  obtain ⟨t, o, h1, h2, h3, ⟨⟨ov, x, g', h', q1, q2, q3, q4⟩, q5⟩, q6⟩ := hM p e ha hc hk s m args below hf happ hP hT
  exact ⟨t, o, h1, h2, h3, ⟨⟨ov, x, g', h', q1, q2, q3, hK _ _ _ q4⟩, q5⟩, q6⟩
/-- what stands behind an answer -/
def mf_push (r : Option FieldType) (x : Int) (st : List mf_AV) : List mf_AV := match r with
  | none => st
  | some ty => (mf_tg ty, x) :: st
theorem mf_back {Yc : mf_Y} {n2 : Nat} {K : mf_Kt} {a : Array Value} {rest : List mf_AV} {p : Program} {e : Env} {s : State} {m : MethodId} {args : Array Value} {below : List Frame} {meth : Method} {c : Code} {H : Heap} {locs : List Loc} {ls : Array Slot} {sv sr : List Value} {lc : List (Nat × Value)} (h2 : n ≤ n2)
    (hC : mf_Cx C Y p s m args meth c) (hX : X args s) (hl : lv_has ls Y.2.2.1 lc) (hL : mf_L C lc lv) (hS : mf_S C sr rest) (hR : mf_R C n g h H) (hF : va_S (fun q : Nat => C.1.1 ≤ q) s.heap H locs) (hn : n0 ≤ n)
    (hr : va_Run p l e R s m args below meth c H locs (n - n0) (mf_sl n - mf_sl n0) (n2 - n) (mf_sl n2 - mf_sl n) (F0 m pc ls sv) sr (mf_Qc C Yc n2 K a) (fun q : Nat => C.1.1 ≤ q))
    (k : ∀ x g' h', K x g' h' → mf_AW C l Y R n0 Z X (pc + 3) lv (mf_push Yc.2.2.2 x rest) n2 g' h') : W p l e R s m args below meth c H locs (n - n0) (mf_sl n - mf_sl n0) (Z below args s) (F0 m pc ls sv) := by
  intro T hT Xs
  obtain ⟨v, st₀, t, T', L, z0, X', hLf, e1, e2, ⟨⟨ov, x, g', h', q1, q2, q3, q4⟩, q5⟩, stp⟩ := hr T hT Xs
  cases q1
  have hst : mf_S C (v.toList ++ sr) (mf_push Yc.2.2.2 x rest) := by
    unfold mf_rv at q2
    unfold mf_push
    split at q2
    · rename_i hrt
      rw [q2.1]; exact hS
    · rename_i ty hrt
      obtain ⟨w, hw1, hw2⟩ := q2
      rw [hw1]; exact ⟨hw2, hS⟩
  have hz : H.size = C.1.1 + n := hR.1
  have hS2 : va_S (fun q : Nat => C.1.1 ≤ q) s.heap T'.heap (locs ++ L) := by
    refine ⟨?_, fun q g1 g2 => ?_, fun q hq => ?_⟩
    · have h9 : T'.heap.size = C.1.1 + n2 := by rw [e1]; exact q3.1
      have h8 := hF.1
      omega
    · rw [e1, q5 q (Nat.not_le.mp g2), z0]
      exact hF.2.1 q g1 g2
    · rcases List.mem_append.mp hq with h9 | h9
      · exact hF.2.2 q h9
      · exact hLf q h9
  have ec : n - n0 + (n2 - n) = n2 - n0 := by omega
  have es : mf_sl n - mf_sl n0 + (mf_sl n2 - mf_sl n) = mf_sl n2 - mf_sl n0 := by
    have h9 := mf_sl_mono hn
    have h8 := mf_sl_mono h2
    omega
  rw [ec, es] at X'
  obtain ⟨t2, a1, b1⟩ := k x g' h' q4 p e s m args below meth c T'.heap (locs ++ L) ls _ lc hC hX hl hL hst (by rw [e1]; exact q3) hS2 (Nat.le_trans hn h2) T' rfl X'
  exact ⟨t2, stp t2 a1, b1⟩
/-- a method that can be called: its code is told, its class is ready, so many parameters, few locals -/
def mf_ok (Y : mf_Y) (np : Nat) : Prop := Cond.code Y.1 Y.2.1 Y.2.2.1 Y.2.2.2 ∈ mf_tbl ∧ Cond.initialized Y.1.cls ∈ mf_tbl ∧ (Y.1.cls ≠ "java/lang/invoke/MethodHandle" ∧ Y.1.cls ≠ "java/lang/invoke/VarHandle" ∧ (parseMethodDescriptor Y.1.desc).map (fun d => d.parameters.length) = some np) ∧ Y.2.2.1 ≤ 45
theorem mf_blind {as : List mf_AV} : FrameBlind (mf_Pc C n g h as) := by
  intro a U gf mk ⟨vs, h1, h2, h3, h4, h5⟩
  exact ⟨vs, h1, h2, h3, va_K.moved (u := U) (U := U.calling gf mk a) (Vm.Alike.refl U.vm) h4, mf_N.same (s := U) (U := U.calling gf mk a) rfl h5⟩
theorem mf_S.append {vs ws : List Value} {as bs : List mf_AV} : mf_S C (vs ++ ws) (as ++ bs) → vs.length = as.length → mf_S C vs as ∧ mf_S C ws bs := by
  induction vs generalizing as with
  | nil => intro h1 h2; cases as with
    | nil => exact ⟨trivial, h1⟩
    | cons a as => cases h2
  | cons v vs ih => intro h1 h2; cases as with
    | nil => cases h2
    | cons a as =>
      obtain ⟨g1, g2⟩ := ih h1.2 (by simpa using h2)
      exact ⟨⟨h1.1, g1⟩, g2⟩
theorem mf_S.split {bs : List mf_AV} : ∀ {as : List mf_AV} {sv : List Value}, mf_S C sv (as ++ bs) → ∃ vs ws, sv = vs ++ ws ∧ vs.length = as.length ∧ mf_S C vs as ∧ mf_S C ws bs
  | [], sv, h => ⟨[], sv, rfl, rfl, trivial, h⟩
  | a :: as, [], h => h.elim
  | a :: as, v :: sv, h => by
    obtain ⟨vs, ws, rfl, h2, h3, h4⟩ := mf_S.split h.2
    exact ⟨v :: vs, ws, rfl, by simp [h2], ⟨h.1, h3⟩, h4⟩
theorem mf_S.app {vs ws : List Value} {as bs : List mf_AV} (h1 : mf_S C vs as) (h2 : mf_S C ws bs) : mf_S C (vs ++ ws) (as ++ bs) := by
  induction vs generalizing as with
  | nil => cases as with
    | nil => exact h2
    | cons a as => exact h1.elim
  | cons v vs ih => cases as with
    | nil => exact h1.elim
    | cons a as => exact ⟨h1.1, ih h1.2⟩
theorem mf_S.rev : ∀ {vs : List Value} {as : List mf_AV}, mf_S C vs as → mf_S C vs.reverse as.reverse
  | [], [], _ => trivial
  | v :: vs, a :: as, h => by
    rw [List.reverse_cons, List.reverse_cons]
    exact (mf_S.rev h.2).app (⟨h.1, trivial⟩ : mf_S C [v] [a])
theorem mf_S.cats {sr : List Value} {rest : List mf_AV} (h : mf_S C sr rest) : (sr.map fun v => v.category).sum = mf_words rest := by
  induction sr generalizing rest with
  | nil => cases rest with
    | nil => rfl
    | cons a as => exact h.elim
  | cons v vs ih => cases rest with
    | nil => exact h.elim
    | cons a as =>
      rw [List.map_cons, List.sum_cons, ih h.2, show mf_words (a :: as) = (if a.1 == 1 then 2 else 1) + mf_words as from rfl]
      have h1 := mf_cat h.1
      rcases lv_cat v with hc | hc
      · have h2 : ¬ (a.1 == 1) = true := by rw [← h1, hc]; decide
        rw [if_neg h2, hc]
      · have h2 : (a.1 == 1) = true := by rw [← h1, hc]; rfl
        rw [if_pos h2, hc]
def mf_room (R : Room) (d n0 n2 : Nat) : Prop := d + 1 ≤ R.frames ∧ 64 * (d + 1) ≤ R.locals ∧ n2 - n0 ≤ R.cells ∧ mf_sl n2 - mf_sl n0 ≤ R.slots
theorem mf_callB {Yc : mf_Y} {np d n2 index : Nat} {s : State} {args : Array Value} (ok : mf_ok Yc np) (hts : ∀ w ∈ mf_tbl, w.before args s = true) (hl : Cond.methodLink Y.1.cls index Yc.1 ∈ mf_tbl) (hR : mf_room R d n0 n2) : CallB R s args Y.1.cls index Yc.1 Yc.2.1 Yc.2.2.1 Yc.2.2.2 (mf_ws Yc) (mf_rm d n n2) (n2 - n) (mf_sl n2 - mf_sl n) np := by
  refine callB_of np hts (mf_goodIn ok.1) rfl rfl rfl (hts _ ok.2.1) (hts _ hl) ok.2.2.1 ⟨hR.1, ?_⟩
  have h1 := hR.2.1
  have h2 := ok.2.2.2
  show 8 + (Yc.2.2.1 + 11) + 64 * d ≤ R.locals
  omega
theorem mf_hf {n2 : Nat} {d : Nat} (hn : n0 ≤ n) (h2 : n ≤ n2) (hR : mf_room R d n0 n2) : (n - n0) + (n2 - n) ≤ R.cells ∧ (mf_sl n - mf_sl n0) + (mf_sl n2 - mf_sl n) ≤ R.slots := by
  have h9 := mf_sl_mono hn
  have h8 := mf_sl_mono h2
  obtain ⟨-, -, g1, g2⟩ := hR
  omega
theorem mf_K.moved {s U : State} (hW : s.WarmedH U.vm) (hK : mf_K C s) : mf_K C U := va_K.moved hW.alike hK
theorem mf_callV {Yc : mf_Y} {np d n2 index ci : Nat} {K : mf_Kt} {as rest : List mf_AV} {a : Int} {r : vw_C} (hd : decode Y.2.1 pc = .ok (.invokevirtual index, 3)) (hl : Cond.methodLink Y.1.cls index Yc.1 ∈ mf_tbl) (ok : mf_ok Yc np) (hin : Cond.instanceMethod Yc.1 ∈ mf_tbl) (hse : Cond.selects Yc.1.cls Yc.1 Yc.1 ∈ mf_tbl) (hr : mf_KL[ci]? = some r) (hcl : r.1 = Yc.1.cls)
    (hst : st = as.reverse ++ (2, a) :: rest) (hnp : as.length = np) (hw8 : mf_words rest ≤ 8) (hroom : mf_room R d n0 n2) (h2 : n ≤ n2) (hi : mf_is n a ci) (hM : mf_MT C l d Yc ((2, a) :: as) n n2 g h K)
    (k : ∀ x g' h', K x g' h' → mf_AW C l Y R n0 Z X (pc + 3) lv (mf_push Yc.2.2.2 x rest) n2 g' h') : mf_AW C l Y R n0 Z X pc lv st n g h := by
  intro p e s m args below meth c H locs ls sv lc hC hX hl0 hL hS hR hF hn
  subst hst
  obtain ⟨vs, ws, rfl, hlen, hS1, hS2⟩ := mf_S.split hS
  obtain ⟨w, sr, rfl, hw1, hS3⟩ := mf_S1 hS2
  obtain ⟨q, rfl, rfl, hq, hc⟩ := mf_isV hi hw1
  obtain ⟨V, ⟨cell, q1, q2, q3, q4⟩, hV⟩ := mf_obj hR hq hc hr
  obtain ⟨hx, hb, hml, hrt, hlk, hown, hts, hK, hsz, hnm, hNw⟩ := id hC
  have hrev := hS1.rev
  rw [List.reverse_reverse] at hrev
  refine mf_back h2 hC hX hl0 hL hS3 hR hF hn (va_runV (As := vs.reverse) (rest := sr) ⟨hx, hb, hml, hown, hts⟩ hM ⟨mf_callB ok hts hl hroom, hts _ hin, hts _ hse⟩ ⟨mf_blind, ⟨cell, q1, by rw [q3]; rfl, by rw [q2, ← hcl]; exact (hK.1 ci r hr).2.1⟩, fun U hU hW => ⟨_, rfl, ⟨hw1, hrev⟩, by rw [hU]; exact hR, mf_K.moved hW hK, by rw [hU]; exact hNw.moved hW hF.2.1⟩⟩ rfl (by rw [List.length_reverse, hlen, List.length_reverse, hnp]) hl0.1 (by rw [List.reverse_reverse]) (lv_room (by rw [hS3.cats]; exact hw8)) hd (mf_hf hn h2 hroom)) k
theorem mf_callS {Yc : mf_Y} {np d n2 index : Nat} {K : mf_Kt} {as rest : List mf_AV} (hd : decode Y.2.1 pc = .ok (.invokestatic index, 3)) (hl : Cond.methodLink Y.1.cls index Yc.1 ∈ mf_tbl) (ok : mf_ok Yc np) (hin : Cond.static Yc.1 ∈ mf_tbl)
    (hst : st = as.reverse ++ rest) (hnp : as.length = np) (hw8 : mf_words rest ≤ 8) (hroom : mf_room R d n0 n2) (h2 : n ≤ n2) (hM : mf_MT C l d Yc as n n2 g h K)
    (k : ∀ x g' h', K x g' h' → mf_AW C l Y R n0 Z X (pc + 3) lv (mf_push Yc.2.2.2 x rest) n2 g' h') : mf_AW C l Y R n0 Z X pc lv st n g h := by
  intro p e s m args below meth c H locs ls sv lc hC hX hl0 hL hS hR hF hn
  subst hst
  obtain ⟨vs, sr, rfl, hlen, hS1, hS3⟩ := mf_S.split hS
  obtain ⟨hx, hb, hml, hrt, hlk, hown, hts, hK, hsz, hnm, hNw⟩ := id hC
  have hrev := hS1.rev
  rw [List.reverse_reverse] at hrev
  refine mf_back h2 hC hX hl0 hL hS3 hR hF hn (va_runS (As := vs.reverse) (rest := sr) ⟨hx, hb, hml, hown, hts⟩ hM ⟨mf_callB ok hts hl hroom, hts _ hin⟩ ⟨mf_blind, fun U hU hW => ⟨_, rfl, hrev, by rw [hU]; exact hR, mf_K.moved hW hK, by rw [hU]; exact hNw.moved hW hF.2.1⟩⟩ rfl (by rw [List.length_reverse, hlen, List.length_reverse, hnp]) hl0.1 (by rw [List.reverse_reverse]) (lv_room (by rw [hS3.cats]; exact hw8)) hd (mf_hf hn h2 hroom)) k
theorem mf_callI {Yc : mf_Y} {np d n2 index : Nat} {K : mf_Kt} {as rest : List mf_AV} {a : Int} (hd : decode Y.2.1 pc = .ok (.invokespecial index, 3)) (hl : Cond.methodLink Y.1.cls index Yc.1 ∈ mf_tbl) (ok : mf_ok Yc np) (hin : Cond.instanceMethod Yc.1 ∈ mf_tbl) (hy : Yc.1.name = "<init>") (hrn : Yc.2.2.2 = none)
    (hst : st = as.reverse ++ (2, a) :: rest) (hnp : as.length = np) (hw8 : mf_words rest ≤ 8) (hroom : mf_room R d n0 n2) (h2 : n ≤ n2) (h0 : 0 ≤ a) (hM : mf_MT C l d Yc ((2, a) :: as) n n2 g h K)
    (k : ∀ x g' h', K x g' h' → mf_AW C l Y R n0 Z X (pc + 3) lv rest n2 g' h') : mf_AW C l Y R n0 Z X pc lv st n g h := by
  intro p e s m args below meth c H locs ls sv lc hC hX hl0 hL hS hR hF hn
  subst hst
  obtain ⟨vs, ws, rfl, hlen, hS1, hS2⟩ := mf_S.split hS
  obtain ⟨w, sr, rfl, hw1, hS3⟩ := mf_S1 hS2
  obtain ⟨q, rfl⟩ : ∃ q : Nat, w = .ref q := by
    rcases hw1 with ⟨_, e1⟩ | ⟨_, e1⟩ | ⟨_, e1⟩ | ⟨_, e1⟩ | ⟨e1, _⟩ | ⟨q, e1, _⟩
    · omega
    · omega
    · omega
    · omega
    · omega
    · exact ⟨_, e1⟩
  obtain ⟨hx, hb, hml, hrt, hlk, hown, hts, hK, hsz, hnm, hNw⟩ := id hC
  have hrev := hS1.rev
  rw [List.reverse_reverse] at hrev
  have cb := mf_callB (Y := Y) (Yc := Yc) (n := n) ok hts hl hroom
  rw [hrn] at cb
  refine mf_back h2 hC hX hl0 hL hS3 hR hF hn (va_runI (As := vs.reverse) (rest := sr) ⟨hx, hb, hml, hown, hts⟩ hM ⟨cb, hy, hts _ hin⟩ ⟨mf_blind, fun U hU hW => ⟨_, rfl, ⟨hw1, hrev⟩, by rw [hU]; exact hR, mf_K.moved hW hK, by rw [hU]; exact hNw.moved hW hF.2.1⟩⟩ rfl (by rw [List.length_reverse, hlen, List.length_reverse, hnp]) hl0.1 (by rw [List.reverse_reverse]) (lv_room (by rw [hS3.cats]; exact hw8)) hd (mf_hf hn h2 hroom)) (by rw [hrn]; exact k)
/-! ends -/
theorem mf_frees {s : State} {H : Heap} {locs : List Loc} (hF : va_S (fun q : Nat => C.1.1 ≤ q) s.heap H locs) : ∀ q ∈ locs, C.1.1 ≤ q.base := hF.2.2
theorem mf_low {s t : State} {H : Heap} {locs : List Loc} (hs : C.1.1 ≤ s.heap.size) (hF : va_S (fun q : Nat => C.1.1 ≤ q) s.heap H locs) (ht : t.heap = H) : ∀ q : Nat, q < C.1.1 → t.heap[q]? = s.heap[q]? := fun q hq => by rw [ht]; exact hF.2.1 q (by omega) (by omega)
theorem mf_ireturn {x : Int} {K : mf_Kt} {ty : FieldType} (hd : decode Y.2.1 pc = .ok (.ireturn, 1)) (hr : Y.2.2.2 = some ty) (hty : ty = .int ∨ (ty = .boolean ∧ (x = 0 ∨ x = 1))) (hK : K x g h) : mf_AW C l Y R n0 (mf_Zm C Y n0 n K) X pc lv [(0, x)] n g h := by
  intro p e s m args below meth c H locs ls sv lc hC hX hl0 hL hS hR hF hn
  obtain ⟨v, sv1, rfl, ⟨y, rfl, hy⟩, hS1⟩ := mf_S1 hS
  obtain rfl : sv1 = [] := by cases sv1 with
    | nil => rfl
    | cons a b => exact hS1.elim
  have hnar : narrow ty (.int y) = .int y := by
    rcases hty with rfl | ⟨rfl, hb⟩
    · rfl
    · show Value.int (y &&& 1) = .int y
      rw [show y &&& 1 = y from mf_toI (by rw [mf_bool hy hb, hy])]
  have htg : mf_tg ty = 0 := by rcases hty with rfl | ⟨rfl, _⟩ <;> rfl
  exact W.zret (hlocks := hC.2.2.2.2.1) hC.1 hC.2.1 (hC.2.2.2.1.trans hr) hnar (fun t ht hW => ⟨⟨some (.int y), x, g, h, rfl, by unfold mf_rv; rw [hr]; exact ⟨_, rfl, by rw [htg]; exact ⟨y, rfl, hy⟩⟩, by rw [ht]; exact hR, hK⟩, mf_low hC.2.2.2.2.2.2.2.2.1 hF ht⟩) (mf_frees hF) hd
theorem mf_lreturn {x : Int} {K : mf_Kt} (hd : decode Y.2.1 pc = .ok (.lreturn, 1)) (hr : Y.2.2.2 = some .long) (hK : K x g h) : mf_AW C l Y R n0 (mf_Zm C Y n0 n K) X pc lv [(1, x)] n g h := by
  intro p e s m args below meth c H locs ls sv lc hC hX hl0 hL hS hR hF hn
  obtain ⟨v, sv1, rfl, ⟨y, rfl, hy⟩, hS1⟩ := mf_S1 hS
  obtain rfl : sv1 = [] := by cases sv1 with
    | nil => rfl
    | cons a b => exact hS1.elim
  exact W.lret (hlocks := hC.2.2.2.2.1) hC.1 hC.2.1 (hC.2.2.2.1.trans hr) (fun t ht hW => ⟨⟨some (.long y), x, g, h, rfl, by unfold mf_rv; rw [hr]; exact ⟨_, rfl, ⟨y, rfl, hy⟩⟩, by rw [ht]; exact hR, hK⟩, mf_low hC.2.2.2.2.2.2.2.2.1 hF ht⟩) (mf_frees hF) hd
theorem mf_areturn {x : Int} {K : mf_Kt} {ty : FieldType} (hd : decode Y.2.1 pc = .ok (.areturn, 1)) (hr : Y.2.2.2 = some ty) (hty : (∃ n, ty = .object n) ∨ ∃ t, ty = .array t) (hK : K x g h) : mf_AW C l Y R n0 (mf_Zm C Y n0 n K) X pc lv [(2, x)] n g h := by
  intro p e s m args below meth c H locs ls sv lc hC hX hl0 hL hS hR hF hn
  obtain ⟨v, sv1, rfl, hv, hS1⟩ := mf_S1 hS
  obtain rfl : sv1 = [] := by cases sv1 with
    | nil => rfl
    | cons a b => exact hS1.elim
  have htg : mf_tg ty = 2 := by rcases hty with ⟨_, rfl⟩ | ⟨_, rfl⟩ <;> rfl
  exact W.aret (hlocks := hC.2.2.2.2.1) hC.1 hC.2.1 (hC.2.2.2.1.trans hr) hty (mf_ref hv) (fun t ht hW => ⟨⟨some v, x, g, h, rfl, by unfold mf_rv; rw [hr]; exact ⟨_, rfl, by rw [htg]; exact hv⟩, by rw [ht]; exact hR, hK⟩, mf_low hC.2.2.2.2.2.2.2.2.1 hF ht⟩) (mf_frees hF) hd
theorem mf_return {K : mf_Kt} (hd : decode Y.2.1 pc = .ok (.return_, 1)) (hr : Y.2.2.2 = none) (hK : K 0 g h) : mf_AW C l Y R n0 (mf_Zm C Y n0 n K) X pc lv [] n g h := by
  intro p e s m args below meth c H locs ls sv lc hC hX hl0 hL hS hR hF hn
  obtain rfl : sv = [] := by cases sv with
    | nil => rfl
    | cons a b => exact hS.elim
  exact W.vret (hlocks := hC.2.2.2.2.1) hC.1 hC.2.1 (hC.2.2.2.1.trans hr) (fun t ht hW => ⟨⟨none, 0, g, h, rfl, by unfold mf_rv; rw [hr]; exact ⟨rfl, rfl⟩, by rw [ht]; exact hR, hK⟩, mf_low hC.2.2.2.2.2.2.2.2.1 hF ht⟩) (mf_frees hF) hd
end MfCalls
