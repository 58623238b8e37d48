/-! the start: what the statement gives of it; the law up to its loop -/
theorem lw_m1 {w : Cond} {i : Nat} (h : tables_1_1[i]? = some w) : w ∈ lw_tbl := List.mem_append_right _ (show w ∈ tables_1 from List.mem_append_left _ (List.mem_of_getElem? h))
theorem lw_m2 {w : Cond} {i : Nat} (h : tables_1_2[i]? = some w) : w ∈ lw_tbl := List.mem_append_right _ (show w ∈ tables_1 from List.mem_append_right _ (List.mem_append_left _ (List.mem_of_getElem? h)))
theorem lw_m3 {w : Cond} {i : Nat} (h : tables_1_3[i]? = some w) : w ∈ lw_tbl := List.mem_append_right _ (show w ∈ tables_1 from List.mem_append_right _ (List.mem_append_right _ (List.mem_append_left _ (List.mem_of_getElem? h))))
theorem lw_mt {w : Cond} (h : w ∈ mf_tbl) : w ∈ lw_tbl := (List.mem_filter.mp h).1
set_option maxRecDepth 100000 in
theorem kl_L_7 : Cond.classLink RL 7 RX11 ∈ mf_tbl := mf_m1 (i := 21) rfl rfl
set_option maxRecDepth 100000 in
theorem ml_L_9 : Cond.methodLink RL 9 yX11_init ∈ mf_tbl := mf_m1 (i := 23) rfl rfl
set_option maxRecDepth 100000 in
theorem kl_L_10 : Cond.classLink RL 10 RX12 ∈ mf_tbl := mf_m5 (i := 153) rfl rfl
set_option maxRecDepth 100000 in
theorem ml_L_12 : Cond.methodLink RL 12 yX12_init ∈ mf_tbl := mf_m5 (i := 155) rfl rfl
set_option maxRecDepth 100000 in
theorem in_X11 : Cond.instantiable RX11 20 ∈ mf_tbl := mf_m1 (i := 22) rfl rfl
set_option maxRecDepth 100000 in
theorem ii_X11 : Cond.initialized RX11 ∈ mf_tbl := mf_m1 (i := 1) rfl rfl
set_option maxRecDepth 100000 in
theorem im_X11_init : Cond.instanceMethod yX11_init ∈ mf_tbl := mf_m1 (i := 24) rfl rfl
set_option maxRecDepth 100000 in
theorem in_X12 : Cond.instantiable RX12 106 ∈ mf_tbl := mf_m5 (i := 154) rfl rfl
set_option maxRecDepth 100000 in
theorem ii_X12 : Cond.initialized RX12 ∈ mf_tbl := mf_m1 (i := 17) rfl rfl
set_option maxRecDepth 100000 in
theorem im_X12_init : Cond.instanceMethod yX12_init ∈ mf_tbl := mf_m5 (i := 156) rfl rfl
theorem KLi {ci : Nat} {r : vw_C} (h : mf_KL[ci]? = some r) : Cond.instantiable r.1 r.2.2 ∈ mf_tbl := by
  match ci, h with
  | 0, h => cases h; exact in_X0
  | 1, h => cases h; exact in_X1
  | 2, h => cases h; exact in_X2
  | 3, h => cases h; exact in_X3
  | 4, h => cases h; exact in_X4
  | 5, h => cases h; exact in_X5
  | 6, h => cases h; exact in_X6
  | 7, h => cases h; exact in_X7
  | 8, h => cases h; exact in_X8
  | 9, h => cases h; exact in_X9
  | 10, h => cases h; exact in_X10
  | 11, h => cases h; exact in_X11
  | 12, h => cases h; exact in_X12
  | k + 13, h => simp [mf_KL] at h
theorem st_arr {args : Array Value} {s : State} {ty : FieldType} (hno : ∀ c, ty ≠ .object c) (h : (Cond.arrayClass ty).before args s = true) : ∃ cA : ClassId, ArrOfT s cA ty ∧ va_RA s cA ty := by
  obtain ⟨cA, kA, comp, h1, h2, h3⟩ := Cond.arrayClass_spec h
  refine ⟨cA, fun n z => ⟨fun k h => (by cases h), kA, h2, comp, h3⟩, ?_⟩
  cases ty with
  | object c => exact absurd rfl (hno c)
  | _ => exact h1
theorem st_arrO {args : Array Value} {s : State} {c0 : String} (h : (Cond.arrayOver (.object c0)).before args s = true) : ∃ cA : ClassId, ArrOfT s cA (.object c0) ∧ va_RA s cA (.object c0) := by
  obtain ⟨comp, cA, kA, h1, h2, h3, h4, h5⟩ := Cond.arrayOver_spec h
  exact ⟨cA, fun n z => ⟨fun k h => (by cases h), kA, h3, comp, h4⟩, kA, comp, h3, h4, h1, h5⟩
theorem st_known {args : Array Value} {s : State} (hts : ∀ w ∈ lw_tbl, w.before args s = true) : ∃ (dC : Nat → ClassId) (dI : Nat → Nat → Nat) (dA : Nat → ClassId), ∀ q : Nat × Nat × Nat × Nat, mf_K (q, (dC, dI), dA) s := by
  have htm : ∀ w ∈ mf_tbl, w.before args s = true := fun w hw => hts w (lw_mt hw)
  obtain ⟨k0, i0, hk0⟩ := u_known (C := RX0) (T := TX0) (N := 1) (n := 1) htm mf_inX0 (htm _ in_X0)
  have h0 : ∀ k : Nat, ∃ q : ClassId × (Nat → Nat), ∀ r : vw_C, mf_KL[k]? = some r → u_Kn s r.1 r.2.1 r.2.2 q.1 q.2 := by
    intro k
    cases hr : mf_KL[k]? with
    | none => exact ⟨(k0, i0), fun r h => by cases h⟩
    | some r =>
      obtain ⟨cC, iS, hk⟩ := u_known (C := r.1) (T := r.2.1) (N := r.2.2) (n := r.2.2) htm (mf_KLin hr).1 (htm _ (KLi hr))
      exact ⟨(cC, iS), fun r' h => by cases h; exact hk⟩
  obtain ⟨ad, had⟩ := Classical.axiomOfChoice h0
  obtain ⟨a20, h20⟩ := st_arr (fun c h => FieldType.noConfusion h) (htm _ ac_20)
  obtain ⟨a21, h21⟩ := st_arr (fun c h => FieldType.noConfusion h) (htm _ ac_21)
  obtain ⟨a22, h22⟩ := st_arr (fun c h => FieldType.noConfusion h) (htm _ ac_22)
  obtain ⟨a23, h23⟩ := st_arr (fun c h => FieldType.noConfusion h) (htm _ ac_23)
  obtain ⟨a24, h24⟩ := st_arr (fun c h => FieldType.noConfusion h) (htm _ ac_24)
  obtain ⟨a25, h25⟩ := st_arrO (c0 := "MarginFolk$State") (hts _ (lw_m2 (i := 157) rfl))
  refine ⟨fun k => (ad k).1, fun k => (ad k).2, fun c => if c = 20 then a20 else if c = 21 then a21 else if c = 22 then a22 else if c = 23 then a23 else if c = 24 then a24 else a25, fun q => ⟨fun k r hr => had k r hr, fun k r hr => ?_⟩⟩
  match k, hr with
  | 0, hr =>
    have hr : some (a20, FieldType.int) = some r := hr
    cases hr; exact h20
  | 1, hr =>
    have hr : some (a21, FieldType.byte) = some r := hr
    cases hr; exact h21
  | 2, hr =>
    have hr : some (a22, FieldType.boolean) = some r := hr
    cases hr; exact h22
  | 3, hr =>
    have hr : some (a23, FieldType.char) = some r := hr
    cases hr; exact h23
  | 4, hr =>
    have hr : some (a24, FieldType.long) = some r := hr
    cases hr; exact h24
  | 5, hr =>
    have hr : some (a25, FieldType.object "MarginFolk$State") = some r := hr
    cases hr; exact h25
  | k + 6, hr => simp [mf_tys] at hr
/-- the text's bytes, by their places in what is given -/
def fl_w (j : Nat) : Cond := Cond.eq (.elem (.field (.string "MarginFolk$Words" 15) "java/lang/String" "value" "[B") (.int (Int32.ofNat j))) (.int (mf_lbyt.getD j 0))
set_option maxRecDepth 100000 in
theorem fl_el : ((List.range 174).all (fun j => decide ((flatC (Jvm.Cond.and given_1 narrow_1))[13 + j]? = some (fl_w j)))) = true := by decide +kernel
theorem fl_at {j : Nat} (hj : j < 174) : fl_w j ∈ flatC (Jvm.Cond.and given_1 narrow_1) := List.mem_of_getElem? (of_decide_eq_true (List.all_eq_true.mp fl_el j (List.mem_range.mpr hj)))
set_option maxRecDepth 100000 in
theorem st_text {args : Array Value} {s : State} (h : (Jvm.Cond.and given_1 narrow_1).before args s = true) : ∃ a v : Nat, vk_S 1 [174] [mf_lbyt] (fun _ => a) (fun _ => v) (fun q : Nat => s.heap.size ≤ q) s s.heap ∧ (Term.string "MarginFolk$Words" 15).eval args s none [] s = some (.ref a) := by
  have hs := flat_of_before _ h
  obtain ⟨aK, aV, h1, h2⟩ := vk_Sof (args := args) (s := s) (N := 1) (tm := fun _ => Term.string "MarginFolk$Words" 15) (len := [174]) (byt := [mf_lbyt]) (A := fun q : Nat => s.heap.size ≤ q)
    (fun i hi => by obtain rfl : i = 0 := by omega
                    decide)
    (fun i hi => hs _ (by decide +kernel))
    (fun i hi => hs _ (by decide +kernel))
    (fun i hi => hs _ (by decide +kernel))
    (fun i hi => by obtain rfl : i = 0 := by omega
                    exact hs _ (by decide +kernel))
    (fun i hi j hj => by obtain rfl : i = 0 := by omega
                         exact hs _ (fl_at hj))
    (fun i j hi hj hn => absurd (by omega) hn)
    (fun a ha => Nat.not_le.mpr ha)
  refine ⟨aK 0, aV 0, ⟨fun i hi => ?_, fun i j hi hj _ => by omega⟩, h2 0 (by decide)⟩
  obtain rfl : i = 0 := by omega
  exact h1.1 0 (by decide)
set_option maxRecDepth 100000 in
theorem st_N {args : Array Value} {s : State} (hts : ∀ w ∈ lw_tbl, w.before args s = true) (h : (Jvm.Cond.and given_1 narrow_1).before args s = true) {C : mf_G} (h1 : C.1.1 = s.heap.size) (hT : vk_S 1 [174] [mf_lbyt] (fun _ => C.1.2.1) (fun _ => C.1.2.2.1) (fun q : Nat => s.heap.size ≤ q) s s.heap) (ha : (Term.string "MarginFolk$Words" 15).eval args s none [] s = some (.ref C.1.2.1)) : mf_N C s s.heap := by
  have hs := flat_of_before _ h
  have htm : ∀ w ∈ mf_tbl, w.before args s = true := fun w hw => hts w (lw_mt hw)
  have hA : ∀ a : Nat, a < s.heap.size → ¬ (fun q : Nat => s.heap.size ≤ q) a := fun a ha => Nat.not_le.mpr ha
  unfold mf_N
  rw [h1]
  refine ⟨fun w hw => ?_, vk_R.of (A := args) (hts _ (lw_m1 (i := 35) rfl)) ha, hT, va_Zof (args := args) (hts _ (lw_m1 (i := 45) rfl)) (htm _ (mf_m1 (i := 3) rfl rfl)) (va_eqt (hs _ (by decide +kernel))) hA, va_Zqof (args := args) (hts _ (lw_m1 (i := 61) rfl)) (htm _ (mf_m1 (i := 5) rfl rfl)) (hs _ (by decide +kernel)) hA, va_AO.of (A := args) (hts _ (lw_m2 (i := 157) rfl))⟩
  simp only [mf_nest, List.mem_cons, List.not_mem_nil, or_false] at hw
  rcases hw with rfl | rfl | rfl | rfl | rfl | rfl | rfl | rfl | rfl | rfl | rfl
  · exact va_Nw.of rfl (hts _ (lw_m1 (i := 95) rfl))
  · exact va_Nw.of rfl (hts _ (lw_m1 (i := 162) rfl))
  · exact va_Nw.of rfl (hts _ (lw_m1 (i := 206) rfl))
  · exact va_Nw.of rfl (hts _ (lw_m1 (i := 211) rfl))
  · exact va_Nw.of rfl (hts _ (lw_m1 (i := 214) rfl))
  · exact va_Nw.of rfl (hts _ (lw_m2 (i := 120) rfl))
  · exact va_Nw.of rfl (hts _ (lw_m2 (i := 126) rfl))
  · exact va_Nw.of rfl (hts _ (lw_m2 (i := 158) rfl))
  · exact va_Nw.of rfl (hts _ (lw_m2 (i := 198) rfl))
  · exact va_Nw.of rfl (hts _ (lw_m3 (i := 176) rfl))
  · exact va_Nw.of rfl (hts _ (lw_m3 (i := 215) rfl))
theorem lw_more {n : Nat} (hn : n + 1 ≤ 319) : mf_more room_1 0 n := ⟨Nat.le_trans (show n + 1 - 0 ≤ 319 by omega) (by decide), Nat.le_trans (Nat.sub_le _ _) (Nat.le_trans (mf_sl_mono hn) lw_sl)⟩
theorem lw_roomB : mf_room room_1 200 0 245 := ⟨by decide, by decide, by decide, Nat.le_trans (Nat.sub_le _ _) (Nat.le_trans (mf_sl_mono (by decide)) lw_sl)⟩
set_option maxRecDepth 100000 in
set_option maxHeartbeats 4000000 in
theorem law_start {C : mf_G} {l : Launch} {b L : Nat} {xs : Nat → Int32} (hL : L ≤ 3072) : mf_AW C l YL_law room_1 0 lw_Z (lwX C b L xs) 0 [(0, (2, -3))] [] 0 (fun _ _ => -1) (fun _ _ => 0) := by
  refine mf_new (r := (RX11, TX11, 20)) (ci := 11) (mf_dat eL_law_p0 0 rfl) kl_L_7 in_X11 ii_X11 rfl (by decide) (by decide +kernel) (lw_more (by decide)) (fun _ => rfl) (fun _ => rfl) ?_
  refine mf_dup (mf_dat eL_law_p0 1 rfl) (by decide) ?_
  refine mf_callI (Yc := YX11_init) (d := 200) (n2 := 245) (as := []) (K := fun _ g' h' => g' = gZ ∧ h' = hZ) (mf_dat eL_law_p0 2 rfl) ml_L_9 okX11_init im_X11_init rfl rfl rfl rfl (Nat.le_of_ble_eq_true rfl) lw_roomB (by decide) (by decide) (c11 (by decide) ⟨fun _ _ _ => rfl, fun _ _ _ => rfl⟩ ⟨rfl, rfl⟩) (fun r g' h' e => ?_)
  obtain ⟨rfl, rfl⟩ := e
  refine mf_astore_n (mf_dat eL_law_p0 3 rfl) rfl (by decide) ?_
  refine mf_new (r := (RX12, TX12, 106)) (ci := 12) (mf_dat eL_law_p0 4 rfl) kl_L_10 in_X12 ii_X12 rfl (by decide) (by decide +kernel) (lw_more (by decide)) (fun _ => frsZ.1 _ (Int.le_refl _) _) (fun _ => frsZ.2 _ (Int.le_refl _) _) ?_
  refine mf_dup (mf_dat eL_law_p0 5 rfl) (by decide) ?_
  refine mf_callI (Yc := YX12_init) (d := 200) (n2 := 319) (as := []) (K := fun _ g' h' => lwI S0 g' h') (mf_dat eL_law_p0 6 rfl) ml_L_12 okX12_init im_X12_init rfl rfl rfl rfl (Nat.le_of_ble_eq_true rfl) lw_room (by decide) (by decide) (c12 (by decide) (frsZ.mono (by decide)) (fun g' h' e1 e2 e3 e4 e5 => lwI0 e1 e2 e3 e4 e5)) (fun r g' h' I => ?_)
  refine mf_astore_n (mf_dat eL_law_p0 7 rfl) rfl (by decide) ?_
  refine mf_iconst (v := 0) (mf_dat eL_law_p0 8 rfl) (by decide) ?_
  refine mf_istore_n (mf_dat eL_law_p0 9 rfl) rfl (by decide) ?_
  exact lw_loop hL 3073 0 S0 g' h' (by decide) (by decide) (by omega) I
set_option maxHeartbeats 4000000 in
theorem whole_start {p : Program} {e : Env} {s : State} {m : MethodId} {below : List Frame} {meth : Method} {c : Code} (l : Launch) (hnm : meth.name = yL_law.name) {b L : Nat} {xs : Nat → Int32} (hL : L ≤ 3072) (C0 : lw_At p s m meth c b L xs) : W p l e room_1 s m #[Value.ref b] below meth c s.heap [] 0 0 (lw_Z below #[Value.ref b] s) (entryFrame m ([Value.ref b] : List Value).toArray 4) := by
  obtain ⟨hx, hb, hr, hml, hown, hts, hX, hbl, hlocks, hgv⟩ := C0
  obtain ⟨a, v, hT, hTa⟩ := st_text hgv
  obtain ⟨dC, dI, dA, hK⟩ := st_known hts
  have hl := lv_entry ([.ref b]) (n := 4) (Nat.le_of_ble_eq_true rfl)
  rw [lg_entry_eq]
  generalize (lg_sl ([.ref b]) ++ List.replicate (4 - (lg_sl ([.ref b])).length) Slot.unset).toArray = ls at hl ⊢
  have hl : lv_has ls 4 [(0, .ref b)] := hl
  have kk := law_start (C := ((s.heap.size, a, v, b), (dC, dI), dA)) (l := l) (b := b) (L := L) (xs := xs) hL p e s m #[Value.ref b] below meth c s.heap [] ls [] [(0, .ref b)] ⟨hx, hb, hml, hr, hlocks, hown, fun w hw => hts w (lw_mt hw), hK _, Nat.le_refl _, hnm, st_N hts hgv rfl hT hTa⟩ ⟨rfl, hX, hbl, rfl, rfl⟩ hl ⟨rfl, Or.inr (Or.inr (Or.inl ⟨rfl, rfl⟩)), trivial⟩ trivial ⟨rfl, fun k hk => absurd hk (Nat.not_lt_zero _)⟩ va_S.rf (Nat.le_refl 0)
  rw [Nat.sub_self, Nat.sub_self] at kk
  exact kk
