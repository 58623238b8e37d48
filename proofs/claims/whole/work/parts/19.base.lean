/-! what the printed rules stand on -/
theorem mf_rr {D D' n0 n1 n2 : Nat} (h : D' + 1 ≤ D) (h2 : n2 ≤ n1) : mf_room (mf_rm D n0 n1) D' n0 n2 := by
  have h3 := mf_sl_mono h2
  refine ⟨h, ?_, ?_, ?_⟩
  · show 64 * (D' + 1) ≤ 64 * D
    omega
  · show n2 - n0 ≤ n1 - n0
    omega
  · show mf_sl n2 - mf_sl n0 ≤ mf_sl n1 - mf_sl n0
    omega
theorem mf_rmf {D n0 n1 k : Nat} (hd : k + 1 ≤ D) : 1 ≤ (mf_rm D n0 n1).frames := by
  show 1 ≤ D
  omega
theorem mf_rml {D n0 n1 k w : Nat} (hd : k + 1 ≤ D) (hw : w ≤ 64) : w ≤ (mf_rm D n0 n1).locals := by
  show w ≤ 64 * D
  omega
theorem mf_SH_small : mf_SH.all (fun q => decide (q.2 < 100000)) = true := by decide +kernel
theorem mf_len_small (a : Int) : mf_len a < 2147483648 := by
  unfold mf_len mf_sh
  rw [List.getD_eq_getElem?_getD]
  cases hq : mf_SH[a.toNat]? with
  | none => simp
  | some q =>
    have h1 := of_decide_eq_true (List.all_eq_true.mp mf_SH_small q (List.mem_of_getElem? hq))
    simp only [Option.getD_some]
    omega
section MfSwitch
variable {C : mf_G} {l : Launch} {Y : mf_Y} {R : Room} {n0 : Nat} {Z : mf_Zt} {X : mf_Xt} {pc : Nat} {lv : List (Nat × mf_AV)} {st : List mf_AV} {n : Nat} {g h : mf_M}
theorem mf_tswO {dflt lo hi : Int} {offs : Array Int} {len : Nat} {x : Int} {tgt : Nat} (hd : decode Y.2.1 pc = .ok (.tableswitch dflt lo hi offs, len)) (hx : x < lo ∨ hi < x) (ht : (pc : Int) + dflt = (tgt : Int)) (k : mf_AW C l Y R n0 Z X tgt lv st n g h) : mf_AW C l Y R n0 Z X pc lv ((0, x) :: st) n g h := by
  intro p e s m args below meth c H locs ls sv lc hC hX hl hL hS hR hF hn
  obtain ⟨vx, sv1, rfl, ⟨a, rfl, ha⟩, hS1⟩ := mf_S1 hS
  exact lv_tableOut hC.1 hC.2.1 hd (by rw [ha]; exact hx) ht (k p e s m args below meth c H locs ls _ lc hC hX hl hL hS1 hR hF hn)
theorem mf_tsw1 {dflt lo hi v off : Int} {offs : Array Int} {len : Nat} {x : Int} {tgt : Nat} (hd : decode Y.2.1 pc = .ok (.tableswitch dflt lo hi offs, len)) (h1 : lo ≤ v) (h2 : v ≤ hi) (ho : offs[(v - lo).toNat]? = some off) (ht : (pc : Int) + off = (tgt : Int)) (kt : x = v → mf_AW C l Y R n0 Z X tgt lv st n g h) (kf : ¬ x = v → mf_AW C l Y R n0 Z X pc lv ((0, x) :: st) n g h) : mf_AW C l Y R n0 Z X pc lv ((0, x) :: st) n g h := by
  by_cases hx : x = v
  · subst hx
    intro p e s m args below meth c H locs ls sv lc hC hX hl hL hS hR hF hn
    obtain ⟨vx, sv1, rfl, ⟨a, rfl, ha⟩, hS1⟩ := mf_S1 hS
    exact lv_tableIn hC.1 hC.2.1 hd (by rw [ha]; omega) (by rw [ha]; omega) (by rw [ha]; exact ho) ht (kt rfl p e s m args below meth c H locs ls _ lc hC hX hl hL hS1 hR hF hn)
  · exact kf hx
theorem mf_lsw1 {dflt v off : Int} {ps : Array (Int × Int)} {len : Nat} {x : Int} {tgt : Nat} (hd : decode Y.2.1 pc = .ok (.lookupswitch dflt ps, len)) (hp : (ps.toList.zip (ps.toList.drop 1)).all (fun (a, next) => a.1 < next.1) = true) (ho : Op.lookupswitch.offset ps.toList dflt v = off) (ht : (pc : Int) + off = (tgt : Int)) (kt : x = v → mf_AW C l Y R n0 Z X tgt lv st n g h) (kf : ¬ x = v → mf_AW C l Y R n0 Z X pc lv ((0, x) :: st) n g h) : mf_AW C l Y R n0 Z X pc lv ((0, x) :: st) n g h := by
  by_cases hx : x = v
  · subst hx
    exact mf_lsw hd hp ho ht (kt rfl)
  · exact kf hx
end MfSwitch
/-- words by their place in a piece of the tables -/
theorem mf_m1 {w : Cond} {i : Nat} (h : tables_1_1[i]? = some w) (hg : goodWord w = true) : w ∈ mf_tbl := List.mem_filter.mpr ⟨List.mem_append_right _ (show w ∈ tables_1 from List.mem_append_left _ (List.mem_of_getElem? h)), hg⟩
theorem mf_m2 {w : Cond} {i : Nat} (h : tables_1_2[i]? = some w) (hg : goodWord w = true) : w ∈ mf_tbl := List.mem_filter.mpr ⟨List.mem_append_right _ (show w ∈ tables_1 from List.mem_append_right _ (List.mem_append_left _ (List.mem_of_getElem? h))), hg⟩
theorem mf_m3 {w : Cond} {i : Nat} (h : tables_1_3[i]? = some w) (hg : goodWord w = true) : w ∈ mf_tbl := List.mem_filter.mpr ⟨List.mem_append_right _ (show w ∈ tables_1 from List.mem_append_right _ (List.mem_append_right _ (List.mem_append_left _ (List.mem_of_getElem? h)))), hg⟩
theorem mf_m4 {w : Cond} {i : Nat} (h : tables_1_4[i]? = some w) (hg : goodWord w = true) : w ∈ mf_tbl := List.mem_filter.mpr ⟨List.mem_append_right _ (show w ∈ tables_1 from List.mem_append_right _ (List.mem_append_right _ (List.mem_append_right _ (List.mem_append_left _ (List.mem_of_getElem? h))))), hg⟩
theorem mf_m5 {w : Cond} {i : Nat} (h : tables_1_5[i]? = some w) (hg : goodWord w = true) : w ∈ mf_tbl := List.mem_filter.mpr ⟨List.mem_append_right _ (show w ∈ tables_1 from List.mem_append_right _ (List.mem_append_right _ (List.mem_append_right _ (List.mem_append_right _ (List.mem_append_left _ (List.mem_of_getElem? h)))))), hg⟩
theorem mf_m6 {w : Cond} {i : Nat} (h : tables_1_6[i]? = some w) (hg : goodWord w = true) : w ∈ mf_tbl := List.mem_filter.mpr ⟨List.mem_append_right _ (show w ∈ tables_1 from List.mem_append_right _ (List.mem_append_right _ (List.mem_append_right _ (List.mem_append_right _ (List.mem_append_right _ (List.mem_append_left _ (List.mem_of_getElem? h))))))), hg⟩
theorem mf_m7 {w : Cond} {i : Nat} (h : tables_1_7[i]? = some w) (hg : goodWord w = true) : w ∈ mf_tbl := List.mem_filter.mpr ⟨List.mem_append_right _ (show w ∈ tables_1 from List.mem_append_right _ (List.mem_append_right _ (List.mem_append_right _ (List.mem_append_right _ (List.mem_append_right _ (List.mem_append_right _ (List.mem_append_left _ (List.mem_of_getElem? h)))))))), hg⟩
theorem mf_m8 {w : Cond} {i : Nat} (h : tables_1_8[i]? = some w) (hg : goodWord w = true) : w ∈ mf_tbl := List.mem_filter.mpr ⟨List.mem_append_right _ (show w ∈ tables_1 from List.mem_append_right _ (List.mem_append_right _ (List.mem_append_right _ (List.mem_append_right _ (List.mem_append_right _ (List.mem_append_right _ (List.mem_append_right _ (List.mem_append_left _ (List.mem_of_getElem? h))))))))), hg⟩
theorem mf_m9 {w : Cond} {i : Nat} (h : tables_1_9[i]? = some w) (hg : goodWord w = true) : w ∈ mf_tbl := List.mem_filter.mpr ⟨List.mem_append_right _ (show w ∈ tables_1 from List.mem_append_right _ (List.mem_append_right _ (List.mem_append_right _ (List.mem_append_right _ (List.mem_append_right _ (List.mem_append_right _ (List.mem_append_right _ (List.mem_append_right _ (List.mem_of_getElem? h))))))))), hg⟩
theorem mf_s1 {y : MethodName} {i n : Nat} (h : lw_privs_1[i]? = some (y, n)) : Cond.selects y.cls y y ∈ mf_tbl := List.mem_filter.mpr ⟨List.mem_append_left _ (List.mem_map.mpr ⟨(y, n), (show (y, n) ∈ lw_privs from List.mem_append_left _ (List.mem_of_getElem? h)), rfl⟩), rfl⟩
theorem mf_s2 {y : MethodName} {i n : Nat} (h : lw_privs_2[i]? = some (y, n)) : Cond.selects y.cls y y ∈ mf_tbl := List.mem_filter.mpr ⟨List.mem_append_left _ (List.mem_map.mpr ⟨(y, n), (show (y, n) ∈ lw_privs from List.mem_append_right _ (List.mem_append_left _ (List.mem_of_getElem? h))), rfl⟩), rfl⟩
theorem mf_s3 {y : MethodName} {i n : Nat} (h : lw_privs_3[i]? = some (y, n)) : Cond.selects y.cls y y ∈ mf_tbl := List.mem_filter.mpr ⟨List.mem_append_left _ (List.mem_map.mpr ⟨(y, n), (show (y, n) ∈ lw_privs from List.mem_append_right _ (List.mem_append_right _ (List.mem_append_left _ (List.mem_of_getElem? h)))), rfl⟩), rfl⟩
theorem mf_s4 {y : MethodName} {i n : Nat} (h : lw_privs_4[i]? = some (y, n)) : Cond.selects y.cls y y ∈ mf_tbl := List.mem_filter.mpr ⟨List.mem_append_left _ (List.mem_map.mpr ⟨(y, n), (show (y, n) ∈ lw_privs from List.mem_append_right _ (List.mem_append_right _ (List.mem_append_right _ (List.mem_append_left _ (List.mem_of_getElem? h))))), rfl⟩), rfl⟩
theorem mf_s5 {y : MethodName} {i n : Nat} (h : lw_privs_5[i]? = some (y, n)) : Cond.selects y.cls y y ∈ mf_tbl := List.mem_filter.mpr ⟨List.mem_append_left _ (List.mem_map.mpr ⟨(y, n), (show (y, n) ∈ lw_privs from List.mem_append_right _ (List.mem_append_right _ (List.mem_append_right _ (List.mem_append_right _ (List.mem_append_left _ (List.mem_of_getElem? h)))))), rfl⟩), rfl⟩
theorem mf_s6 {y : MethodName} {i n : Nat} (h : lw_privs_6[i]? = some (y, n)) : Cond.selects y.cls y y ∈ mf_tbl := List.mem_filter.mpr ⟨List.mem_append_left _ (List.mem_map.mpr ⟨(y, n), (show (y, n) ∈ lw_privs from List.mem_append_right _ (List.mem_append_right _ (List.mem_append_right _ (List.mem_append_right _ (List.mem_append_right _ (List.mem_append_left _ (List.mem_of_getElem? h))))))), rfl⟩), rfl⟩
theorem mf_s7 {y : MethodName} {i n : Nat} (h : lw_privs_7[i]? = some (y, n)) : Cond.selects y.cls y y ∈ mf_tbl := List.mem_filter.mpr ⟨List.mem_append_left _ (List.mem_map.mpr ⟨(y, n), (show (y, n) ∈ lw_privs from List.mem_append_right _ (List.mem_append_right _ (List.mem_append_right _ (List.mem_append_right _ (List.mem_append_right _ (List.mem_append_right _ (List.mem_append_left _ (List.mem_of_getElem? h)))))))), rfl⟩), rfl⟩
theorem mf_s8 {y : MethodName} {i n : Nat} (h : lw_privs_8[i]? = some (y, n)) : Cond.selects y.cls y y ∈ mf_tbl := List.mem_filter.mpr ⟨List.mem_append_left _ (List.mem_map.mpr ⟨(y, n), (show (y, n) ∈ lw_privs from List.mem_append_right _ (List.mem_append_right _ (List.mem_append_right _ (List.mem_append_right _ (List.mem_append_right _ (List.mem_append_right _ (List.mem_append_right _ (List.mem_append_left _ (List.mem_of_getElem? h))))))))), rfl⟩), rfl⟩
theorem mf_s9 {y : MethodName} {i n : Nat} (h : lw_privs_9[i]? = some (y, n)) : Cond.selects y.cls y y ∈ mf_tbl := List.mem_filter.mpr ⟨List.mem_append_left _ (List.mem_map.mpr ⟨(y, n), (show (y, n) ∈ lw_privs from List.mem_append_right _ (List.mem_append_right _ (List.mem_append_right _ (List.mem_append_right _ (List.mem_append_right _ (List.mem_append_right _ (List.mem_append_right _ (List.mem_append_right _ (List.mem_of_getElem? h))))))))), rfl⟩), rfl⟩
theorem mf_ofW {l : Launch} {y : MethodName} {ws ws' : List Cond} {rm : Room} {Pc : Array Value → State → Prop} {Qc : Array Value → State → Outcome → State → Prop} {mc ms : Nat} {free : Addr → Prop} {cc : ByteArray} {maxL : Nat} {ret : Option FieldType}
    (hy : plainFor y = true) (hw : ws = Cond.code y cc maxL ret :: ws')
    (body : ∀ p e s m args below meth c s₁, BodyLoose p l y (headSpec ws rm) cc maxL ret e s m args below meth c s₁ → c.maxLocals = maxL → Pc args s →
      W p l e (headSpec ws rm).room s m args below meth c s.heap [] 0 0 (MQ below Qc args s mc ms free) (entryFrame m args maxL)) : Met l y ws rm Pc Qc mc ms free := by
  refine MetFree.of_bodySF (code := cc) (maxLocals := maxL) (ret := ret) hy ?_ ?_
  · intro args s m h hn
    obtain ⟨meth, c, h1, h2, h3, h4, h5, h6, -, -⟩ := Cond.code_spec hn (atoms_spec (ws := ws) h _ (by rw [hw]; exact List.mem_cons_self))
    exact ⟨meth, c, h1, h2, h3, h4, h5, h6⟩
  · intro p e s m args below meth c s₁ B hml hP _
    have hh0 : s₁.heap = s.heap := by rw [B.state]; rfl
    obtain ⟨t, a1, o, b1, b2, b3⟩ := body p e s m args below meth c s₁ B hml hP s₁ hh0 (Stand.of_body B)
    exact ⟨t, o, a1, b1, b2, ⟨b3.1, b3.2⟩⟩
theorem mf_entryF {C : mf_G} {l : Launch} {Y : mf_Y} {n : Nat} {g h : mf_M} {d n1 : Nat} {as : List mf_AV} {K : mf_Kt} (hp : plainFor Y.1 = true) (hw : mf_words as ≤ Y.2.2.1) (k : mf_AW C l Y (mf_rm d n n1) n (mf_Zm C Y n n1 K) (fun _ _ => True) 0 (mf_args 0 as) [] n g h) : mf_MT C l d Y as n n1 g h K := by
  refine mf_ofW (cc := Y.2.1) (maxL := Y.2.2.1) (ret := Y.2.2.2) hp rfl ?_
  intro p e s m args below meth c s₁ B hml hv
  obtain ⟨vs, rfl, hS, hR, hK, hNw⟩ := hv
  have hts := atoms_spec (ws := mf_ws Y) B.pre
  have hown : s.vm.findClass Y.1.cls = some m.cls := findClass_of_methodNamed B.named
  have hl := lv_entry vs (n := Y.2.2.1) (by rw [mf_S.words hS]; exact hw)
  rw [lg_entry_eq]
  have kk := k p e s m vs.toArray below meth c s.heap [] _ [] _ ⟨B.exec, B.bytes, hml, B.returns, B.notSynchronized, hown, fun w hw => hts w (List.mem_cons_of_mem _ hw), hK, by rw [hR.1]; exact Nat.le_add_right _ _, (name_of_methodNamed B.named B.method).1, hNw⟩ trivial hl (mf_L.args 0 hS) trivial hR va_S.rf (Nat.le_refl n)
  rw [Nat.sub_self, Nat.sub_self] at kk
  exact kk
