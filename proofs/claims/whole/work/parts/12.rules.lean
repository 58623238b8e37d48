/-! what the printed rules stand on -/
def mf_dec (cc : ByteArray) (L : List (Nat × Instr × Nat)) : Bool := L.all (fun q => decide (decode cc q.1 = .ok q.2))
theorem mf_dat {cc : ByteArray} {L : List (Nat × Instr × Nat)} (h : mf_dec cc L = true) (k : Nat) {pc len : Nat} {i : Instr} (hk : L[k]? = some (pc, i, len)) : decode cc pc = .ok (i, len) := by
  have h1 := List.all_eq_true.mp h _ (List.mem_of_getElem? hk)
  exact of_decide_eq_true h1
theorem mf_rr {D D' n0 n1 n2 : Nat} (h : D' + 1 ≤ D) (h2 : n2 ≤ n1) : mf_room (mf_rm D n0 n1) D' n0 n2 := by
  have h3 := mf_sl_mono h2
  refine ⟨h, ?_, ?_, ?_⟩
  · show 64 * (D' + 1) ≤ 64 * D
    omega
  · show n2 - n0 ≤ n1 - n0
    omega
  · show mf_sl n2 - mf_sl n0 ≤ mf_sl n1 - mf_sl n0
    omega
theorem mf_rmf {D n0 n1 k : Nat} (hd : k + 1 ≤ D) : 1 ≤ (mf_rm D n0 n1).frames := by
  show 1 ≤ D
  omega
theorem mf_rml {D n0 n1 k w : Nat} (hd : k + 1 ≤ D) (hw : w ≤ 64) : w ≤ (mf_rm D n0 n1).locals := by
  show w ≤ 64 * D
  omega
theorem mf_SH_small : mf_SH.all (fun q => decide (q.2 < 100000)) = true := by decide +kernel
theorem mf_len_small (a : Int) : mf_len a < 2147483648 := by
  unfold mf_len mf_sh
  rw [List.getD_eq_getElem?_getD]
  cases hq : mf_SH[a.toNat]? with
  | none => simp
  | some q =>
    have h1 := of_decide_eq_true (List.all_eq_true.mp mf_SH_small q (List.mem_of_getElem? hq))
    simp only [Option.getD_some]
    omega
section MfSwitch
variable {C : mf_G} {l : Launch} {Y : mf_Y} {R : Room} {n0 : Nat} {Z : mf_Zt} {X : mf_Xt} {pc : Nat} {lv : List (Nat × mf_AV)} {st : List mf_AV} {n : Nat} {g h : mf_M}
theorem mf_tswO {dflt lo hi : Int} {offs : Array Int} {len : Nat} {x : Int} {tgt : Nat} (hd : decode Y.2.1 pc = .ok (.tableswitch dflt lo hi offs, len)) (hx : x < lo ∨ hi < x) (ht : (pc : Int) + dflt = (tgt : Int)) (k : mf_AW C l Y R n0 Z X tgt lv st n g h) : mf_AW C l Y R n0 Z X pc lv ((0, x) :: st) n g h := by
  intro p e s m args below meth c H locs ls sv lc hC hX hl hL hS hR hF hn
  obtain ⟨vx, sv1, rfl, ⟨a, rfl, ha⟩, hS1⟩ := mf_S1 hS
  exact lv_tableOut hC.1 hC.2.1 hd (by rw [ha]; exact hx) ht (k p e s m args below meth c H locs ls _ lc hC hX hl hL hS1 hR hF hn)
theorem mf_tsw1 {dflt lo hi v off : Int} {offs : Array Int} {len : Nat} {x : Int} {tgt : Nat} (hd : decode Y.2.1 pc = .ok (.tableswitch dflt lo hi offs, len)) (h1 : lo ≤ v) (h2 : v ≤ hi) (ho : offs[(v - lo).toNat]? = some off) (ht : (pc : Int) + off = (tgt : Int)) (kt : x = v → mf_AW C l Y R n0 Z X tgt lv st n g h) (kf : ¬ x = v → mf_AW C l Y R n0 Z X pc lv ((0, x) :: st) n g h) : mf_AW C l Y R n0 Z X pc lv ((0, x) :: st) n g h := by
  by_cases hx : x = v
  · subst hx
    intro p e s m args below meth c H locs ls sv lc hC hX hl hL hS hR hF hn
    obtain ⟨vx, sv1, rfl, ⟨a, rfl, ha⟩, hS1⟩ := mf_S1 hS
    exact lv_tableIn hC.1 hC.2.1 hd (by rw [ha]; omega) (by rw [ha]; omega) (by rw [ha]; exact ho) ht (kt rfl p e s m args below meth c H locs ls _ lc hC hX hl hL hS1 hR hF hn)
  · exact kf hx
theorem mf_lsw1 {dflt v off : Int} {ps : Array (Int × Int)} {len : Nat} {x : Int} {tgt : Nat} (hd : decode Y.2.1 pc = .ok (.lookupswitch dflt ps, len)) (hp : (ps.toList.zip (ps.toList.drop 1)).all (fun (a, next) => a.1 < next.1) = true) (ho : Op.lookupswitch.offset ps.toList dflt v = off) (ht : (pc : Int) + off = (tgt : Int)) (kt : x = v → mf_AW C l Y R n0 Z X tgt lv st n g h) (kf : ¬ x = v → mf_AW C l Y R n0 Z X pc lv ((0, x) :: st) n g h) : mf_AW C l Y R n0 Z X pc lv ((0, x) :: st) n g h := by
  by_cases hx : x = v
  · subst hx
    exact mf_lsw hd hp ho ht (kt rfl)
  · exact kf hx
end MfSwitch
/-- words by their place in a piece of the tables -/
theorem mf_m1 {w : Cond} {i : Nat} (h : tables_1_1[i]? = some w) (hg : goodWord w = true) : w ∈ mf_tbl := List.mem_filter.mpr ⟨List.mem_append_right _ (show w ∈ tables_1 from List.mem_append_left _ (List.mem_of_getElem? h)), hg⟩
theorem mf_m2 {w : Cond} {i : Nat} (h : tables_1_2[i]? = some w) (hg : goodWord w = true) : w ∈ mf_tbl := List.mem_filter.mpr ⟨List.mem_append_right _ (show w ∈ tables_1 from List.mem_append_right _ (List.mem_append_left _ (List.mem_of_getElem? h))), hg⟩
theorem mf_m3 {w : Cond} {i : Nat} (h : tables_1_3[i]? = some w) (hg : goodWord w = true) : w ∈ mf_tbl := List.mem_filter.mpr ⟨List.mem_append_right _ (show w ∈ tables_1 from List.mem_append_right _ (List.mem_append_right _ (List.mem_append_left _ (List.mem_of_getElem? h)))), hg⟩
theorem mf_m4 {w : Cond} {i : Nat} (h : tables_1_4[i]? = some w) (hg : goodWord w = true) : w ∈ mf_tbl := List.mem_filter.mpr ⟨List.mem_append_right _ (show w ∈ tables_1 from List.mem_append_right _ (List.mem_append_right _ (List.mem_append_right _ (List.mem_append_left _ (List.mem_of_getElem? h))))), hg⟩
theorem mf_m5 {w : Cond} {i : Nat} (h : tables_1_5[i]? = some w) (hg : goodWord w = true) : w ∈ mf_tbl := List.mem_filter.mpr ⟨List.mem_append_right _ (show w ∈ tables_1 from List.mem_append_right _ (List.mem_append_right _ (List.mem_append_right _ (List.mem_append_right _ (List.mem_append_left _ (List.mem_of_getElem? h)))))), hg⟩
theorem mf_m6 {w : Cond} {i : Nat} (h : tables_1_6[i]? = some w) (hg : goodWord w = true) : w ∈ mf_tbl := List.mem_filter.mpr ⟨List.mem_append_right _ (show w ∈ tables_1 from List.mem_append_right _ (List.mem_append_right _ (List.mem_append_right _ (List.mem_append_right _ (List.mem_append_right _ (List.mem_append_left _ (List.mem_of_getElem? h))))))), hg⟩
theorem mf_m7 {w : Cond} {i : Nat} (h : tables_1_7[i]? = some w) (hg : goodWord w = true) : w ∈ mf_tbl := List.mem_filter.mpr ⟨List.mem_append_right _ (show w ∈ tables_1 from List.mem_append_right _ (List.mem_append_right _ (List.mem_append_right _ (List.mem_append_right _ (List.mem_append_right _ (List.mem_append_right _ (List.mem_append_left _ (List.mem_of_getElem? h)))))))), hg⟩
theorem mf_m8 {w : Cond} {i : Nat} (h : tables_1_8[i]? = some w) (hg : goodWord w = true) : w ∈ mf_tbl := List.mem_filter.mpr ⟨List.mem_append_right _ (show w ∈ tables_1 from List.mem_append_right _ (List.mem_append_right _ (List.mem_append_right _ (List.mem_append_right _ (List.mem_append_right _ (List.mem_append_right _ (List.mem_append_right _ (List.mem_append_left _ (List.mem_of_getElem? h))))))))), hg⟩
theorem mf_m9 {w : Cond} {i : Nat} (h : tables_1_9[i]? = some w) (hg : goodWord w = true) : w ∈ mf_tbl := List.mem_filter.mpr ⟨List.mem_append_right _ (show w ∈ tables_1 from List.mem_append_right _ (List.mem_append_right _ (List.mem_append_right _ (List.mem_append_right _ (List.mem_append_right _ (List.mem_append_right _ (List.mem_append_right _ (List.mem_append_right _ (List.mem_of_getElem? h))))))))), hg⟩
theorem mf_s1 {y : MethodName} {i n : Nat} (h : lw_privs_1[i]? = some (y, n)) : Cond.selects y.cls y y ∈ mf_tbl := List.mem_filter.mpr ⟨List.mem_append_left _ (List.mem_map.mpr ⟨(y, n), (show (y, n) ∈ lw_privs from List.mem_append_left _ (List.mem_of_getElem? h)), rfl⟩), rfl⟩
theorem mf_s2 {y : MethodName} {i n : Nat} (h : lw_privs_2[i]? = some (y, n)) : Cond.selects y.cls y y ∈ mf_tbl := List.mem_filter.mpr ⟨List.mem_append_left _ (List.mem_map.mpr ⟨(y, n), (show (y, n) ∈ lw_privs from List.mem_append_right _ (List.mem_append_left _ (List.mem_of_getElem? h))), rfl⟩), rfl⟩
theorem mf_s3 {y : MethodName} {i n : Nat} (h : lw_privs_3[i]? = some (y, n)) : Cond.selects y.cls y y ∈ mf_tbl := List.mem_filter.mpr ⟨List.mem_append_left _ (List.mem_map.mpr ⟨(y, n), (show (y, n) ∈ lw_privs from List.mem_append_right _ (List.mem_append_right _ (List.mem_append_left _ (List.mem_of_getElem? h)))), rfl⟩), rfl⟩
theorem mf_s4 {y : MethodName} {i n : Nat} (h : lw_privs_4[i]? = some (y, n)) : Cond.selects y.cls y y ∈ mf_tbl := List.mem_filter.mpr ⟨List.mem_append_left _ (List.mem_map.mpr ⟨(y, n), (show (y, n) ∈ lw_privs from List.mem_append_right _ (List.mem_append_right _ (List.mem_append_right _ (List.mem_append_left _ (List.mem_of_getElem? h))))), rfl⟩), rfl⟩
theorem mf_s5 {y : MethodName} {i n : Nat} (h : lw_privs_5[i]? = some (y, n)) : Cond.selects y.cls y y ∈ mf_tbl := List.mem_filter.mpr ⟨List.mem_append_left _ (List.mem_map.mpr ⟨(y, n), (show (y, n) ∈ lw_privs from List.mem_append_right _ (List.mem_append_right _ (List.mem_append_right _ (List.mem_append_right _ (List.mem_append_left _ (List.mem_of_getElem? h)))))), rfl⟩), rfl⟩
theorem mf_s6 {y : MethodName} {i n : Nat} (h : lw_privs_6[i]? = some (y, n)) : Cond.selects y.cls y y ∈ mf_tbl := List.mem_filter.mpr ⟨List.mem_append_left _ (List.mem_map.mpr ⟨(y, n), (show (y, n) ∈ lw_privs from List.mem_append_right _ (List.mem_append_right _ (List.mem_append_right _ (List.mem_append_right _ (List.mem_append_right _ (List.mem_append_left _ (List.mem_of_getElem? h))))))), rfl⟩), rfl⟩
theorem mf_s7 {y : MethodName} {i n : Nat} (h : lw_privs_7[i]? = some (y, n)) : Cond.selects y.cls y y ∈ mf_tbl := List.mem_filter.mpr ⟨List.mem_append_left _ (List.mem_map.mpr ⟨(y, n), (show (y, n) ∈ lw_privs from List.mem_append_right _ (List.mem_append_right _ (List.mem_append_right _ (List.mem_append_right _ (List.mem_append_right _ (List.mem_append_right _ (List.mem_append_left _ (List.mem_of_getElem? h)))))))), rfl⟩), rfl⟩
theorem mf_s8 {y : MethodName} {i n : Nat} (h : lw_privs_8[i]? = some (y, n)) : Cond.selects y.cls y y ∈ mf_tbl := List.mem_filter.mpr ⟨List.mem_append_left _ (List.mem_map.mpr ⟨(y, n), (show (y, n) ∈ lw_privs from List.mem_append_right _ (List.mem_append_right _ (List.mem_append_right _ (List.mem_append_right _ (List.mem_append_right _ (List.mem_append_right _ (List.mem_append_right _ (List.mem_append_left _ (List.mem_of_getElem? h))))))))), rfl⟩), rfl⟩
theorem mf_s9 {y : MethodName} {i n : Nat} (h : lw_privs_9[i]? = some (y, n)) : Cond.selects y.cls y y ∈ mf_tbl := List.mem_filter.mpr ⟨List.mem_append_left _ (List.mem_map.mpr ⟨(y, n), (show (y, n) ∈ lw_privs from List.mem_append_right _ (List.mem_append_right _ (List.mem_append_right _ (List.mem_append_right _ (List.mem_append_right _ (List.mem_append_right _ (List.mem_append_right _ (List.mem_append_right _ (List.mem_of_getElem? h))))))))), rfl⟩), rfl⟩
