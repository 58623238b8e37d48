/-! the words' text and two statics of the JDK, for the one constructor that reads them -/
theorem mf_llen : mf_lbyt.length = 174 := by decide +kernel
def mf_lb (i : Int) : Int := (mf_lbyt.getD i.toNat 0).toInt
section MfText
variable {C : mf_G} {l : Launch} {Y : mf_Y} {R : Room} {n0 : Nat} {Z : mf_Zt} {X : mf_Xt} {pc : Nat} {lv : List (Nat × mf_AV)} {st : List mf_AV} {n : Nat} {g h : mf_M}
theorem mf_ldcS (hd : decode Y.2.1 pc = .ok (.ldc 15, 2)) (hy : Y.1.cls = "MarginFolk$Words") (kk : mf_AW C l Y R n0 Z X (pc + 2) lv ((2, -2) :: st) n g h) : mf_AW C l Y R n0 Z X pc lv st n g h := by
  intro p e s m args below meth c H locs ls sv lc hC hX hl hL hS hR hF hn
  obtain ⟨hx0, hb, hml, hrt, hlk, hown, hts, hK, hsz, hnm, hNw⟩ := id hC
  rw [hy] at hown
  exact va_ldcS hx0 hb hown hNw.2.1 hd (kk p e s m args below meth c H locs ls _ lc hC hX hl hL ⟨Or.inr (Or.inl ⟨rfl, rfl⟩), hS⟩ hR hF hn)
theorem mf_getsC {idx : Nat} (hd : decode Y.2.1 pc = .ok (.getstatic idx, 3)) (hw : Cond.fieldLink Y.1.cls idx "java/lang/String" "COMPACT_STRINGS" "Z" ∈ mf_tbl) (kk : mf_AW C l Y R n0 Z X (pc + 3) lv ((0, 1) :: st) n g h) : mf_AW C l Y R n0 Z X pc lv st n g h := by
  intro p e s m args below meth c H locs ls sv lc hC hX hl hL hS hR hF hn
  obtain ⟨hx0, hb, hml, hrt, hlk, hown, hts, hK, hsz, hnm, hNw⟩ := id hC
  exact va_gets hx0 hb hNw.2.2.2.1 hF hown (hts _ hw) (fun _ h => h) hd (kk p e s m args below meth c H locs ls _ lc hC hX hl hL ⟨⟨1, rfl, rfl⟩, hS⟩ hR hF hn)
theorem mf_getsF {idx : Nat} (hd : decode Y.2.1 pc = .ok (.getstatic idx, 3)) (hw : Cond.fieldLink Y.1.cls idx "jdk/internal/util/Preconditions" "SIOOBE_FORMATTER" "Ljava/util/function/BiFunction;" ∈ mf_tbl) (kk : mf_AW C l Y R n0 Z X (pc + 3) lv ((2, -5) :: st) n g h) : mf_AW C l Y R n0 Z X pc lv st n g h := by
  intro p e s m args below meth c H locs ls sv lc hC hX hl hL hS hR hF hn
  obtain ⟨hx0, hb, hml, hrt, hlk, hown, hts, hK, hsz, hnm, hNw⟩ := id hC
  rcases hNw.2.2.2.2.1 with hz | ⟨t, hz⟩
  · exact va_gets hx0 hb hz hF hown (hts _ hw) (fun _ h => h) hd (kk p e s m args below meth c H locs ls _ lc hC hX hl hL ⟨Or.inr (Or.inr (Or.inr (Or.inr (Or.inl ⟨rfl, Or.inl rfl⟩)))), hS⟩ hR hF hn)
  · exact va_gets hx0 hb hz hF hown (hts _ hw) (fun _ h => h) hd (kk p e s m args below meth c H locs ls _ lc hC hX hl hL ⟨Or.inr (Or.inr (Or.inr (Or.inr (Or.inl ⟨rfl, Or.inr ⟨t, rfl⟩⟩)))), hS⟩ hR hF hn)
theorem mf_isT {v : Value} (hv : mf_V C 2 v (-2)) : v = .ref C.1.2.1 := by
  rcases hv with ⟨_, e⟩ | ⟨hv, _⟩ | ⟨_, e⟩ | ⟨_, e⟩ | ⟨e, _⟩ | ⟨k, _, e⟩
  · omega
  · exact hv
  · omega
  · omega
  · omega
  · omega
theorem mf_isB {v : Value} (hv : mf_V C 2 v (-4)) : v = .ref C.1.2.2.1 := by
  rcases hv with ⟨_, e⟩ | ⟨_, e⟩ | ⟨_, e⟩ | ⟨hv, _⟩ | ⟨e, _⟩ | ⟨k, _, e⟩
  · omega
  · omega
  · omega
  · exact hv
  · omega
  · omega
theorem mf_getV {idx : Nat} (hd : decode Y.2.1 pc = .ok (.getfield idx, 3)) (hw : Cond.fieldLink Y.1.cls idx "java/lang/String" "value" "[B" ∈ mf_tbl) (kk : mf_AW C l Y R n0 Z X (pc + 3) lv ((2, -4) :: st) n g h) : mf_AW C l Y R n0 Z X pc lv ((2, -2) :: st) n g h := by
  intro p e s m args below meth c H locs ls sv lc hC hX hl hL hS hR hF hn
  obtain ⟨w, sv1, rfl, hw1, hS1⟩ := mf_S1 hS
  obtain rfl := mf_isT hw1
  obtain ⟨hx0, hb, hml, hrt, hlk, hown, hts, hK, hsz, hnm, hNw⟩ := id hC
  exact vk_getf hx0 hb (hNw.2.2.1.1 0 (by decide)).2.2.1 hF hown (hts _ hw) (fun _ h => h) hd (kk p e s m args below meth c H locs ls _ lc hC hX hl hL ⟨Or.inr (Or.inr (Or.inr (Or.inl ⟨rfl, rfl⟩))), hS1⟩ hR hF hn)
theorem mf_getCo {idx : Nat} (hd : decode Y.2.1 pc = .ok (.getfield idx, 3)) (hw : Cond.fieldLink Y.1.cls idx "java/lang/String" "coder" "B" ∈ mf_tbl) (kk : mf_AW C l Y R n0 Z X (pc + 3) lv ((0, 0) :: st) n g h) : mf_AW C l Y R n0 Z X pc lv ((2, -2) :: st) n g h := by
  intro p e s m args below meth c H locs ls sv lc hC hX hl hL hS hR hF hn
  obtain ⟨w, sv1, rfl, hw1, hS1⟩ := mf_S1 hS
  obtain rfl := mf_isT hw1
  obtain ⟨hx0, hb, hml, hrt, hlk, hown, hts, hK, hsz, hnm, hNw⟩ := id hC
  exact vk_getf hx0 hb (hNw.2.2.1.1 0 (by decide)).2.1 hF hown (hts _ hw) (fun _ h => h) hd (kk p e s m args below meth c H locs ls _ lc hC hX hl hL ⟨⟨0, rfl, rfl⟩, hS1⟩ hR hF hn)
theorem mf_alenT (hd : decode Y.2.1 pc = .ok (.arraylength, 1)) (kk : mf_AW C l Y R n0 Z X (pc + 1) lv ((0, (mf_lbyt.length : Int)) :: st) n g h) : mf_AW C l Y R n0 Z X pc lv ((2, -4) :: st) n g h := by
  intro p e s m args below meth c H locs ls sv lc hC hX hl hL hS hR hF hn
  obtain ⟨w, sv1, rfl, hw1, hS1⟩ := mf_S1 hS
  obtain rfl := mf_isB hw1
  obtain ⟨hx0, hb, hml, hrt, hlk, hown, hts, hK, hsz, hnm, hNw⟩ := id hC
  exact va_tlen hx0 hb (hNw.2.2.1.1 0 (by decide)).2.2.2 hF rfl hd (kk p e s m args below meth c H locs ls _ lc hC hX hl hL ⟨⟨_, rfl, by decide +kernel⟩, hS1⟩ hR hF hn)
theorem mf_baldT {i : Int} (hd : decode Y.2.1 pc = .ok (.baload, 1)) (h0 : 0 ≤ i) (h1 : i < (mf_lbyt.length : Int)) (kk : mf_AW C l Y R n0 Z X (pc + 1) lv ((0, mf_lb i) :: st) n g h) : mf_AW C l Y R n0 Z X pc lv ((0, i) :: (2, -4) :: st) n g h := by
  intro p e s m args below meth c H locs ls sv lc hC hX hl hL hS hR hF hn
  obtain ⟨vi, w, sv1, rfl, ⟨j, rfl, hj⟩, hw1, hS1⟩ := mf_S2 hS
  obtain rfl := mf_isB hw1
  obtain ⟨hx0, hb, hml, hrt, hlk, hown, hts, hK, hsz, hnm, hNw⟩ := id hC
  refine va_tb hx0 hb (hNw.2.2.1.1 0 (by decide)).2.2.2 hF (mf_inb hj h0 (by rw [mf_llen] at h1; exact h1)) rfl hd (kk p e s m args below meth c H locs ls _ lc hC hX hl hL ⟨⟨_, rfl, ?_⟩, hS1⟩ hR hF hn)
  rw [mf_clamp hj h0]
  rfl
theorem mf_callVT {Yc : mf_Y} {np d n2 index : Nat} {K : mf_Kt} {as rest : List mf_AV} (hd : decode Y.2.1 pc = .ok (.invokevirtual index, 3)) (hl : Cond.methodLink Y.1.cls index Yc.1 ∈ mf_tbl) (ok : mf_ok Yc np) (hin : Cond.instanceMethod Yc.1 ∈ mf_tbl) (hse : Cond.selects Yc.1.cls Yc.1 Yc.1 ∈ mf_tbl) (hcl : Yc.1.cls = "java/lang/String")
    (hst : st = as.reverse ++ (2, -2) :: rest) (hnp : as.length = np) (hw8 : mf_words rest ≤ 8) (hroom : mf_room R d n0 n2) (h2 : n ≤ n2) (hM : mf_MT C l d Yc ((2, -2) :: as) n n2 g h K)
    (k : ∀ x g' h', K x g' h' → mf_AW C l Y R n0 Z X (pc + 3) lv (mf_push Yc.2.2.2 x rest) n2 g' h') : mf_AW C l Y R n0 Z X pc lv st n g h := by
  intro p e s m args below meth c H locs ls sv lc hC hX hl0 hL hS hR hF hn
  subst hst
  obtain ⟨vs, ws, rfl, hlen, hS1, hS2⟩ := mf_S.split hS
  obtain ⟨w, sr, rfl, hw1, hS3⟩ := mf_S1 hS2
  obtain rfl := mf_isT hw1
  obtain ⟨hx, hb, hml, hrt, hlk, hown, hts, hK, hsz, hnm, hNw⟩ := id hC
  have hrev := hS1.rev
  rw [List.reverse_reverse] at hrev
  obtain ⟨cell, q1, q3, q2⟩ := vk_recv (i := 0) hNw.2.2.1 (by decide) hF
  refine mf_back h2 hC hX hl0 hL hS3 hR hF hn (va_runV (As := vs.reverse) (rest := sr) ⟨hx, hb, hml, hown, hts⟩ hM ⟨mf_callB ok hts hl hroom, hts _ hin, hts _ hse⟩ ⟨mf_blind, ⟨cell, q1, q3, by rw [hcl]; exact q2⟩, fun U hU hW => ⟨_, rfl, ⟨hw1, hrev⟩, by rw [hU]; exact hR, mf_K.moved hW hK, by rw [hU]; exact hNw.moved hW hF.2.1⟩⟩ rfl (by rw [List.length_reverse, hlen, List.length_reverse, hnp]) hl0.1 (by rw [List.reverse_reverse]) (lv_room (by rw [hS3.cats]; exact hw8)) hd (mf_hf hn h2 hroom)) k
theorem mf_c16_all : ∀ k, k < 128 → ((Int32.ofNat k).toUInt32 % 65536).toInt32.toInt = (k : Int) ∧ (Int32.ofNat k).toInt = (k : Int) ∧ narrow .char (.int (Int32.ofNat k)) = .int (Int32.ofNat k) ∧ narrow .byte (.int (Int32.ofNat k)) = .int (Int32.ofNat k) := by decide +kernel
theorem mf_small {y : Int32} {x : Int} (hy : y.toInt = x) (h0 : 0 ≤ x) (h1 : x < 128) : ∃ k : Nat, k < 128 ∧ y = Int32.ofNat k ∧ x = (k : Int) := by
  obtain ⟨k, rfl⟩ : ∃ k : Nat, x = (k : Int) := ⟨x.toNat, by omega⟩
  exact ⟨k, by omega, mf_toI (by rw [hy, (mf_c16_all k (by omega)).2.1]), rfl⟩
theorem mf_i2c {x : Int} (hd : decode Y.2.1 pc = .ok (.i2c, 1)) (h0 : 0 ≤ x) (h1 : x < 128) (k : mf_AW C l Y R n0 Z X (pc + 1) lv ((0, x) :: st) n g h) : mf_AW C l Y R n0 Z X pc lv ((0, x) :: st) n g h := by
  intro p e s m args below meth c H locs ls sv lc hC hX hl hL hS hR hF hn
  obtain ⟨vx, sv1, rfl, ⟨a, rfl, ha⟩, hS1⟩ := mf_S1 hS
  obtain ⟨q, hq, rfl, rfl⟩ := mf_small ha h0 h1
  exact lv_i2c hC.1 hC.2.1 hd rfl (k p e s m args below meth c H locs ls _ lc hC hX hl hL ⟨⟨_, rfl, (mf_c16_all q hq).1⟩, hS1⟩ hR hF hn)
theorem mf_creturn {x : Int} {K : mf_Kt} {ty : FieldType} (hd : decode Y.2.1 pc = .ok (.ireturn, 1)) (hr : Y.2.2.2 = some ty) (hty : ty = .char ∨ ty = .byte) (h0 : 0 ≤ x) (h1 : x < 128) (hK : K x g h) : mf_AW C l Y R n0 (mf_Zm C Y n0 n K) X pc lv [(0, x)] n g h := by
  intro p e s m args below meth c H locs ls sv lc hC hX hl0 hL hS hR hF hn
  obtain ⟨v, sv1, rfl, ⟨y, rfl, hy⟩, hS1⟩ := mf_S1 hS
  obtain rfl : sv1 = [] := by cases sv1 with
    | nil => rfl
    | cons a b => exact hS1.elim
  obtain ⟨q, hq, rfl, rfl⟩ := mf_small hy h0 h1
  have hnar : narrow ty (.int (Int32.ofNat q)) = .int (Int32.ofNat q) := by
    rcases hty with rfl | rfl
    · exact (mf_c16_all q hq).2.2.1
    · exact (mf_c16_all q hq).2.2.2
  have htg : mf_tg ty = 0 := by rcases hty with rfl | rfl <;> rfl
  exact W.zret (hlocks := hC.2.2.2.2.1) hC.1 hC.2.1 (hC.2.2.2.1.trans hr) hnar (fun t ht hW => ⟨⟨some (.int (Int32.ofNat q)), q, g, h, rfl, by unfold mf_rv; rw [hr]; exact ⟨_, rfl, by rw [htg]; exact ⟨_, rfl, hy⟩⟩, by rw [ht]; exact hR, hK⟩, mf_low hC.2.2.2.2.2.2.2.2.1 hF ht⟩) (mf_frees hF) hd
end MfText
