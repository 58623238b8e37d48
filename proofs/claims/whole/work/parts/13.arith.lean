theorem mf_lrem_toInt (a m : Int64) : (a - (a / m) * m).toInt = a.toInt.tmod m.toInt := by
  have h1 := Int64.le_toInt (a % m)
  have h2 := Int64.toInt_lt (a % m)
  rw [Int64.toInt_sub, Int64.toInt_mul, Int64.toInt_div, Int.bmod_mul_bmod, Int.sub_bmod_bmod, Int.mul_comm (a.toInt.tdiv m.toInt), ← Int.tmod_def, ← Int64.toInt_mod]
  exact Int.bmod_eq_of_le_mul_two (by omega) (by omega)
section MfArith
variable {C : mf_G} {l : Launch} {Y : mf_Y} {R : Room} {n0 : Nat} {Z : mf_Zt} {X : mf_Xt} {pc : Nat} {lv : List (Nat × mf_AV)} {st : List mf_AV} {n : Nat} {g h : mf_M}
def mf_and (a b : Int) : Int := (Int32.ofInt a &&& Int32.ofInt b).toInt
def mf_or (a b : Int) : Int := (Int32.ofInt a ||| Int32.ofInt b).toInt
def mf_xor (a b : Int) : Int := (Int32.ofInt a ^^^ Int32.ofInt b).toInt
def mf_shl (a b : Int) : Int := (Int32.ofInt a <<< (Int32.ofInt b &&& 31)).toInt
def mf_shr (a b : Int) : Int := (Int32.ofInt a >>> (Int32.ofInt b &&& 31)).toInt
def mf_ushr (a b : Int) : Int := ((Int32.ofInt a).toUInt32 >>> ((Int32.ofInt b).toUInt32 &&& Int32.toUInt32 31)).toInt32.toInt
def mf_land_ (a b : Int) : Int := (Int64.ofInt a &&& Int64.ofInt b).toInt
def mf_b8 (a : Int) : Int := a.bmod 256
theorem mf_iadd {x y : Int} (hd : decode Y.2.1 pc = .ok (.iadd, 1)) (k : mf_AW C l Y R n0 Z X (pc + 1) lv ((0, mf_w32 (x + y)) :: st) n g h) : mf_AW C l Y R n0 Z X pc lv ((0, y) :: (0, x) :: st) n g h := by
  intro p e s m args below meth c H locs ls sv lc hC hX hl hL hS hR hF hn
  obtain ⟨vy, vx, sv1, rfl, ⟨b, rfl, hb⟩, ⟨a, rfl, ha⟩, hS1⟩ := mf_S2 hS
  exact lv_iadd hC.1 hC.2.1 hd (k p e s m args below meth c H locs ls _ lc hC hX hl hL ⟨⟨_, rfl, by rw [Int32.toInt_add, ha, hb]; rfl⟩, hS1⟩ hR hF hn)
theorem mf_isub {x y : Int} (hd : decode Y.2.1 pc = .ok (.isub, 1)) (k : mf_AW C l Y R n0 Z X (pc + 1) lv ((0, mf_w32 (x - y)) :: st) n g h) : mf_AW C l Y R n0 Z X pc lv ((0, y) :: (0, x) :: st) n g h := by
  intro p e s m args below meth c H locs ls sv lc hC hX hl hL hS hR hF hn
  obtain ⟨vy, vx, sv1, rfl, ⟨b, rfl, hb⟩, ⟨a, rfl, ha⟩, hS1⟩ := mf_S2 hS
  exact lv_isub hC.1 hC.2.1 hd (k p e s m args below meth c H locs ls _ lc hC hX hl hL ⟨⟨_, rfl, by rw [Int32.toInt_sub, ha, hb]; rfl⟩, hS1⟩ hR hF hn)
theorem mf_imul {x y : Int} (hd : decode Y.2.1 pc = .ok (.imul, 1)) (k : mf_AW C l Y R n0 Z X (pc + 1) lv ((0, mf_w32 (x * y)) :: st) n g h) : mf_AW C l Y R n0 Z X pc lv ((0, y) :: (0, x) :: st) n g h := by
  intro p e s m args below meth c H locs ls sv lc hC hX hl hL hS hR hF hn
  obtain ⟨vy, vx, sv1, rfl, ⟨b, rfl, hb⟩, ⟨a, rfl, ha⟩, hS1⟩ := mf_S2 hS
  exact lv_imul hC.1 hC.2.1 hd (k p e s m args below meth c H locs ls _ lc hC hX hl hL ⟨⟨_, rfl, by rw [Int32.toInt_mul, ha, hb]; rfl⟩, hS1⟩ hR hF hn)
theorem mf_idiv {x y : Int} (hd : decode Y.2.1 pc = .ok (.idiv, 1)) (hne : ¬ y = 0) (k : mf_AW C l Y R n0 Z X (pc + 1) lv ((0, mf_w32 (x.tdiv y)) :: st) n g h) : mf_AW C l Y R n0 Z X pc lv ((0, y) :: (0, x) :: st) n g h := by
  intro p e s m args below meth c H locs ls sv lc hC hX hl hL hS hR hF hn
  obtain ⟨vy, vx, sv1, rfl, ⟨b, rfl, hb⟩, ⟨a, rfl, ha⟩, hS1⟩ := mf_S2 hS
  exact lv_idiv hC.1 hC.2.1 hd (fun q => hne (by rw [← hb, q]; rfl)) (k p e s m args below meth c H locs ls _ lc hC hX hl hL ⟨⟨_, rfl, by rw [Int32.toInt_div, ha, hb]; rfl⟩, hS1⟩ hR hF hn)
theorem mf_irem {x y : Int} (hd : decode Y.2.1 pc = .ok (.irem, 1)) (hne : ¬ y = 0) (k : mf_AW C l Y R n0 Z X (pc + 1) lv ((0, x.tmod y) :: st) n g h) : mf_AW C l Y R n0 Z X pc lv ((0, y) :: (0, x) :: st) n g h := by
  intro p e s m args below meth c H locs ls sv lc hC hX hl hL hS hR hF hn
  obtain ⟨vy, vx, sv1, rfl, ⟨b, rfl, hb⟩, ⟨a, rfl, ha⟩, hS1⟩ := mf_S2 hS
  exact lv_irem hC.1 hC.2.1 hd (fun q => hne (by rw [← hb, q]; rfl)) (k p e s m args below meth c H locs ls _ lc hC hX hl hL ⟨⟨_, rfl, by rw [rem_toInt, ha, hb]⟩, hS1⟩ hR hF hn)
theorem mf_ladd {x y : Int} (hd : decode Y.2.1 pc = .ok (.ladd, 1)) (k : mf_AW C l Y R n0 Z X (pc + 1) lv ((1, mf_w64 (x + y)) :: st) n g h) : mf_AW C l Y R n0 Z X pc lv ((1, y) :: (1, x) :: st) n g h := by
  intro p e s m args below meth c H locs ls sv lc hC hX hl hL hS hR hF hn
  obtain ⟨vy, vx, sv1, rfl, ⟨b, rfl, hb⟩, ⟨a, rfl, ha⟩, hS1⟩ := mf_S2 hS
  exact lv_ladd hC.1 hC.2.1 hd (k p e s m args below meth c H locs ls _ lc hC hX hl hL ⟨⟨_, rfl, by rw [Int64.toInt_add, ha, hb]; rfl⟩, hS1⟩ hR hF hn)
theorem mf_lsub {x y : Int} (hd : decode Y.2.1 pc = .ok (.lsub, 1)) (k : mf_AW C l Y R n0 Z X (pc + 1) lv ((1, mf_w64 (x - y)) :: st) n g h) : mf_AW C l Y R n0 Z X pc lv ((1, y) :: (1, x) :: st) n g h := by
  intro p e s m args below meth c H locs ls sv lc hC hX hl hL hS hR hF hn
  obtain ⟨vy, vx, sv1, rfl, ⟨b, rfl, hb⟩, ⟨a, rfl, ha⟩, hS1⟩ := mf_S2 hS
  exact lv_lsub hC.1 hC.2.1 hd (k p e s m args below meth c H locs ls _ lc hC hX hl hL ⟨⟨_, rfl, by rw [Int64.toInt_sub, ha, hb]; rfl⟩, hS1⟩ hR hF hn)
theorem mf_lmul {x y : Int} (hd : decode Y.2.1 pc = .ok (.lmul, 1)) (k : mf_AW C l Y R n0 Z X (pc + 1) lv ((1, mf_w64 (x * y)) :: st) n g h) : mf_AW C l Y R n0 Z X pc lv ((1, y) :: (1, x) :: st) n g h := by
  intro p e s m args below meth c H locs ls sv lc hC hX hl hL hS hR hF hn
  obtain ⟨vy, vx, sv1, rfl, ⟨b, rfl, hb⟩, ⟨a, rfl, ha⟩, hS1⟩ := mf_S2 hS
  exact lv_lmul hC.1 hC.2.1 hd (k p e s m args below meth c H locs ls _ lc hC hX hl hL ⟨⟨_, rfl, by rw [Int64.toInt_mul, ha, hb]; rfl⟩, hS1⟩ hR hF hn)
theorem mf_ldiv {x y : Int} (hd : decode Y.2.1 pc = .ok (.ldiv, 1)) (hne : ¬ y = 0) (k : mf_AW C l Y R n0 Z X (pc + 1) lv ((1, mf_w64 (x.tdiv y)) :: st) n g h) : mf_AW C l Y R n0 Z X pc lv ((1, y) :: (1, x) :: st) n g h := by
  intro p e s m args below meth c H locs ls sv lc hC hX hl hL hS hR hF hn
  obtain ⟨vy, vx, sv1, rfl, ⟨b, rfl, hb⟩, ⟨a, rfl, ha⟩, hS1⟩ := mf_S2 hS
  exact lv_ldiv hC.1 hC.2.1 hd (fun q => hne (by rw [← hb, q]; rfl)) (k p e s m args below meth c H locs ls _ lc hC hX hl hL ⟨⟨_, rfl, by rw [Int64.toInt_div, ha, hb]; rfl⟩, hS1⟩ hR hF hn)
theorem mf_lrem {x y : Int} (hd : decode Y.2.1 pc = .ok (.lrem, 1)) (hne : ¬ y = 0) (k : mf_AW C l Y R n0 Z X (pc + 1) lv ((1, x.tmod y) :: st) n g h) : mf_AW C l Y R n0 Z X pc lv ((1, y) :: (1, x) :: st) n g h := by
  intro p e s m args below meth c H locs ls sv lc hC hX hl hL hS hR hF hn
  obtain ⟨vy, vx, sv1, rfl, ⟨b, rfl, hb⟩, ⟨a, rfl, ha⟩, hS1⟩ := mf_S2 hS
  exact lv_lrem hC.1 hC.2.1 hd (fun q => hne (by rw [← hb, q]; rfl)) (k p e s m args below meth c H locs ls _ lc hC hX hl hL ⟨⟨_, rfl, by rw [mf_lrem_toInt, ha, hb]⟩, hS1⟩ hR hF hn)
theorem mf_iand {x y : Int} (hd : decode Y.2.1 pc = .ok (.iand, 1)) (k : mf_AW C l Y R n0 Z X (pc + 1) lv ((0, mf_and x y) :: st) n g h) : mf_AW C l Y R n0 Z X pc lv ((0, y) :: (0, x) :: st) n g h := by
  intro p e s m args below meth c H locs ls sv lc hC hX hl hL hS hR hF hn
  obtain ⟨vy, vx, sv1, rfl, ⟨b, rfl, hb⟩, ⟨a, rfl, ha⟩, hS1⟩ := mf_S2 hS
  exact lv_iand hC.1 hC.2.1 hd (k p e s m args below meth c H locs ls _ lc hC hX hl hL ⟨⟨_, rfl, by rw [← ha, ← hb, mf_and, Int32.ofInt_toInt, Int32.ofInt_toInt]⟩, hS1⟩ hR hF hn)
theorem mf_ior {x y : Int} (hd : decode Y.2.1 pc = .ok (.ior, 1)) (k : mf_AW C l Y R n0 Z X (pc + 1) lv ((0, mf_or x y) :: st) n g h) : mf_AW C l Y R n0 Z X pc lv ((0, y) :: (0, x) :: st) n g h := by
  intro p e s m args below meth c H locs ls sv lc hC hX hl hL hS hR hF hn
  obtain ⟨vy, vx, sv1, rfl, ⟨b, rfl, hb⟩, ⟨a, rfl, ha⟩, hS1⟩ := mf_S2 hS
  exact lv_ior hC.1 hC.2.1 hd (k p e s m args below meth c H locs ls _ lc hC hX hl hL ⟨⟨_, rfl, by rw [← ha, ← hb, mf_or, Int32.ofInt_toInt, Int32.ofInt_toInt]⟩, hS1⟩ hR hF hn)
theorem mf_ixor {x y : Int} (hd : decode Y.2.1 pc = .ok (.ixor, 1)) (k : mf_AW C l Y R n0 Z X (pc + 1) lv ((0, mf_xor x y) :: st) n g h) : mf_AW C l Y R n0 Z X pc lv ((0, y) :: (0, x) :: st) n g h := by
  intro p e s m args below meth c H locs ls sv lc hC hX hl hL hS hR hF hn
  obtain ⟨vy, vx, sv1, rfl, ⟨b, rfl, hb⟩, ⟨a, rfl, ha⟩, hS1⟩ := mf_S2 hS
  exact lv_ixor hC.1 hC.2.1 hd (k p e s m args below meth c H locs ls _ lc hC hX hl hL ⟨⟨_, rfl, by rw [← ha, ← hb, mf_xor, Int32.ofInt_toInt, Int32.ofInt_toInt]⟩, hS1⟩ hR hF hn)
theorem mf_ishl {x y : Int} (hd : decode Y.2.1 pc = .ok (.ishl, 1)) (k : mf_AW C l Y R n0 Z X (pc + 1) lv ((0, mf_shl x y) :: st) n g h) : mf_AW C l Y R n0 Z X pc lv ((0, y) :: (0, x) :: st) n g h := by
  intro p e s m args below meth c H locs ls sv lc hC hX hl hL hS hR hF hn
  obtain ⟨vy, vx, sv1, rfl, ⟨b, rfl, hb⟩, ⟨a, rfl, ha⟩, hS1⟩ := mf_S2 hS
  exact lv_ishl hC.1 hC.2.1 hd (k p e s m args below meth c H locs ls _ lc hC hX hl hL ⟨⟨_, rfl, by rw [← ha, ← hb, mf_shl, Int32.ofInt_toInt, Int32.ofInt_toInt]⟩, hS1⟩ hR hF hn)
theorem mf_ishr {x y : Int} (hd : decode Y.2.1 pc = .ok (.ishr, 1)) (k : mf_AW C l Y R n0 Z X (pc + 1) lv ((0, mf_shr x y) :: st) n g h) : mf_AW C l Y R n0 Z X pc lv ((0, y) :: (0, x) :: st) n g h := by
  intro p e s m args below meth c H locs ls sv lc hC hX hl hL hS hR hF hn
  obtain ⟨vy, vx, sv1, rfl, ⟨b, rfl, hb⟩, ⟨a, rfl, ha⟩, hS1⟩ := mf_S2 hS
  exact lv_ishr hC.1 hC.2.1 hd (k p e s m args below meth c H locs ls _ lc hC hX hl hL ⟨⟨_, rfl, by rw [← ha, ← hb, mf_shr, Int32.ofInt_toInt, Int32.ofInt_toInt]⟩, hS1⟩ hR hF hn)
theorem mf_iushr {x y : Int} (hd : decode Y.2.1 pc = .ok (.iushr, 1)) (k : mf_AW C l Y R n0 Z X (pc + 1) lv ((0, mf_ushr x y) :: st) n g h) : mf_AW C l Y R n0 Z X pc lv ((0, y) :: (0, x) :: st) n g h := by
  intro p e s m args below meth c H locs ls sv lc hC hX hl hL hS hR hF hn
  obtain ⟨vy, vx, sv1, rfl, ⟨b, rfl, hb⟩, ⟨a, rfl, ha⟩, hS1⟩ := mf_S2 hS
  exact lv_iushr hC.1 hC.2.1 hd rfl (k p e s m args below meth c H locs ls _ lc hC hX hl hL ⟨⟨_, rfl, by rw [← ha, ← hb, mf_ushr, Int32.ofInt_toInt, Int32.ofInt_toInt]⟩, hS1⟩ hR hF hn)
theorem mf_land {x y : Int} (hd : decode Y.2.1 pc = .ok (.land, 1)) (k : mf_AW C l Y R n0 Z X (pc + 1) lv ((1, mf_land_ x y) :: st) n g h) : mf_AW C l Y R n0 Z X pc lv ((1, y) :: (1, x) :: st) n g h := by
  intro p e s m args below meth c H locs ls sv lc hC hX hl hL hS hR hF hn
  obtain ⟨vy, vx, sv1, rfl, ⟨b, rfl, hb⟩, ⟨a, rfl, ha⟩, hS1⟩ := mf_S2 hS
  exact lv_land hC.1 hC.2.1 hd (k p e s m args below meth c H locs ls _ lc hC hX hl hL ⟨⟨_, rfl, by rw [← ha, ← hb, mf_land_, Int64.ofInt_toInt, Int64.ofInt_toInt]⟩, hS1⟩ hR hF hn)
theorem mf_ineg {x : Int} (hd : decode Y.2.1 pc = .ok (.ineg, 1)) (k : mf_AW C l Y R n0 Z X (pc + 1) lv ((0, mf_w32 (-x)) :: st) n g h) : mf_AW C l Y R n0 Z X pc lv ((0, x) :: st) n g h := by
  intro p e s m args below meth c H locs ls sv lc hC hX hl hL hS hR hF hn
  obtain ⟨vx, sv1, rfl, ⟨a, rfl, ha⟩, hS1⟩ := mf_S1 hS
  exact lv_ineg hC.1 hC.2.1 hd (k p e s m args below meth c H locs ls _ lc hC hX hl hL ⟨⟨_, rfl, by rw [Int32.toInt_neg, ha]; rfl⟩, hS1⟩ hR hF hn)
theorem mf_lneg {x : Int} (hd : decode Y.2.1 pc = .ok (.lneg, 1)) (k : mf_AW C l Y R n0 Z X (pc + 1) lv ((1, mf_w64 (-x)) :: st) n g h) : mf_AW C l Y R n0 Z X pc lv ((1, x) :: st) n g h := by
  intro p e s m args below meth c H locs ls sv lc hC hX hl hL hS hR hF hn
  obtain ⟨vx, sv1, rfl, ⟨a, rfl, ha⟩, hS1⟩ := mf_S1 hS
  exact lv_lneg hC.1 hC.2.1 hd (k p e s m args below meth c H locs ls _ lc hC hX hl hL ⟨⟨_, rfl, by rw [Int64.toInt_neg, ha]; rfl⟩, hS1⟩ hR hF hn)
theorem mf_i2l {x : Int} (hd : decode Y.2.1 pc = .ok (.i2l, 1)) (k : mf_AW C l Y R n0 Z X (pc + 1) lv ((1, x) :: st) n g h) : mf_AW C l Y R n0 Z X pc lv ((0, x) :: st) n g h := by
  intro p e s m args below meth c H locs ls sv lc hC hX hl hL hS hR hF hn
  obtain ⟨vx, sv1, rfl, ⟨a, rfl, ha⟩, hS1⟩ := mf_S1 hS
  exact lv_i2l hC.1 hC.2.1 hd rfl (k p e s m args below meth c H locs ls _ lc hC hX hl hL ⟨⟨_, rfl, by rw [Int32.toInt_toInt64, ha]⟩, hS1⟩ hR hF hn)
theorem mf_l2i {x : Int} (hd : decode Y.2.1 pc = .ok (.l2i, 1)) (k : mf_AW C l Y R n0 Z X (pc + 1) lv ((0, mf_w32 (x)) :: st) n g h) : mf_AW C l Y R n0 Z X pc lv ((1, x) :: st) n g h := by
  intro p e s m args below meth c H locs ls sv lc hC hX hl hL hS hR hF hn
  obtain ⟨vx, sv1, rfl, ⟨a, rfl, ha⟩, hS1⟩ := mf_S1 hS
  exact lv_l2i hC.1 hC.2.1 hd rfl (k p e s m args below meth c H locs ls _ lc hC hX hl hL ⟨⟨_, rfl, by rw [Int64.toInt_toInt32, ha]; rfl⟩, hS1⟩ hR hF hn)
theorem mf_i2b {x : Int} (hd : decode Y.2.1 pc = .ok (.i2b, 1)) (k : mf_AW C l Y R n0 Z X (pc + 1) lv ((0, mf_b8 x) :: st) n g h) : mf_AW C l Y R n0 Z X pc lv ((0, x) :: st) n g h := by
  intro p e s m args below meth c H locs ls sv lc hC hX hl hL hS hR hF hn
  obtain ⟨vx, sv1, rfl, ⟨a, rfl, ha⟩, hS1⟩ := mf_S1 hS
  exact lv_i2b hC.1 hC.2.1 hd rfl (k p e s m args below meth c H locs ls _ lc hC hX hl hL ⟨⟨_, rfl, by rw [Int8.toInt_toInt32, Int32.toInt_toInt8, ha]; rfl⟩, hS1⟩ hR hF hn)
theorem mf_eq32 {a b : Int32} {x y : Int} (ha : a.toInt = x) (hb : b.toInt = y) : a = b ↔ x = y := by rw [← ha, ← hb, Int32.toInt_inj]
theorem mf_lt32 {a b : Int32} {x y : Int} (ha : a.toInt = x) (hb : b.toInt = y) : a < b ↔ x < y := by rw [← ha, ← hb, Int32.lt_iff_toInt_lt]
theorem mf_le32 {a b : Int32} {x y : Int} (ha : a.toInt = x) (hb : b.toInt = y) : a ≤ b ↔ x ≤ y := by rw [← ha, ← hb, Int32.le_iff_toInt_le]
theorem mf_if_eq {x : Int} {off : Int} {tgt : Nat} (hd : decode Y.2.1 pc = .ok (.ifCond .eq off, 3)) (ht : (pc : Int) + off = (tgt : Int)) (kt : x = 0 → mf_AW C l Y R n0 Z X tgt lv st n g h) (kf : ¬ x = 0 → mf_AW C l Y R n0 Z X (pc + 3) lv st n g h) : mf_AW C l Y R n0 Z X pc lv ((0, x) :: st) n g h := by
  intro p e s m args below meth c H locs ls sv lc hC hX hl hL hS hR hF hn
  obtain ⟨vx, sv1, rfl, ⟨a, rfl, ha⟩, hS1⟩ := mf_S1 hS
  have hq := mf_eq32 ha (rfl : (0 : Int32).toInt = 0)
  exact lv_if_eq hC.1 hC.2.1 hd ht (fun q => kt (hq.mp q) p e s m args below meth c H locs ls _ lc hC hX hl hL hS1 hR hF hn) (fun q => kf (fun z => q (hq.mpr z)) p e s m args below meth c H locs ls _ lc hC hX hl hL hS1 hR hF hn)
theorem mf_icmp_eq {x y : Int} {off : Int} {tgt : Nat} (hd : decode Y.2.1 pc = .ok (.if_icmp .eq off, 3)) (ht : (pc : Int) + off = (tgt : Int)) (kt : x = y → mf_AW C l Y R n0 Z X tgt lv st n g h) (kf : ¬ x = y → mf_AW C l Y R n0 Z X (pc + 3) lv st n g h) : mf_AW C l Y R n0 Z X pc lv ((0, y) :: (0, x) :: st) n g h := by
  intro p e s m args below meth c H locs ls sv lc hC hX hl hL hS hR hF hn
  obtain ⟨vy, vx, sv1, rfl, ⟨b, rfl, hb⟩, ⟨a, rfl, ha⟩, hS1⟩ := mf_S2 hS
  have hq := mf_eq32 ha hb
  exact lv_icmp_eq hC.1 hC.2.1 hd ht (fun q => kt (hq.mp q) p e s m args below meth c H locs ls _ lc hC hX hl hL hS1 hR hF hn) (fun q => kf (fun z => q (hq.mpr z)) p e s m args below meth c H locs ls _ lc hC hX hl hL hS1 hR hF hn)
theorem mf_if_ne {x : Int} {off : Int} {tgt : Nat} (hd : decode Y.2.1 pc = .ok (.ifCond .ne off, 3)) (ht : (pc : Int) + off = (tgt : Int)) (kt : ¬ x = 0 → mf_AW C l Y R n0 Z X tgt lv st n g h) (kf : x = 0 → mf_AW C l Y R n0 Z X (pc + 3) lv st n g h) : mf_AW C l Y R n0 Z X pc lv ((0, x) :: st) n g h := by
  intro p e s m args below meth c H locs ls sv lc hC hX hl hL hS hR hF hn
  obtain ⟨vx, sv1, rfl, ⟨a, rfl, ha⟩, hS1⟩ := mf_S1 hS
  have hq := not_congr (mf_eq32 ha (rfl : (0 : Int32).toInt = 0))
  have hq2 := mf_eq32 ha (rfl : (0 : Int32).toInt = 0)
  exact lv_if_ne hC.1 hC.2.1 hd ht (fun q => kt (hq.mp q) p e s m args below meth c H locs ls _ lc hC hX hl hL hS1 hR hF hn) (fun q => kf (hq2.mp q) p e s m args below meth c H locs ls _ lc hC hX hl hL hS1 hR hF hn)
theorem mf_icmp_ne {x y : Int} {off : Int} {tgt : Nat} (hd : decode Y.2.1 pc = .ok (.if_icmp .ne off, 3)) (ht : (pc : Int) + off = (tgt : Int)) (kt : ¬ x = y → mf_AW C l Y R n0 Z X tgt lv st n g h) (kf : x = y → mf_AW C l Y R n0 Z X (pc + 3) lv st n g h) : mf_AW C l Y R n0 Z X pc lv ((0, y) :: (0, x) :: st) n g h := by
  intro p e s m args below meth c H locs ls sv lc hC hX hl hL hS hR hF hn
  obtain ⟨vy, vx, sv1, rfl, ⟨b, rfl, hb⟩, ⟨a, rfl, ha⟩, hS1⟩ := mf_S2 hS
  have hq := not_congr (mf_eq32 ha hb)
  have hq2 := mf_eq32 ha hb
  exact lv_icmp_ne hC.1 hC.2.1 hd ht (fun q => kt (hq.mp q) p e s m args below meth c H locs ls _ lc hC hX hl hL hS1 hR hF hn) (fun q => kf (hq2.mp q) p e s m args below meth c H locs ls _ lc hC hX hl hL hS1 hR hF hn)
theorem mf_if_lt {x : Int} {off : Int} {tgt : Nat} (hd : decode Y.2.1 pc = .ok (.ifCond .lt off, 3)) (ht : (pc : Int) + off = (tgt : Int)) (kt : x < 0 → mf_AW C l Y R n0 Z X tgt lv st n g h) (kf : ¬ x < 0 → mf_AW C l Y R n0 Z X (pc + 3) lv st n g h) : mf_AW C l Y R n0 Z X pc lv ((0, x) :: st) n g h := by
  intro p e s m args below meth c H locs ls sv lc hC hX hl hL hS hR hF hn
  obtain ⟨vx, sv1, rfl, ⟨a, rfl, ha⟩, hS1⟩ := mf_S1 hS
  have hq := mf_lt32 ha (rfl : (0 : Int32).toInt = 0)
  exact lv_if_lt hC.1 hC.2.1 hd ht (fun q => kt (hq.mp q) p e s m args below meth c H locs ls _ lc hC hX hl hL hS1 hR hF hn) (fun q => kf (fun z => q (hq.mpr z)) p e s m args below meth c H locs ls _ lc hC hX hl hL hS1 hR hF hn)
theorem mf_icmp_lt {x y : Int} {off : Int} {tgt : Nat} (hd : decode Y.2.1 pc = .ok (.if_icmp .lt off, 3)) (ht : (pc : Int) + off = (tgt : Int)) (kt : x < y → mf_AW C l Y R n0 Z X tgt lv st n g h) (kf : ¬ x < y → mf_AW C l Y R n0 Z X (pc + 3) lv st n g h) : mf_AW C l Y R n0 Z X pc lv ((0, y) :: (0, x) :: st) n g h := by
  intro p e s m args below meth c H locs ls sv lc hC hX hl hL hS hR hF hn
  obtain ⟨vy, vx, sv1, rfl, ⟨b, rfl, hb⟩, ⟨a, rfl, ha⟩, hS1⟩ := mf_S2 hS
  have hq := mf_lt32 ha hb
  exact lv_icmp_lt hC.1 hC.2.1 hd ht (fun q => kt (hq.mp q) p e s m args below meth c H locs ls _ lc hC hX hl hL hS1 hR hF hn) (fun q => kf (fun z => q (hq.mpr z)) p e s m args below meth c H locs ls _ lc hC hX hl hL hS1 hR hF hn)
theorem mf_if_ge {x : Int} {off : Int} {tgt : Nat} (hd : decode Y.2.1 pc = .ok (.ifCond .ge off, 3)) (ht : (pc : Int) + off = (tgt : Int)) (kt : 0 ≤ x → mf_AW C l Y R n0 Z X tgt lv st n g h) (kf : ¬ 0 ≤ x → mf_AW C l Y R n0 Z X (pc + 3) lv st n g h) : mf_AW C l Y R n0 Z X pc lv ((0, x) :: st) n g h := by
  intro p e s m args below meth c H locs ls sv lc hC hX hl hL hS hR hF hn
  obtain ⟨vx, sv1, rfl, ⟨a, rfl, ha⟩, hS1⟩ := mf_S1 hS
  have hq := mf_le32 (rfl : (0 : Int32).toInt = 0) ha
  exact lv_if_ge hC.1 hC.2.1 hd ht (fun q => kt (hq.mp q) p e s m args below meth c H locs ls _ lc hC hX hl hL hS1 hR hF hn) (fun q => kf (fun z => q (hq.mpr z)) p e s m args below meth c H locs ls _ lc hC hX hl hL hS1 hR hF hn)
theorem mf_icmp_ge {x y : Int} {off : Int} {tgt : Nat} (hd : decode Y.2.1 pc = .ok (.if_icmp .ge off, 3)) (ht : (pc : Int) + off = (tgt : Int)) (kt : y ≤ x → mf_AW C l Y R n0 Z X tgt lv st n g h) (kf : ¬ y ≤ x → mf_AW C l Y R n0 Z X (pc + 3) lv st n g h) : mf_AW C l Y R n0 Z X pc lv ((0, y) :: (0, x) :: st) n g h := by
  intro p e s m args below meth c H locs ls sv lc hC hX hl hL hS hR hF hn
  obtain ⟨vy, vx, sv1, rfl, ⟨b, rfl, hb⟩, ⟨a, rfl, ha⟩, hS1⟩ := mf_S2 hS
  have hq := mf_le32 hb ha
  exact lv_icmp_ge hC.1 hC.2.1 hd ht (fun q => kt (hq.mp q) p e s m args below meth c H locs ls _ lc hC hX hl hL hS1 hR hF hn) (fun q => kf (fun z => q (hq.mpr z)) p e s m args below meth c H locs ls _ lc hC hX hl hL hS1 hR hF hn)
theorem mf_if_gt {x : Int} {off : Int} {tgt : Nat} (hd : decode Y.2.1 pc = .ok (.ifCond .gt off, 3)) (ht : (pc : Int) + off = (tgt : Int)) (kt : 0 < x → mf_AW C l Y R n0 Z X tgt lv st n g h) (kf : ¬ 0 < x → mf_AW C l Y R n0 Z X (pc + 3) lv st n g h) : mf_AW C l Y R n0 Z X pc lv ((0, x) :: st) n g h := by
  intro p e s m args below meth c H locs ls sv lc hC hX hl hL hS hR hF hn
  obtain ⟨vx, sv1, rfl, ⟨a, rfl, ha⟩, hS1⟩ := mf_S1 hS
  have hq := mf_lt32 (rfl : (0 : Int32).toInt = 0) ha
  exact lv_if_gt hC.1 hC.2.1 hd ht (fun q => kt (hq.mp q) p e s m args below meth c H locs ls _ lc hC hX hl hL hS1 hR hF hn) (fun q => kf (fun z => q (hq.mpr z)) p e s m args below meth c H locs ls _ lc hC hX hl hL hS1 hR hF hn)
theorem mf_icmp_gt {x y : Int} {off : Int} {tgt : Nat} (hd : decode Y.2.1 pc = .ok (.if_icmp .gt off, 3)) (ht : (pc : Int) + off = (tgt : Int)) (kt : y < x → mf_AW C l Y R n0 Z X tgt lv st n g h) (kf : ¬ y < x → mf_AW C l Y R n0 Z X (pc + 3) lv st n g h) : mf_AW C l Y R n0 Z X pc lv ((0, y) :: (0, x) :: st) n g h := by
  intro p e s m args below meth c H locs ls sv lc hC hX hl hL hS hR hF hn
  obtain ⟨vy, vx, sv1, rfl, ⟨b, rfl, hb⟩, ⟨a, rfl, ha⟩, hS1⟩ := mf_S2 hS
  have hq := mf_lt32 hb ha
  exact lv_icmp_gt hC.1 hC.2.1 hd ht (fun q => kt (hq.mp q) p e s m args below meth c H locs ls _ lc hC hX hl hL hS1 hR hF hn) (fun q => kf (fun z => q (hq.mpr z)) p e s m args below meth c H locs ls _ lc hC hX hl hL hS1 hR hF hn)
theorem mf_if_le {x : Int} {off : Int} {tgt : Nat} (hd : decode Y.2.1 pc = .ok (.ifCond .le off, 3)) (ht : (pc : Int) + off = (tgt : Int)) (kt : x ≤ 0 → mf_AW C l Y R n0 Z X tgt lv st n g h) (kf : ¬ x ≤ 0 → mf_AW C l Y R n0 Z X (pc + 3) lv st n g h) : mf_AW C l Y R n0 Z X pc lv ((0, x) :: st) n g h := by
  intro p e s m args below meth c H locs ls sv lc hC hX hl hL hS hR hF hn
  obtain ⟨vx, sv1, rfl, ⟨a, rfl, ha⟩, hS1⟩ := mf_S1 hS
  have hq := mf_le32 ha (rfl : (0 : Int32).toInt = 0)
  exact lv_if_le hC.1 hC.2.1 hd ht (fun q => kt (hq.mp q) p e s m args below meth c H locs ls _ lc hC hX hl hL hS1 hR hF hn) (fun q => kf (fun z => q (hq.mpr z)) p e s m args below meth c H locs ls _ lc hC hX hl hL hS1 hR hF hn)
theorem mf_icmp_le {x y : Int} {off : Int} {tgt : Nat} (hd : decode Y.2.1 pc = .ok (.if_icmp .le off, 3)) (ht : (pc : Int) + off = (tgt : Int)) (kt : x ≤ y → mf_AW C l Y R n0 Z X tgt lv st n g h) (kf : ¬ x ≤ y → mf_AW C l Y R n0 Z X (pc + 3) lv st n g h) : mf_AW C l Y R n0 Z X pc lv ((0, y) :: (0, x) :: st) n g h := by
  intro p e s m args below meth c H locs ls sv lc hC hX hl hL hS hR hF hn
  obtain ⟨vy, vx, sv1, rfl, ⟨b, rfl, hb⟩, ⟨a, rfl, ha⟩, hS1⟩ := mf_S2 hS
  have hq := mf_le32 ha hb
  exact lv_icmp_le hC.1 hC.2.1 hd ht (fun q => kt (hq.mp q) p e s m args below meth c H locs ls _ lc hC hX hl hL hS1 hR hF hn) (fun q => kf (fun z => q (hq.mpr z)) p e s m args below meth c H locs ls _ lc hC hX hl hL hS1 hR hF hn)
theorem mf_lcmp {x y : Int} (hd : decode Y.2.1 pc = .ok (.lcmp, 1)) (k : ∀ z : Int, (0 < z ↔ y < x) → (z = 0 ↔ x = y) → mf_AW C l Y R n0 Z X (pc + 1) lv ((0, z) :: st) n g h) : mf_AW C l Y R n0 Z X pc lv ((1, y) :: (1, x) :: st) n g h := by
  intro p e s m args below meth c H locs ls sv lc hC hX hl hL hS hR hF hn
  obtain ⟨vy, vx, sv1, rfl, ⟨b, rfl, hb⟩, ⟨a, rfl, ha⟩, hS1⟩ := mf_S2 hS
  have e1 : a > b ↔ y < x := by rw [← ha, ← hb]; exact Int64.lt_iff_toInt_lt
  have e2 : a = b ↔ x = y := by rw [← ha, ← hb, Int64.toInt_inj]
  refine W.lcmp hC.1 hC.2.1 hd (k (lg_cmp a b).toInt ?_ ?_ p e s m args below meth c H locs ls _ lc hC hX hl hL ⟨⟨_, rfl, rfl⟩, hS1⟩ hR hF hn)
  · unfold lg_cmp; by_cases h1 : a > b
    · rw [if_pos h1]; exact ⟨fun _ => e1.mp h1, fun _ => by decide⟩
    · rw [if_neg h1]; by_cases h2 : a = b
      · rw [if_pos h2]; exact ⟨fun z => absurd z (by decide), fun z => absurd (e1.mpr z) h1⟩
      · rw [if_neg h2]; exact ⟨fun z => absurd z (by decide), fun z => absurd (e1.mpr z) h1⟩
  · unfold lg_cmp; by_cases h1 : a > b
    · rw [if_pos h1]; exact ⟨fun z => absurd z (by decide), fun z => by have := e1.mp h1; omega⟩
    · rw [if_neg h1]; by_cases h2 : a = b
      · rw [if_pos h2]; exact ⟨fun _ => e2.mp h2, fun _ => rfl⟩
      · rw [if_neg h2]; exact ⟨fun z => absurd z (by decide), fun z => absurd (e2.mpr z) h2⟩
theorem mf_lcmp_eq {x y : Int} {off : Int} {tgt : Nat} (hd : decode Y.2.1 pc = .ok (.lcmp, 1)) (hd1 : decode Y.2.1 (pc + 1) = .ok (.ifCond .eq off, 3)) (ht : ((pc + 1 : Nat) : Int) + off = (tgt : Int)) (kt : x = y → mf_AW C l Y R n0 Z X tgt lv st n g h) (kf : ¬ x = y → mf_AW C l Y R n0 Z X (pc + 1 + 3) lv st n g h) : mf_AW C l Y R n0 Z X pc lv ((1, y) :: (1, x) :: st) n g h := by
  refine mf_lcmp hd (fun z h1 h2 => mf_if_eq hd1 ht (fun q => kt (by omega)) (fun q => kf (by omega)))
theorem mf_lcmp_ne {x y : Int} {off : Int} {tgt : Nat} (hd : decode Y.2.1 pc = .ok (.lcmp, 1)) (hd1 : decode Y.2.1 (pc + 1) = .ok (.ifCond .ne off, 3)) (ht : ((pc + 1 : Nat) : Int) + off = (tgt : Int)) (kt : ¬ x = y → mf_AW C l Y R n0 Z X tgt lv st n g h) (kf : x = y → mf_AW C l Y R n0 Z X (pc + 1 + 3) lv st n g h) : mf_AW C l Y R n0 Z X pc lv ((1, y) :: (1, x) :: st) n g h := by
  refine mf_lcmp hd (fun z h1 h2 => mf_if_ne hd1 ht (fun q => kt (by omega)) (fun q => kf (by omega)))
theorem mf_lcmp_lt {x y : Int} {off : Int} {tgt : Nat} (hd : decode Y.2.1 pc = .ok (.lcmp, 1)) (hd1 : decode Y.2.1 (pc + 1) = .ok (.ifCond .lt off, 3)) (ht : ((pc + 1 : Nat) : Int) + off = (tgt : Int)) (kt : x < y → mf_AW C l Y R n0 Z X tgt lv st n g h) (kf : ¬ x < y → mf_AW C l Y R n0 Z X (pc + 1 + 3) lv st n g h) : mf_AW C l Y R n0 Z X pc lv ((1, y) :: (1, x) :: st) n g h := by
  refine mf_lcmp hd (fun z h1 h2 => mf_if_lt hd1 ht (fun q => kt (by omega)) (fun q => kf (by omega)))
theorem mf_lcmp_ge {x y : Int} {off : Int} {tgt : Nat} (hd : decode Y.2.1 pc = .ok (.lcmp, 1)) (hd1 : decode Y.2.1 (pc + 1) = .ok (.ifCond .ge off, 3)) (ht : ((pc + 1 : Nat) : Int) + off = (tgt : Int)) (kt : y ≤ x → mf_AW C l Y R n0 Z X tgt lv st n g h) (kf : ¬ y ≤ x → mf_AW C l Y R n0 Z X (pc + 1 + 3) lv st n g h) : mf_AW C l Y R n0 Z X pc lv ((1, y) :: (1, x) :: st) n g h := by
  refine mf_lcmp hd (fun z h1 h2 => mf_if_ge hd1 ht (fun q => kt (by omega)) (fun q => kf (by omega)))
theorem mf_lcmp_gt {x y : Int} {off : Int} {tgt : Nat} (hd : decode Y.2.1 pc = .ok (.lcmp, 1)) (hd1 : decode Y.2.1 (pc + 1) = .ok (.ifCond .gt off, 3)) (ht : ((pc + 1 : Nat) : Int) + off = (tgt : Int)) (kt : y < x → mf_AW C l Y R n0 Z X tgt lv st n g h) (kf : ¬ y < x → mf_AW C l Y R n0 Z X (pc + 1 + 3) lv st n g h) : mf_AW C l Y R n0 Z X pc lv ((1, y) :: (1, x) :: st) n g h := by
  refine mf_lcmp hd (fun z h1 h2 => mf_if_gt hd1 ht (fun q => kt (by omega)) (fun q => kf (by omega)))
theorem mf_lcmp_le {x y : Int} {off : Int} {tgt : Nat} (hd : decode Y.2.1 pc = .ok (.lcmp, 1)) (hd1 : decode Y.2.1 (pc + 1) = .ok (.ifCond .le off, 3)) (ht : ((pc + 1 : Nat) : Int) + off = (tgt : Int)) (kt : x ≤ y → mf_AW C l Y R n0 Z X tgt lv st n g h) (kf : ¬ x ≤ y → mf_AW C l Y R n0 Z X (pc + 1 + 3) lv st n g h) : mf_AW C l Y R n0 Z X pc lv ((1, y) :: (1, x) :: st) n g h := by
  refine mf_lcmp hd (fun z h1 h2 => mf_if_le hd1 ht (fun q => kt (by omega)) (fun q => kf (by omega)))
theorem mf_goto {off : Int} {tgt : Nat} (hd : decode Y.2.1 pc = .ok (.goto off, 3)) (ht : (pc : Int) + off = (tgt : Int)) (k : mf_AW C l Y R n0 Z X tgt lv st n g h) : mf_AW C l Y R n0 Z X pc lv st n g h := by
  intro p e s m args below meth c H locs ls sv lc hC hX hl hL hS hR hF hn
  exact lv_goto hC.1 hC.2.1 hd ht (k p e s m args below meth c H locs ls _ lc hC hX hl hL hS hR hF hn)
theorem mf_cat1 {t : Nat} {v : Value} {i : Int} (h : mf_V C t v i) (ht : ¬ t = 1) : v.category = 1 := by
  have h1 := mf_cat h
  rcases lv_cat v with h2 | h2
  · exact h2
  · rw [h2] at h1; exact absurd (by simpa using h1.symm) ht
theorem mf_dup {t : Nat} {x : Int} (hd : decode Y.2.1 pc = .ok (.dup, 1)) (ht : ¬ t = 1) (k : mf_AW C l Y R n0 Z X (pc + 1) lv ((t, x) :: (t, x) :: st) n g h) : mf_AW C l Y R n0 Z X pc lv ((t, x) :: st) n g h := by
  intro p e s m args below meth c H locs ls sv lc hC hX hl hL hS hR hF hn
  obtain ⟨v, sv1, rfl, hv, hS1⟩ := mf_S1 hS
  exact lv_dup hC.1 hC.2.1 hd (mf_cat1 hv ht) (k p e s m args below meth c H locs ls _ lc hC hX hl hL ⟨hv, hv, hS1⟩ hR hF hn)
theorem mf_pop {t : Nat} {x : Int} (hd : decode Y.2.1 pc = .ok (.pop, 1)) (ht : ¬ t = 1) (k : mf_AW C l Y R n0 Z X (pc + 1) lv st n g h) : mf_AW C l Y R n0 Z X pc lv ((t, x) :: st) n g h := by
  intro p e s m args below meth c H locs ls sv lc hC hX hl hL hS hR hF hn
  obtain ⟨v, sv1, rfl, hv, hS1⟩ := mf_S1 hS
  exact lv_pop hC.1 hC.2.1 hd (mf_cat1 hv ht) (k p e s m args below meth c H locs ls _ lc hC hX hl hL hS1 hR hF hn)
theorem mf_dup2 {t u : Nat} {x y : Int} (hd : decode Y.2.1 pc = .ok (.dup2, 1)) (ht : ¬ t = 1) (hu : ¬ u = 1) (k : mf_AW C l Y R n0 Z X (pc + 1) lv ((t, x) :: (u, y) :: (t, x) :: (u, y) :: st) n g h) : mf_AW C l Y R n0 Z X pc lv ((t, x) :: (u, y) :: st) n g h := by
  intro p e s m args below meth c H locs ls sv lc hC hX hl hL hS hR hF hn
  obtain ⟨v, w, sv1, rfl, hv, hw, hS1⟩ := mf_S2 hS
  exact lv_dup2_11 hC.1 hC.2.1 hd (mf_cat1 hv ht) (mf_cat1 hw hu) (k p e s m args below meth c H locs ls _ lc hC hX hl hL ⟨hv, hw, hv, hw, hS1⟩ hR hF hn)
theorem mf_tsw {dflt lo hi : Int} {offs : Array Int} {len : Nat} {x : Int} (hd : decode Y.2.1 pc = .ok (.tableswitch dflt lo hi offs, len)) (k : ∀ tgt : Nat, ((pc : Int) + (if x < lo ∨ hi < x then dflt else offs.getD (x - lo).toNat 0) = (tgt : Int)) → ¬ (¬ (x < lo ∨ hi < x) ∧ offs.size ≤ (x - lo).toNat) → mf_AW C l Y R n0 Z X tgt lv st n g h) (htg : ∃ tgt : Nat, ((pc : Int) + (if x < lo ∨ hi < x then dflt else offs.getD (x - lo).toNat 0) = (tgt : Int)) ∧ ¬ (¬ (x < lo ∨ hi < x) ∧ offs.size ≤ (x - lo).toNat)) : mf_AW C l Y R n0 Z X pc lv ((0, x) :: st) n g h := by
  intro p e s m args below meth c H locs ls sv lc hC hX hl hL hS hR hF hn
  obtain ⟨vx, sv1, rfl, ⟨a, rfl, ha⟩, hS1⟩ := mf_S1 hS
  obtain ⟨tgt, h1, h2⟩ := htg
  have kk := k tgt h1 h2 p e s m args below meth c H locs ls _ lc hC hX hl hL hS1 hR hF hn
  by_cases hc : x < lo ∨ hi < x
  · rw [if_pos hc] at h1
    exact lv_tableOut hC.1 hC.2.1 hd (by rw [ha]; exact hc) h1 kk
  · rw [if_neg hc] at h1
    have hz : (x - lo).toNat < offs.size := Nat.not_le.mp (fun q => h2 ⟨hc, q⟩)
    exact lv_tableIn hC.1 hC.2.1 hd (by rw [ha]; exact fun q => hc (Or.inl q)) (by rw [ha]; exact fun q => hc (Or.inr q)) (off := offs.getD (x - lo).toNat 0) (by rw [ha]; simp [Array.getD_eq_getD_getElem?, hz]) h1 kk
theorem mf_lsw {dflt : Int} {ps : Array (Int × Int)} {len : Nat} {x off : Int} {tgt : Nat} (hd : decode Y.2.1 pc = .ok (.lookupswitch dflt ps, len)) (hp : (ps.toList.zip (ps.toList.drop 1)).all (fun (a, next) => a.1 < next.1) = true) (ho : Op.lookupswitch.offset ps.toList dflt x = off) (ht : (pc : Int) + off = (tgt : Int)) (k : mf_AW C l Y R n0 Z X tgt lv st n g h) : mf_AW C l Y R n0 Z X pc lv ((0, x) :: st) n g h := by
  intro p e s m args below meth c H locs ls sv lc hC hX hl hL hS hR hF hn
  obtain ⟨vx, sv1, rfl, ⟨a, rfl, ha⟩, hS1⟩ := mf_S1 hS
  exact lv_lookup hC.1 hC.2.1 hd hp (by rw [ha]; exact ho) ht (k p e s m args below meth c H locs ls _ lc hC hX hl hL hS1 hR hF hn)
end MfArith
