/-! cells that are made, copies, the text, statics -/
section MfMade
variable {C : mf_G} {l : Launch} {Y : mf_Y} {R : Room} {n0 : Nat} {Z : mf_Zt} {X : mf_Xt} {pc : Nat} {lv : List (Nat × mf_AV)} {st : List mf_AV} {n : Nat} {g h : mf_M}
theorem mf_R.grow {H H1 : Heap} (hR : mf_R C n g h H) (z1 : H1.size = H.size + 1) (o1 : ∀ q : Nat, q < H.size → H1[q]? = H[q]?) (hat : mf_at C n (g n) (h n) H1) : mf_R C (n + 1) g h H1 := by
  have h0 := hR.1
  refine ⟨by omega, fun k hk => ?_⟩
  by_cases e : k = n
  · subst e; exact hat
  · exact (hR.2 k (by omega)).kept (o1 _ (by omega))
theorem mf_F.grow {s : State} {H H1 : Heap} {locs : List Loc} (hF : va_S (fun q : Nat => C.1.1 ≤ q) s.heap H locs) (z1 : H1.size = H.size + 1) (o1 : ∀ q : Nat, q < H.size → H1[q]? = H[q]?) : va_S (fun q : Nat => C.1.1 ≤ q) s.heap H1 locs := by
  have h1 := hF.1
  exact ⟨by omega, fun q g1 g2 => (o1 q (by omega)).trans (hF.2.1 q g1 g2), hF.2.2⟩
def mf_more (R : Room) (n0 n : Nat) : Prop := n + 1 - n0 ≤ R.cells ∧ mf_sl (n + 1) - mf_sl n0 ≤ R.slots
theorem mf_more.use {k : Nat} (hm : mf_more R n0 n) (hn : n0 ≤ n) (hk : mf_ss n = k) : n - n0 + 1 ≤ R.cells ∧ mf_sl n - mf_sl n0 + k ≤ R.slots ∧ n - n0 + 1 = n + 1 - n0 ∧ mf_sl n - mf_sl n0 + k = mf_sl (n + 1) - mf_sl n0 := by
  obtain ⟨h1, h2⟩ := hm
  have h3 := mf_sl_mono hn
  have h4 : mf_sl (n + 1) = mf_sl n + mf_ss n := rfl
  omega
theorem mf_def {ty : FieldType} {gx hx : Int} (hg : gx = -1) (hh : hx = 0) (hn : ty ≠ .float ∧ ty ≠ .double) : mf_V C (mf_tg ty) (defaultValue ty) (if mf_tg ty = 2 then gx else hx) := by
  subst hg; subst hh
  cases ty with
  | float => exact absurd rfl hn.1
  | double => exact absurd rfl hn.2
  | object _ => exact Or.inl ⟨rfl, rfl⟩
  | array _ => exact Or.inl ⟨rfl, rfl⟩
  | long => exact ⟨0, rfl, rfl⟩
  | _ => exact ⟨0, rfl, rfl⟩
theorem mf_new {ci idx : Nat} {r : vw_C} (hd : decode Y.2.1 pc = .ok (.new idx, 3)) (hw : Cond.classLink Y.1.cls idx r.1 ∈ mf_tbl) (hins : Cond.instantiable r.1 r.2.2 ∈ mf_tbl) (hini : Cond.initialized r.1 ∈ mf_tbl) (hr : mf_KL[ci]? = some r) (hfl : ∀ j, j < r.2.2 → mf_fty ci j ≠ .float ∧ mf_fty ci j ≠ .double) (hsh : (mf_sh n).1 = ci) (hm : mf_more R n0 n) (hg : ∀ j : Nat, g n j = -1) (hh : ∀ j : Nat, h n j = 0)
    (kk : mf_AW C l Y R n0 Z X (pc + 3) lv ((2, (n : Int)) :: st) (n + 1) g h) : mf_AW C l Y R n0 Z X pc lv st n g h := by
  intro p e s m args below meth c H locs ls sv lc hC hX hl hL hS hR hF hn
  obtain ⟨hx, hb, hml, hrt, hlk, hown, hts, hK, hsz, hnm, hNw⟩ := id hC
  have hss : mf_ss n = r.2.2 := by unfold mf_ss; rw [hsh, if_pos (mf_ci hr).1, (mf_ci hr).2]
  obtain ⟨m1, m2, m3, m4⟩ := hm.use hn hss
  have hKn := hK.1 ci _ hr
  have h0 := hR.1
  refine W.newcK hx hb hown (hts _ hw) (hts _ hins) (hts _ hini) rfl hd m1 m2 hKn.2.1 rfl fun H1 kC hkC e1 z1 o1 => ?_
  rw [m3, m4]
  have hat : mf_at C n (g n) (h n) H1 := by
    unfold mf_at
    rw [hsh, if_pos (mf_ci hr).1, (mf_ci hr).2]
    refine ⟨_, u_born (mf_fty ci) hts (mf_KLin hr).1 hKn hkC (by rw [← h0]; exact e1) (mf_KLin hr).2.1, fun j hj => ?_⟩
    exact mf_def (hg j) (hh j) (hfl j hj)
  refine kk p e s m args below meth c H1 locs ls _ lc hC hX hl hL ⟨?_, hS⟩ (hR.grow z1 o1 hat) (mf_F.grow hF z1 o1) (by omega)
  show mf_V C 2 (.ref H.size) (n : Int)
  rw [h0]
  exact Or.inr (Or.inr (Or.inr (Or.inr (Or.inr ⟨n, rfl, rfl⟩))))
theorem mf_newa {ty : FieldType} {at_ : ArrayType} {c i N : Nat} {x : Int} (hd : decode Y.2.1 pc = .ok (.newarray at_, 2)) (hw : Cond.arrayClass (newarray.typeOf at_) ∈ mf_tbl) (hty : newarray.typeOf at_ = ty) (hc : mf_sh n = (c, N)) (hx : x = (N : Int)) (h20 : ¬ c < 20) (hca : mf_aty c = ty) (hti : (mf_tys C)[i]? = some (C.2.2 c, ty)) (hfl : ty ≠ .float ∧ ty ≠ .double) (hno : ∀ c, ty ≠ .object c) (hby : N * componentBytes ty ≤ 536870912) (hm : mf_more R n0 n) (hg : ∀ j : Nat, g n j = -1) (hh : ∀ j : Nat, h n j = 0)
    (kk : mf_AW C l Y R n0 Z X (pc + 2) lv ((2, (n : Int)) :: st) (n + 1) g h) : mf_AW C l Y R n0 Z X pc lv ((0, x) :: st) n g h := by
  intro p e s m args below meth cd H locs ls sv lc hC hX hl hL hS hR hF hn
  obtain ⟨vx, sv1, rfl, ⟨y, rfl, hy⟩, hS1⟩ := mf_S1 hS
  obtain ⟨hx0, hb, hml, hrt, hlk, hown, hts, hK, hsz, hnm, hNw⟩ := id hC
  subst hty
  subst hx
  have hss : mf_ss n = N := by unfold mf_ss; rw [hc, if_neg h20]
  obtain ⟨m1, m2, m3, m4⟩ := hm.use hn hss
  have h0 := hR.1
  have hyN : y.toNatClampNeg = N := by rw [mf_clamp hy (by omega)]; omega
  have hy0 : ¬ y < 0 := fun q => by
    have h9 := (mf_lt32 hy (rfl : (0 : Int32).toInt = 0)).mp q
    simp only [show (0 : Int32).toInt = 0 from rfl] at h9
    omega
  refine va_newaK hx0 hb (hts _ hw) rfl hd rfl hy0 hyN hby m1 m2 rfl fun H1 cA e1 z1 o1 hAr hNm => ?_
  rw [m3, m4]
  have hcA : cA = C.2.2 c := by
    have h5 := (hK.2 i _ hti).2
    have h6 : s.vm.findClass ("[" ++ (newarray.typeOf at_).toString) = some (C.2.2 c) := by
      unfold va_RA at h5
      split at h5
      · rename_i c' h7; exact absurd h7 (hno c')
      · exact h5
    exact Option.some.inj (hNm.symm.trans h6)
  have hat : mf_at C n (g n) (h n) H1 := by
    unfold mf_at
    rw [hc, if_neg h20]
    refine ⟨_, by rw [← h0, e1, hcA], fun j hj => ?_⟩
    show mf_V C (mf_tg (mf_aty c)) _ (if mf_tg (mf_aty c) = 2 then g n j else h n j)
    rw [hca]
    exact mf_def (hg j) (hh j) hfl
  refine kk p e s m args below meth cd H1 locs ls _ lc hC hX hl hL ⟨?_, hS1⟩ (hR.grow z1 o1 hat) (mf_F.grow hF z1 o1) (by omega)
  show mf_V C 2 (.ref H.size) (n : Int)
  rw [h0]
  exact Or.inr (Or.inr (Or.inr (Or.inr (Or.inr ⟨n, rfl, rfl⟩))))
theorem mf_anew {idx N : Nat} {x : Int} (hd : decode Y.2.1 pc = .ok (.anewarray idx, 3)) (hw : Cond.classLink Y.1.cls idx "MarginFolk$State" ∈ mf_tbl) (hc : mf_sh n = (25, N)) (hx : x = (N : Int)) (hby : N * 4 ≤ 536870912) (hm : mf_more R n0 n) (hg : ∀ j : Nat, g n j = -1) (hh : ∀ j : Nat, h n j = 0)
    (kk : mf_AW C l Y R n0 Z X (pc + 3) lv ((2, (n : Int)) :: st) (n + 1) g h) : mf_AW C l Y R n0 Z X pc lv ((0, x) :: st) n g h := by
  intro p e s m args below meth cd H locs ls sv lc hC hX hl hL hS hR hF hn
  obtain ⟨vx, sv1, rfl, ⟨y, rfl, hy⟩, hS1⟩ := mf_S1 hS
  obtain ⟨hx0, hb, hml, hrt, hlk, hown, hts, hK, hsz, hnm, hNw⟩ := id hC
  subst hx
  have hss : mf_ss n = N := by unfold mf_ss; rw [hc]; rfl
  obtain ⟨m1, m2, m3, m4⟩ := hm.use hn hss
  have h0 := hR.1
  have hyN : y.toNatClampNeg = N := by rw [mf_clamp hy (by omega)]; omega
  have hy0 : ¬ y < 0 := fun q => by
    have h9 := (mf_lt32 hy (rfl : (0 : Int32).toInt = 0)).mp q
    simp only [show (0 : Int32).toInt = 0 from rfl] at h9
    omega
  subst hyN
  refine W.anew hx0 hb hown (hts _ hw) (va_AO.use hNw.2.2.2.2.2) rfl hd rfl hy0 hby m1 m2 fun cA kA comp f1 f2 f3 f4 => ?_
  rw [m3, m4]
  generalize hH1 : H.push ({ cls := cA, slots := Array.replicate y.toNatClampNeg .null, vm := .none } : Cell) = H1
  have z1 : H1.size = H.size + 1 := by rw [← hH1, Array.size_push]
  have e1 : H1[H.size]? = some (arrV cA y.toNatClampNeg (fun _ => .null)) := by rw [← hH1, Array.getElem?_push_size, ← arrV_new]
  have o1 : ∀ q : Nat, q < H.size → H1[q]? = H[q]? := fun q hq => by rw [← hH1, Array.getElem?_push, if_neg (Nat.ne_of_lt hq)]
  have hcA : cA = C.2.2 25 := by
    obtain ⟨kA', comp', g1, g2, g3, g4⟩ := (hK.2 5 (C.2.2 25, .object "MarginFolk$State") rfl).2
    exact Option.some.inj (f1.symm.trans g4)
  have hat : mf_at C n (g n) (h n) H1 := by
    unfold mf_at
    rw [hc, if_neg (by show ¬ 25 < 20; decide)]
    refine ⟨_, by rw [← h0, e1, hcA], fun j hj => ?_⟩
    exact mf_def (ty := .object "MarginFolk$State") (hg j) (hh j) ⟨by decide, by decide⟩
  refine kk p e s m args below meth cd H1 locs ls _ lc hC hX hl hL ⟨?_, hS1⟩ (hR.grow z1 o1 hat) (mf_F.grow hF z1 o1) (by omega)
  show mf_V C 2 (.ref H.size) (n : Int)
  rw [h0]
  exact Or.inr (Or.inr (Or.inr (Or.inr (Or.inr ⟨n, rfl, rfl⟩))))
theorem mf_aast {a i x : Int} (hd : decode Y.2.1 pc = .ok (.aastore, 1)) {N : Int} (hi : mf_is n a 25) (hN : mf_len a = N) (h0 : 0 ≤ i) (h1 : i < N) (hx : mf_is n x 6) (kk : mf_AW C l Y R n0 Z X (pc + 1) lv st n (mf_up g a i x) h) : mf_AW C l Y R n0 Z X pc lv ((2, x) :: (0, i) :: (2, a) :: st) n g h := by
  intro p e s m args below meth c H locs ls sv lc hC hX hl hL hS hR hF hn
  obtain ⟨vx, vi, w, sv1, rfl, hvx, ⟨j, rfl, hj⟩, hw1, hS1⟩ := mf_S3 hS
  obtain ⟨q, rfl, rfl, hq, hc⟩ := mf_isV hi hw1
  obtain ⟨q', rfl, rfl, hq', hc'⟩ := mf_isV hx hvx
  obtain ⟨f, q1, hf⟩ := mf_arr hR hq hc (by decide)
  obtain ⟨V, ⟨cell, r1, r2, r3, r4⟩, hV⟩ := mf_obj hR hq' hc' (r := (RX6, TX6, 8)) rfl
  obtain ⟨hx0, hb, hml, hrt, hlk, hown, hts, hK, hsz, hnm, hNw⟩ := id hC
  have hl1 : mf_len (q : Int) = ((mf_sh q).2 : Int) := by simp [mf_len]
  rw [← hN, hl1] at h1
  have e2 : ((i.toNat : Nat) : Int) = i := by omega
  obtain ⟨kA, comp, k1, k2, k3, k4⟩ := (hK.2 5 (C.2.2 25, .object "MarginFolk$State") rfl).2
  obtain ⟨-, hfc, kC, hkC, hkind⟩ := hK.1 6 _ (rfl : mf_KL[6]? = some (RX6, TX6, 8))
  have hcomp : comp = C.2.1.1 6 := Option.some.inj (k3.symm.trans hfc)
  refine W.aast (t := .object "MarginFolk$State") (comp := comp) hx0 hb q1 (fun _ h => by cases h) (fun h => by cases h) k1 k2 rfl (by rw [hcomp]; exact hkC) (by rw [arrV_size]; exact ⟨fun z => mf_inb hj h0 h1 (Or.inl z), Nat.not_le.mp (fun z => mf_inb hj h0 h1 (Or.inr z))⟩) r1 (fun _ h => by rw [r3] at h; cases h) (by rw [r2]; exact hkC) (by rw [r2, hcomp]; exact va_assign ⟨hfc, kC, hkC, hkind⟩) rfl rfl hd fun H1 e z oq => ?_
  rw [mf_clamp hj h0] at e ⊢
  refine kk p _ s m args below meth c H1 _ ls _ lc hC hX hl hL hS1 (hR.set z oq (mf_at.seta (t := 2) (x := (q' : Int)) hc (by decide) rfl hf e (Or.inr (Or.inr (Or.inr (Or.inr (Or.inr ⟨q', rfl, rfl⟩))))) ?_ ?_ ?_) ?_ ?_) (hF.put z oq (Nat.le_add_right _ _)) hn
  · simp [mf_up, e2]
  · intro j' hj'; exact mf_up_off (by omega)
  · intro j hj; rfl
  · intro j' hj'; exact mf_up_ne (by omega)
  · intro j hj; rfl
theorem mf_objInit {a : Int} {idx : Nat} (hd : decode Y.2.1 pc = .ok (.invokespecial idx, 3)) (hw : Cond.methodLink Y.1.cls idx Lib.objectInit ∈ mf_tbl) (hin : Cond.instanceMethod Lib.objectInit ∈ mf_tbl) (hco : Cond.code Lib.objectInit ⟨#[0xb1]⟩ 1 none ∈ mf_tbl) (hf : 1 ≤ R.frames) (hlo : mf_words st + 12 ≤ R.locals) (h0 : 0 ≤ a) (kk : mf_AW C l Y R n0 Z X (pc + 3) lv st n g h) : mf_AW C l Y R n0 Z X pc lv ((2, a) :: st) n g h := by
  intro p e s m args below meth c H locs ls sv lc hC hX hl hL hS hR hF hn
  obtain ⟨w, sv1, rfl, hw1, hS1⟩ := mf_S1 hS
  obtain ⟨q, rfl⟩ : ∃ q : Nat, w = .ref q := by
    rcases hw1 with ⟨_, e1⟩ | ⟨_, e1⟩ | ⟨_, e1⟩ | ⟨_, e1⟩ | ⟨e1, _⟩ | ⟨q, e1, _⟩
    · omega
    · omega
    · omega
    · omega
    · omega
    · exact ⟨_, e1⟩
  obtain ⟨hx0, hb, hml, hrt, hlk, hown, hts, hK, hsz, hnm, hNw⟩ := id hC
  exact W.objInit hx0 hb hown (hts _ hw) (hts _ hin) (hts _ hco) rfl (by rw [hml]; exact hl.1) rfl hd hf (by show 2 * 0 + _ + 12 ≤ _; rw [hS1.cats]; omega) (kk p e s m args below meth c H locs ls _ lc hC hX hl hL hS1 hR hF hn)
theorem mf_callIN {Yc : mf_Y} {np d n2 index : Nat} {K : mf_Kt} {as rest : List mf_AV} {a : Int} {host : String} (hd : decode Y.2.1 pc = .ok (.invokespecial index, 3)) (hl : Cond.methodLinkNest Y.1.cls index Yc.1 host ∈ mf_nest) (ok : mf_ok Yc np) (hin : Cond.instanceMethod Yc.1 ∈ mf_tbl) (hy : Yc.1.name = "<init>") (hrn : Yc.2.2.2 = none)
    (hst : st = as.reverse ++ (2, a) :: rest) (hnp : as.length = np) (hw8 : mf_words rest ≤ 8) (hroom : mf_room R d n0 n2) (h2 : n ≤ n2) (h0 : 0 ≤ a) (hM : mf_MT C l d Yc ((2, a) :: as) n n2 g h K)
    (k : ∀ x g' h', K x g' h' → mf_AW C l Y R n0 Z X (pc + 3) lv rest n2 g' h') : mf_AW C l Y R n0 Z X pc lv st n g h := by
  intro p e s m args below meth c H locs ls sv lc hC hX hl0 hL hS hR hF hn
  subst hst
  obtain ⟨vs, ws, rfl, hlen, hS1, hS2⟩ := mf_S.split hS
  obtain ⟨w, sr, rfl, hw1, hS3⟩ := mf_S1 hS2
  obtain ⟨q, rfl⟩ : ∃ q : Nat, w = .ref q := by
    rcases hw1 with ⟨_, e1⟩ | ⟨_, e1⟩ | ⟨_, e1⟩ | ⟨_, e1⟩ | ⟨e1, _⟩ | ⟨q, e1, _⟩
    · omega
    · omega
    · omega
    · omega
    · omega
    · exact ⟨_, e1⟩
  obtain ⟨hx, hb, hml, hrt, hlk, hown, hts, hK, hsz, hnm, hNw⟩ := id hC
  have hrev := hS1.rev
  rw [List.reverse_reverse] at hrev
  have cb := va_cnB (R := R) (rm := mf_rm d n n2) (mc := n2 - n) (ms := mf_sl n2 - mf_sl n) (ret := Yc.2.2.2) (ws := mf_ws Yc) np hts (mf_goodIn ok.1) rfl rfl rfl (hNw.1 _ hl) (hts _ ok.2.1) ok.2.2.1 ⟨hroom.1, by
    have h1 := hroom.2.1
    have h2 := ok.2.2.2
    show 8 + (Yc.2.2.1 + 11) + 64 * d ≤ R.locals
    omega⟩
  rw [hrn] at cb
  refine mf_back h2 hC hX hl0 hL hS3 hR hF hn (va_runIN (As := vs.reverse) (rest := sr) ⟨hx, hb, hml, hown, hts⟩ hM ⟨cb, hy, hts _ hin⟩ ⟨mf_blind, fun U hU hW => ⟨_, rfl, ⟨hw1, hrev⟩, by rw [hU]; exact hR, mf_K.moved hW hK, by rw [hU]; exact hNw.moved hW hF.2.1⟩⟩ rfl (by rw [List.length_reverse, hlen, List.length_reverse, hnp]) hl0.1 (by rw [List.reverse_reverse]) (lv_room (by rw [hS3.cats]; exact hw8)) hd (mf_hf hn h2 hroom)) (by rw [hrn]; exact k)
end MfMade
