theorem mf_up_ne {h : mf_M} {a i v b : Int} (hb : b ≠ a) : mf_up h a i v b = h b := by simp only [mf_up, if_neg hb]
theorem mf_up_at (h : mf_M) (a i v : Int) : mf_up h a i v a i = v := by simp [mf_up]
theorem mf_up_off {h : mf_M} {a i v j : Int} (hj : j ≠ i) : mf_up h a i v a j = h a j := by simp [mf_up, hj]
def mf_is (n : Nat) (a : Int) (c : Nat) : Prop := 0 ≤ a ∧ a < (n : Int) ∧ (mf_sh a.toNat).1 = c
def mf_len (a : Int) : Int := ((mf_sh a.toNat).2 : Int)
section MfHeap
variable {C : mf_G} {l : Launch} {Y : mf_Y} {R : Room} {n0 : Nat} {Z : mf_Zt} {X : mf_Xt} {pc : Nat} {lv : List (Nat × mf_AV)} {st : List mf_AV} {n : Nat} {g h : mf_M}
theorem mf_isV {a : Int} {c : Nat} {v : Value} (hi : mf_is n a c) (hv : mf_V C 2 v a) : ∃ k : Nat, v = .ref (C.1.1 + k) ∧ a = (k : Int) ∧ k < n ∧ (mf_sh k).1 = c := by
  obtain ⟨h1, h2, h3⟩ := hi
  rcases hv with ⟨_, e⟩ | ⟨_, e⟩ | ⟨_, e⟩ | ⟨_, e⟩ | ⟨e, _⟩ | ⟨k, e1, e⟩
  · omega
  · omega
  · omega
  · omega
  · omega
  · subst e; exact ⟨k, e1, rfl, by omega, by simpa using h3⟩
theorem mf_ci {ci : Nat} {r : vw_C} (h : mf_KL[ci]? = some r) : ci < 20 ∧ mf_fn ci = r.2.2 := by
  have h1 : ci < 13 := (List.getElem?_eq_some_iff.mp h).1
  exact ⟨by omega, by unfold mf_fn; rw [h]⟩
theorem mf_obj {H : Heap} (hR : mf_R C n g h H) {k ci : Nat} {r : vw_C} (hk : k < n) (hc : (mf_sh k).1 = ci) (hr : mf_KL[ci]? = some r) : ∃ V : Nat → Value, t_OB (C.1.1 + k) (C.2.1.1 ci) r.2.2 (C.2.1.2 ci) H V ∧ ∀ j : Nat, j < r.2.2 → mf_V C (mf_tg (mf_fty ci j)) (V j) (if mf_tg (mf_fty ci j) = 2 then g k j else h k j) := by
  have h1 := hR.2 k hk
  unfold mf_at at h1
  rw [hc, if_pos (mf_ci hr).1, (mf_ci hr).2] at h1
  exact h1
theorem mf_arr {H : Heap} (hR : mf_R C n g h H) {k c : Nat} (hk : k < n) (hc : (mf_sh k).1 = c) (h20 : ¬ c < 20) : ∃ f : Nat → Value, H[C.1.1 + k]? = some (arrV (C.2.2 c) (mf_sh k).2 f) ∧ ∀ j : Nat, j < (mf_sh k).2 → mf_V C (mf_tg (mf_aty c)) (f j) (if mf_tg (mf_aty c) = 2 then g k j else h k j) := by
  have h1 := hR.2 k hk
  unfold mf_at at h1
  rw [hc, if_neg h20] at h1
  exact h1
theorem mf_getf {a v : Int} {ci k idx t : Nat} {r : vw_C} (hd : decode Y.2.1 pc = .ok (.getfield idx, 3)) (hw : Cond.fieldLink Y.1.cls idx (r.2.1 k).1 (r.2.1 k).2.1 (r.2.1 k).2.2.1 ∈ mf_tbl) (hr : mf_KL[ci]? = some r) (hk : k < r.2.2) (ht : mf_tg (mf_fty ci k) = t) (hv : (if t = 2 then g a k else h a k) = v) (hi : mf_is n a ci)
    (kk : mf_AW C l Y R n0 Z X (pc + 3) lv ((t, v) :: st) n g h) : mf_AW C l Y R n0 Z X pc lv ((2, a) :: st) n g h := by
  intro p e s m args below meth c H locs ls sv lc hC hX hl hL hS hR hF hn
  obtain ⟨w, sv1, rfl, hw1, hS1⟩ := mf_S1 hS
  obtain ⟨q, rfl, rfl, hq, hc⟩ := mf_isV hi hw1
  obtain ⟨V, ⟨cell, q1, q2, q3, q4⟩, hV⟩ := mf_obj hR hq hc hr
  obtain ⟨hx, hb, hml, hrt, hlk, hown, hts, hK, hsz, hnm, hNw⟩ := id hC
  obtain ⟨hSl, hfc, kC, hkC, hkind⟩ := hK.1 ci _ hr
  obtain ⟨cf, kf, fi, f, hi1, hsl⟩ := hSl k hk
  refine W.getf hx hb hown (hts _ hw) hi1 (u_facts hfc hkC (u_lays hts (mf_KLin hr).1 hk) hi1).1 q1 (by rw [q3]; exact fun h => by cases h) (v := V k) (by rw [hsl]; exact q4 k hk) rfl rfl hd ?_
  exact kk p e s m args below meth c H locs ls _ lc hC hX hl hL ⟨by have h1 := hV k hk; rw [ht, hv] at h1; exact h1, hS1⟩ hR hF hn
theorem mf_nar {ty : FieldType} {v : Value} {x : Int} (hv : mf_V C (mf_tg ty) v x) (hb : ty = .boolean → x = 0 ∨ x = 1) (hn : ty ≠ .byte ∧ ty ≠ .char ∧ ty ≠ .short ∧ ty ≠ .float ∧ ty ≠ .double) : narrow ty v = v ∧ fits ty v = true := by
  cases ty with
  | boolean =>
    obtain ⟨y, rfl, hy⟩ := hv
    have e : y = 0 ∨ y = 1 := by
      rcases hb rfl with h1 | h1
      · exact Or.inl (Int32.toInt_inj.mp (by rw [hy, h1]; rfl))
      · exact Or.inr (Int32.toInt_inj.mp (by rw [hy, h1]; rfl))
    rcases e with rfl | rfl <;> exact ⟨by decide, by decide⟩
  | int => obtain ⟨y, rfl, hy⟩ := hv; exact ⟨rfl, rfl⟩
  | long => obtain ⟨y, rfl, hy⟩ := hv; exact ⟨rfl, rfl⟩
  | object _ => rcases mf_ref hv with rfl | ⟨b, rfl⟩ <;> exact ⟨rfl, rfl⟩
  | array _ => rcases mf_ref hv with rfl | ⟨b, rfl⟩ <;> exact ⟨rfl, rfl⟩
  | byte => exact absurd rfl hn.1
  | char => exact absurd rfl hn.2.1
  | short => exact absurd rfl hn.2.2.1
  | float => exact absurd rfl hn.2.2.2.1
  | double => exact absurd rfl hn.2.2.2.2
/-- the cell behind a store to a field -/
theorem mf_at.setf {H1 : Heap} {q ci k t : Nat} {r : vw_C} {V : Nat → Value} {cell : Cell} {v : Value} {x : Int} {g' h' : mf_M} {s : State} {args : Array Value} (hts : ∀ w ∈ mf_tbl, w.before args s = true) (hK : mf_K C s) (hc : (mf_sh q).1 = ci) (hr : mf_KL[ci]? = some r) (hk : k < r.2.2) (ht : mf_tg (mf_fty ci k) = t)
    (q2 : cell.cls = C.2.1.1 ci) (q3 : cell.vm = .none) (q4 : ∀ j, j < r.2.2 → cell.slots[C.2.1.2 ci j]? = some (V j)) (hV : ∀ j : Nat, j < r.2.2 → mf_V C (mf_tg (mf_fty ci j)) (V j) (if mf_tg (mf_fty ci j) = 2 then g q j else h q j))
    (e1 : H1[C.1.1 + q]? = some (cell.setSlot (C.2.1.2 ci k) v)) (hv : mf_V C t v x) (hx : (if t = 2 then g' q k else h' q k) = x) (hg : ∀ j : Nat, j ≠ k → g' q j = g q j) (hh : ∀ j : Nat, j ≠ k → h' q j = h q j) : mf_at C q (g' q) (h' q) H1 := by
  unfold mf_at
  rw [hc, if_pos (mf_ci hr).1, (mf_ci hr).2]
  have hap := va_apart (own := r.1) hts (mf_KLin hr).1 (mf_fty ci) (mf_KLin hr).2.1 (mf_KLin hr).2.2 hK hr
  refine ⟨updV V k v, ⟨_, e1, q2, q3, t_set q4 hap hk v⟩, fun j hj => ?_⟩
  by_cases e : j = k
  · subst e
    rw [ht, hx]
    simpa [updV] using hv
  · have e' : updV V k v j = V j := by simp [updV, e]
    rw [e', hg j e, hh j e]
    exact hV j hj
theorem mf_putI {a x kI : Int} {ci k idx t : Nat} {r : vw_C} (hd : decode Y.2.1 pc = .ok (.putfield idx, 3)) (hw : Cond.fieldLink Y.1.cls idx (r.2.1 k).1 (r.2.1 k).2.1 (r.2.1 k).2.2.1 ∈ mf_tbl) (hkI : (k : Int) = kI) (hr : mf_KL[ci]? = some r) (hk : k < r.2.2) (ht : mf_tg (mf_fty ci k) = t) (ht2 : ¬ t = 2) (hfin : (r.2.1 k).2.2.2 = false) (hty : mf_fty ci k ≠ .byte ∧ mf_fty ci k ≠ .char ∧ mf_fty ci k ≠ .short ∧ mf_fty ci k ≠ .float ∧ mf_fty ci k ≠ .double) (hbo : mf_fty ci k = .boolean → x = 0 ∨ x = 1) (hi : mf_is n a ci)
    (kk : mf_AW C l Y R n0 Z X (pc + 3) lv st n g (mf_up h a kI x)) : mf_AW C l Y R n0 Z X pc lv ((t, x) :: (2, a) :: st) n g h := by
  intro p e s m args below meth c H locs ls sv lc hC hX hl hL hS hR hF hn
  subst hkI
  obtain ⟨v, w, sv1, rfl, hv, hw1, hS1⟩ := mf_S2 hS
  obtain ⟨q, rfl, rfl, hq, hc⟩ := mf_isV hi hw1
  obtain ⟨V, ⟨cell, q1, q2, q3, q4⟩, hV⟩ := mf_obj hR hq hc hr
  obtain ⟨hx, hb, hml, hrt, hlk, hown, hts, hK, hsz, hnm, hNw⟩ := id hC
  obtain ⟨hSl, hfc, kC, hkC, hkind⟩ := hK.1 ci _ hr
  obtain ⟨cf, kf, fi, f, hi1, hsl⟩ := hSl k hk
  have hlay := hts _ ((mf_KLin hr).1 _ (u_in_lay hk))
  unfold u_lay at hlay
  have hst := (u_facts hfc hkC (u_lays hts (mf_KLin hr).1 hk) hi1).1
  obtain ⟨hn1, hn2⟩ := mf_nar (ty := mf_fty ci k) (by rw [ht]; exact hv) hbo hty
  rw [if_neg (by rw [hfin]; decide)] at hlay
  have h6 := u_store hfc hkC hkind hlay hi1 ((mf_KLin hr).2.1 k hk) hn1 hn2
  refine W.putK hx hb (f := f) ⟨hown, hts _ hw, ⟨_, _, _, hi1⟩, hst⟩ (by rw [q2]; exact h6) q1 q3 (by rw [hsl]; exact k2_hasslot (q4 k hk)) rfl rfl hd fun H' e1 e2 e3 => ?_
  rw [hsl] at e1 ⊢
  refine kk p e s m args below meth c H' _ ls _ lc hC hX hl hL hS1 (hR.set e2 e3 (mf_at.setf hts hK hc hr hk ht q2 q3 q4 hV e1 hv ?_ ?_ ?_) ?_ ?_) (hF.put e2 e3 (Nat.le_add_right _ _)) hn
  · simp [mf_up, ht2]
  · intro j hj; first | rfl | exact mf_up_off (by omega)
  · intro j hj; first | rfl | exact mf_up_off (by omega)
  · intro j hj; first | rfl | exact mf_up_ne (by omega)
  · intro j hj; first | rfl | exact mf_up_ne (by omega)
theorem mf_putIF {a x kI : Int} {ci k idx t : Nat} {r : vw_C} (hd : decode Y.2.1 pc = .ok (.putfield idx, 3)) (hw : Cond.fieldLink Y.1.cls idx (r.2.1 k).1 (r.2.1 k).2.1 (r.2.1 k).2.2.1 ∈ mf_tbl) (hkI : (k : Int) = kI) (hr : mf_KL[ci]? = some r) (hk : k < r.2.2) (ht : mf_tg (mf_fty ci k) = t) (ht2 : ¬ t = 2) (hfin : (r.2.1 k).2.2.2 = true) (hin : Y.1.name = "<init>") (hdc : (r.2.1 k).1 = Y.1.cls) (hty : mf_fty ci k ≠ .byte ∧ mf_fty ci k ≠ .char ∧ mf_fty ci k ≠ .short ∧ mf_fty ci k ≠ .float ∧ mf_fty ci k ≠ .double) (hbo : mf_fty ci k = .boolean → x = 0 ∨ x = 1) (hi : mf_is n a ci)
    (kk : mf_AW C l Y R n0 Z X (pc + 3) lv st n g (mf_up h a kI x)) : mf_AW C l Y R n0 Z X pc lv ((t, x) :: (2, a) :: st) n g h := by
  intro p e s m args below meth c H locs ls sv lc hC hX hl hL hS hR hF hn
  subst hkI
  obtain ⟨v, w, sv1, rfl, hv, hw1, hS1⟩ := mf_S2 hS
  obtain ⟨q, rfl, rfl, hq, hc⟩ := mf_isV hi hw1
  obtain ⟨V, ⟨cell, q1, q2, q3, q4⟩, hV⟩ := mf_obj hR hq hc hr
  obtain ⟨hx, hb, hml, hrt, hlk, hown, hts, hK, hsz, hnm, hNw⟩ := id hC
  obtain ⟨hSl, hfc, kC, hkC, hkind⟩ := hK.1 ci _ hr
  obtain ⟨cf, kf, fi, f, hi1, hsl⟩ := hSl k hk
  have hlay := hts _ ((mf_KLin hr).1 _ (u_in_lay hk))
  unfold u_lay at hlay
  have hst := (u_facts hfc hkC (u_lays hts (mf_KLin hr).1 hk) hi1).1
  obtain ⟨hn1, hn2⟩ := mf_nar (ty := mf_fty ci k) (by rw [ht]; exact hv) hbo hty
  rw [if_pos hfin] at hlay
  have hcf : m.cls = cf := by
    obtain ⟨_, _, c', _, _, _, -, -, hf', -, -, -, hown2, -⟩ := Cond.laysFinal_spec hlay
    have e1 : c' = cf := by have := hi1.symm.trans hf'; simp at this; exact this.1.symm
    rw [hdc] at hown2
    rw [← e1]; exact Option.some.inj (hown.symm.trans hown2)
  have h6 := u_fits hfc hkC hkind (Or.inr hlay) hi1 ((mf_KLin hr).2.1 k hk) hn1 hn2
  refine W.putFinK hx hb hown (hts _ hw) hi1 hst hcf (by rw [hnm, hin]) (by rw [q2]; exact h6) q1 q3 (by rw [hsl]; exact k2_hasslot (q4 k hk)) rfl rfl hd fun H' e1 e2 e3 => ?_
  rw [hsl] at e1 ⊢
  refine kk p e s m args below meth c H' _ ls _ lc hC hX hl hL hS1 (hR.set e2 e3 (mf_at.setf hts hK hc hr hk ht q2 q3 q4 hV e1 hv ?_ ?_ ?_) ?_ ?_) (hF.put e2 e3 (Nat.le_add_right _ _)) hn
  · simp [mf_up, ht2]
  · intro j hj; first | rfl | exact mf_up_off (by omega)
  · intro j hj; first | rfl | exact mf_up_off (by omega)
  · intro j hj; first | rfl | exact mf_up_ne (by omega)
  · intro j hj; first | rfl | exact mf_up_ne (by omega)
theorem mf_putR {a x kI : Int} {ci k idx t : Nat} {r : vw_C} (hd : decode Y.2.1 pc = .ok (.putfield idx, 3)) (hw : Cond.fieldLink Y.1.cls idx (r.2.1 k).1 (r.2.1 k).2.1 (r.2.1 k).2.2.1 ∈ mf_tbl) (hkI : (k : Int) = kI) (hr : mf_KL[ci]? = some r) (hk : k < r.2.2) (ht : mf_tg (mf_fty ci k) = t) (ht2 : t = 2) (hfin : (r.2.1 k).2.2.2 = false) (hty : mf_fty ci k ≠ .byte ∧ mf_fty ci k ≠ .char ∧ mf_fty ci k ≠ .short ∧ mf_fty ci k ≠ .float ∧ mf_fty ci k ≠ .double) (hbo : mf_fty ci k = .boolean → x = 0 ∨ x = 1) (hi : mf_is n a ci)
    (kk : mf_AW C l Y R n0 Z X (pc + 3) lv st n (mf_up g a kI x) h) : mf_AW C l Y R n0 Z X pc lv ((t, x) :: (2, a) :: st) n g h := by
  intro p e s m args below meth c H locs ls sv lc hC hX hl hL hS hR hF hn
  subst hkI
  obtain ⟨v, w, sv1, rfl, hv, hw1, hS1⟩ := mf_S2 hS
  obtain ⟨q, rfl, rfl, hq, hc⟩ := mf_isV hi hw1
  obtain ⟨V, ⟨cell, q1, q2, q3, q4⟩, hV⟩ := mf_obj hR hq hc hr
  obtain ⟨hx, hb, hml, hrt, hlk, hown, hts, hK, hsz, hnm, hNw⟩ := id hC
  obtain ⟨hSl, hfc, kC, hkC, hkind⟩ := hK.1 ci _ hr
  obtain ⟨cf, kf, fi, f, hi1, hsl⟩ := hSl k hk
  have hlay := hts _ ((mf_KLin hr).1 _ (u_in_lay hk))
  unfold u_lay at hlay
  have hst := (u_facts hfc hkC (u_lays hts (mf_KLin hr).1 hk) hi1).1
  obtain ⟨hn1, hn2⟩ := mf_nar (ty := mf_fty ci k) (by rw [ht]; exact hv) hbo hty
  rw [if_neg (by rw [hfin]; decide)] at hlay
  have h6 := u_store hfc hkC hkind hlay hi1 ((mf_KLin hr).2.1 k hk) hn1 hn2
  refine W.putK hx hb (f := f) ⟨hown, hts _ hw, ⟨_, _, _, hi1⟩, hst⟩ (by rw [q2]; exact h6) q1 q3 (by rw [hsl]; exact k2_hasslot (q4 k hk)) rfl rfl hd fun H' e1 e2 e3 => ?_
  rw [hsl] at e1 ⊢
  refine kk p e s m args below meth c H' _ ls _ lc hC hX hl hL hS1 (hR.set e2 e3 (mf_at.setf hts hK hc hr hk ht q2 q3 q4 hV e1 hv ?_ ?_ ?_) ?_ ?_) (hF.put e2 e3 (Nat.le_add_right _ _)) hn
  · simp [mf_up, ht2]
  · intro j hj; first | rfl | exact mf_up_off (by omega)
  · intro j hj; first | rfl | exact mf_up_off (by omega)
  · intro j hj; first | rfl | exact mf_up_ne (by omega)
  · intro j hj; first | rfl | exact mf_up_ne (by omega)
theorem mf_putRF {a x kI : Int} {ci k idx t : Nat} {r : vw_C} (hd : decode Y.2.1 pc = .ok (.putfield idx, 3)) (hw : Cond.fieldLink Y.1.cls idx (r.2.1 k).1 (r.2.1 k).2.1 (r.2.1 k).2.2.1 ∈ mf_tbl) (hkI : (k : Int) = kI) (hr : mf_KL[ci]? = some r) (hk : k < r.2.2) (ht : mf_tg (mf_fty ci k) = t) (ht2 : t = 2) (hfin : (r.2.1 k).2.2.2 = true) (hin : Y.1.name = "<init>") (hdc : (r.2.1 k).1 = Y.1.cls) (hty : mf_fty ci k ≠ .byte ∧ mf_fty ci k ≠ .char ∧ mf_fty ci k ≠ .short ∧ mf_fty ci k ≠ .float ∧ mf_fty ci k ≠ .double) (hbo : mf_fty ci k = .boolean → x = 0 ∨ x = 1) (hi : mf_is n a ci)
    (kk : mf_AW C l Y R n0 Z X (pc + 3) lv st n (mf_up g a kI x) h) : mf_AW C l Y R n0 Z X pc lv ((t, x) :: (2, a) :: st) n g h := by
  intro p e s m args below meth c H locs ls sv lc hC hX hl hL hS hR hF hn
  subst hkI
  obtain ⟨v, w, sv1, rfl, hv, hw1, hS1⟩ := mf_S2 hS
  obtain ⟨q, rfl, rfl, hq, hc⟩ := mf_isV hi hw1
  obtain ⟨V, ⟨cell, q1, q2, q3, q4⟩, hV⟩ := mf_obj hR hq hc hr
  obtain ⟨hx, hb, hml, hrt, hlk, hown, hts, hK, hsz, hnm, hNw⟩ := id hC
  obtain ⟨hSl, hfc, kC, hkC, hkind⟩ := hK.1 ci _ hr
  obtain ⟨cf, kf, fi, f, hi1, hsl⟩ := hSl k hk
  have hlay := hts _ ((mf_KLin hr).1 _ (u_in_lay hk))
  unfold u_lay at hlay
  have hst := (u_facts hfc hkC (u_lays hts (mf_KLin hr).1 hk) hi1).1
  obtain ⟨hn1, hn2⟩ := mf_nar (ty := mf_fty ci k) (by rw [ht]; exact hv) hbo hty
  rw [if_pos hfin] at hlay
  have hcf : m.cls = cf := by
    obtain ⟨_, _, c', _, _, _, -, -, hf', -, -, -, hown2, -⟩ := Cond.laysFinal_spec hlay
    have e1 : c' = cf := by have := hi1.symm.trans hf'; simp at this; exact this.1.symm
    rw [hdc] at hown2
    rw [← e1]; exact Option.some.inj (hown.symm.trans hown2)
  have h6 := u_fits hfc hkC hkind (Or.inr hlay) hi1 ((mf_KLin hr).2.1 k hk) hn1 hn2
  refine W.putFinK hx hb hown (hts _ hw) hi1 hst hcf (by rw [hnm, hin]) (by rw [q2]; exact h6) q1 q3 (by rw [hsl]; exact k2_hasslot (q4 k hk)) rfl rfl hd fun H' e1 e2 e3 => ?_
  rw [hsl] at e1 ⊢
  refine kk p e s m args below meth c H' _ ls _ lc hC hX hl hL hS1 (hR.set e2 e3 (mf_at.setf hts hK hc hr hk ht q2 q3 q4 hV e1 hv ?_ ?_ ?_) ?_ ?_) (hF.put e2 e3 (Nat.le_add_right _ _)) hn
  · simp [mf_up, ht2]
  · intro j hj; first | rfl | exact mf_up_off (by omega)
  · intro j hj; first | rfl | exact mf_up_off (by omega)
  · intro j hj; first | rfl | exact mf_up_ne (by omega)
  · intro j hj; first | rfl | exact mf_up_ne (by omega)
/-- the array classes -/
theorem mf_tyAt {s : State} (hK : mf_K C s) {c i : Nat} {ty : FieldType} (h : (mf_tys C)[i]? = some (C.2.2 c, ty)) : ArrOfT s (C.2.2 c) ty ∧ va_RA s (C.2.2 c) ty := hK.2 i _ h
theorem mf_clamp {j : Int32} {i : Int} (h : j.toInt = i) (h0 : 0 ≤ i) : j.toNatClampNeg = i.toNat := by subst h; rfl
theorem mf_inb {j : Int32} {i : Int} {N : Nat} (h : j.toInt = i) (h0 : 0 ≤ i) (h1 : i < (N : Int)) : ¬ (j < 0 ∨ N ≤ j.toNatClampNeg) := by
  rw [mf_clamp h h0]
  intro q
  rcases q with q | q
  · have h9 := (mf_lt32 h (rfl : (0 : Int32).toInt = 0)).mp q; simp only [show (0 : Int32).toInt = 0 from rfl] at h9; omega
  · omega
theorem mf_alen {a : Int} {c i : Nat} {ty : FieldType} {v : Int} (hd : decode Y.2.1 pc = .ok (.arraylength, 1)) (h20 : ¬ c < 20) (hty : (mf_tys C)[i]? = some (C.2.2 c, ty)) (hi : mf_is n a c) (hv : mf_len a = v) (hsm : mf_len a < 2147483648) (kk : mf_AW C l Y R n0 Z X (pc + 1) lv ((0, v) :: st) n g h) : mf_AW C l Y R n0 Z X pc lv ((2, a) :: st) n g h := by
  intro p e s m args below meth c H locs ls sv lc hC hX hl hL hS hR hF hn
  obtain ⟨w, sv1, rfl, hw1, hS1⟩ := mf_S1 hS
  obtain ⟨q, rfl, rfl, hq, hc⟩ := mf_isV hi hw1
  obtain ⟨f, q1, hf⟩ := mf_arr hR hq hc h20
  refine W.alen (n := Int32.ofNat (mf_sh q).2) hC.1 hC.2.1 q1 ((mf_tyAt hC.2.2.2.2.2.2.2.1 hty).1 _ f) (by rw [arrV_size] <;> rfl) rfl rfl hd ?_
  refine kk p e s m args below meth c H locs ls _ lc hC hX hl hL ⟨⟨_, rfl, ?_⟩, hS1⟩ hR hF hn
  have e1 : mf_len (q : Int) = ((mf_sh q).2 : Int) := by simp [mf_len]
  rw [← hv, e1, Int32.toInt_ofNat_of_lt (by rw [e1] at hsm; omega)]
theorem mf_iald {a i : Int} (hd : decode Y.2.1 pc = .ok (.iaload, 1)) {N : Int} (hi : mf_is n a 20) (hN : mf_len a = N) (h0 : 0 ≤ i) (h1 : i < N) (kk : mf_AW C l Y R n0 Z X (pc + 1) lv ((0, h a i) :: st) n g h) : mf_AW C l Y R n0 Z X pc lv ((0, i) :: (2, a) :: st) n g h := by
  intro p e s m args below meth c H locs ls sv lc hC hX hl hL hS hR hF hn
  obtain ⟨vi, w, sv1, rfl, ⟨j, rfl, hj⟩, hw1, hS1⟩ := mf_S2 hS
  obtain ⟨q, rfl, rfl, hq, hc⟩ := mf_isV hi hw1
  obtain ⟨f, q1, hf⟩ := mf_arr hR hq hc (by decide)
  have hl1 : mf_len (q : Int) = ((mf_sh q).2 : Int) := by simp [mf_len]
  rw [← hN, hl1] at h1
  have hlt : j.toNatClampNeg < (mf_sh q).2 := by rw [mf_clamp hj h0]; omega
  refine W.iald (v := f j.toNatClampNeg) hC.1 hC.2.1 q1 ((mf_tyAt (i := 0) hC.2.2.2.2.2.2.2.1 rfl).1 _ f) (fun q => by cases q) (by rw [arrV_size]; exact mf_inb hj h0 h1) (by rw [arrV_read _ _ hlt]) rfl rfl hd ?_
  refine kk p e s m args below meth c H locs ls _ lc hC hX hl hL ⟨?_, hS1⟩ hR hF hn
  have h2 := hf j.toNatClampNeg hlt
  rw [mf_clamp hj h0] at h2 ⊢
  have e2 : ((i.toNat : Nat) : Int) = i := by omega
  rw [e2] at h2
  exact h2
theorem mf_bald {a i : Int} (hd : decode Y.2.1 pc = .ok (.baload, 1)) {N : Int} (hi : mf_is n a 21) (hN : mf_len a = N) (h0 : 0 ≤ i) (h1 : i < N) (kk : mf_AW C l Y R n0 Z X (pc + 1) lv ((0, h a i) :: st) n g h) : mf_AW C l Y R n0 Z X pc lv ((0, i) :: (2, a) :: st) n g h := by
  intro p e s m args below meth c H locs ls sv lc hC hX hl hL hS hR hF hn
  obtain ⟨vi, w, sv1, rfl, ⟨j, rfl, hj⟩, hw1, hS1⟩ := mf_S2 hS
  obtain ⟨q, rfl, rfl, hq, hc⟩ := mf_isV hi hw1
  obtain ⟨f, q1, hf⟩ := mf_arr hR hq hc (by decide)
  have hl1 : mf_len (q : Int) = ((mf_sh q).2 : Int) := by simp [mf_len]
  rw [← hN, hl1] at h1
  have hlt : j.toNatClampNeg < (mf_sh q).2 := by rw [mf_clamp hj h0]; omega
  refine W.bald (v := f j.toNatClampNeg) hC.1 hC.2.1 q1 ((mf_tyAt (i := 1) hC.2.2.2.2.2.2.2.1 rfl).1 _ f) (fun q => by cases q) (by rw [arrV_size]; exact mf_inb hj h0 h1) (by rw [arrV_read _ _ hlt]) rfl rfl hd ?_
  refine kk p e s m args below meth c H locs ls _ lc hC hX hl hL ⟨?_, hS1⟩ hR hF hn
  have h2 := hf j.toNatClampNeg hlt
  rw [mf_clamp hj h0] at h2 ⊢
  have e2 : ((i.toNat : Nat) : Int) = i := by omega
  rw [e2] at h2
  exact h2
theorem mf_zald {a i : Int} (hd : decode Y.2.1 pc = .ok (.baload, 1)) {N : Int} (hi : mf_is n a 22) (hN : mf_len a = N) (h0 : 0 ≤ i) (h1 : i < N) (kk : mf_AW C l Y R n0 Z X (pc + 1) lv ((0, h a i) :: st) n g h) : mf_AW C l Y R n0 Z X pc lv ((0, i) :: (2, a) :: st) n g h := by
  intro p e s m args below meth c H locs ls sv lc hC hX hl hL hS hR hF hn
  obtain ⟨vi, w, sv1, rfl, ⟨j, rfl, hj⟩, hw1, hS1⟩ := mf_S2 hS
  obtain ⟨q, rfl, rfl, hq, hc⟩ := mf_isV hi hw1
  obtain ⟨f, q1, hf⟩ := mf_arr hR hq hc (by decide)
  have hl1 : mf_len (q : Int) = ((mf_sh q).2 : Int) := by simp [mf_len]
  rw [← hN, hl1] at h1
  have hlt : j.toNatClampNeg < (mf_sh q).2 := by rw [mf_clamp hj h0]; omega
  refine W.zald (v := f j.toNatClampNeg) hC.1 hC.2.1 q1 ((mf_tyAt (i := 2) hC.2.2.2.2.2.2.2.1 rfl).1 _ f) (fun q => by cases q) (by rw [arrV_size]; exact mf_inb hj h0 h1) (by rw [arrV_read _ _ hlt]) rfl rfl hd ?_
  refine kk p e s m args below meth c H locs ls _ lc hC hX hl hL ⟨?_, hS1⟩ hR hF hn
  have h2 := hf j.toNatClampNeg hlt
  rw [mf_clamp hj h0] at h2 ⊢
  have e2 : ((i.toNat : Nat) : Int) = i := by omega
  rw [e2] at h2
  exact h2
theorem mf_cald {a i : Int} (hd : decode Y.2.1 pc = .ok (.caload, 1)) {N : Int} (hi : mf_is n a 23) (hN : mf_len a = N) (h0 : 0 ≤ i) (h1 : i < N) (kk : mf_AW C l Y R n0 Z X (pc + 1) lv ((0, h a i) :: st) n g h) : mf_AW C l Y R n0 Z X pc lv ((0, i) :: (2, a) :: st) n g h := by
  intro p e s m args below meth c H locs ls sv lc hC hX hl hL hS hR hF hn
  obtain ⟨vi, w, sv1, rfl, ⟨j, rfl, hj⟩, hw1, hS1⟩ := mf_S2 hS
  obtain ⟨q, rfl, rfl, hq, hc⟩ := mf_isV hi hw1
  obtain ⟨f, q1, hf⟩ := mf_arr hR hq hc (by decide)
  have hl1 : mf_len (q : Int) = ((mf_sh q).2 : Int) := by simp [mf_len]
  rw [← hN, hl1] at h1
  have hlt : j.toNatClampNeg < (mf_sh q).2 := by rw [mf_clamp hj h0]; omega
  refine W.cald (v := f j.toNatClampNeg) hC.1 hC.2.1 q1 ((mf_tyAt (i := 3) hC.2.2.2.2.2.2.2.1 rfl).1 _ f) (fun q => by cases q) (by rw [arrV_size]; exact mf_inb hj h0 h1) (by rw [arrV_read _ _ hlt]) rfl rfl hd ?_
  refine kk p e s m args below meth c H locs ls _ lc hC hX hl hL ⟨?_, hS1⟩ hR hF hn
  have h2 := hf j.toNatClampNeg hlt
  rw [mf_clamp hj h0] at h2 ⊢
  have e2 : ((i.toNat : Nat) : Int) = i := by omega
  rw [e2] at h2
  exact h2
theorem mf_lald {a i : Int} (hd : decode Y.2.1 pc = .ok (.laload, 1)) {N : Int} (hi : mf_is n a 24) (hN : mf_len a = N) (h0 : 0 ≤ i) (h1 : i < N) (kk : mf_AW C l Y R n0 Z X (pc + 1) lv ((1, h a i) :: st) n g h) : mf_AW C l Y R n0 Z X pc lv ((0, i) :: (2, a) :: st) n g h := by
  intro p e s m args below meth c H locs ls sv lc hC hX hl hL hS hR hF hn
  obtain ⟨vi, w, sv1, rfl, ⟨j, rfl, hj⟩, hw1, hS1⟩ := mf_S2 hS
  obtain ⟨q, rfl, rfl, hq, hc⟩ := mf_isV hi hw1
  obtain ⟨f, q1, hf⟩ := mf_arr hR hq hc (by decide)
  have hl1 : mf_len (q : Int) = ((mf_sh q).2 : Int) := by simp [mf_len]
  rw [← hN, hl1] at h1
  have hlt : j.toNatClampNeg < (mf_sh q).2 := by rw [mf_clamp hj h0]; omega
  refine W.lald (v := f j.toNatClampNeg) hC.1 hC.2.1 q1 ((mf_tyAt (i := 4) hC.2.2.2.2.2.2.2.1 rfl).1 _ f) (fun q => by cases q) (by rw [arrV_size]; exact mf_inb hj h0 h1) (by rw [arrV_read _ _ hlt]) rfl rfl hd ?_
  refine kk p e s m args below meth c H locs ls _ lc hC hX hl hL ⟨?_, hS1⟩ hR hF hn
  have h2 := hf j.toNatClampNeg hlt
  rw [mf_clamp hj h0] at h2 ⊢
  have e2 : ((i.toNat : Nat) : Int) = i := by omega
  rw [e2] at h2
  exact h2
theorem mf_aald {a i : Int} (hd : decode Y.2.1 pc = .ok (.aaload, 1)) {N : Int} (hi : mf_is n a 25) (hN : mf_len a = N) (h0 : 0 ≤ i) (h1 : i < N) (kk : mf_AW C l Y R n0 Z X (pc + 1) lv ((2, g a i) :: st) n g h) : mf_AW C l Y R n0 Z X pc lv ((0, i) :: (2, a) :: st) n g h := by
  intro p e s m args below meth c H locs ls sv lc hC hX hl hL hS hR hF hn
  obtain ⟨vi, w, sv1, rfl, ⟨j, rfl, hj⟩, hw1, hS1⟩ := mf_S2 hS
  obtain ⟨q, rfl, rfl, hq, hc⟩ := mf_isV hi hw1
  obtain ⟨f, q1, hf⟩ := mf_arr hR hq hc (by decide)
  have hl1 : mf_len (q : Int) = ((mf_sh q).2 : Int) := by simp [mf_len]
  rw [← hN, hl1] at h1
  have hlt : j.toNatClampNeg < (mf_sh q).2 := by rw [mf_clamp hj h0]; omega
  refine W.aald (ty := .object "MarginFolk$State") (v := f j.toNatClampNeg) hC.1 hC.2.1 q1 ((mf_tyAt (i := 5) hC.2.2.2.2.2.2.2.1 rfl).1 _ f) rfl (fun q => by cases q) (by rw [arrV_size]; exact mf_inb hj h0 h1) (by rw [arrV_read _ _ hlt]) rfl rfl hd ?_
  refine kk p e s m args below meth c H locs ls _ lc hC hX hl hL ⟨?_, hS1⟩ hR hF hn
  have h2 := hf j.toNatClampNeg hlt
  rw [mf_clamp hj h0] at h2 ⊢
  have e2 : ((i.toNat : Nat) : Int) = i := by omega
  rw [e2] at h2
  exact h2
theorem mf_at.seta {H1 : Heap} {q c j t : Nat} {f : Nat → Value} {v : Value} {x : Int} {g' h' : mf_M} (hc : (mf_sh q).1 = c) (h20 : ¬ c < 20) (ht : mf_tg (mf_aty c) = t) (hf : ∀ j : Nat, j < (mf_sh q).2 → mf_V C (mf_tg (mf_aty c)) (f j) (if mf_tg (mf_aty c) = 2 then g q j else h q j))
    (e1 : H1[C.1.1 + q]? = some ((arrV (C.2.2 c) (mf_sh q).2 f).setSlot j v)) (hv : mf_V C t v x) (hx : (if t = 2 then g' q j else h' q j) = x) (hg : ∀ i : Nat, i ≠ j → g' q i = g q i) (hh : ∀ i : Nat, i ≠ j → h' q i = h q i) : mf_at C q (g' q) (h' q) H1 := by
  unfold mf_at
  rw [hc, if_neg h20]
  rw [arrV_store] at e1
  refine ⟨_, e1, fun i hi => ?_⟩
  by_cases e : i = j
  · subst e
    rw [ht, hx]
    simpa [updV] using hv
  · have e' : updV f j v i = f i := by simp [updV, e]
    rw [e', hg i e, hh i e]
    exact hf i hi
theorem mf_iast {a i x : Int} (hd : decode Y.2.1 pc = .ok (.iastore, 1)) {N : Int} (hi : mf_is n a 20) (hN : mf_len a = N) (h0 : 0 ≤ i) (h1 : i < N) (kk : mf_AW C l Y R n0 Z X (pc + 1) lv st n g (mf_up h a i x)) : mf_AW C l Y R n0 Z X pc lv ((0, x) :: (0, i) :: (2, a) :: st) n g h := by
  intro p e s m args below meth c H locs ls sv lc hC hX hl hL hS hR hF hn
  obtain ⟨vx, vi, w, sv1, rfl, ⟨y, rfl, hy⟩, ⟨j, rfl, hj⟩, hw1, hS1⟩ := mf_S3 hS
  obtain ⟨q, rfl, rfl, hq, hc⟩ := mf_isV hi hw1
  obtain ⟨f, q1, hf⟩ := mf_arr hR hq hc (by decide)
  have hl1 : mf_len (q : Int) = ((mf_sh q).2 : Int) := by simp [mf_len]
  rw [← hN, hl1] at h1
  have e2 : ((i.toNat : Nat) : Int) = i := by omega
  refine W.iast hC.1 hC.2.1 q1 ((mf_tyAt (i := 0) hC.2.2.2.2.2.2.2.1 rfl).1 _ f) (fun q => by cases q) (by rw [arrV_size]; exact mf_inb hj h0 h1) rfl rfl hd fun H1 e z oq => ?_
  rw [mf_clamp hj h0] at e ⊢
  refine kk p _ s m args below meth c H1 _ ls _ lc hC hX hl hL hS1 (hR.set z oq (mf_at.seta (t := 0) (x := x) hc (by decide) rfl hf e ⟨_, rfl, hy⟩ ?_ ?_ ?_) ?_ ?_) (hF.put z oq (Nat.le_add_right _ _)) hn
  · simp [mf_up, e2]
  · intro j hj; rfl
  · intro j' hj'; exact mf_up_off (by omega)
  · intro j hj; rfl
  · intro j' hj'; exact mf_up_ne (by omega)
theorem mf_bast {a i x : Int} (hd : decode Y.2.1 pc = .ok (.bastore, 1)) {N : Int} (hi : mf_is n a 21) (hN : mf_len a = N) (h0 : 0 ≤ i) (h1 : i < N) (kk : mf_AW C l Y R n0 Z X (pc + 1) lv st n g (mf_up h a i (mf_b8 x))) : mf_AW C l Y R n0 Z X pc lv ((0, x) :: (0, i) :: (2, a) :: st) n g h := by
  intro p e s m args below meth c H locs ls sv lc hC hX hl hL hS hR hF hn
  obtain ⟨vx, vi, w, sv1, rfl, ⟨y, rfl, hy⟩, ⟨j, rfl, hj⟩, hw1, hS1⟩ := mf_S3 hS
  obtain ⟨q, rfl, rfl, hq, hc⟩ := mf_isV hi hw1
  obtain ⟨f, q1, hf⟩ := mf_arr hR hq hc (by decide)
  have hl1 : mf_len (q : Int) = ((mf_sh q).2 : Int) := by simp [mf_len]
  rw [← hN, hl1] at h1
  have e2 : ((i.toNat : Nat) : Int) = i := by omega
  refine W.bast hC.1 hC.2.1 q1 ((mf_tyAt (i := 1) hC.2.2.2.2.2.2.2.1 rfl).1 _ f) (fun q => by cases q) (by rw [arrV_size]; exact mf_inb hj h0 h1) rfl rfl hd fun H1 e z oq => ?_
  rw [mf_clamp hj h0] at e ⊢
  refine kk p _ s m args below meth c H1 _ ls _ lc hC hX hl hL hS1 (hR.set z oq (mf_at.seta (t := 0) (x := (mf_b8 x)) hc (by decide) rfl hf e ⟨_, rfl, by rw [Int8.toInt_toInt32, Int32.toInt_toInt8, hy]; rfl⟩ ?_ ?_ ?_) ?_ ?_) (hF.put z oq (Nat.le_add_right _ _)) hn
  · simp [mf_up, e2]
  · intro j hj; rfl
  · intro j' hj'; exact mf_up_off (by omega)
  · intro j hj; rfl
  · intro j' hj'; exact mf_up_ne (by omega)
theorem mf_char_all : ∀ k, k < 128 → (Int32.ofNat k).toUInt32.toUInt16.toUInt32.toInt32.toInt = (k : Int) ∧ (Int32.ofNat k).toInt = (k : Int) := by decide +kernel
theorem mf_char {y : Int32} {x : Int} (hy : y.toInt = x) (h0 : 0 ≤ x) (h1 : x < 128) : y.toUInt32.toUInt16.toUInt32.toInt32.toInt = x := by
  obtain ⟨k, rfl⟩ : ∃ k : Nat, x = (k : Int) := ⟨x.toNat, by omega⟩
  obtain ⟨e1, e2⟩ := mf_char_all k (by omega)
  have e : y = Int32.ofNat k := mf_toI (by rw [hy, e2])
  rw [e, e1]
theorem mf_bool {y : Int32} {x : Int} (hy : y.toInt = x) (hb : x = 0 ∨ x = 1) : (y &&& 1).toInt = x := by
  rcases hb with rfl | rfl
  · have e : y = 0 := mf_toI (by rw [hy]; rfl)
    rw [e]; rfl
  · have e : y = 1 := mf_toI (by rw [hy]; rfl)
    rw [e]; rfl
theorem mf_zast {a i x : Int} (hd : decode Y.2.1 pc = .ok (.bastore, 1)) {N : Int} (hi : mf_is n a 22) (hN : mf_len a = N) (h0 : 0 ≤ i) (h1 : i < N) (hb : x = 0 ∨ x = 1) (kk : mf_AW C l Y R n0 Z X (pc + 1) lv st n g (mf_up h a i x)) : mf_AW C l Y R n0 Z X pc lv ((0, x) :: (0, i) :: (2, a) :: st) n g h := by
  intro p e s m args below meth c H locs ls sv lc hC hX hl hL hS hR hF hn
  obtain ⟨vx, vi, w, sv1, rfl, ⟨y, rfl, hy⟩, ⟨j, rfl, hj⟩, hw1, hS1⟩ := mf_S3 hS
  obtain ⟨q, rfl, rfl, hq, hc⟩ := mf_isV hi hw1
  obtain ⟨f, q1, hf⟩ := mf_arr hR hq hc (by decide)
  have hl1 : mf_len (q : Int) = ((mf_sh q).2 : Int) := by simp [mf_len]
  rw [← hN, hl1] at h1
  have e2 : ((i.toNat : Nat) : Int) = i := by omega
  refine W.zast hC.1 hC.2.1 q1 ((mf_tyAt (i := 2) hC.2.2.2.2.2.2.2.1 rfl).1 _ f) (fun q => by cases q) (by rw [arrV_size]; exact mf_inb hj h0 h1) rfl rfl hd fun H1 e z oq => ?_
  rw [mf_clamp hj h0] at e ⊢
  refine kk p _ s m args below meth c H1 _ ls _ lc hC hX hl hL hS1 (hR.set z oq (mf_at.seta (t := 0) (x := x) hc (by decide) rfl hf e ⟨_, rfl, mf_bool hy hb⟩ ?_ ?_ ?_) ?_ ?_) (hF.put z oq (Nat.le_add_right _ _)) hn
  · simp [mf_up, e2]
  · intro j hj; rfl
  · intro j' hj'; exact mf_up_off (by omega)
  · intro j hj; rfl
  · intro j' hj'; exact mf_up_ne (by omega)
theorem mf_cast {a i x : Int} (hd : decode Y.2.1 pc = .ok (.castore, 1)) {N : Int} (hi : mf_is n a 23) (hN : mf_len a = N) (h0 : 0 ≤ i) (h1 : i < N) (hb : 0 ≤ x ∧ x < 128) (kk : mf_AW C l Y R n0 Z X (pc + 1) lv st n g (mf_up h a i x)) : mf_AW C l Y R n0 Z X pc lv ((0, x) :: (0, i) :: (2, a) :: st) n g h := by
  intro p e s m args below meth c H locs ls sv lc hC hX hl hL hS hR hF hn
  obtain ⟨vx, vi, w, sv1, rfl, ⟨y, rfl, hy⟩, ⟨j, rfl, hj⟩, hw1, hS1⟩ := mf_S3 hS
  obtain ⟨q, rfl, rfl, hq, hc⟩ := mf_isV hi hw1
  obtain ⟨f, q1, hf⟩ := mf_arr hR hq hc (by decide)
  have hl1 : mf_len (q : Int) = ((mf_sh q).2 : Int) := by simp [mf_len]
  rw [← hN, hl1] at h1
  have e2 : ((i.toNat : Nat) : Int) = i := by omega
  refine W.cast hC.1 hC.2.1 q1 ((mf_tyAt (i := 3) hC.2.2.2.2.2.2.2.1 rfl).1 _ f) (fun q => by cases q) (by rw [arrV_size]; exact mf_inb hj h0 h1) rfl rfl hd fun H1 e z oq => ?_
  rw [mf_clamp hj h0] at e ⊢
  refine kk p _ s m args below meth c H1 _ ls _ lc hC hX hl hL hS1 (hR.set z oq (mf_at.seta (t := 0) (x := x) hc (by decide) rfl hf e ⟨_, rfl, by rw [mf_char hy hb.1 hb.2]⟩ ?_ ?_ ?_) ?_ ?_) (hF.put z oq (Nat.le_add_right _ _)) hn
  · simp [mf_up, e2]
  · intro j hj; rfl
  · intro j' hj'; exact mf_up_off (by omega)
  · intro j hj; rfl
  · intro j' hj'; exact mf_up_ne (by omega)
theorem mf_last {a i x : Int} (hd : decode Y.2.1 pc = .ok (.lastore, 1)) {N : Int} (hi : mf_is n a 24) (hN : mf_len a = N) (h0 : 0 ≤ i) (h1 : i < N) (kk : mf_AW C l Y R n0 Z X (pc + 1) lv st n g (mf_up h a i x)) : mf_AW C l Y R n0 Z X pc lv ((1, x) :: (0, i) :: (2, a) :: st) n g h := by
  intro p e s m args below meth c H locs ls sv lc hC hX hl hL hS hR hF hn
  obtain ⟨vx, vi, w, sv1, rfl, ⟨y, rfl, hy⟩, ⟨j, rfl, hj⟩, hw1, hS1⟩ := mf_S3 hS
  obtain ⟨q, rfl, rfl, hq, hc⟩ := mf_isV hi hw1
  obtain ⟨f, q1, hf⟩ := mf_arr hR hq hc (by decide)
  have hl1 : mf_len (q : Int) = ((mf_sh q).2 : Int) := by simp [mf_len]
  rw [← hN, hl1] at h1
  have e2 : ((i.toNat : Nat) : Int) = i := by omega
  refine W.last hC.1 hC.2.1 q1 ((mf_tyAt (i := 4) hC.2.2.2.2.2.2.2.1 rfl).1 _ f) (fun q => by cases q) (by rw [arrV_size]; exact mf_inb hj h0 h1) rfl rfl hd fun H1 e z oq => ?_
  rw [mf_clamp hj h0] at e ⊢
  refine kk p _ s m args below meth c H1 _ ls _ lc hC hX hl hL hS1 (hR.set z oq (mf_at.seta (t := 1) (x := x) hc (by decide) rfl hf e ⟨_, rfl, hy⟩ ?_ ?_ ?_) ?_ ?_) (hF.put z oq (Nat.le_add_right _ _)) hn
  · simp [mf_up, e2]
  · intro j hj; rfl
  · intro j' hj'; exact mf_up_off (by omega)
  · intro j hj; rfl
  · intro j' hj'; exact mf_up_ne (by omega)
end MfHeap
