/-- a cell of the law's: an object by its fields, an array by its places; references in gr, all else in hr -/
def mf_at (C : mf_G) (k : Nat) (gr hr : Int → Int) (H : Heap) : Prop :=
  if (mf_sh k).1 < 20 then ∃ V : Nat → Value, t_OB (C.1.1 + k) (C.2.1.1 (mf_sh k).1) (mf_fn (mf_sh k).1) (C.2.1.2 (mf_sh k).1) H V ∧ ∀ j : Nat, j < mf_fn (mf_sh k).1 → mf_V C (mf_tg (mf_fty (mf_sh k).1 j)) (V j) (if mf_tg (mf_fty (mf_sh k).1 j) = 2 then gr j else hr j)
  else ∃ f : Nat → Value, H[C.1.1 + k]? = some (arrV (C.2.2 (mf_sh k).1) (mf_sh k).2 f) ∧ ∀ j : Nat, j < (mf_sh k).2 → mf_V C (mf_tg (mf_aty (mf_sh k).1)) (f j) (if mf_tg (mf_aty (mf_sh k).1) = 2 then gr j else hr j)
theorem mf_at.kept {C : mf_G} {k : Nat} {gr hr : Int → Int} {H H1 : Heap} (h : mf_at C k gr hr H) (e : H1[C.1.1 + k]? = H[C.1.1 + k]?) : mf_at C k gr hr H1 := by
  unfold mf_at at h ⊢
  split at h
  next hc =>
    rw [if_pos hc]
    obtain ⟨V, h1, h2⟩ := h
    exact ⟨V, h1.kept e, h2⟩
  next hc =>
    rw [if_neg hc]
    obtain ⟨f, h1, h2⟩ := h
    exact ⟨f, e.trans h1, h2⟩
theorem mf_at.to {C : mf_G} {k : Nat} {gr hr gr' hr' : Int → Int} {H : Heap} (h : mf_at C k gr hr H) (e1 : gr' = gr) (e2 : hr' = hr) : mf_at C k gr' hr' H := by subst e1; subst e2; exact h
def mf_R (C : mf_G) (n : Nat) (g h : mf_M) (H : Heap) : Prop := H.size = C.1.1 + n ∧ ∀ k : Nat, k < n → mf_at C k (g k) (h k) H
theorem mf_R.set {C : mf_G} {n : Nat} {g h g' h' : mf_M} {H H1 : Heap} (hR : mf_R C n g h H) {k : Nat} (hz : H1.size = H.size) (ho : ∀ q : Nat, q ≠ C.1.1 + k → H1[q]? = H[q]?) (hat : mf_at C k (g' k) (h' k) H1) (hg : ∀ j : Nat, j ≠ k → g' j = g j) (hh : ∀ j : Nat, j ≠ k → h' j = h j) : mf_R C n g' h' H1 := by
  refine ⟨hz.trans hR.1, fun j hj => ?_⟩
  by_cases e : j = k
  · subst e; exact hat
  · exact ((hR.2 j hj).kept (ho _ (by omega))).to (hg j e) (hh j e)
/-- the text of the words -/
def mf_K (C : mf_G) (U : State) : Prop := va_K C.2.1 mf_KL (mf_tys C) U
/-- what a body knows -/
def mf_Cx (C : mf_G) (Y : mf_Y) (p : Program) (s : State) (m : MethodId) (args : Array Value) (meth : Method) (c : Code) : Prop :=
  p.tables.exec = Jvm.exec ∧ c.code = Y.2.1 ∧ c.maxLocals = Y.2.2.1 ∧ meth.sig.returnType = Y.2.2.2 ∧ meth.locks = false ∧ s.vm.findClass Y.1.cls = some m.cls ∧ (∀ w ∈ mf_tbl, w.before args s = true) ∧ mf_K C s ∧ C.1.1 ≤ s.heap.size ∧ meth.name = Y.1.name ∧ mf_N C s s.heap
abbrev mf_Zt : Type := List Frame → Array Value → State → State → Prop
abbrev mf_Xt : Type := Array Value → State → Prop
def mf_AW (C : mf_G) (l : Launch) (Y : mf_Y) (R : Room) (n0 : Nat) (Z : mf_Zt) (X : mf_Xt) (pc : Nat) (lv : List (Nat × mf_AV)) (st : List mf_AV) (n : Nat) (g h : mf_M) : Prop :=
  ∀ (p : Program) (e : Env) (s : State) (m : MethodId) (args : Array Value) (below : List Frame) (meth : Method) (c : Code) (H : Heap) (locs : List Loc) (ls : Array Slot) (sv : List Value) (lc : List (Nat × Value)),
    mf_Cx C Y p s m args meth c → X args s → lv_has ls Y.2.2.1 lc → mf_L C lc lv → mf_S C sv st → mf_R C n g h H → va_S (fun q : Nat => C.1.1 ≤ q) s.heap H locs → n0 ≤ n →
    W p l e R s m args below meth c H locs (n - n0) (mf_sl n - mf_sl n0) (Z below args s) (F0 m pc ls sv)
section MfRows
variable {C : mf_G} {l : Launch} {Y : mf_Y} {R : Room} {n0 : Nat} {Z : mf_Zt} {X : mf_Xt} {pc : Nat} {lv : List (Nat × mf_AV)} {st : List mf_AV} {n : Nat} {g h : mf_M}
theorem mf_sub {lv' : List (Nat × mf_AV)} (ks : List Nat) (hl : mf_pick lv ks = lv') (k : mf_AW C l Y R n0 Z X pc lv' st n g h) : mf_AW C l Y R n0 Z X pc lv st n g h := by
  intro p e s m args below meth c H locs ls sv lc hC hX hl0 hL hS hR hF hn
  exact k p e s m args below meth c H locs ls sv (lv_pick lc ks) hC hX (lv_sub hl0 ks rfl) (hl ▸ hL.pick ks) hS hR hF hn
theorem mf_toI {x y : Int32} (h : x.toInt = y.toInt) : x = y := Int32.toInt_inj.mp h
/-! constants -/
theorem mf_iconst {i v : Int} (hd : decode Y.2.1 pc = .ok (.iconst i, 1)) (hv : (Int32.ofInt i).toInt = v) (k : mf_AW C l Y R n0 Z X (pc + 1) lv ((0, v) :: st) n g h) : mf_AW C l Y R n0 Z X pc lv st n g h := by
  intro p e s m args below meth c H locs ls sv lc hC hX hl hL hS hR hF hn
  exact lv_iconst hC.1 hC.2.1 hd rfl (k p e s m args below meth c H locs ls _ lc hC hX hl hL ⟨⟨_, rfl, hv⟩, hS⟩ hR hF hn)
theorem mf_bipush {i v : Int} (hd : decode Y.2.1 pc = .ok (.bipush i, 2)) (hv : (Int8.ofInt i).toInt32.toInt = v) (k : mf_AW C l Y R n0 Z X (pc + 2) lv ((0, v) :: st) n g h) : mf_AW C l Y R n0 Z X pc lv st n g h := by
  intro p e s m args below meth c H locs ls sv lc hC hX hl hL hS hR hF hn
  exact lv_bipush hC.1 hC.2.1 hd rfl (k p e s m args below meth c H locs ls _ lc hC hX hl hL ⟨⟨_, rfl, hv⟩, hS⟩ hR hF hn)
theorem mf_sipush {i v : Int} (hd : decode Y.2.1 pc = .ok (.sipush i, 3)) (hv : (Int16.ofInt i).toInt32.toInt = v) (k : mf_AW C l Y R n0 Z X (pc + 3) lv ((0, v) :: st) n g h) : mf_AW C l Y R n0 Z X pc lv st n g h := by
  intro p e s m args below meth c H locs ls sv lc hC hX hl hL hS hR hF hn
  exact lv_sipush hC.1 hC.2.1 hd rfl (k p e s m args below meth c H locs ls _ lc hC hX hl hL ⟨⟨_, rfl, hv⟩, hS⟩ hR hF hn)
theorem mf_lconst {i : Fin 2} {v : Int} (hd : decode Y.2.1 pc = .ok (.lconst i, 1)) (hv : (Int64.ofNat (i : Nat)).toInt = v) (k : mf_AW C l Y R n0 Z X (pc + 1) lv ((1, v) :: st) n g h) : mf_AW C l Y R n0 Z X pc lv st n g h := by
  intro p e s m args below meth c H locs ls sv lc hC hX hl hL hS hR hF hn
  exact lv_lconst hC.1 hC.2.1 hd rfl (k p e s m args below meth c H locs ls _ lc hC hX hl hL ⟨⟨_, rfl, hv⟩, hS⟩ hR hF hn)
theorem mf_ldcw {i : Nat} {x : Int32} {v : Int} (hw : Cond.constant Y.1.cls i x ∈ mf_tbl) (hd : decode Y.2.1 pc = .ok (.ldc_w i, 3)) (hv : x.toInt = v) (k : mf_AW C l Y R n0 Z X (pc + 3) lv ((0, v) :: st) n g h) : mf_AW C l Y R n0 Z X pc lv st n g h := by
  intro p e s m args below meth c H locs ls sv lc hC hX hl hL hS hR hF hn
  exact lv_ldcw hC.1 hC.2.1 hC.2.2.2.2.2.1 (hC.2.2.2.2.2.2.1 _ hw) hd (k p e s m args below meth c H locs ls _ lc hC hX hl hL ⟨⟨_, rfl, hv⟩, hS⟩ hR hF hn)
theorem mf_ldc2 {i : Nat} {x : Int64} {v : Int} (hw : Cond.constantLong Y.1.cls i x ∈ mf_tbl) (hd : decode Y.2.1 pc = .ok (.ldc2_w i, 3)) (hv : x.toInt = v) (k : mf_AW C l Y R n0 Z X (pc + 3) lv ((1, v) :: st) n g h) : mf_AW C l Y R n0 Z X pc lv st n g h := by
  intro p e s m args below meth c H locs ls sv lc hC hX hl hL hS hR hF hn
  exact lv_ldc2 hC.1 hC.2.1 hC.2.2.2.2.2.1 (hC.2.2.2.2.2.2.1 _ hw) hd (k p e s m args below meth c H locs ls _ lc hC hX hl hL ⟨⟨_, rfl, hv⟩, hS⟩ hR hF hn)
/-! locals -/
theorem mf_iload_n {i : Fin 4} {j : Nat} {x : Int} (hd : decode Y.2.1 pc = .ok (.iload_n i, 1)) (hj : (i : Nat) = j) (hg : mf_get lv j = some (0, x)) (k : mf_AW C l Y R n0 Z X (pc + 1) lv ((0, x) :: st) n g h) : mf_AW C l Y R n0 Z X pc lv st n g h := by
  intro p e s m args below meth c H locs ls sv lc hC hX hl hL hS hR hF hn
  obtain ⟨v, ⟨y, rfl, hy⟩, hm⟩ := hL.get hg
  exact lv_iload_n hC.1 hC.2.1 hd hj (hl.2.2 _ hm) (k p e s m args below meth c H locs ls _ lc hC hX hl hL ⟨⟨_, rfl, hy⟩, hS⟩ hR hF hn)
theorem mf_iload {j : Nat} {x : Int} (hd : decode Y.2.1 pc = .ok (.iload j, 2)) (hg : mf_get lv j = some (0, x)) (k : mf_AW C l Y R n0 Z X (pc + 2) lv ((0, x) :: st) n g h) : mf_AW C l Y R n0 Z X pc lv st n g h := by
  intro p e s m args below meth c H locs ls sv lc hC hX hl hL hS hR hF hn
  obtain ⟨v, ⟨y, rfl, hy⟩, hm⟩ := hL.get hg
  exact lv_iload hC.1 hC.2.1 hd (hl.2.2 _ hm) (k p e s m args below meth c H locs ls _ lc hC hX hl hL ⟨⟨_, rfl, hy⟩, hS⟩ hR hF hn)
theorem mf_lload_n {i : Fin 4} {j : Nat} {x : Int} (hd : decode Y.2.1 pc = .ok (.lload_n i, 1)) (hj : (i : Nat) = j) (hg : mf_get lv j = some (1, x)) (k : mf_AW C l Y R n0 Z X (pc + 1) lv ((1, x) :: st) n g h) : mf_AW C l Y R n0 Z X pc lv st n g h := by
  intro p e s m args below meth c H locs ls sv lc hC hX hl hL hS hR hF hn
  obtain ⟨v, ⟨y, rfl, hy⟩, hm⟩ := hL.get hg
  exact lv_lload_n hC.1 hC.2.1 hd hj (hl.2.2 _ hm) (k p e s m args below meth c H locs ls _ lc hC hX hl hL ⟨⟨_, rfl, hy⟩, hS⟩ hR hF hn)
theorem mf_lload {j : Nat} {x : Int} (hd : decode Y.2.1 pc = .ok (.lload j, 2)) (hg : mf_get lv j = some (1, x)) (k : mf_AW C l Y R n0 Z X (pc + 2) lv ((1, x) :: st) n g h) : mf_AW C l Y R n0 Z X pc lv st n g h := by
  intro p e s m args below meth c H locs ls sv lc hC hX hl hL hS hR hF hn
  obtain ⟨v, ⟨y, rfl, hy⟩, hm⟩ := hL.get hg
  exact lv_lload hC.1 hC.2.1 hd (hl.2.2 _ hm) (k p e s m args below meth c H locs ls _ lc hC hX hl hL ⟨⟨_, rfl, hy⟩, hS⟩ hR hF hn)
theorem mf_ref {i : Int} {v : Value} (h : mf_V C 2 v i) : v = .null ∨ ∃ a : Nat, v = .ref a := by
  rcases h with ⟨hv, _⟩ | ⟨hv, _⟩ | ⟨hv, _⟩ | ⟨hv, _⟩ | ⟨_, hv⟩ | ⟨k, hv, _⟩
  · exact Or.inl hv
  · exact Or.inr ⟨_, hv⟩
  · exact Or.inr ⟨_, hv⟩
  · exact Or.inr ⟨_, hv⟩
  · exact hv
  · exact Or.inr ⟨_, hv⟩
theorem mf_aload_n {i : Fin 4} {j : Nat} {x : Int} (hd : decode Y.2.1 pc = .ok (.aload_n i, 1)) (hj : (i : Nat) = j) (hg : mf_get lv j = some (2, x)) (k : mf_AW C l Y R n0 Z X (pc + 1) lv ((2, x) :: st) n g h) : mf_AW C l Y R n0 Z X pc lv st n g h := by
  intro p e s m args below meth c H locs ls sv lc hC hX hl hL hS hR hF hn
  obtain ⟨v, hv, hm⟩ := hL.get hg
  have kk := k p e s m args below meth c H locs ls (v :: sv) lc hC hX hl hL ⟨hv, hS⟩ hR hF hn
  rcases mf_ref hv with rfl | ⟨a, rfl⟩
  · exact lv_aload_nN hC.1 hC.2.1 hd hj (hl.2.2 _ hm) kk
  · exact lv_aload_n hC.1 hC.2.1 hd hj (hl.2.2 _ hm) kk
theorem mf_aload {j : Nat} {x : Int} (hd : decode Y.2.1 pc = .ok (.aload j, 2)) (hg : mf_get lv j = some (2, x)) (k : mf_AW C l Y R n0 Z X (pc + 2) lv ((2, x) :: st) n g h) : mf_AW C l Y R n0 Z X pc lv st n g h := by
  intro p e s m args below meth c H locs ls sv lc hC hX hl hL hS hR hF hn
  obtain ⟨v, hv, hm⟩ := hL.get hg
  have kk := k p e s m args below meth c H locs ls (v :: sv) lc hC hX hl hL ⟨hv, hS⟩ hR hF hn
  rcases mf_ref hv with rfl | ⟨a, rfl⟩
  · exact lv_aloadN hC.1 hC.2.1 hd (hl.2.2 _ hm) kk
  · exact lv_aload hC.1 hC.2.1 hd (hl.2.2 _ hm) kk
theorem mf_S1 {t : Nat} {x : Int} {sv : List Value} (h : mf_S C sv ((t, x) :: st)) : ∃ v sv', sv = v :: sv' ∧ mf_V C t v x ∧ mf_S C sv' st := by
  match sv, h with
  | v :: sv', h => exact ⟨v, sv', rfl, h.1, h.2⟩
theorem mf_S2 {t u : Nat} {x y : Int} {sv : List Value} (h : mf_S C sv ((t, x) :: (u, y) :: st)) : ∃ v w sv', sv = v :: w :: sv' ∧ mf_V C t v x ∧ mf_V C u w y ∧ mf_S C sv' st := by
  obtain ⟨v, sv1, rfl, h1, h2⟩ := mf_S1 h
  obtain ⟨w, sv2, rfl, h3, h4⟩ := mf_S1 h2
  exact ⟨v, w, sv2, rfl, h1, h3, h4⟩
theorem mf_S3 {t u r : Nat} {x y z : Int} {sv : List Value} (h : mf_S C sv ((t, x) :: (u, y) :: (r, z) :: st)) : ∃ v w o sv', sv = v :: w :: o :: sv' ∧ mf_V C t v x ∧ mf_V C u w y ∧ mf_V C r o z ∧ mf_S C sv' st := by
  obtain ⟨v, w, sv1, rfl, h1, h2, h3⟩ := mf_S2 h
  obtain ⟨o, sv2, rfl, h4, h5⟩ := mf_S1 h3
  exact ⟨v, w, o, sv2, rfl, h1, h2, h4, h5⟩
theorem mf_istore_n {i : Fin 4} {j : Nat} {x : Int} (hd : decode Y.2.1 pc = .ok (.istore_n i, 1)) (hj : (i : Nat) = j) (hm : j < Y.2.2.1) (k : mf_AW C l Y R n0 Z X (pc + 1) (mf_set1 lv j (0, x)) st n g h) : mf_AW C l Y R n0 Z X pc lv ((0, x) :: st) n g h := by
  intro p e s m args below meth c H locs ls sv lc hC hX hl hL hS hR hF hn
  obtain ⟨v, sv1, rfl, ⟨y, rfl, hy⟩, hS1⟩ := mf_S1 hS
  exact lv_istore_n hC.1 hC.2.1 hd hj hl hm rfl (fun ls' hl' => k p e s m args below meth c H locs ls' _ _ hC hX hl' (hL.set1 (a := (0, x)) ⟨_, rfl, hy⟩) hS1 hR hF hn)
theorem mf_istore {j : Nat} {x : Int} (hd : decode Y.2.1 pc = .ok (.istore j, 2)) (hm : j < Y.2.2.1) (k : mf_AW C l Y R n0 Z X (pc + 2) (mf_set1 lv j (0, x)) st n g h) : mf_AW C l Y R n0 Z X pc lv ((0, x) :: st) n g h := by
  intro p e s m args below meth c H locs ls sv lc hC hX hl hL hS hR hF hn
  obtain ⟨v, sv1, rfl, ⟨y, rfl, hy⟩, hS1⟩ := mf_S1 hS
  exact lv_istore hC.1 hC.2.1 hd hl hm rfl (fun ls' hl' => k p e s m args below meth c H locs ls' _ _ hC hX hl' (hL.set1 (a := (0, x)) ⟨_, rfl, hy⟩) hS1 hR hF hn)
theorem mf_lstore_n {i : Fin 4} {j : Nat} {x : Int} (hd : decode Y.2.1 pc = .ok (.lstore_n i, 1)) (hj : (i : Nat) = j) (hm : j + 1 < Y.2.2.1) (k : mf_AW C l Y R n0 Z X (pc + 1) (mf_set2 lv j (1, x)) st n g h) : mf_AW C l Y R n0 Z X pc lv ((1, x) :: st) n g h := by
  intro p e s m args below meth c H locs ls sv lc hC hX hl hL hS hR hF hn
  obtain ⟨v, sv1, rfl, ⟨y, rfl, hy⟩, hS1⟩ := mf_S1 hS
  exact lv_lstore_n hC.1 hC.2.1 hd hj hl hm rfl (fun ls' hl' => k p e s m args below meth c H locs ls' _ _ hC hX hl' (hL.set2 (a := (1, x)) ⟨_, rfl, hy⟩) hS1 hR hF hn)
theorem mf_lstore {j : Nat} {x : Int} (hd : decode Y.2.1 pc = .ok (.lstore j, 2)) (hm : j + 1 < Y.2.2.1) (k : mf_AW C l Y R n0 Z X (pc + 2) (mf_set2 lv j (1, x)) st n g h) : mf_AW C l Y R n0 Z X pc lv ((1, x) :: st) n g h := by
  intro p e s m args below meth c H locs ls sv lc hC hX hl hL hS hR hF hn
  obtain ⟨v, sv1, rfl, ⟨y, rfl, hy⟩, hS1⟩ := mf_S1 hS
  exact lv_lstore hC.1 hC.2.1 hd hl hm rfl (fun ls' hl' => k p e s m args below meth c H locs ls' _ _ hC hX hl' (hL.set2 (a := (1, x)) ⟨_, rfl, hy⟩) hS1 hR hF hn)
theorem mf_astore_n {i : Fin 4} {j : Nat} {x : Int} (hd : decode Y.2.1 pc = .ok (.astore_n i, 1)) (hj : (i : Nat) = j) (hm : j < Y.2.2.1) (k : mf_AW C l Y R n0 Z X (pc + 1) (mf_set1 lv j (2, x)) st n g h) : mf_AW C l Y R n0 Z X pc lv ((2, x) :: st) n g h := by
  intro p e s m args below meth c H locs ls sv lc hC hX hl hL hS hR hF hn
  obtain ⟨v, sv1, rfl, hv, hS1⟩ := mf_S1 hS
  rcases mf_ref hv with rfl | ⟨a, rfl⟩
  · exact lv_astore_nN hC.1 hC.2.1 hd hj hl hm rfl (fun ls' hl' => k p e s m args below meth c H locs ls' _ _ hC hX hl' (hL.set1 (a := (2, x)) hv) hS1 hR hF hn)
  · exact lv_astore_n hC.1 hC.2.1 hd hj hl hm rfl (fun ls' hl' => k p e s m args below meth c H locs ls' _ _ hC hX hl' (hL.set1 (a := (2, x)) hv) hS1 hR hF hn)
theorem mf_astore {j : Nat} {x : Int} (hd : decode Y.2.1 pc = .ok (.astore j, 2)) (hm : j < Y.2.2.1) (k : mf_AW C l Y R n0 Z X (pc + 2) (mf_set1 lv j (2, x)) st n g h) : mf_AW C l Y R n0 Z X pc lv ((2, x) :: st) n g h := by
  intro p e s m args below meth c H locs ls sv lc hC hX hl hL hS hR hF hn
  obtain ⟨v, sv1, rfl, hv, hS1⟩ := mf_S1 hS
  rcases mf_ref hv with rfl | ⟨a, rfl⟩
  · exact lv_astoreN hC.1 hC.2.1 hd hl hm rfl (fun ls' hl' => k p e s m args below meth c H locs ls' _ _ hC hX hl' (hL.set1 (a := (2, x)) hv) hS1 hR hF hn)
  · exact lv_astore hC.1 hC.2.1 hd hl hm rfl (fun ls' hl' => k p e s m args below meth c H locs ls' _ _ hC hX hl' (hL.set1 (a := (2, x)) hv) hS1 hR hF hn)
theorem mf_get_ix {i : Nat} {v : Value} {lc : List (Nat × Value)} (h : (i, v) ∈ lc) : ∃ k : Nat, lc[k]? = some (i, v) := List.getElem?_of_mem h
theorem mf_iinc {j : Nat} {i x : Int} (hd : decode Y.2.1 pc = .ok (.iinc j i, 3)) (hg : mf_get lv j = some (0, x)) (hm : j < Y.2.2.1) (hi : (Int32.ofInt i).toInt = i) (k : mf_AW C l Y R n0 Z X (pc + 3) (mf_set1 lv j (0, mf_w32 (x + i))) st n g h) : mf_AW C l Y R n0 Z X pc lv st n g h := by
  intro p e s m args below meth c H locs ls sv lc hC hX hl hL hS hR hF hn
  obtain ⟨v, ⟨y, rfl, hy⟩, hmem⟩ := hL.get hg
  obtain ⟨q, hq⟩ := mf_get_ix hmem
  exact lv_iinc hC.1 hC.2.1 hd hl hq rfl hm rfl (fun ls' hl' => k p e s m args below meth c H locs ls' _ _ hC hX hl' (hL.set1 (a := (0, mf_w32 (x + i))) ⟨_, rfl, by rw [Int32.toInt_add, hy, hi]; rfl⟩) hS hR hF hn)
end MfRows
