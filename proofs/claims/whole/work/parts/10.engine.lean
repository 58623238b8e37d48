/-! THE ENGINE: what the law made lies behind one another on the heap, so each cell has a number; cells hold whole numbers; a judgement of code over them -/
abbrev mf_M : Type := Int → Int → Int
abbrev mf_AV : Type := Nat × Int
/-- a method: its name, its bytes, its locals, its answer -/
abbrev mf_Y : Type := MethodName × ByteArray × Nat × Option FieldType
/-- where the law's cells begin, the text's two cells, the script; the classes; the classes of arrays -/
abbrev mf_G : Type := (Nat × Nat × Nat × Nat) × va_G × (Nat → ClassId)
def mf_w32 (x : Int) : Int := x.bmod 4294967296
def mf_w64 (x : Int) : Int := x.bmod 18446744073709551616
def mf_up (h : mf_M) (a i v : Int) : mf_M := fun a' => if a' = a then (fun i' => if i' = i then v else h a i') else h a'
def mf_tbl : List Cond := lw_tbl.filter goodWord
theorem mf_in {w : Cond} {i : Nat} (h : lw_tbl[i]? = some w) (hg : goodWord w = true) : w ∈ mf_tbl := List.mem_filter.mpr ⟨List.mem_of_getElem? h, hg⟩
theorem mf_inAll {ws : List Cond} {ps : List Nat} (h : (ws.zip ps).all (fun q => decide (lw_tbl[q.2]? = some q.1) && goodWord q.1) = true) (hl : ws.length ≤ ps.length) : ∀ w ∈ ws, w ∈ mf_tbl := by
  intro w hw
  obtain ⟨k, hk, rfl⟩ := List.getElem_of_mem hw
  have h1 := List.all_eq_true.mp h (ws[k], ps[k]'(by omega)) (List.mem_of_getElem? (i := k) (by simp [List.getElem?_zip_eq_some, hk, (by omega : k < ps.length)]))
  simp only [Bool.and_eq_true, decide_eq_true_eq] at h1
  exact mf_in h1.1 h1.2
theorem mf_goodIn {y : MethodName} {b : ByteArray} {k : Nat} {r : Option FieldType} (hc : Cond.code y b k r ∈ mf_tbl) : GoodIn mf_tbl (Cond.code y b k r :: mf_tbl) := by
  intro w hw
  have h : w ∈ mf_tbl := (List.mem_cons.mp hw).elim (fun e => e ▸ hc) id
  exact ⟨h, good_of_word (List.mem_filter.mp h).2⟩
abbrev mf_KL : List vw_C := [(RX0, TX0, 1), (RX1, TX1, 14), (RX2, TX2, 4), (RX3, TX3, 4), (RX4, TX4, 5), (RX5, TX5, 12), (RX6, TX6, 8), (RX7, TX7, 4), (RX8, TX8, 2), (RX9, TX9, 10), (RX10, TX10, 1), (RX11, TX11, 20), (RX12, TX12, 106)]
/-- a class's field's type -/
def mf_fty (c : Nat) : Nat → FieldType := match c with
  | 0 => tyX0 | 1 => tyX1 | 2 => tyX2 | 3 => tyX3 | 4 => tyX4 | 5 => tyX5 | 6 => tyX6 | 7 => tyX7 | 8 => tyX8 | 9 => tyX9 | 10 => tyX10 | 11 => tyX11 | _ => tyX12
def mf_aty (c : Nat) : FieldType := match c with
  | 20 => .int | 21 => .byte | 22 => .boolean | 23 => .char | 24 => .long | _ => .object "MarginFolk$State"
def mf_tg (t : FieldType) : Nat := match t with
  | .long => 1 | .object _ => 2 | .array _ => 2 | _ => 0
def mf_tys (C : mf_G) : List (ClassId × FieldType) := [(C.2.2 20, .int), (C.2.2 21, .byte), (C.2.2 22, .boolean), (C.2.2 23, .char), (C.2.2 24, .long), (C.2.2 25, .object "MarginFolk$State")]
/-- a value, by its kind: 0 int, 1 long, 2 a reference (-1 none, -2 the text, -3 the script, -4 the text's bytes, -5 one of which nothing is known) -/
def mf_V (C : mf_G) (t : Nat) (v : Value) (i : Int) : Prop := match t with
  | 0 => ∃ x : Int32, v = .int x ∧ x.toInt = i
  | 1 => ∃ x : Int64, v = .long x ∧ x.toInt = i
  | _ => (v = .null ∧ i = -1) ∨ (v = .ref C.1.2.1 ∧ i = -2) ∨ (v = .ref C.1.2.2.2 ∧ i = -3) ∨ (v = .ref C.1.2.2.1 ∧ i = -4) ∨ (i = -5 ∧ (v = .null ∨ ∃ a : Nat, v = .ref a)) ∨ ∃ k : Nat, v = .ref (C.1.1 + k) ∧ i = (k : Int)
def mf_S (C : mf_G) : List Value → List mf_AV → Prop
  | [], [] => True
  | v :: sv, a :: st => mf_V C a.1 v a.2 ∧ mf_S C sv st
  | _, _ => False
def mf_L (C : mf_G) : List (Nat × Value) → List (Nat × mf_AV) → Prop
  | [], [] => True
  | q :: lc, a :: lv => q.1 = a.1 ∧ mf_V C a.2.1 q.2 a.2.2 ∧ mf_L C lc lv
  | _, _ => False
def mf_get : List (Nat × mf_AV) → Nat → Option mf_AV
  | [], _ => none
  | a :: l, i => if a.1 == i then some a.2 else mf_get l i
def mf_set1 (lv : List (Nat × mf_AV)) (i : Nat) (a : mf_AV) : List (Nat × mf_AV) := (i, a) :: lv.filter (fun q => !(q.1 == i) && !(q.1 + 1 == i && q.2.1 == 1))
def mf_set2 (lv : List (Nat × mf_AV)) (i : Nat) (a : mf_AV) : List (Nat × mf_AV) := (i, a) :: lv.filter (fun q => !(q.1 == i) && (!(q.1 == i + 1) && !(q.1 + 1 == i && q.2.1 == 1)))
theorem mf_cat {C : mf_G} {t : Nat} {v : Value} {i : Int} (h : mf_V C t v i) : (v.category == 2) = (t == 1) := by
  match t, h with
  | 0, ⟨x, hv, _⟩ => subst hv; rfl
  | 1, ⟨x, hv, _⟩ => subst hv; rfl
  | k + 2, h =>
    have e : (k + 2 == 1) = false := by simp
    rw [e]
    rcases h with ⟨hv, _⟩ | ⟨hv, _⟩ | ⟨hv, _⟩ | ⟨hv, _⟩ | ⟨_, hv | ⟨a, hv⟩⟩ | ⟨k, hv, _⟩ <;> subst hv <;> rfl
theorem mf_L.get {C : mf_G} {i : Nat} {a : mf_AV} : ∀ {lc : List (Nat × Value)} {lv : List (Nat × mf_AV)}, mf_L C lc lv → mf_get lv i = some a → ∃ v, mf_V C a.1 v a.2 ∧ (i, v) ∈ lc
  | [], [], _, h => by cases h
  | q :: lc, b :: lv, hL, h => by
    obtain ⟨h1, h2, h3⟩ := hL
    unfold mf_get at h
    by_cases hb : (b.1 == i) = true
    · rw [if_pos hb] at h
      cases h
      have hi : q.1 = i := h1.trans (by simpa using hb)
      exact ⟨q.2, h2, by rw [← hi]; exact List.mem_cons_self⟩
    · rw [if_neg hb] at h
      obtain ⟨v, g1, g2⟩ := mf_L.get h3 h
      exact ⟨v, g1, List.mem_cons_of_mem _ g2⟩
theorem mf_L.filter {C : mf_G} {f : Nat × Value → Bool} {g : Nat × mf_AV → Bool} (hfg : ∀ q a, q.1 = a.1 → mf_V C a.2.1 q.2 a.2.2 → f q = g a) : ∀ {lc : List (Nat × Value)} {lv : List (Nat × mf_AV)}, mf_L C lc lv → mf_L C (lc.filter f) (lv.filter g)
  | [], [], _ => trivial
  | q :: lc, b :: lv, hL => by
    obtain ⟨h1, h2, h3⟩ := hL
    have e := hfg q b h1 h2
    rw [List.filter_cons, List.filter_cons, e]
    by_cases hb : g b = true
    · rw [if_pos hb, if_pos hb]
      exact ⟨h1, h2, mf_L.filter hfg h3⟩
    · rw [if_neg hb, if_neg hb]
      exact mf_L.filter hfg h3
theorem mf_L.set1 {C : mf_G} {lc : List (Nat × Value)} {lv : List (Nat × mf_AV)} (h : mf_L C lc lv) {i : Nat} {v : Value} {a : mf_AV} (hv : mf_V C a.1 v a.2) : mf_L C ((i, v) :: lc.filter (fun q => !(q.1 == i) && !(q.1 + 1 == i && q.2.category == 2))) (mf_set1 lv i a) :=
  ⟨rfl, hv, mf_L.filter (fun q a h1 h2 => by rw [h1, mf_cat h2]) h⟩
theorem mf_L.set2 {C : mf_G} {lc : List (Nat × Value)} {lv : List (Nat × mf_AV)} (h : mf_L C lc lv) {i : Nat} {v : Value} {a : mf_AV} (hv : mf_V C a.1 v a.2) : mf_L C ((i, v) :: lc.filter (fun q => !(q.1 == i) && (!(q.1 == i + 1) && !(q.1 + 1 == i && q.2.category == 2)))) (mf_set2 lv i a) :=
  ⟨rfl, hv, mf_L.filter (fun q a h1 h2 => by rw [h1, mf_cat h2]) h⟩
def mf_pick (l : List (Nat × mf_AV)) (ks : List Nat) : List (Nat × mf_AV) := ks.filterMap (fun k => l[k]?)
theorem mf_L.nth {C : mf_G} : ∀ {lc : List (Nat × Value)} {lv : List (Nat × mf_AV)}, mf_L C lc lv → ∀ k : Nat, (lc[k]? = none ∧ lv[k]? = none) ∨ ∃ q a, lc[k]? = some q ∧ lv[k]? = some a ∧ q.1 = a.1 ∧ mf_V C a.2.1 q.2 a.2.2
  | [], [], _, k => Or.inl ⟨rfl, rfl⟩
  | q :: lc, b :: lv, hL, 0 => Or.inr ⟨q, b, rfl, rfl, hL.1, hL.2.1⟩
  | q :: lc, b :: lv, hL, k + 1 => by simpa using mf_L.nth hL.2.2 k
theorem mf_L.pick {C : mf_G} {lc : List (Nat × Value)} {lv : List (Nat × mf_AV)} (h : mf_L C lc lv) : ∀ ks : List Nat, mf_L C (lv_pick lc ks) (mf_pick lv ks)
  | [] => trivial
  | k :: ks => by
    have ih := mf_L.pick h ks
    rcases h.nth k with ⟨h1, h2⟩ | ⟨q, a, h1, h2, h3, h4⟩
    · have e1 : lv_pick lc (k :: ks) = lv_pick lc ks := by simp [lv_pick, h1]
      have e2 : mf_pick lv (k :: ks) = mf_pick lv ks := by simp [mf_pick, h2]
      rw [e1, e2]; exact ih
    · have e1 : lv_pick lc (k :: ks) = q :: lv_pick lc ks := by simp [lv_pick, h1]
      have e2 : mf_pick lv (k :: ks) = a :: mf_pick lv ks := by simp [mf_pick, h2]
      rw [e1, e2]; exact ⟨h3, h4, ih⟩
/-- the shapes of the law's cells: (class, 0), or (20 and on: array, its length); printed by program below -/
def mf_fn (c : Nat) : Nat := match mf_KL[c]? with
  | some r => r.2.2
  | none => 0
def mf_nest : List Cond := [.methodLinkNest "MarginFolk" 14 ⟨"MarginFolk$Tape", "<init>", "()V"⟩ "MarginFolk", .methodLinkNest "MarginFolk" 30 ⟨"MarginFolk$Script", "<init>", "()V"⟩ "MarginFolk", .methodLinkNest "MarginFolk" 46 ⟨"MarginFolk$Folio", "<init>", "()V"⟩ "MarginFolk", .methodLinkNest "MarginFolk$Folio" 29 ⟨"MarginFolk$Script", "<init>", "()V"⟩ "MarginFolk", .methodLinkNest "MarginFolk$Folio" 36 ⟨"MarginFolk$State", "<init>", "()V"⟩ "MarginFolk", .methodLinkNest "MarginFolk" 65 ⟨"MarginFolk$Book", "<init>", "()V"⟩ "MarginFolk", .methodLinkNest "MarginFolk$Book" 11 ⟨"MarginFolk$Reckoner", "<init>", "()V"⟩ "MarginFolk", .methodLinkNest "MarginFolk$Seeker" 17 ⟨"MarginFolk$State", "<init>", "()V"⟩ "MarginFolk", .methodLinkNest "MarginFolk" 81 ⟨"MarginFolk$State", "<init>", "()V"⟩ "MarginFolk", .methodLinkNest "MarginFolk$FolioReader" 98 ⟨"MarginFolk$SumReader", "readSum", "(I)V"⟩ "MarginFolk", .methodLinkNest "MarginFolk$FolioReader" 101 ⟨"MarginFolk$SumReader", "readTest", "(I)V"⟩ "MarginFolk"]
theorem mf_nest_form : ∀ w ∈ mf_nest, ∃ (a : String) (i : Nat) (x : MethodName) (b : String), w = .methodLinkNest a i x b := by
  intro w hw
  simp only [mf_nest, List.mem_cons, List.not_mem_nil, or_false] at hw
  rcases hw with rfl | rfl | rfl | rfl | rfl | rfl | rfl | rfl | rfl | rfl | rfl <;> exact ⟨_, _, _, _, rfl⟩
/-- the words' text, its bytes -/
def mf_list : String := "day leaf cell trade purse open other number met meets min max or and not all folio cells gloss worm being on at opens corn toll steps thumb first last often total most least "
def mf_lbyt : List Int32 := [100, 97, 121, 32, 108, 101, 97, 102, 32, 99, 101, 108, 108, 32, 116, 114, 97, 100, 101, 32, 112, 117, 114, 115, 101, 32, 111, 112, 101, 110, 32, 111, 116, 104, 101, 114, 32, 110, 117, 109, 98, 101, 114, 32, 109, 101, 116, 32, 109, 101, 101, 116, 115, 32, 109, 105, 110, 32, 109, 97, 120, 32, 111, 114, 32, 97, 110, 100, 32, 110, 111, 116, 32, 97, 108, 108, 32, 102, 111, 108, 105, 111, 32, 99, 101, 108, 108, 115, 32, 103, 108, 111, 115, 115, 32, 119, 111, 114, 109, 32, 98, 101, 105, 110, 103, 32, 111, 110, 32, 97, 116, 32, 111, 112, 101, 110, 115, 32, 99, 111, 114, 110, 32, 116, 111, 108, 108, 32, 115, 116, 101, 112, 115, 32, 116, 104, 117, 109, 98, 32, 102, 105, 114, 115, 116, 32, 108, 97, 115, 116, 32, 111, 102, 116, 101, 110, 32, 116, 111, 116, 97, 108, 32, 109, 111, 115, 116, 32, 108, 101, 97, 115, 116, 32]
/-- what lies ahead of the law's cells and stays: links of nest mates, the text, two statics -/
def mf_N (C : mf_G) (U : State) (H : Heap) : Prop := (∀ w ∈ mf_nest, va_Nw w U) ∧ vk_R "MarginFolk$Words" 15 mf_list C.1.2.1 U ∧ vk_S 1 [174] [mf_lbyt] (fun _ => C.1.2.1) (fun _ => C.1.2.2.1) (fun q : Nat => C.1.1 ≤ q) U H ∧ va_Z "java/lang/String" "COMPACT_STRINGS" "Z" (.int 1) (fun q : Nat => C.1.1 ≤ q) U H ∧ va_Zq "jdk/internal/util/Preconditions" "SIOOBE_FORMATTER" "Ljava/util/function/BiFunction;" (fun q : Nat => C.1.1 ≤ q) U H ∧ va_AO "MarginFolk$State" U
theorem mf_N.moved {C : mf_G} {s U : State} {H H1 : Heap} (hW : s.WarmedH U.vm) (hH : ∀ a : Nat, a < H.size → ¬ (fun q : Nat => C.1.1 ≤ q) a → H1[a]? = H[a]?) (h : mf_N C s H) : mf_N C U H1 := by
  obtain ⟨h1, h2, h3, h4, h5, h6⟩ := h
  refine ⟨fun w hw => ?_, h2.warm hW, (h3.kept hH).moved hW.alike, (h4.kept hH).moved hW.alike, (h5.kept hH).moved hW.alike, h6.moved hW.alike⟩
  obtain ⟨a, i, x, b, rfl⟩ := mf_nest_form w hw
  exact va_Nw.warmM hW (h1 _ hw)
theorem mf_N.same {C : mf_G} {s U : State} {H : Heap} (hv : U.vm = s.vm) (h : mf_N C s H) : mf_N C U H := by
  obtain ⟨h1, h2, h3, h4, h5, h6⟩ := h
  have ha : s.vm.Alike U.vm := by rw [hv]; exact Vm.Alike.refl _
  refine ⟨fun w hw => ?_, h2.same hv, h3.moved ha, h4.moved ha, h5.moved ha, h6.moved ha⟩
  obtain ⟨a, i, x, b, rfl⟩ := mf_nest_form w hw
  exact va_Nw.same rfl hv.symm (h1 _ hw)
