/-! arraycopy of ints; the text; statics -/
def mf_cpy (h : mf_M) (a b sp dp k : Int) : mf_M := fun a' => if a' = b then (fun i => if dp ≤ i ∧ i < dp + k then h a (sp + (i - dp)) else h b i) else h a'
section MfCopy
variable {C : mf_G} {l : Launch} {Y : mf_Y} {R : Room} {n0 : Nat} {Z : mf_Zt} {X : mf_Xt} {pc : Nat} {lv : List (Nat × mf_AV)} {st : List mf_AV} {n : Nat} {g h : mf_M}
theorem mf_ints {H : Heap} (hR : mf_R C n g h H) {k : Nat} (hk : k < n) (hc : (mf_sh k).1 = 20) : ∃ f : Nat → Int32, H[C.1.1 + k]? = some (vp_cell (C.2.2 20) ((mf_sh k).2, .inl f)) ∧ ∀ j : Nat, j < (mf_sh k).2 → (f j).toInt = h k j := by
  obtain ⟨f, h1, h2⟩ := mf_arr hR hk hc (by decide)
  have h3 : ∀ j : Nat, ∃ x : Int32, j < (mf_sh k).2 → f j = .int x ∧ x.toInt = h k j := by
    intro j
    by_cases hj : j < (mf_sh k).2
    · obtain ⟨x, e1, e2⟩ := h2 j hj
      exact ⟨x, fun _ => ⟨e1, e2⟩⟩
    · exact ⟨0, fun z => absurd z hj⟩
  refine ⟨fun j => (h3 j).choose, ?_, fun j hj => ((h3 j).choose_spec hj).2⟩
  rw [h1, vp_cell_i]
  congr 1
  unfold arrV
  congr 1
  apply Array.ext
  · rw [Array.size_ofFn, Array.size_ofFn]
  · intro i hi1 hi2
    have hlt : i < (mf_sh k).2 := by rw [Array.size_ofFn] at hi1; exact hi1
    rw [Array.getElem_ofFn, Array.getElem_ofFn]
    exact ((h3 i).choose_spec hlt).1
theorem mf_nfw : nativeFrameWords "java/lang/System" "arraycopy" 5 = 7 := by decide
theorem mf_acopy {a b sp dp k : Int} {idx : Nat} (hd : decode Y.2.1 pc = .ok (.invokestatic idx, 3)) (hw : Cond.methodLink Y.1.cls idx arraycopyName ∈ mf_tbl) (hnat : Cond.native arraycopyName ∈ mf_tbl) (hsta : Cond.static arraycopyName ∈ mf_tbl) (hini : Cond.initialized "java/lang/System" ∈ mf_tbl) {Na Nb : Int} (ha : mf_is n a 20) (hb : mf_is n b 20) (hNa : mf_len a = Na) (hNb : mf_len b = Nb) (h1 : 0 ≤ sp) (h2 : 0 ≤ dp) (h3 : 0 ≤ k) (h4 : sp + k ≤ Na) (h5 : dp + k ≤ Nb) (hf : 1 ≤ R.frames) (hlo : mf_words st + 18 ≤ R.locals)
    (kk : mf_AW C l Y R n0 Z X (pc + 3) lv st n g (mf_cpy h a b sp dp k)) : mf_AW C l Y R n0 Z X pc lv ((0, k) :: (0, dp) :: (2, b) :: (0, sp) :: (2, a) :: st) n g h := by
  intro p e s m args below meth c H locs ls sv lc hC hX hl hL hS hR hF hn
  obtain ⟨vk, vd, vb, sv1, rfl, ⟨yk, rfl, hyk⟩, ⟨yd, rfl, hyd⟩, hvb, hS1⟩ := mf_S3 hS
  obtain ⟨vs, va, sv2, rfl, ⟨ys, rfl, hys⟩, hva, hS2⟩ := mf_S2 hS1
  obtain ⟨qa, rfl, rfl, hqa, hca⟩ := mf_isV ha hva
  obtain ⟨qb, rfl, rfl, hqb, hcb⟩ := mf_isV hb hvb
  obtain ⟨fa, ea, hfa⟩ := mf_ints hR hqa hca
  obtain ⟨fb, eb, hfb⟩ := mf_ints hR hqb hcb
  obtain ⟨hx0, hbc, hml, hrt, hlk, hown, hts, hK, hsz, hnm, hNw⟩ := id hC
  have la : mf_len (qa : Int) = ((mf_sh qa).2 : Int) := by simp [mf_len]
  have lb : mf_len (qb : Int) = ((mf_sh qb).2 : Int) := by simp [mf_len]
  rw [← hNa, la] at h4
  rw [← hNb, lb] at h5
  have nlt : ∀ {y : Int32} {i : Int}, y.toInt = i → 0 ≤ i → ¬ y < 0 := fun {y i} hy hi q => by
    have h9 := (mf_lt32 hy (rfl : (0 : Int32).toInt = 0)).mp q
    simp only [show (0 : Int32).toInt = 0 from rfl] at h9
    omega
  have cs := mf_clamp hys h1
  have cd := mf_clamp hyd h2
  have ck := mf_clamp hyk h3
  intro T hT Xs
  obtain ⟨-, k0, hk0, cm0, hkk0⟩ := (hK.2 0 (C.2.2 20, .int) rfl).1 (mf_sh qa).2 (fun j => .int (fa j))
  obtain ⟨-, k1, hk1, cm1, hkk1⟩ := (hK.2 0 (C.2.2 20, .int) rfl).1 (mf_sh qb).2 (fun j => .int (fb j))
  obtain ⟨vm', X', step⟩ := Xs.arraycopy hx0 hown (hts _ hw) (hts _ hnat) (hts _ hsta) (hts _ hini) (src := C.1.1 + qa) (dst := C.1.1 + qb) (cs := vp_cell (C.2.2 20) ((mf_sh qa).2, .inl fa)) (cd := vp_cell (C.2.2 20) ((mf_sh qb).2, .inl fb)) (srcPos := ys) (destPos := yd) (n := yk) (by rw [hT]; exact ea) (by rw [hT]; exact eb)
    (fun _ h => by cases h) (fun _ h => by cases h) (fun h => by cases h) (fun h => by cases h) hk0 hk1 hkk0 hkk1 (by simp) (nlt hys h1) (nlt hyd h2) (nlt hyk h3)
    (by rw [hys, hyk]; show ¬ _ > ((arrV (C.2.2 20) (mf_sh qa).2 (fun j => .int (fa j))).slots.size : Int); rw [arrV_size]; omega)
    (by rw [hyd, hyk]; show ¬ _ > ((arrV (C.2.2 20) (mf_sh qb).2 (fun j => .int (fb j))).slots.size : Int); rw [arrV_size]; omega)
    (fun vm₁ _ i hi => by
      have e : (vp_cell (C.2.2 20) ((mf_sh qa).2, .inl fa)).slots.getD (ys.toNatClampNeg + i) .null = .int (fa (ys.toNatClampNeg + i)) := by
        show (arrV (C.2.2 20) (mf_sh qa).2 (fun j => .int (fa j))).slots.getD _ _ = _
        rw [Array.getD_eq_getD_getElem?, arrV_read _ _ (by rw [ck] at hi; rw [cs]; omega)]
        rfl
      refine ⟨?_, ?_⟩
      · rw [e]; rfl
      · rw [e]; exact trivial)
    (g := F0 m pc ls (.int yk :: .int yd :: .ref (C.1.1 + qb) :: .int ys :: .ref (C.1.1 + qa) :: sv2)) rfl (by rw [hml]; exact hl.1) (rest := sv2) rfl (by rw [hbc]; exact hd) hf (by show 2 * 0 + _ + _ ≤ _; rw [hS2.cats, mf_nfw]; omega)
  have e1 : copied (vp_cell (C.2.2 20) ((mf_sh qa).2, .inl fa)) (vp_cell (C.2.2 20) ((mf_sh qb).2, .inl fb)) ys yd yk = vp_cell (C.2.2 20) ((mf_sh qb).2, .inl (va_cpy fa fb ys.toNatClampNeg yd.toNatClampNeg yk.toNatClampNeg)) := va_copied (fun z => .int z) (C.2.2 20) (C.2.2 20) fa fb (by rw [cs, ck]; omega)
  rw [e1] at X' step
  have hlt : C.1.1 + qb < H.size := (Array.getElem?_eq_some_iff.mp eb).1
  generalize hcell : vp_cell (C.2.2 20) ((mf_sh qb).2, .inl (va_cpy fa fb ys.toNatClampNeg yd.toNatClampNeg yk.toNatClampNeg)) = cell at X' step
  have hheap : ((T.setVm vm').setCell (C.1.1 + qb) cell).heap = H.setIfInBounds (C.1.1 + qb) cell := by rw [← hT]; rfl
  have oq : ∀ q : Nat, q ≠ C.1.1 + qb → (H.setIfInBounds (C.1.1 + qb) cell)[q]? = H[q]? := fun q hq => by simp [Array.getElem?_setIfInBounds, Ne.symm hq]
  have zq : (H.setIfInBounds (C.1.1 + qb) cell).size = H.size := by simp
  have eq : (H.setIfInBounds (C.1.1 + qb) cell)[C.1.1 + qb]? = some cell := by simp [Array.getElem?_setIfInBounds, hlt]
  have hat : mf_at C qb (g qb) (mf_cpy h qa qb sp dp k qb) (H.setIfInBounds (C.1.1 + qb) cell) := by
    unfold mf_at
    rw [hcb, if_neg (by decide)]
    refine ⟨fun j => .int (va_cpy fa fb ys.toNatClampNeg yd.toNatClampNeg yk.toNatClampNeg j), by rw [eq, ← hcell]; rfl, fun j hj => ⟨_, rfl, ?_⟩⟩
    show _ = mf_cpy h qa qb sp dp k qb j
    rw [cs, cd, ck]
    unfold va_cpy mf_cpy
    rw [if_pos rfl]
    by_cases hj2 : dp ≤ (j : Int) ∧ (j : Int) < dp + k
    · rw [if_pos hj2, if_pos (by omega), hfa _ (by omega)]
      congr 1
      omega
    · rw [if_neg hj2, if_neg (by omega)]
      exact hfb j hj
  obtain ⟨t, a1, b1⟩ := kk p e s m args below meth c (H.setIfInBounds (C.1.1 + qb) cell) _ ls sv2 lc hC hX hl hL hS2 (hR.set zq oq hat (fun _ _ => rfl) (fun j hj => by unfold mf_cpy; rw [if_neg (by omega)])) ⟨by rw [zq]; exact hF.1, fun q g1 g2 => by
      rw [oq q (fun e => g2 (by rw [e]; exact Nat.le_add_right _ _))]
      exact hF.2.1 q g1 g2, fun q hq => by
      rcases List.mem_append.mp hq with h | h
      · exact hF.2.2 q h
      · obtain ⟨z, -, hz⟩ := List.mem_map.mp h
        rw [← hz]
        exact Nat.le_add_right _ _⟩ hn _ hheap X'
  exact ⟨t, step t a1, b1⟩
end MfCopy
