set_option maxRecDepth 100000 in
set_option maxHeartbeats 4000000 in
theorem wJ6_bitCount_0f7a4 {C : mf_G} {l : Launch} {d : Nat} {K : mf_Kt} {x0 : Int} {g h : mf_M} (hyp : (∀ v1 : Int, v1 = mf_w32 (x0 - (mf_and (mf_ushr x0 1) 1431655765)) → (∀ v2 : Int, v2 = mf_w32 ((mf_and v1 858993459) + (mf_and (mf_ushr v1 2) 858993459)) → (∀ v3 : Int, v3 = mf_and (mf_w32 (v2 + (mf_ushr v2 4))) 252645135 → (∀ v4 : Int, v4 = mf_w32 (v3 + (mf_ushr v3 8)) → (∀ v5 : Int, v5 = mf_w32 (v4 + (mf_ushr v4 16)) → K (mf_and v5 63) g h)))))) : xM C l d YJ6_bitCount_0f7a4 [(0, x0)] g h K := by
  intro hG
  refine mf_entry (by decide) (Nat.le_of_ble_eq_true rfl) ?_
  refine mf_iload_n (mf_dat eJ6_bitCount_0f7a4 0 rfl) rfl rfl ?_
  refine mf_iload_n (mf_dat eJ6_bitCount_0f7a4 1 rfl) rfl rfl ?_
  refine mf_iconst (v := 1) (mf_dat eJ6_bitCount_0f7a4 2 rfl) (by decide) ?_
  refine mf_iushr (mf_dat eJ6_bitCount_0f7a4 3 rfl) ?_
  refine mf_ldcw (v := 1431655765) cl_J6_265 (mf_dat eJ6_bitCount_0f7a4 4 rfl) (by decide) ?_
  refine mf_iand (mf_dat eJ6_bitCount_0f7a4 5 rfl) ?_
  refine mf_isub (mf_dat eJ6_bitCount_0f7a4 6 rfl) ?_
  generalize qv1 : mf_w32 (x0 - (mf_and (mf_ushr x0 1) 1431655765)) = v1
  replace hyp := hyp _ qv1.symm
  refine mf_istore_n (mf_dat eJ6_bitCount_0f7a4 7 rfl) rfl (by decide) ?_
  refine mf_iload_n (mf_dat eJ6_bitCount_0f7a4 8 rfl) rfl rfl ?_
  refine mf_ldcw (v := 858993459) cl_J6_266 (mf_dat eJ6_bitCount_0f7a4 9 rfl) (by decide) ?_
  refine mf_iand (mf_dat eJ6_bitCount_0f7a4 10 rfl) ?_
  refine mf_iload_n (mf_dat eJ6_bitCount_0f7a4 11 rfl) rfl rfl ?_
  refine mf_iconst (v := 2) (mf_dat eJ6_bitCount_0f7a4 12 rfl) (by decide) ?_
  refine mf_iushr (mf_dat eJ6_bitCount_0f7a4 13 rfl) ?_
  refine mf_ldcw (v := 858993459) cl_J6_266 (mf_dat eJ6_bitCount_0f7a4 14 rfl) (by decide) ?_
  refine mf_iand (mf_dat eJ6_bitCount_0f7a4 15 rfl) ?_
  refine mf_iadd (mf_dat eJ6_bitCount_0f7a4 16 rfl) ?_
  generalize qv2 : mf_w32 ((mf_and v1 858993459) + (mf_and (mf_ushr v1 2) 858993459)) = v2
  replace hyp := hyp _ qv2.symm
  refine mf_istore_n (mf_dat eJ6_bitCount_0f7a4 17 rfl) rfl (by decide) ?_
  refine mf_iload_n (mf_dat eJ6_bitCount_0f7a4 18 rfl) rfl rfl ?_
  refine mf_iload_n (mf_dat eJ6_bitCount_0f7a4 19 rfl) rfl rfl ?_
  refine mf_iconst (v := 4) (mf_dat eJ6_bitCount_0f7a4 20 rfl) (by decide) ?_
  refine mf_iushr (mf_dat eJ6_bitCount_0f7a4 21 rfl) ?_
  refine mf_iadd (mf_dat eJ6_bitCount_0f7a4 22 rfl) ?_
  refine mf_ldcw (v := 252645135) cl_J6_267 (mf_dat eJ6_bitCount_0f7a4 23 rfl) (by decide) ?_
  refine mf_iand (mf_dat eJ6_bitCount_0f7a4 24 rfl) ?_
  generalize qv3 : mf_and (mf_w32 (v2 + (mf_ushr v2 4))) 252645135 = v3
  replace hyp := hyp _ qv3.symm
  refine mf_istore_n (mf_dat eJ6_bitCount_0f7a4 25 rfl) rfl (by decide) ?_
  refine mf_iload_n (mf_dat eJ6_bitCount_0f7a4 26 rfl) rfl rfl ?_
  refine mf_iload_n (mf_dat eJ6_bitCount_0f7a4 27 rfl) rfl rfl ?_
  refine mf_bipush (v := 8) (mf_dat eJ6_bitCount_0f7a4 28 rfl) (by decide) ?_
  refine mf_iushr (mf_dat eJ6_bitCount_0f7a4 29 rfl) ?_
  refine mf_iadd (mf_dat eJ6_bitCount_0f7a4 30 rfl) ?_
  generalize qv4 : mf_w32 (v3 + (mf_ushr v3 8)) = v4
  replace hyp := hyp _ qv4.symm
  refine mf_istore_n (mf_dat eJ6_bitCount_0f7a4 31 rfl) rfl (by decide) ?_
  refine mf_iload_n (mf_dat eJ6_bitCount_0f7a4 32 rfl) rfl rfl ?_
  refine mf_iload_n (mf_dat eJ6_bitCount_0f7a4 33 rfl) rfl rfl ?_
  refine mf_bipush (v := 16) (mf_dat eJ6_bitCount_0f7a4 34 rfl) (by decide) ?_
  refine mf_iushr (mf_dat eJ6_bitCount_0f7a4 35 rfl) ?_
  refine mf_iadd (mf_dat eJ6_bitCount_0f7a4 36 rfl) ?_
  generalize qv5 : mf_w32 (v4 + (mf_ushr v4 16)) = v5
  replace hyp := hyp _ qv5.symm
  refine mf_istore_n (mf_dat eJ6_bitCount_0f7a4 37 rfl) rfl (by decide) ?_
  refine mf_iload_n (mf_dat eJ6_bitCount_0f7a4 38 rfl) rfl rfl ?_
  refine mf_bipush (v := 63) (mf_dat eJ6_bitCount_0f7a4 39 rfl) (by decide) ?_
  refine mf_iand (mf_dat eJ6_bitCount_0f7a4 40 rfl) ?_
  exact mf_ireturn (mf_dat eJ6_bitCount_0f7a4 41 rfl) rfl (Or.inl rfl) ⟨hG, hyp⟩
set_option maxRecDepth 100000 in
set_option maxHeartbeats 4000000 in
theorem wJ9_floorDiv_7cf53 {C : mf_G} {l : Launch} {d : Nat} {K : mf_Kt} {x0 x1 : Int} {g h : mf_M} (hyp : ¬ x1 = 0 ∧ (∀ v2 : Int, v2 = mf_w32 (x0.tdiv x1) → ((0 ≤ mf_xor x0 x1 → K v2 g h) ∧ (¬ 0 ≤ mf_xor x0 x1 → ((mf_w32 (v2 * x1) = x0 → K v2 g h) ∧ (¬ mf_w32 (v2 * x1) = x0 → K (mf_w32 (v2 - 1)) g h)))))) : xM C l d YJ9_floorDiv_7cf53 [(0, x0), (0, x1)] g h K := by
  intro hG
  refine mf_entryF (by decide +kernel) (Nat.le_of_ble_eq_true rfl) ?_
  refine mf_iload_n (mf_dat eJ9_floorDiv_7cf53 0 rfl) rfl rfl ?_
  refine mf_iload_n (mf_dat eJ9_floorDiv_7cf53 1 rfl) rfl rfl ?_
  obtain ⟨ck1, hyp⟩ := hyp
  refine mf_idiv (mf_dat eJ9_floorDiv_7cf53 2 rfl) ck1 ?_
  generalize qv2 : mf_w32 (x0.tdiv x1) = v2
  replace hyp := hyp _ qv2.symm
  refine mf_istore_n (mf_dat eJ9_floorDiv_7cf53 3 rfl) rfl (by decide) ?_
  refine mf_iload_n (mf_dat eJ9_floorDiv_7cf53 4 rfl) rfl rfl ?_
  refine mf_iload_n (mf_dat eJ9_floorDiv_7cf53 5 rfl) rfl rfl ?_
  refine mf_ixor (mf_dat eJ9_floorDiv_7cf53 6 rfl) ?_
  refine mf_if_ge (tgt := 21) (mf_dat eJ9_floorDiv_7cf53 7 rfl) (by decide) (fun hc => ?_) (fun hc => ?_)
  · replace hyp := hyp.1 hc
    refine mf_iload_n (mf_dat eJ9_floorDiv_7cf53 17 rfl) rfl rfl ?_
    exact mf_ireturn (mf_dat eJ9_floorDiv_7cf53 18 rfl) rfl (Or.inl rfl) ⟨hG, hyp⟩
  · replace hyp := hyp.2 hc
    refine mf_iload_n (mf_dat eJ9_floorDiv_7cf53 8 rfl) rfl rfl ?_
    refine mf_iload_n (mf_dat eJ9_floorDiv_7cf53 9 rfl) rfl rfl ?_
    refine mf_imul (mf_dat eJ9_floorDiv_7cf53 10 rfl) ?_
    refine mf_iload_n (mf_dat eJ9_floorDiv_7cf53 11 rfl) rfl rfl ?_
    refine mf_icmp_eq (tgt := 21) (mf_dat eJ9_floorDiv_7cf53 12 rfl) (by decide) (fun hc => ?_) (fun hc => ?_)
    · replace hyp := hyp.1 hc
      refine mf_iload_n (mf_dat eJ9_floorDiv_7cf53 17 rfl) rfl rfl ?_
      exact mf_ireturn (mf_dat eJ9_floorDiv_7cf53 18 rfl) rfl (Or.inl rfl) ⟨hG, hyp⟩
    · replace hyp := hyp.2 hc
      refine mf_iload_n (mf_dat eJ9_floorDiv_7cf53 13 rfl) rfl rfl ?_
      refine mf_iconst (v := 1) (mf_dat eJ9_floorDiv_7cf53 14 rfl) (by decide) ?_
      refine mf_isub (mf_dat eJ9_floorDiv_7cf53 15 rfl) ?_
      exact mf_ireturn (mf_dat eJ9_floorDiv_7cf53 16 rfl) rfl (Or.inl rfl) ⟨hG, hyp⟩
set_option maxRecDepth 100000 in
set_option maxHeartbeats 4000000 in
theorem wJ9_floorMod_7cf53 {C : mf_G} {l : Launch} {d : Nat} {K : mf_Kt} {x0 x1 : Int} {g h : mf_M} (hyp : ¬ x1 = 0 ∧ (∀ v2 : Int, v2 = x0.tmod x1 → ((0 ≤ mf_xor x0 x1 → K v2 g h) ∧ (¬ 0 ≤ mf_xor x0 x1 → ((v2 = 0 → K v2 g h) ∧ (¬ v2 = 0 → K (mf_w32 (v2 + x1)) g h)))))) : xM C l d YJ9_floorMod_7cf53 [(0, x0), (0, x1)] g h K := by
  intro hG
  refine mf_entryF (by decide +kernel) (Nat.le_of_ble_eq_true rfl) ?_
  refine mf_iload_n (mf_dat eJ9_floorMod_7cf53 0 rfl) rfl rfl ?_
  refine mf_iload_n (mf_dat eJ9_floorMod_7cf53 1 rfl) rfl rfl ?_
  obtain ⟨ck1, hyp⟩ := hyp
  refine mf_irem (mf_dat eJ9_floorMod_7cf53 2 rfl) ck1 ?_
  generalize qv2 : x0.tmod x1 = v2
  replace hyp := hyp _ qv2.symm
  refine mf_istore_n (mf_dat eJ9_floorMod_7cf53 3 rfl) rfl (by decide) ?_
  refine mf_iload_n (mf_dat eJ9_floorMod_7cf53 4 rfl) rfl rfl ?_
  refine mf_iload_n (mf_dat eJ9_floorMod_7cf53 5 rfl) rfl rfl ?_
  refine mf_ixor (mf_dat eJ9_floorMod_7cf53 6 rfl) ?_
  refine mf_if_ge (tgt := 18) (mf_dat eJ9_floorMod_7cf53 7 rfl) (by decide) (fun hc => ?_) (fun hc => ?_)
  · replace hyp := hyp.1 hc
    refine mf_iload_n (mf_dat eJ9_floorMod_7cf53 14 rfl) rfl rfl ?_
    exact mf_ireturn (mf_dat eJ9_floorMod_7cf53 15 rfl) rfl (Or.inl rfl) ⟨hG, hyp⟩
  · replace hyp := hyp.2 hc
    refine mf_iload_n (mf_dat eJ9_floorMod_7cf53 8 rfl) rfl rfl ?_
    refine mf_if_eq (tgt := 18) (mf_dat eJ9_floorMod_7cf53 9 rfl) (by decide) (fun hc => ?_) (fun hc => ?_)
    · replace hyp := hyp.1 hc
      refine mf_iload_n (mf_dat eJ9_floorMod_7cf53 14 rfl) rfl rfl ?_
      exact mf_ireturn (mf_dat eJ9_floorMod_7cf53 15 rfl) rfl (Or.inl rfl) ⟨hG, hyp⟩
    · replace hyp := hyp.2 hc
      refine mf_iload_n (mf_dat eJ9_floorMod_7cf53 10 rfl) rfl rfl ?_
      refine mf_iload_n (mf_dat eJ9_floorMod_7cf53 11 rfl) rfl rfl ?_
      refine mf_iadd (mf_dat eJ9_floorMod_7cf53 12 rfl) ?_
      exact mf_ireturn (mf_dat eJ9_floorMod_7cf53 13 rfl) rfl (Or.inl rfl) ⟨hG, hyp⟩
set_option maxRecDepth 100000 in
set_option maxHeartbeats 4000000 in
theorem wJ9_abs_0f7a4 {C : mf_G} {l : Launch} {d : Nat} {K : mf_Kt} {x0 : Int} {g h : mf_M} (hyp : ((0 ≤ x0 → K x0 g h) ∧ (¬ 0 ≤ x0 → K (mf_w32 (-x0)) g h))) : xM C l d YJ9_abs_0f7a4 [(0, x0)] g h K := by
  intro hG
  refine mf_entryF (by decide +kernel) (Nat.le_of_ble_eq_true rfl) ?_
  refine mf_iload_n (mf_dat eJ9_abs_0f7a4 0 rfl) rfl rfl ?_
  refine mf_if_ge (tgt := 9) (mf_dat eJ9_abs_0f7a4 1 rfl) (by decide) (fun hc => ?_) (fun hc => ?_)
  · replace hyp := hyp.1 hc
    refine mf_iload_n (mf_dat eJ9_abs_0f7a4 5 rfl) rfl rfl ?_
    exact mf_ireturn (mf_dat eJ9_abs_0f7a4 6 rfl) rfl (Or.inl rfl) ⟨hG, hyp⟩
  · replace hyp := hyp.2 hc
    refine mf_iload_n (mf_dat eJ9_abs_0f7a4 2 rfl) rfl rfl ?_
    refine mf_ineg (mf_dat eJ9_abs_0f7a4 3 rfl) ?_
    refine mf_goto (tgt := 10) (mf_dat eJ9_abs_0f7a4 4 rfl) (by decide) ?_
    exact mf_ireturn (mf_dat eJ9_abs_0f7a4 6 rfl) rfl (Or.inl rfl) ⟨hG, hyp⟩
set_option maxRecDepth 100000 in
set_option maxHeartbeats 4000000 in
theorem wJ9_max_7cf53 {C : mf_G} {l : Launch} {d : Nat} {K : mf_Kt} {x0 x1 : Int} {g h : mf_M} (hyp : ((x0 < x1 → K x1 g h) ∧ (¬ x0 < x1 → K x0 g h))) : xM C l d YJ9_max_7cf53 [(0, x0), (0, x1)] g h K := by
  intro hG
  refine mf_entryF (by decide +kernel) (Nat.le_of_ble_eq_true rfl) ?_
  refine mf_iload_n (mf_dat eJ9_max_7cf53 0 rfl) rfl rfl ?_
  refine mf_iload_n (mf_dat eJ9_max_7cf53 1 rfl) rfl rfl ?_
  refine mf_icmp_lt (tgt := 9) (mf_dat eJ9_max_7cf53 2 rfl) (by decide) (fun hc => ?_) (fun hc => ?_)
  · replace hyp := hyp.1 hc
    refine mf_iload_n (mf_dat eJ9_max_7cf53 5 rfl) rfl rfl ?_
    exact mf_ireturn (mf_dat eJ9_max_7cf53 6 rfl) rfl (Or.inl rfl) ⟨hG, hyp⟩
  · replace hyp := hyp.2 hc
    refine mf_iload_n (mf_dat eJ9_max_7cf53 3 rfl) rfl rfl ?_
    refine mf_goto (tgt := 10) (mf_dat eJ9_max_7cf53 4 rfl) (by decide) ?_
    exact mf_ireturn (mf_dat eJ9_max_7cf53 6 rfl) rfl (Or.inl rfl) ⟨hG, hyp⟩
set_option maxRecDepth 100000 in
set_option maxHeartbeats 4000000 in
theorem wJ9_max_f86c9 {C : mf_G} {l : Launch} {d : Nat} {K : mf_Kt} {x0 x2 : Int} {g h : mf_M} (hyp : ((x0 < x2 → K x2 g h) ∧ (¬ x0 < x2 → K x0 g h))) : xM C l d YJ9_max_f86c9 [(1, x0), (1, x2)] g h K := by
  intro hG
  refine mf_entryF (by decide +kernel) (Nat.le_of_ble_eq_true rfl) ?_
  refine mf_lload_n (mf_dat eJ9_max_f86c9 0 rfl) rfl rfl ?_
  refine mf_lload_n (mf_dat eJ9_max_f86c9 1 rfl) rfl rfl ?_
  refine mf_lcmp_lt (tgt := 10) (mf_dat eJ9_max_f86c9 2 rfl) (mf_dat eJ9_max_f86c9 3 rfl) (by decide) (fun hc => ?_) (fun hc => ?_)
  · replace hyp := hyp.1 hc
    refine mf_lload_n (mf_dat eJ9_max_f86c9 6 rfl) rfl rfl ?_
    exact mf_lreturn (mf_dat eJ9_max_f86c9 7 rfl) rfl ⟨hG, hyp⟩
  · replace hyp := hyp.2 hc
    refine mf_lload_n (mf_dat eJ9_max_f86c9 4 rfl) rfl rfl ?_
    refine mf_goto (tgt := 11) (mf_dat eJ9_max_f86c9 5 rfl) (by decide) ?_
    exact mf_lreturn (mf_dat eJ9_max_f86c9 7 rfl) rfl ⟨hG, hyp⟩
set_option maxRecDepth 100000 in
set_option maxHeartbeats 4000000 in
theorem wJ9_min_7cf53 {C : mf_G} {l : Launch} {d : Nat} {K : mf_Kt} {x0 x1 : Int} {g h : mf_M} (hyp : ((x1 < x0 → K x1 g h) ∧ (¬ x1 < x0 → K x0 g h))) : xM C l d YJ9_min_7cf53 [(0, x0), (0, x1)] g h K := by
  intro hG
  refine mf_entryF (by decide +kernel) (Nat.le_of_ble_eq_true rfl) ?_
  refine mf_iload_n (mf_dat eJ9_min_7cf53 0 rfl) rfl rfl ?_
  refine mf_iload_n (mf_dat eJ9_min_7cf53 1 rfl) rfl rfl ?_
  refine mf_icmp_gt (tgt := 9) (mf_dat eJ9_min_7cf53 2 rfl) (by decide) (fun hc => ?_) (fun hc => ?_)
  · replace hyp := hyp.1 hc
    refine mf_iload_n (mf_dat eJ9_min_7cf53 5 rfl) rfl rfl ?_
    exact mf_ireturn (mf_dat eJ9_min_7cf53 6 rfl) rfl (Or.inl rfl) ⟨hG, hyp⟩
  · replace hyp := hyp.2 hc
    refine mf_iload_n (mf_dat eJ9_min_7cf53 3 rfl) rfl rfl ?_
    refine mf_goto (tgt := 10) (mf_dat eJ9_min_7cf53 4 rfl) (by decide) ?_
    exact mf_ireturn (mf_dat eJ9_min_7cf53 6 rfl) rfl (Or.inl rfl) ⟨hG, hyp⟩
set_option maxRecDepth 100000 in
set_option maxHeartbeats 4000000 in
theorem wJ9_min_f86c9 {C : mf_G} {l : Launch} {d : Nat} {K : mf_Kt} {x0 x2 : Int} {g h : mf_M} (hyp : ((x2 < x0 → K x2 g h) ∧ (¬ x2 < x0 → K x0 g h))) : xM C l d YJ9_min_f86c9 [(1, x0), (1, x2)] g h K := by
  intro hG
  refine mf_entryF (by decide +kernel) (Nat.le_of_ble_eq_true rfl) ?_
  refine mf_lload_n (mf_dat eJ9_min_f86c9 0 rfl) rfl rfl ?_
  refine mf_lload_n (mf_dat eJ9_min_f86c9 1 rfl) rfl rfl ?_
  refine mf_lcmp_gt (tgt := 10) (mf_dat eJ9_min_f86c9 2 rfl) (mf_dat eJ9_min_f86c9 3 rfl) (by decide) (fun hc => ?_) (fun hc => ?_)
  · replace hyp := hyp.1 hc
    refine mf_lload_n (mf_dat eJ9_min_f86c9 6 rfl) rfl rfl ?_
    exact mf_lreturn (mf_dat eJ9_min_f86c9 7 rfl) rfl ⟨hG, hyp⟩
  · replace hyp := hyp.2 hc
    refine mf_lload_n (mf_dat eJ9_min_f86c9 4 rfl) rfl rfl ?_
    refine mf_goto (tgt := 11) (mf_dat eJ9_min_f86c9 5 rfl) (by decide) ?_
    exact mf_lreturn (mf_dat eJ9_min_f86c9 7 rfl) rfl ⟨hG, hyp⟩
