set_option maxRecDepth 100000 in
set_option maxHeartbeats 4000000 in
theorem mX6_hasGloss {C : mf_G} {l : Launch} {d n : Nat} {K : mf_Kt} {x0 x1 x2 : Int} {g h : mf_M} (hyp : ((x1 < 0 → K 0 g h) ∧ (¬ x1 < 0 → mf_is n x0 6 ∧ mf_is n (g x0 0) 20 ∧ ((mf_len (g x0 0) ≤ x1 → K 0 g h) ∧ (¬ mf_len (g x0 0) ≤ x1 → 0 ≤ x1 ∧ x1 < mf_len (g x0 0) ∧ ((¬ mf_and (mf_shr (h (g x0 0) x1) x2) 1 = 1 → K 0 g h) ∧ (mf_and (mf_shr (h (g x0 0) x1) x2) 1 = 1 → K 1 g h))))))) : mf_MT C l d YX6_hasGloss [(2, x0), (0, x1), (0, x2)] n n g h K := by
  refine mf_entry (by decide) (Nat.le_of_ble_eq_true rfl) ?_
  refine mf_iload_n (mf_dat eX6_hasGloss 0 rfl) rfl rfl ?_
  refine mf_if_lt (tgt := 31) (mf_dat eX6_hasGloss 1 rfl) (by decide) (fun hc => ?_) (fun hc => ?_)
  · replace hyp := hyp.1 hc
    refine mf_iconst (v := 0) (mf_dat eX6_hasGloss 19 rfl) (by decide) ?_
    exact mf_ireturn (mf_dat eX6_hasGloss 20 rfl) rfl (Or.inr ⟨rfl, by decide⟩) hyp
  · replace hyp := hyp.2 hc
    refine mf_iload_n (mf_dat eX6_hasGloss 2 rfl) rfl rfl ?_
    refine mf_aload_n (mf_dat eX6_hasGloss 3 rfl) rfl rfl ?_
    obtain ⟨ck1, hyp⟩ := hyp
    refine mf_getf (r := (RX6, TX6, 8)) (ci := 6) (k := 0) (t := 2) (v := g x0 0) (mf_dat eX6_hasGloss 4 rfl) fl_X6_9 rfl (by decide) rfl rfl ck1 ?_
    obtain ⟨ck2, hyp⟩ := hyp
    refine mf_alen (c := 20) (i := 0) (ty := .int) (v := mf_len _) (mf_dat eX6_hasGloss 5 rfl) (by decide) rfl ck2 rfl (mf_len_small _) ?_
    refine mf_icmp_ge (tgt := 31) (mf_dat eX6_hasGloss 6 rfl) (by decide) (fun hc => ?_) (fun hc => ?_)
    · replace hyp := hyp.1 hc
      refine mf_iconst (v := 0) (mf_dat eX6_hasGloss 19 rfl) (by decide) ?_
      exact mf_ireturn (mf_dat eX6_hasGloss 20 rfl) rfl (Or.inr ⟨rfl, by decide⟩) hyp
    · replace hyp := hyp.2 hc
      refine mf_aload_n (mf_dat eX6_hasGloss 7 rfl) rfl rfl ?_
      refine mf_getf (r := (RX6, TX6, 8)) (ci := 6) (k := 0) (t := 2) (v := g x0 0) (mf_dat eX6_hasGloss 8 rfl) fl_X6_9 rfl (by decide) rfl rfl ck1 ?_
      refine mf_iload_n (mf_dat eX6_hasGloss 9 rfl) rfl rfl ?_
      obtain ⟨ck3, hyp⟩ := hyp
      obtain ⟨ck4, hyp⟩ := hyp
      refine mf_iald (mf_dat eX6_hasGloss 10 rfl) ck2 ck3 ck4 ?_
      refine mf_iload_n (mf_dat eX6_hasGloss 11 rfl) rfl rfl ?_
      refine mf_ishr (mf_dat eX6_hasGloss 12 rfl) ?_
      refine mf_iconst (v := 1) (mf_dat eX6_hasGloss 13 rfl) (by decide) ?_
      refine mf_iand (mf_dat eX6_hasGloss 14 rfl) ?_
      refine mf_iconst (v := 1) (mf_dat eX6_hasGloss 15 rfl) (by decide) ?_
      refine mf_icmp_ne (tgt := 31) (mf_dat eX6_hasGloss 16 rfl) (by decide) (fun hc => ?_) (fun hc => ?_)
      · replace hyp := hyp.1 hc
        refine mf_iconst (v := 0) (mf_dat eX6_hasGloss 19 rfl) (by decide) ?_
        exact mf_ireturn (mf_dat eX6_hasGloss 20 rfl) rfl (Or.inr ⟨rfl, by decide⟩) hyp
      · replace hyp := hyp.2 hc
        refine mf_iconst (v := 1) (mf_dat eX6_hasGloss 17 rfl) (by decide) ?_
        refine mf_goto (tgt := 32) (mf_dat eX6_hasGloss 18 rfl) (by decide) ?_
        exact mf_ireturn (mf_dat eX6_hasGloss 20 rfl) rfl (Or.inr ⟨rfl, by decide⟩) hyp
set_option maxRecDepth 100000 in
set_option maxHeartbeats 4000000 in
theorem mX6_writeGloss {C : mf_G} {l : Launch} {d n : Nat} {K : mf_Kt} {x0 x1 x2 : Int} {g h : mf_M} (hyp : ((x1 < 0 → K 0 g h) ∧ (¬ x1 < 0 → mf_is n x0 6 ∧ mf_is n (g x0 0) 20 ∧ ((mf_len (g x0 0) ≤ x1 → K 0 g h) ∧ (¬ mf_len (g x0 0) ≤ x1 → 0 ≤ x1 ∧ x1 < mf_len (g x0 0) ∧ (∀ h5 : mf_M, h5 = mf_up h (g x0 0) x1 (mf_or (h (g x0 0) x1) (mf_shl 1 x2)) → K 0 g h5)))))) : mf_MT C l d YX6_writeGloss [(2, x0), (0, x1), (0, x2)] n n g h K := by
  refine mf_entry (by decide) (Nat.le_of_ble_eq_true rfl) ?_
  refine mf_iload_n (mf_dat eX6_writeGloss 0 rfl) rfl rfl ?_
  refine mf_if_lt (tgt := 25) (mf_dat eX6_writeGloss 1 rfl) (by decide) (fun hc => ?_) (fun hc => ?_)
  · replace hyp := hyp.1 hc
    exact mf_return (mf_dat eX6_writeGloss 17 rfl) rfl hyp
  · replace hyp := hyp.2 hc
    refine mf_iload_n (mf_dat eX6_writeGloss 2 rfl) rfl rfl ?_
    refine mf_aload_n (mf_dat eX6_writeGloss 3 rfl) rfl rfl ?_
    obtain ⟨ck1, hyp⟩ := hyp
    refine mf_getf (r := (RX6, TX6, 8)) (ci := 6) (k := 0) (t := 2) (v := g x0 0) (mf_dat eX6_writeGloss 4 rfl) fl_X6_9 rfl (by decide) rfl rfl ck1 ?_
    obtain ⟨ck2, hyp⟩ := hyp
    refine mf_alen (c := 20) (i := 0) (ty := .int) (v := mf_len _) (mf_dat eX6_writeGloss 5 rfl) (by decide) rfl ck2 rfl (mf_len_small _) ?_
    refine mf_icmp_ge (tgt := 25) (mf_dat eX6_writeGloss 6 rfl) (by decide) (fun hc => ?_) (fun hc => ?_)
    · replace hyp := hyp.1 hc
      exact mf_return (mf_dat eX6_writeGloss 17 rfl) rfl hyp
    · replace hyp := hyp.2 hc
      refine mf_aload_n (mf_dat eX6_writeGloss 7 rfl) rfl rfl ?_
      refine mf_getf (r := (RX6, TX6, 8)) (ci := 6) (k := 0) (t := 2) (v := g x0 0) (mf_dat eX6_writeGloss 8 rfl) fl_X6_9 rfl (by decide) rfl rfl ck1 ?_
      refine mf_iload_n (mf_dat eX6_writeGloss 9 rfl) rfl rfl ?_
      refine mf_dup2 (mf_dat eX6_writeGloss 10 rfl) (by decide) (by decide) ?_
      obtain ⟨ck3, hyp⟩ := hyp
      obtain ⟨ck4, hyp⟩ := hyp
      refine mf_iald (mf_dat eX6_writeGloss 11 rfl) ck2 ck3 ck4 ?_
      refine mf_iconst (v := 1) (mf_dat eX6_writeGloss 12 rfl) (by decide) ?_
      refine mf_iload_n (mf_dat eX6_writeGloss 13 rfl) rfl rfl ?_
      refine mf_ishl (mf_dat eX6_writeGloss 14 rfl) ?_
      refine mf_ior (mf_dat eX6_writeGloss 15 rfl) ?_
      refine mf_iast (mf_dat eX6_writeGloss 16 rfl) ck2 ck3 ck4 ?_
      generalize qh5 : mf_up h (g x0 0) x1 (mf_or (h (g x0 0) x1) (mf_shl 1 x2)) = h5
      replace hyp := hyp _ qh5.symm
      exact mf_return (mf_dat eX6_writeGloss 17 rfl) rfl hyp
abbrev JX6_countGlosses_4 (C : mf_G) (l : Launch) (d n : Nat) (K : mf_Kt) (x0 x1 x2 : Int) (g h : mf_M) : Prop := mf_AW C l YX6_countGlosses (mf_rm d n n) n (mf_Zm C YX6_countGlosses n n K) (fun _ _ => True) 4 [(0, (2, x0)), (1, (0, x1)), (2, (0, x2))] [] n g h
set_option maxRecDepth 100000 in
set_option maxHeartbeats 4000000 in
theorem bX6_countGlosses_4 {C : mf_G} {l : Launch} {d n : Nat} {K : mf_Kt} {x0 x1 x2 : Int} {g h : mf_M} (hd : 1 ≤ d) (hyp : mf_is n x0 6 ∧ mf_is n (g x0 0) 20 ∧ ((mf_len (g x0 0) ≤ x2 → K x1 g h) ∧ (¬ mf_len (g x0 0) ≤ x2 → 0 ≤ x2 ∧ x2 < mf_len (g x0 0) ∧ mf_MT C l 0 YJ6_bitCount_0f7a4 [(0, h (g x0 0) x2)] n n g h (fun r5 g6 h7 => (∀ v8 : Int, v8 = mf_w32 (x1 + r5) → (∀ v9 : Int, v9 = mf_w32 (x2 + 1) → JX6_countGlosses_4 C l d n K x0 v8 v9 g6 h7)))))) : JX6_countGlosses_4 C l d n K x0 x1 x2 g h := by
  refine mf_iload_n (mf_dat eX6_countGlosses 4 rfl) rfl rfl ?_
  refine mf_aload_n (mf_dat eX6_countGlosses 5 rfl) rfl rfl ?_
  obtain ⟨ck1, hyp⟩ := hyp
  refine mf_getf (r := (RX6, TX6, 8)) (ci := 6) (k := 0) (t := 2) (v := g x0 0) (mf_dat eX6_countGlosses 6 rfl) fl_X6_9 rfl (by decide) rfl rfl ck1 ?_
  obtain ⟨ck2, hyp⟩ := hyp
  refine mf_alen (c := 20) (i := 0) (ty := .int) (v := mf_len _) (mf_dat eX6_countGlosses 7 rfl) (by decide) rfl ck2 rfl (mf_len_small _) ?_
  refine mf_icmp_ge (tgt := 31) (mf_dat eX6_countGlosses 8 rfl) (by decide) (fun hc => ?_) (fun hc => ?_)
  · replace hyp := hyp.1 hc
    refine mf_iload_n (mf_dat eX6_countGlosses 19 rfl) rfl rfl ?_
    exact mf_ireturn (mf_dat eX6_countGlosses 20 rfl) rfl (Or.inl rfl) hyp
  · replace hyp := hyp.2 hc
    refine mf_iload_n (mf_dat eX6_countGlosses 9 rfl) rfl rfl ?_
    refine mf_aload_n (mf_dat eX6_countGlosses 10 rfl) rfl rfl ?_
    refine mf_getf (r := (RX6, TX6, 8)) (ci := 6) (k := 0) (t := 2) (v := g x0 0) (mf_dat eX6_countGlosses 11 rfl) fl_X6_9 rfl (by decide) rfl rfl ck1 ?_
    refine mf_iload_n (mf_dat eX6_countGlosses 12 rfl) rfl rfl ?_
    obtain ⟨ck3, hyp⟩ := hyp
    obtain ⟨ck4, hyp⟩ := hyp
    refine mf_iald (mf_dat eX6_countGlosses 13 rfl) ck2 ck3 ck4 ?_
    refine mf_callS (Yc := YJ6_bitCount_0f7a4) (mf_dat eX6_countGlosses 14 rfl) ml_X6_47 okJ6_bitCount_0f7a4 sm_J6_bitCount_0f7a4 rfl rfl (Nat.le_of_ble_eq_true rfl) (mf_rr (Nat.le_trans (by decide) hd) (Nat.le_refl _)) (Nat.le_refl _) hyp (fun r5 g6 h7 hyp => ?_)
    refine mf_iadd (mf_dat eX6_countGlosses 15 rfl) ?_
    generalize qv8 : mf_w32 (x1 + r5) = v8
    replace hyp := hyp _ qv8.symm
    refine mf_istore_n (mf_dat eX6_countGlosses 16 rfl) rfl (by decide) ?_
    refine mf_iinc (mf_dat eX6_countGlosses 17 rfl) rfl (by decide) (by decide) ?_
    generalize qv9 : mf_w32 (x2 + 1) = v9
    replace hyp := hyp _ qv9.symm
    refine mf_goto (tgt := 4) (mf_dat eX6_countGlosses 18 rfl) (by decide) ?_
    exact mf_sub [2, 1, 0] rfl hyp
set_option maxRecDepth 100000 in
set_option maxHeartbeats 4000000 in
theorem mX6_countGlosses {C : mf_G} {l : Launch} {d n : Nat} {K : mf_Kt} {x0 : Int} {g h : mf_M} (hyp : JX6_countGlosses_4 C l d n K x0 0 0 g h) : mf_MT C l d YX6_countGlosses [(2, x0)] n n g h K := by
  refine mf_entry (by decide) (Nat.le_of_ble_eq_true rfl) ?_
  refine mf_iconst (v := 0) (mf_dat eX6_countGlosses 0 rfl) (by decide) ?_
  refine mf_istore_n (mf_dat eX6_countGlosses 1 rfl) rfl (by decide) ?_
  refine mf_iconst (v := 0) (mf_dat eX6_countGlosses 2 rfl) (by decide) ?_
  refine mf_istore_n (mf_dat eX6_countGlosses 3 rfl) rfl (by decide) ?_
  exact mf_sub [2, 1, 0] rfl hyp
abbrev JX6_whoStands_3 (C : mf_G) (l : Launch) (d n : Nat) (K : mf_Kt) (x0 x1 x2 x3 x4 : Int) (g h : mf_M) : Prop := mf_AW C l YX6_whoStands (mf_rm d n n) n (mf_Zm C YX6_whoStands n n K) (fun _ _ => True) 3 [(0, (2, x0)), (1, (0, x1)), (2, (0, x2)), (3, (0, x3)), (4, (0, x4))] [] n g h
set_option maxRecDepth 100000 in
set_option maxHeartbeats 4000000 in
theorem bX6_whoStands_3 {C : mf_G} {l : Launch} {d n : Nat} {K : mf_Kt} {x0 x1 x2 x3 x4 : Int} {g h : mf_M} (hyp : ((x3 ≤ x4 → K (-1) g h) ∧ (¬ x3 ≤ x4 → ((8 ≤ x4 → K (-1) g h) ∧ (¬ 8 ≤ x4 → mf_is n x0 6 ∧ mf_is n (g x0 1) 20 ∧ 0 ≤ x4 ∧ x4 < mf_len (g x0 1) ∧ ((¬ h (g x0 1) x4 = x1 → (∀ v5 : Int, v5 = mf_w32 (x4 + 1) → JX6_whoStands_3 C l d n K x0 x1 x2 x3 v5 g h)) ∧ (h (g x0 1) x4 = x1 → mf_is n (g x0 2) 20 ∧ x4 < mf_len (g x0 2) ∧ ((¬ h (g x0 2) x4 = x2 → (∀ v8 : Int, v8 = mf_w32 (x4 + 1) → JX6_whoStands_3 C l d n K x0 x1 x2 x3 v8 g h)) ∧ (h (g x0 2) x4 = x2 → K x4 g h))))))))) : JX6_whoStands_3 C l d n K x0 x1 x2 x3 x4 g h := by
  refine mf_iload (mf_dat eX6_whoStands 2 rfl) rfl ?_
  refine mf_iload_n (mf_dat eX6_whoStands 3 rfl) rfl rfl ?_
  refine mf_icmp_ge (tgt := 47) (mf_dat eX6_whoStands 4 rfl) (by decide) (fun hc => ?_) (fun hc => ?_)
  · replace hyp := hyp.1 hc
    refine mf_iconst (v := (-1)) (mf_dat eX6_whoStands 24 rfl) (by decide) ?_
    exact mf_ireturn (mf_dat eX6_whoStands 25 rfl) rfl (Or.inl rfl) hyp
  · replace hyp := hyp.2 hc
    refine mf_iload (mf_dat eX6_whoStands 5 rfl) rfl ?_
    refine mf_bipush (v := 8) (mf_dat eX6_whoStands 6 rfl) (by decide) ?_
    refine mf_icmp_ge (tgt := 47) (mf_dat eX6_whoStands 7 rfl) (by decide) (fun hc => ?_) (fun hc => ?_)
    · replace hyp := hyp.1 hc
      refine mf_iconst (v := (-1)) (mf_dat eX6_whoStands 24 rfl) (by decide) ?_
      exact mf_ireturn (mf_dat eX6_whoStands 25 rfl) rfl (Or.inl rfl) hyp
    · replace hyp := hyp.2 hc
      refine mf_aload_n (mf_dat eX6_whoStands 8 rfl) rfl rfl ?_
      obtain ⟨ck1, hyp⟩ := hyp
      refine mf_getf (r := (RX6, TX6, 8)) (ci := 6) (k := 1) (t := 2) (v := g x0 1) (mf_dat eX6_whoStands 9 rfl) fl_X6_15 rfl (by decide) rfl rfl ck1 ?_
      refine mf_iload (mf_dat eX6_whoStands 10 rfl) rfl ?_
      obtain ⟨ck2, hyp⟩ := hyp
      obtain ⟨ck3, hyp⟩ := hyp
      obtain ⟨ck4, hyp⟩ := hyp
      refine mf_iald (mf_dat eX6_whoStands 11 rfl) ck2 ck3 ck4 ?_
      refine mf_iload_n (mf_dat eX6_whoStands 12 rfl) rfl rfl ?_
      refine mf_icmp_ne (tgt := 41) (mf_dat eX6_whoStands 13 rfl) (by decide) (fun hc => ?_) (fun hc => ?_)
      · replace hyp := hyp.1 hc
        refine mf_iinc (mf_dat eX6_whoStands 22 rfl) rfl (by decide) (by decide) ?_
        generalize qv5 : mf_w32 (x4 + 1) = v5
        replace hyp := hyp _ qv5.symm
        refine mf_goto (tgt := 3) (mf_dat eX6_whoStands 23 rfl) (by decide) ?_
        exact mf_sub [1, 2, 3, 4, 0] rfl hyp
      · replace hyp := hyp.2 hc
        refine mf_aload_n (mf_dat eX6_whoStands 14 rfl) rfl rfl ?_
        refine mf_getf (r := (RX6, TX6, 8)) (ci := 6) (k := 2) (t := 2) (v := g x0 2) (mf_dat eX6_whoStands 15 rfl) fl_X6_18 rfl (by decide) rfl rfl ck1 ?_
        refine mf_iload (mf_dat eX6_whoStands 16 rfl) rfl ?_
        obtain ⟨ck6, hyp⟩ := hyp
        obtain ⟨ck7, hyp⟩ := hyp
        refine mf_iald (mf_dat eX6_whoStands 17 rfl) ck6 ck3 ck7 ?_
        refine mf_iload_n (mf_dat eX6_whoStands 18 rfl) rfl rfl ?_
        refine mf_icmp_ne (tgt := 41) (mf_dat eX6_whoStands 19 rfl) (by decide) (fun hc => ?_) (fun hc => ?_)
        · replace hyp := hyp.1 hc
          refine mf_iinc (mf_dat eX6_whoStands 22 rfl) rfl (by decide) (by decide) ?_
          generalize qv8 : mf_w32 (x4 + 1) = v8
          replace hyp := hyp _ qv8.symm
          refine mf_goto (tgt := 3) (mf_dat eX6_whoStands 23 rfl) (by decide) ?_
          exact mf_sub [1, 2, 3, 4, 0] rfl hyp
        · replace hyp := hyp.2 hc
          refine mf_iload (mf_dat eX6_whoStands 20 rfl) rfl ?_
          exact mf_ireturn (mf_dat eX6_whoStands 21 rfl) rfl (Or.inl rfl) hyp
set_option maxRecDepth 100000 in
set_option maxHeartbeats 4000000 in
theorem mX6_whoStands {C : mf_G} {l : Launch} {d n : Nat} {K : mf_Kt} {x0 x1 x2 x3 : Int} {g h : mf_M} (hyp : JX6_whoStands_3 C l d n K x0 x1 x2 x3 0 g h) : mf_MT C l d YX6_whoStands [(2, x0), (0, x1), (0, x2), (0, x3)] n n g h K := by
  refine mf_entry (by decide) (Nat.le_of_ble_eq_true rfl) ?_
  refine mf_iconst (v := 0) (mf_dat eX6_whoStands 0 rfl) (by decide) ?_
  refine mf_istore (mf_dat eX6_whoStands 1 rfl) (by decide) ?_
  exact mf_sub [1, 2, 3, 4, 0] rfl hyp
set_option maxRecDepth 100000 in
set_option maxHeartbeats 4000000 in
theorem mX6_isFree {C : mf_G} {l : Launch} {d n : Nat} {K : mf_Kt} {x0 x1 x2 x3 : Int} {g h : mf_M} (hd : 1 ≤ d) (hyp : mf_is n x0 6 ∧ mf_MT C l 0 YX6_hasGloss [(2, x0), (0, x1), (0, x2)] n n g h (fun r1 g2 h3 => ((¬ r1 = 0 → K 0 g2 h3) ∧ (r1 = 0 → mf_MT C l 0 YX6_whoStands [(2, x0), (0, x1), (0, x2), (0, x3)] n n g2 h3 (fun r5 g6 h7 => ((¬ r5 = (-1) → K 0 g6 h7) ∧ (r5 = (-1) → K 1 g6 h7))))))) : mf_MT C l d YX6_isFree [(2, x0), (0, x1), (0, x2), (0, x3)] n n g h K := by
  refine mf_entry (by decide) (Nat.le_of_ble_eq_true rfl) ?_
  refine mf_aload_n (mf_dat eX6_isFree 0 rfl) rfl rfl ?_
  refine mf_iload_n (mf_dat eX6_isFree 1 rfl) rfl rfl ?_
  refine mf_iload_n (mf_dat eX6_isFree 2 rfl) rfl rfl ?_
  obtain ⟨ck4, hyp⟩ := hyp
  refine mf_callV (Yc := YX6_hasGloss) (r := (RX6, TX6, 8)) (ci := 6) (mf_dat eX6_isFree 3 rfl) ml_X6_53 okX6_hasGloss im_X6_hasGloss sl_X6_hasGloss rfl rfl rfl rfl (Nat.le_of_ble_eq_true rfl) (mf_rr (Nat.le_trans (by decide) hd) (Nat.le_refl _)) (Nat.le_refl _) ck4 hyp (fun r1 g2 h3 hyp => ?_)
  refine mf_if_ne (tgt := 24) (mf_dat eX6_isFree 4 rfl) (by decide) (fun hc => ?_) (fun hc => ?_)
  · replace hyp := hyp.1 hc
    refine mf_iconst (v := 0) (mf_dat eX6_isFree 14 rfl) (by decide) ?_
    exact mf_ireturn (mf_dat eX6_isFree 15 rfl) rfl (Or.inr ⟨rfl, by decide⟩) hyp
  · replace hyp := hyp.2 hc
    refine mf_aload_n (mf_dat eX6_isFree 5 rfl) rfl rfl ?_
    refine mf_iload_n (mf_dat eX6_isFree 6 rfl) rfl rfl ?_
    refine mf_iload_n (mf_dat eX6_isFree 7 rfl) rfl rfl ?_
    refine mf_iload_n (mf_dat eX6_isFree 8 rfl) rfl rfl ?_
    refine mf_callV (Yc := YX6_whoStands) (r := (RX6, TX6, 8)) (ci := 6) (mf_dat eX6_isFree 9 rfl) ml_X6_57 okX6_whoStands im_X6_whoStands sl_X6_whoStands rfl rfl rfl rfl (Nat.le_of_ble_eq_true rfl) (mf_rr (Nat.le_trans (by decide) hd) (Nat.le_refl _)) (Nat.le_refl _) ck4 hyp (fun r5 g6 h7 hyp => ?_)
    refine mf_iconst (v := (-1)) (mf_dat eX6_isFree 10 rfl) (by decide) ?_
    refine mf_icmp_ne (tgt := 24) (mf_dat eX6_isFree 11 rfl) (by decide) (fun hc => ?_) (fun hc => ?_)
    · replace hyp := hyp.1 hc
      refine mf_iconst (v := 0) (mf_dat eX6_isFree 14 rfl) (by decide) ?_
      exact mf_ireturn (mf_dat eX6_isFree 15 rfl) rfl (Or.inr ⟨rfl, by decide⟩) hyp
    · replace hyp := hyp.2 hc
      refine mf_iconst (v := 1) (mf_dat eX6_isFree 12 rfl) (by decide) ?_
      refine mf_goto (tgt := 25) (mf_dat eX6_isFree 13 rfl) (by decide) ?_
      exact mf_ireturn (mf_dat eX6_isFree 15 rfl) rfl (Or.inr ⟨rfl, by decide⟩) hyp
set_option maxRecDepth 100000 in
set_option maxHeartbeats 4000000 in
theorem mX6_addPurse {C : mf_G} {l : Launch} {d n : Nat} {K : mf_Kt} {x0 x1 x2 : Int} {g h : mf_M} (hd : 1 ≤ d) (hyp : ((x1 < 0 → K 0 g h) ∧ (¬ x1 < 0 → mf_is n x0 6 ∧ mf_is n (g x0 3) 20 ∧ ((mf_len (g x0 3) ≤ x1 → K 0 g h) ∧ (¬ mf_len (g x0 3) ≤ x1 → 0 ≤ x1 ∧ x1 < mf_len (g x0 3) ∧ mf_MT C l 0 YJ9_min_7cf53 [(0, 9999), (0, mf_w32 ((h (g x0 3) x1) + x2))] n n g h (fun r5 g6 h7 => mf_MT C l 0 YJ9_max_7cf53 [(0, 0), (0, r5)] n n g6 h7 (fun r8 g9 h10 => (∀ h11 : mf_M, h11 = mf_up h10 (g x0 3) x1 r8 → K 0 g9 h11)))))))) : mf_MT C l d YX6_addPurse [(2, x0), (0, x1), (0, x2)] n n g h K := by
  refine mf_entry (by decide) (Nat.le_of_ble_eq_true rfl) ?_
  refine mf_iload_n (mf_dat eX6_addPurse 0 rfl) rfl rfl ?_
  refine mf_if_lt (tgt := 37) (mf_dat eX6_addPurse 1 rfl) (by decide) (fun hc => ?_) (fun hc => ?_)
  · replace hyp := hyp.1 hc
    exact mf_return (mf_dat eX6_addPurse 21 rfl) rfl hyp
  · replace hyp := hyp.2 hc
    refine mf_iload_n (mf_dat eX6_addPurse 2 rfl) rfl rfl ?_
    refine mf_aload_n (mf_dat eX6_addPurse 3 rfl) rfl rfl ?_
    obtain ⟨ck1, hyp⟩ := hyp
    refine mf_getf (r := (RX6, TX6, 8)) (ci := 6) (k := 3) (t := 2) (v := g x0 3) (mf_dat eX6_addPurse 4 rfl) fl_X6_21 rfl (by decide) rfl rfl ck1 ?_
    obtain ⟨ck2, hyp⟩ := hyp
    refine mf_alen (c := 20) (i := 0) (ty := .int) (v := mf_len _) (mf_dat eX6_addPurse 5 rfl) (by decide) rfl ck2 rfl (mf_len_small _) ?_
    refine mf_icmp_ge (tgt := 37) (mf_dat eX6_addPurse 6 rfl) (by decide) (fun hc => ?_) (fun hc => ?_)
    · replace hyp := hyp.1 hc
      exact mf_return (mf_dat eX6_addPurse 21 rfl) rfl hyp
    · replace hyp := hyp.2 hc
      refine mf_aload_n (mf_dat eX6_addPurse 7 rfl) rfl rfl ?_
      refine mf_getf (r := (RX6, TX6, 8)) (ci := 6) (k := 3) (t := 2) (v := g x0 3) (mf_dat eX6_addPurse 8 rfl) fl_X6_21 rfl (by decide) rfl rfl ck1 ?_
      refine mf_iload_n (mf_dat eX6_addPurse 9 rfl) rfl rfl ?_
      refine mf_iconst (v := 0) (mf_dat eX6_addPurse 10 rfl) (by decide) ?_
      refine mf_sipush (v := 9999) (mf_dat eX6_addPurse 11 rfl) (by decide) ?_
      refine mf_aload_n (mf_dat eX6_addPurse 12 rfl) rfl rfl ?_
      refine mf_getf (r := (RX6, TX6, 8)) (ci := 6) (k := 3) (t := 2) (v := g x0 3) (mf_dat eX6_addPurse 13 rfl) fl_X6_21 rfl (by decide) rfl rfl ck1 ?_
      refine mf_iload_n (mf_dat eX6_addPurse 14 rfl) rfl rfl ?_
      obtain ⟨ck3, hyp⟩ := hyp
      obtain ⟨ck4, hyp⟩ := hyp
      refine mf_iald (mf_dat eX6_addPurse 15 rfl) ck2 ck3 ck4 ?_
      refine mf_iload_n (mf_dat eX6_addPurse 16 rfl) rfl rfl ?_
      refine mf_iadd (mf_dat eX6_addPurse 17 rfl) ?_
      refine mf_callS (Yc := YJ9_min_7cf53) (mf_dat eX6_addPurse 18 rfl) ml_X6_61 okJ9_min_7cf53 sm_J9_min_7cf53 rfl rfl (Nat.le_of_ble_eq_true rfl) (mf_rr (Nat.le_trans (by decide) hd) (Nat.le_refl _)) (Nat.le_refl _) hyp (fun r5 g6 h7 hyp => ?_)
      refine mf_callS (Yc := YJ9_max_7cf53) (mf_dat eX6_addPurse 19 rfl) ml_X6_67 okJ9_max_7cf53 sm_J9_max_7cf53 rfl rfl (Nat.le_of_ble_eq_true rfl) (mf_rr (Nat.le_trans (by decide) hd) (Nat.le_refl _)) (Nat.le_refl _) hyp (fun r8 g9 h10 hyp => ?_)
      refine mf_iast (mf_dat eX6_addPurse 20 rfl) ck2 ck3 ck4 ?_
      generalize qh11 : mf_up h10 (g x0 3) x1 r8 = h11
      replace hyp := hyp _ qh11.symm
      exact mf_return (mf_dat eX6_addPurse 21 rfl) rfl hyp
set_option maxRecDepth 100000 in
set_option maxHeartbeats 4000000 in
theorem mX6_keep {C : mf_G} {l : Launch} {d n : Nat} {K : mf_Kt} {x0 x1 x2 : Int} {g h : mf_M} (hd : 1 ≤ d) (hyp : mf_is n x0 6 ∧ mf_MT C l 0 YJ9_floorMod_7cf53 [(0, h x0 6), (0, 40)] n n g h (fun r2 g3 h4 => mf_is n (g x0 5) 20 ∧ 0 ≤ r2 ∧ r2 < mf_len (g x0 5) ∧ (∀ h8 : mf_M, h8 = mf_up h4 (g x0 5) r2 (mf_w32 ((mf_w32 ((mf_w32 ((h4 x0 7) * 64)) + (mf_w32 (x1 * 8)))) + x2)) → (∀ h9 : mf_M, h9 = mf_up h8 x0 6 (mf_w32 ((h8 x0 6) + 1)) → K 0 g3 h9)))) : mf_MT C l d YX6_keep [(2, x0), (0, x1), (0, x2)] n n g h K := by
  refine mf_entry (by decide) (Nat.le_of_ble_eq_true rfl) ?_
  refine mf_aload_n (mf_dat eX6_keep 0 rfl) rfl rfl ?_
  obtain ⟨ck1, hyp⟩ := hyp
  refine mf_getf (r := (RX6, TX6, 8)) (ci := 6) (k := 5) (t := 2) (v := g x0 5) (mf_dat eX6_keep 1 rfl) fl_X6_27 rfl (by decide) rfl rfl ck1 ?_
  refine mf_aload_n (mf_dat eX6_keep 2 rfl) rfl rfl ?_
  refine mf_getf (r := (RX6, TX6, 8)) (ci := 6) (k := 6) (t := 0) (v := h x0 6) (mf_dat eX6_keep 3 rfl) fl_X6_34 rfl (by decide) rfl rfl ck1 ?_
  refine mf_bipush (v := 40) (mf_dat eX6_keep 4 rfl) (by decide) ?_
  refine mf_callS (Yc := YJ9_floorMod_7cf53) (mf_dat eX6_keep 5 rfl) ml_X6_70 okJ9_floorMod_7cf53 sm_J9_floorMod_7cf53 rfl rfl (Nat.le_of_ble_eq_true rfl) (mf_rr (Nat.le_trans (by decide) hd) (Nat.le_refl _)) (Nat.le_refl _) hyp (fun r2 g3 h4 hyp => ?_)
  refine mf_aload_n (mf_dat eX6_keep 6 rfl) rfl rfl ?_
  refine mf_getf (r := (RX6, TX6, 8)) (ci := 6) (k := 7) (t := 0) (v := h4 x0 7) (mf_dat eX6_keep 7 rfl) fl_X6_30 rfl (by decide) rfl rfl ck1 ?_
  refine mf_bipush (v := 64) (mf_dat eX6_keep 8 rfl) (by decide) ?_
  refine mf_imul (mf_dat eX6_keep 9 rfl) ?_
  refine mf_iload_n (mf_dat eX6_keep 10 rfl) rfl rfl ?_
  refine mf_bipush (v := 8) (mf_dat eX6_keep 11 rfl) (by decide) ?_
  refine mf_imul (mf_dat eX6_keep 12 rfl) ?_
  refine mf_iadd (mf_dat eX6_keep 13 rfl) ?_
  refine mf_iload_n (mf_dat eX6_keep 14 rfl) rfl rfl ?_
  refine mf_iadd (mf_dat eX6_keep 15 rfl) ?_
  obtain ⟨ck5, hyp⟩ := hyp
  obtain ⟨ck6, hyp⟩ := hyp
  obtain ⟨ck7, hyp⟩ := hyp
  refine mf_iast (mf_dat eX6_keep 16 rfl) ck5 ck6 ck7 ?_
  generalize qh8 : mf_up h4 (g x0 5) r2 (mf_w32 ((mf_w32 ((mf_w32 ((h4 x0 7) * 64)) + (mf_w32 (x1 * 8)))) + x2)) = h8
  replace hyp := hyp _ qh8.symm
  refine mf_aload_n (mf_dat eX6_keep 17 rfl) rfl rfl ?_
  refine mf_dup (mf_dat eX6_keep 18 rfl) (by decide) ?_
  refine mf_getf (r := (RX6, TX6, 8)) (ci := 6) (k := 6) (t := 0) (v := h8 x0 6) (mf_dat eX6_keep 19 rfl) fl_X6_34 rfl (by decide) rfl rfl ck1 ?_
  refine mf_iconst (v := 1) (mf_dat eX6_keep 20 rfl) (by decide) ?_
  refine mf_iadd (mf_dat eX6_keep 21 rfl) ?_
  refine mf_putI (r := (RX6, TX6, 8)) (ci := 6) (k := 6) (kI := 6) (t := 0) (mf_dat eX6_keep 22 rfl) fl_X6_34 rfl rfl (by decide) rfl (by decide) rfl (by decide) (fun h9 => absurd h9 (by decide)) ck1 ?_
  generalize qh9 : mf_up h8 x0 6 (mf_w32 ((h8 x0 6) + 1)) = h9
  replace hyp := hyp _ qh9.symm
  exact mf_return (mf_dat eX6_keep 23 rfl) rfl hyp
set_option maxRecDepth 100000 in
set_option maxHeartbeats 4000000 in
theorem mX6_countKept {C : mf_G} {l : Launch} {d n : Nat} {K : mf_Kt} {x0 : Int} {g h : mf_M} (hd : 1 ≤ d) (hyp : mf_is n x0 6 ∧ mf_MT C l 0 YJ9_min_7cf53 [(0, 40), (0, h x0 6)] n n g h (fun r2 g3 h4 => K r2 g3 h4)) : mf_MT C l d YX6_countKept [(2, x0)] n n g h K := by
  refine mf_entry (by decide) (Nat.le_of_ble_eq_true rfl) ?_
  refine mf_bipush (v := 40) (mf_dat eX6_countKept 0 rfl) (by decide) ?_
  refine mf_aload_n (mf_dat eX6_countKept 1 rfl) rfl rfl ?_
  obtain ⟨ck1, hyp⟩ := hyp
  refine mf_getf (r := (RX6, TX6, 8)) (ci := 6) (k := 6) (t := 0) (v := h x0 6) (mf_dat eX6_countKept 2 rfl) fl_X6_34 rfl (by decide) rfl rfl ck1 ?_
  refine mf_callS (Yc := YJ9_min_7cf53) (mf_dat eX6_countKept 3 rfl) ml_X6_61 okJ9_min_7cf53 sm_J9_min_7cf53 rfl rfl (Nat.le_of_ble_eq_true rfl) (mf_rr (Nat.le_trans (by decide) hd) (Nat.le_refl _)) (Nat.le_refl _) hyp (fun r2 g3 h4 hyp => ?_)
  exact mf_ireturn (mf_dat eX6_countKept 4 rfl) rfl (Or.inl rfl) hyp
set_option maxRecDepth 100000 in
set_option maxHeartbeats 4000000 in
theorem mX6_keptAt {C : mf_G} {l : Launch} {d n : Nat} {K : mf_Kt} {x0 x1 : Int} {g h : mf_M} (hd : 2 ≤ d) (hyp : mf_is n x0 6 ∧ mf_MT C l 1 YX6_countKept [(2, x0)] n n g h (fun r2 g3 h4 => mf_MT C l 0 YJ9_floorMod_7cf53 [(0, mf_w32 ((mf_w32 ((h x0 6) - r2)) + x1)), (0, 40)] n n g3 h4 (fun r5 g6 h7 => mf_is n (g x0 5) 20 ∧ 0 ≤ r5 ∧ r5 < mf_len (g x0 5) ∧ K (h7 (g x0 5) r5) g6 h7))) : mf_MT C l d YX6_keptAt [(2, x0), (0, x1)] n n g h K := by
  refine mf_entry (by decide) (Nat.le_of_ble_eq_true rfl) ?_
  refine mf_aload_n (mf_dat eX6_keptAt 0 rfl) rfl rfl ?_
  obtain ⟨ck1, hyp⟩ := hyp
  refine mf_getf (r := (RX6, TX6, 8)) (ci := 6) (k := 5) (t := 2) (v := g x0 5) (mf_dat eX6_keptAt 1 rfl) fl_X6_27 rfl (by decide) rfl rfl ck1 ?_
  refine mf_aload_n (mf_dat eX6_keptAt 2 rfl) rfl rfl ?_
  refine mf_getf (r := (RX6, TX6, 8)) (ci := 6) (k := 6) (t := 0) (v := h x0 6) (mf_dat eX6_keptAt 3 rfl) fl_X6_34 rfl (by decide) rfl rfl ck1 ?_
  refine mf_aload_n (mf_dat eX6_keptAt 4 rfl) rfl rfl ?_
  refine mf_callV (Yc := YX6_countKept) (r := (RX6, TX6, 8)) (ci := 6) (mf_dat eX6_keptAt 5 rfl) ml_X6_73 okX6_countKept im_X6_countKept sl_X6_countKept rfl rfl rfl rfl (Nat.le_of_ble_eq_true rfl) (mf_rr (Nat.le_trans (by decide) hd) (Nat.le_refl _)) (Nat.le_refl _) ck1 hyp (fun r2 g3 h4 hyp => ?_)
  refine mf_isub (mf_dat eX6_keptAt 6 rfl) ?_
  refine mf_iload_n (mf_dat eX6_keptAt 7 rfl) rfl rfl ?_
  refine mf_iadd (mf_dat eX6_keptAt 8 rfl) ?_
  refine mf_bipush (v := 40) (mf_dat eX6_keptAt 9 rfl) (by decide) ?_
  refine mf_callS (Yc := YJ9_floorMod_7cf53) (mf_dat eX6_keptAt 10 rfl) ml_X6_70 okJ9_floorMod_7cf53 sm_J9_floorMod_7cf53 rfl rfl (Nat.le_of_ble_eq_true rfl) (mf_rr (Nat.le_trans (by decide) hd) (Nat.le_refl _)) (Nat.le_refl _) hyp (fun r5 g6 h7 hyp => ?_)
  obtain ⟨ck8, hyp⟩ := hyp
  obtain ⟨ck9, hyp⟩ := hyp
  obtain ⟨ck10, hyp⟩ := hyp
  refine mf_iald (mf_dat eX6_keptAt 11 rfl) ck8 ck9 ck10 ?_
  exact mf_ireturn (mf_dat eX6_keptAt 12 rfl) rfl (Or.inl rfl) hyp
abbrev JX6_takeImage_34 (C : mf_G) (l : Launch) (d n : Nat) (K : mf_Kt) (x0 x1 x2 x3 x4 x5 : Int) (g h : mf_M) : Prop := mf_AW C l YX6_takeImage (mf_rm d n n) n (mf_Zm C YX6_takeImage n n K) (fun _ _ => True) 34 [(0, (2, x0)), (1, (2, x1)), (2, (2, x2)), (3, (0, x3)), (4, (0, x4)), (5, (0, x5))] [] n g h
abbrev JX6_takeImage_97 (C : mf_G) (l : Launch) (d n : Nat) (K : mf_Kt) (x0 x1 x2 x5 : Int) (g h : mf_M) : Prop := mf_AW C l YX6_takeImage (mf_rm d n n) n (mf_Zm C YX6_takeImage n n K) (fun _ _ => True) 97 [(0, (2, x0)), (1, (2, x1)), (2, (2, x2)), (5, (0, x5))] [] n g h
abbrev JX6_takeImage_155 (C : mf_G) (l : Launch) (d n : Nat) (K : mf_Kt) (x0 x1 x2 x5 : Int) (g h : mf_M) : Prop := mf_AW C l YX6_takeImage (mf_rm d n n) n (mf_Zm C YX6_takeImage n n K) (fun _ _ => True) 155 [(0, (2, x0)), (1, (2, x1)), (2, (2, x2)), (5, (0, x5))] [] n g h
set_option maxRecDepth 100000 in
set_option maxHeartbeats 4000000 in
theorem bX6_takeImage_34 {C : mf_G} {l : Launch} {d n : Nat} {K : mf_Kt} {x0 x1 x2 x3 x4 x5 : Int} {g h : mf_M} (hd : 2 ≤ d) (hyp : ((x3 ≤ x5 → mf_is n x0 6 ∧ mf_MT C l 0 YX6_forget [(2, x0)] n n g h (fun r1 g2 h3 => mf_is n x2 8 ∧ mf_MT C l 1 YX8_pairAt [(2, x2), (0, 0)] n n g2 h3 (fun r5 g6 h7 => (∀ h9 : mf_M, h9 = mf_up h7 x0 7 r5 → mf_MT C l 0 YX8_byteAt [(2, x2), (0, x3)] n n g6 h9 (fun r10 g11 h12 => ((¬ x4 = r10 → K 0 g11 h12) ∧ (x4 = r10 → ((h12 x0 7 ≤ 999 → JX6_takeImage_97 C l d n K x0 x1 x2 0 g11 h12) ∧ (¬ h12 x0 7 ≤ 999 → K 0 g11 h12))))))))) ∧ (¬ x3 ≤ x5 → mf_is n x2 8 ∧ mf_MT C l 0 YX8_byteAt [(2, x2), (0, x5)] n n g h (fun r13 g14 h15 => mf_MT C l 0 YX8_nextCheck [(0, x4), (0, r13)] n n g14 h15 (fun r17 g18 h19 => (∀ v20 : Int, v20 = mf_w32 (x5 + 1) → JX6_takeImage_34 C l d n K x0 x1 x2 x3 r17 v20 g18 h19)))))) : JX6_takeImage_34 C l d n K x0 x1 x2 x3 x4 x5 g h := by
  refine mf_iload (mf_dat eX6_takeImage_p0 22 rfl) rfl ?_
  refine mf_iload_n (mf_dat eX6_takeImage_p0 23 rfl) rfl rfl ?_
  refine mf_icmp_ge (tgt := 59) (mf_dat eX6_takeImage_p0 24 rfl) (by decide) (fun hc => ?_) (fun hc => ?_)
  · replace hyp := hyp.1 hc
    refine mf_aload_n (mf_dat eX6_takeImage_p0 33 rfl) rfl rfl ?_
    obtain ⟨ck4, hyp⟩ := hyp
    refine mf_callV (Yc := YX6_forget) (r := (RX6, TX6, 8)) (ci := 6) (mf_dat eX6_takeImage_p0 34 rfl) ml_X6_96 okX6_forget im_X6_forget sl_X6_forget rfl rfl rfl rfl (Nat.le_of_ble_eq_true rfl) (mf_rr (Nat.le_trans (by decide) hd) (Nat.le_refl _)) (Nat.le_refl _) ck4 hyp (fun r1 g2 h3 hyp => ?_)
    refine mf_aload_n (mf_dat eX6_takeImage_p0 35 rfl) rfl rfl ?_
    refine mf_aload_n (mf_dat eX6_takeImage_p0 36 rfl) rfl rfl ?_
    refine mf_iconst (v := 0) (mf_dat eX6_takeImage_p0 37 rfl) (by decide) ?_
    obtain ⟨ck8, hyp⟩ := hyp
    refine mf_callV (Yc := YX8_pairAt) (r := (RX8, TX8, 2)) (ci := 8) (mf_dat eX6_takeImage_p0 38 rfl) ml_X6_99 okX8_pairAt im_X8_pairAt sl_X8_pairAt rfl rfl rfl rfl (Nat.le_of_ble_eq_true rfl) (mf_rr (Nat.le_trans (by decide) hd) (Nat.le_refl _)) (Nat.le_refl _) ck8 hyp (fun r5 g6 h7 hyp => ?_)
    refine mf_putI (r := (RX6, TX6, 8)) (ci := 6) (k := 7) (kI := 7) (t := 0) (mf_dat eX6_takeImage_p0 39 rfl) fl_X6_30 rfl rfl (by decide) rfl (by decide) rfl (by decide) (fun h9 => absurd h9 (by decide)) ck4 ?_
    generalize qh9 : mf_up h7 x0 7 r5 = h9
    replace hyp := hyp _ qh9.symm
    refine mf_iload (mf_dat eX6_takeImage_p0 40 rfl) rfl ?_
    refine mf_aload_n (mf_dat eX6_takeImage_p0 41 rfl) rfl rfl ?_
    refine mf_iload_n (mf_dat eX6_takeImage_p0 42 rfl) rfl rfl ?_
    refine mf_callV (Yc := YX8_byteAt) (r := (RX8, TX8, 2)) (ci := 8) (mf_dat eX6_takeImage_p0 43 rfl) ml_X6_90 okX8_byteAt im_X8_byteAt sl_X8_byteAt rfl rfl rfl rfl (Nat.le_of_ble_eq_true rfl) (mf_rr (Nat.le_trans (by decide) hd) (Nat.le_refl _)) (Nat.le_refl _) ck8 hyp (fun r10 g11 h12 hyp => ?_)
    refine mf_icmp_ne (tgt := 92) (mf_dat eX6_takeImage_p0 44 rfl) (by decide) (fun hc => ?_) (fun hc => ?_)
    · replace hyp := hyp.1 hc
      refine mf_iconst (v := 0) (mf_dat eX6_takeImage_p0 49 rfl) (by decide) ?_
      exact mf_ireturn (mf_dat eX6_takeImage_p0 50 rfl) rfl (Or.inr ⟨rfl, by decide⟩) hyp
    · replace hyp := hyp.2 hc
      refine mf_aload_n (mf_dat eX6_takeImage_p0 45 rfl) rfl rfl ?_
      refine mf_getf (r := (RX6, TX6, 8)) (ci := 6) (k := 7) (t := 0) (v := h12 x0 7) (mf_dat eX6_takeImage_p0 46 rfl) fl_X6_30 rfl (by decide) rfl rfl ck4 ?_
      refine mf_sipush (v := 999) (mf_dat eX6_takeImage_p0 47 rfl) (by decide) ?_
      refine mf_icmp_le (tgt := 94) (mf_dat eX6_takeImage_p0 48 rfl) (by decide) (fun hc => ?_) (fun hc => ?_)
      · replace hyp := hyp.1 hc
        refine mf_iconst (v := 0) (mf_dat eX6_takeImage_p0 51 rfl) (by decide) ?_
        refine mf_istore (mf_dat eX6_takeImage_p0 52 rfl) (by decide) ?_
        exact mf_sub [1, 2, 3, 0] rfl hyp
      · replace hyp := hyp.2 hc
        refine mf_iconst (v := 0) (mf_dat eX6_takeImage_p0 49 rfl) (by decide) ?_
        exact mf_ireturn (mf_dat eX6_takeImage_p0 50 rfl) rfl (Or.inr ⟨rfl, by decide⟩) hyp
  · replace hyp := hyp.2 hc
    refine mf_iload (mf_dat eX6_takeImage_p0 25 rfl) rfl ?_
    refine mf_aload_n (mf_dat eX6_takeImage_p0 26 rfl) rfl rfl ?_
    refine mf_iload (mf_dat eX6_takeImage_p0 27 rfl) rfl ?_
    obtain ⟨ck16, hyp⟩ := hyp
    refine mf_callV (Yc := YX8_byteAt) (r := (RX8, TX8, 2)) (ci := 8) (mf_dat eX6_takeImage_p0 28 rfl) ml_X6_90 okX8_byteAt im_X8_byteAt sl_X8_byteAt rfl rfl rfl rfl (Nat.le_of_ble_eq_true rfl) (mf_rr (Nat.le_trans (by decide) hd) (Nat.le_refl _)) (Nat.le_refl _) ck16 hyp (fun r13 g14 h15 hyp => ?_)
    refine mf_callS (Yc := YX8_nextCheck) (mf_dat eX6_takeImage_p0 29 rfl) ml_X6_93 okX8_nextCheck sm_X8_nextCheck rfl rfl (Nat.le_of_ble_eq_true rfl) (mf_rr (Nat.le_trans (by decide) hd) (Nat.le_refl _)) (Nat.le_refl _) hyp (fun r17 g18 h19 hyp => ?_)
    refine mf_istore (mf_dat eX6_takeImage_p0 30 rfl) (by decide) ?_
    refine mf_iinc (mf_dat eX6_takeImage_p0 31 rfl) rfl (by decide) (by decide) ?_
    generalize qv20 : mf_w32 (x5 + 1) = v20
    replace hyp := hyp _ qv20.symm
    refine mf_goto (tgt := 34) (mf_dat eX6_takeImage_p0 32 rfl) (by decide) ?_
    exact mf_sub [2, 3, 4, 5, 1, 0] rfl hyp
set_option maxRecDepth 100000 in
set_option maxHeartbeats 4000000 in
theorem bX6_takeImage_97 {C : mf_G} {l : Launch} {d n : Nat} {K : mf_Kt} {x0 x1 x2 x5 : Int} {g h : mf_M} (hd : 1 ≤ d) (hyp : mf_is n x1 1 ∧ ((h x1 8 ≤ x5 → JX6_takeImage_155 C l d n K x0 x1 x2 0 g h) ∧ (¬ h x1 8 ≤ x5 → ((6 ≤ x5 → JX6_takeImage_155 C l d n K x0 x1 x2 0 g h) ∧ (¬ 6 ≤ x5 → mf_is n x0 6 ∧ mf_is n x2 8 ∧ mf_MT C l 0 YX8_byteAt [(2, x2), (0, mf_w32 (2 + x5))] n n g h (fun r3 g4 h5 => mf_is n (g x0 0) 20 ∧ 0 ≤ x5 ∧ x5 < mf_len (g x0 0) ∧ (∀ h10 : mf_M, h10 = mf_up h5 (g x0 0) x5 r3 → mf_is n (g4 x0 0) 20 ∧ x5 < mf_len (g4 x0 0) ∧ ((h10 (g4 x0 0) x5 < mf_shl 1 (h10 x1 9) → (∀ v13 : Int, v13 = mf_w32 (x5 + 1) → JX6_takeImage_97 C l d n K x0 x1 x2 v13 g4 h10)) ∧ (¬ h10 (g4 x0 0) x5 < mf_shl 1 (h10 x1 9) → K 0 g4 h10))))))))) : JX6_takeImage_97 C l d n K x0 x1 x2 x5 g h := by
  refine mf_iload (mf_dat eX6_takeImage_p0 53 rfl) rfl ?_
  refine mf_aload_n (mf_dat eX6_takeImage_p0 54 rfl) rfl rfl ?_
  obtain ⟨ck1, hyp⟩ := hyp
  refine mf_getf (r := (RX1, TX1, 14)) (ci := 1) (k := 8) (t := 0) (v := h x1 8) (mf_dat eX6_takeImage_p0 55 rfl) fl_X6_77 rfl (by decide) rfl rfl ck1 ?_
  refine mf_icmp_ge (tgt := 152) (mf_dat eX6_takeImage_p0 56 rfl) (by decide) (fun hc => ?_) (fun hc => ?_)
  · replace hyp := hyp.1 hc
    refine mf_iconst (v := 0) (mf_dat eX6_takeImage_p1 22 rfl) (by decide) ?_
    refine mf_istore (mf_dat eX6_takeImage_p1 23 rfl) (by decide) ?_
    exact mf_sub [1, 2, 3, 0] rfl hyp
  · replace hyp := hyp.2 hc
    refine mf_iload (mf_dat eX6_takeImage_p0 57 rfl) rfl ?_
    refine mf_bipush (v := 6) (mf_dat eX6_takeImage_p0 58 rfl) (by decide) ?_
    refine mf_icmp_ge (tgt := 152) (mf_dat eX6_takeImage_p0 59 rfl) (by decide) (fun hc => ?_) (fun hc => ?_)
    · replace hyp := hyp.1 hc
      refine mf_iconst (v := 0) (mf_dat eX6_takeImage_p1 22 rfl) (by decide) ?_
      refine mf_istore (mf_dat eX6_takeImage_p1 23 rfl) (by decide) ?_
      exact mf_sub [1, 2, 3, 0] rfl hyp
    · replace hyp := hyp.2 hc
      refine mf_aload_n (mf_dat eX6_takeImage_p1 0 rfl) rfl rfl ?_
      obtain ⟨ck2, hyp⟩ := hyp
      refine mf_getf (r := (RX6, TX6, 8)) (ci := 6) (k := 0) (t := 2) (v := g x0 0) (mf_dat eX6_takeImage_p1 1 rfl) fl_X6_9 rfl (by decide) rfl rfl ck2 ?_
      refine mf_iload (mf_dat eX6_takeImage_p1 2 rfl) rfl ?_
      refine mf_aload_n (mf_dat eX6_takeImage_p1 3 rfl) rfl rfl ?_
      refine mf_iconst (v := 2) (mf_dat eX6_takeImage_p1 4 rfl) (by decide) ?_
      refine mf_iload (mf_dat eX6_takeImage_p1 5 rfl) rfl ?_
      refine mf_iadd (mf_dat eX6_takeImage_p1 6 rfl) ?_
      obtain ⟨ck6, hyp⟩ := hyp
      refine mf_callV (Yc := YX8_byteAt) (r := (RX8, TX8, 2)) (ci := 8) (mf_dat eX6_takeImage_p1 7 rfl) ml_X6_90 okX8_byteAt im_X8_byteAt sl_X8_byteAt rfl rfl rfl rfl (Nat.le_of_ble_eq_true rfl) (mf_rr (Nat.le_trans (by decide) hd) (Nat.le_refl _)) (Nat.le_refl _) ck6 hyp (fun r3 g4 h5 hyp => ?_)
      obtain ⟨ck7, hyp⟩ := hyp
      obtain ⟨ck8, hyp⟩ := hyp
      obtain ⟨ck9, hyp⟩ := hyp
      refine mf_iast (mf_dat eX6_takeImage_p1 8 rfl) ck7 ck8 ck9 ?_
      generalize qh10 : mf_up h5 (g x0 0) x5 r3 = h10
      replace hyp := hyp _ qh10.symm
      refine mf_aload_n (mf_dat eX6_takeImage_p1 9 rfl) rfl rfl ?_
      refine mf_getf (r := (RX6, TX6, 8)) (ci := 6) (k := 0) (t := 2) (v := g4 x0 0) (mf_dat eX6_takeImage_p1 10 rfl) fl_X6_9 rfl (by decide) rfl rfl ck2 ?_
      refine mf_iload (mf_dat eX6_takeImage_p1 11 rfl) rfl ?_
      obtain ⟨ck11, hyp⟩ := hyp
      obtain ⟨ck12, hyp⟩ := hyp
      refine mf_iald (mf_dat eX6_takeImage_p1 12 rfl) ck11 ck8 ck12 ?_
      refine mf_iconst (v := 1) (mf_dat eX6_takeImage_p1 13 rfl) (by decide) ?_
      refine mf_aload_n (mf_dat eX6_takeImage_p1 14 rfl) rfl rfl ?_
      refine mf_getf (r := (RX1, TX1, 14)) (ci := 1) (k := 9) (t := 0) (v := h10 x1 9) (mf_dat eX6_takeImage_p1 15 rfl) fl_X6_102 rfl (by decide) rfl rfl ck1 ?_
      refine mf_ishl (mf_dat eX6_takeImage_p1 16 rfl) ?_
      refine mf_icmp_lt (tgt := 146) (mf_dat eX6_takeImage_p1 17 rfl) (by decide) (fun hc => ?_) (fun hc => ?_)
      · replace hyp := hyp.1 hc
        refine mf_iinc (mf_dat eX6_takeImage_p1 20 rfl) rfl (by decide) (by decide) ?_
        generalize qv13 : mf_w32 (x5 + 1) = v13
        replace hyp := hyp _ qv13.symm
        refine mf_goto (tgt := 97) (mf_dat eX6_takeImage_p1 21 rfl) (by decide) ?_
        exact mf_sub [1, 2, 3, 0] rfl hyp
      · replace hyp := hyp.2 hc
        refine mf_iconst (v := 0) (mf_dat eX6_takeImage_p1 18 rfl) (by decide) ?_
        exact mf_ireturn (mf_dat eX6_takeImage_p1 19 rfl) rfl (Or.inr ⟨rfl, by decide⟩) hyp
set_option maxRecDepth 100000 in
set_option maxHeartbeats 4000000 in
theorem bX6_takeImage_155 {C : mf_G} {l : Launch} {d n : Nat} {K : mf_Kt} {x0 x1 x2 x5 : Int} {g h : mf_M} (hd : 3 ≤ d) (hyp : mf_is n x1 1 ∧ ((h x1 12 ≤ x5 → K 1 g h) ∧ (¬ h x1 12 ≤ x5 → ((8 ≤ x5 → K 1 g h) ∧ (¬ 8 ≤ x5 → mf_is n x0 6 ∧ mf_MT C l 2 YX6_takeBeing [(2, x0), (2, x1), (2, x2), (0, x5)] n n g h (fun r2 g3 h4 => ((¬ r2 = 0 → (∀ v6 : Int, v6 = mf_w32 (x5 + 1) → JX6_takeImage_155 C l d n K x0 x1 x2 v6 g3 h4)) ∧ (r2 = 0 → K 0 g3 h4)))))))) : JX6_takeImage_155 C l d n K x0 x1 x2 x5 g h := by
  refine mf_iload (mf_dat eX6_takeImage_p1 24 rfl) rfl ?_
  refine mf_aload_n (mf_dat eX6_takeImage_p1 25 rfl) rfl rfl ?_
  obtain ⟨ck1, hyp⟩ := hyp
  refine mf_getf (r := (RX1, TX1, 14)) (ci := 1) (k := 12) (t := 0) (v := h x1 12) (mf_dat eX6_takeImage_p1 26 rfl) fl_X6_82 rfl (by decide) rfl rfl ck1 ?_
  refine mf_icmp_ge (tgt := 190) (mf_dat eX6_takeImage_p1 27 rfl) (by decide) (fun hc => ?_) (fun hc => ?_)
  · replace hyp := hyp.1 hc
    refine mf_iconst (v := 1) (mf_dat eX6_takeImage_p1 41 rfl) (by decide) ?_
    exact mf_ireturn (mf_dat eX6_takeImage_p1 42 rfl) rfl (Or.inr ⟨rfl, by decide⟩) hyp
  · replace hyp := hyp.2 hc
    refine mf_iload (mf_dat eX6_takeImage_p1 28 rfl) rfl ?_
    refine mf_bipush (v := 8) (mf_dat eX6_takeImage_p1 29 rfl) (by decide) ?_
    refine mf_icmp_ge (tgt := 190) (mf_dat eX6_takeImage_p1 30 rfl) (by decide) (fun hc => ?_) (fun hc => ?_)
    · replace hyp := hyp.1 hc
      refine mf_iconst (v := 1) (mf_dat eX6_takeImage_p1 41 rfl) (by decide) ?_
      exact mf_ireturn (mf_dat eX6_takeImage_p1 42 rfl) rfl (Or.inr ⟨rfl, by decide⟩) hyp
    · replace hyp := hyp.2 hc
      refine mf_aload_n (mf_dat eX6_takeImage_p1 31 rfl) rfl rfl ?_
      refine mf_aload_n (mf_dat eX6_takeImage_p1 32 rfl) rfl rfl ?_
      refine mf_aload_n (mf_dat eX6_takeImage_p1 33 rfl) rfl rfl ?_
      refine mf_iload (mf_dat eX6_takeImage_p1 34 rfl) rfl ?_
      obtain ⟨ck5, hyp⟩ := hyp
      refine mf_callV (Yc := YX6_takeBeing) (r := (RX6, TX6, 8)) (ci := 6) (mf_dat eX6_takeImage_p1 35 rfl) ml_X6_105 okX6_takeBeing im_X6_takeBeing sl_X6_takeBeing rfl rfl rfl rfl (Nat.le_of_ble_eq_true rfl) (mf_rr (Nat.le_trans (by decide) hd) (Nat.le_refl _)) (Nat.le_refl _) ck5 hyp (fun r2 g3 h4 hyp => ?_)
      refine mf_if_ne (tgt := 184) (mf_dat eX6_takeImage_p1 36 rfl) (by decide) (fun hc => ?_) (fun hc => ?_)
      · replace hyp := hyp.1 hc
        refine mf_iinc (mf_dat eX6_takeImage_p1 39 rfl) rfl (by decide) (by decide) ?_
        generalize qv6 : mf_w32 (x5 + 1) = v6
        replace hyp := hyp _ qv6.symm
        refine mf_goto (tgt := 155) (mf_dat eX6_takeImage_p1 40 rfl) (by decide) ?_
        exact mf_sub [1, 2, 3, 0] rfl hyp
      · replace hyp := hyp.2 hc
        refine mf_iconst (v := 0) (mf_dat eX6_takeImage_p1 37 rfl) (by decide) ?_
        exact mf_ireturn (mf_dat eX6_takeImage_p1 38 rfl) rfl (Or.inr ⟨rfl, by decide⟩) hyp
set_option maxRecDepth 100000 in
set_option maxHeartbeats 4000000 in
theorem mX6_takeImage {C : mf_G} {l : Launch} {d n : Nat} {K : mf_Kt} {x0 x1 x2 : Int} {g h : mf_M} (hyp : mf_is n x1 1 ∧ (∀ v2 : Int, v2 = mf_w32 ((mf_w32 (2 + (h x1 8))) + (mf_w32 (6 * (h x1 12)))) → mf_is n x2 8 ∧ ((h x2 1 = mf_w32 (v2 + 1) → JX6_takeImage_34 C l d n K x0 x1 x2 v2 83 0 g h) ∧ (¬ h x2 1 = mf_w32 (v2 + 1) → K 0 g h)))) : mf_MT C l d YX6_takeImage [(2, x0), (2, x1), (2, x2)] n n g h K := by
  refine mf_entry (by decide) (Nat.le_of_ble_eq_true rfl) ?_
  refine mf_iconst (v := 2) (mf_dat eX6_takeImage_p0 0 rfl) (by decide) ?_
  refine mf_aload_n (mf_dat eX6_takeImage_p0 1 rfl) rfl rfl ?_
  obtain ⟨ck1, hyp⟩ := hyp
  refine mf_getf (r := (RX1, TX1, 14)) (ci := 1) (k := 8) (t := 0) (v := h x1 8) (mf_dat eX6_takeImage_p0 2 rfl) fl_X6_77 rfl (by decide) rfl rfl ck1 ?_
  refine mf_iadd (mf_dat eX6_takeImage_p0 3 rfl) ?_
  refine mf_bipush (v := 6) (mf_dat eX6_takeImage_p0 4 rfl) (by decide) ?_
  refine mf_aload_n (mf_dat eX6_takeImage_p0 5 rfl) rfl rfl ?_
  refine mf_getf (r := (RX1, TX1, 14)) (ci := 1) (k := 12) (t := 0) (v := h x1 12) (mf_dat eX6_takeImage_p0 6 rfl) fl_X6_82 rfl (by decide) rfl rfl ck1 ?_
  refine mf_imul (mf_dat eX6_takeImage_p0 7 rfl) ?_
  refine mf_iadd (mf_dat eX6_takeImage_p0 8 rfl) ?_
  generalize qv2 : mf_w32 ((mf_w32 (2 + (h x1 8))) + (mf_w32 (6 * (h x1 12)))) = v2
  replace hyp := hyp _ qv2.symm
  refine mf_istore_n (mf_dat eX6_takeImage_p0 9 rfl) rfl (by decide) ?_
  refine mf_aload_n (mf_dat eX6_takeImage_p0 10 rfl) rfl rfl ?_
  obtain ⟨ck3, hyp⟩ := hyp
  refine mf_getf (r := (RX8, TX8, 2)) (ci := 8) (k := 1) (t := 0) (v := h x2 1) (mf_dat eX6_takeImage_p0 11 rfl) fl_X6_85 rfl (by decide) rfl rfl ck3 ?_
  refine mf_iload_n (mf_dat eX6_takeImage_p0 12 rfl) rfl rfl ?_
  refine mf_iconst (v := 1) (mf_dat eX6_takeImage_p0 13 rfl) (by decide) ?_
  refine mf_iadd (mf_dat eX6_takeImage_p0 14 rfl) ?_
  refine mf_icmp_eq (tgt := 27) (mf_dat eX6_takeImage_p0 15 rfl) (by decide) (fun hc => ?_) (fun hc => ?_)
  · replace hyp := hyp.1 hc
    refine mf_bipush (v := 83) (mf_dat eX6_takeImage_p0 18 rfl) (by decide) ?_
    refine mf_istore (mf_dat eX6_takeImage_p0 19 rfl) (by decide) ?_
    refine mf_iconst (v := 0) (mf_dat eX6_takeImage_p0 20 rfl) (by decide) ?_
    refine mf_istore (mf_dat eX6_takeImage_p0 21 rfl) (by decide) ?_
    exact mf_sub [3, 4, 5, 2, 1, 0] rfl hyp
  · replace hyp := hyp.2 hc
    refine mf_iconst (v := 0) (mf_dat eX6_takeImage_p0 16 rfl) (by decide) ?_
    exact mf_ireturn (mf_dat eX6_takeImage_p0 17 rfl) rfl (Or.inr ⟨rfl, by decide⟩) hyp
set_option maxRecDepth 100000 in
set_option maxHeartbeats 4000000 in
theorem mX6_takeBeing {C : mf_G} {l : Launch} {d n : Nat} {K : mf_Kt} {x0 x1 x2 x3 : Int} {g h : mf_M} (hd : 2 ≤ d) (hyp : mf_is n x1 1 ∧ (∀ v2 : Int, v2 = mf_w32 ((mf_w32 (2 + (h x1 8))) + (mf_w32 (6 * x3))) → mf_is n x0 6 ∧ mf_is n x2 8 ∧ mf_MT C l 0 YX8_byteAt [(2, x2), (0, v2)] n n g h (fun r4 g5 h6 => mf_is n (g x0 1) 20 ∧ 0 ≤ x3 ∧ x3 < mf_len (g x0 1) ∧ (∀ h11 : mf_M, h11 = mf_up h6 (g x0 1) x3 r4 → mf_MT C l 0 YX8_byteAt [(2, x2), (0, mf_w32 (v2 + 1))] n n g5 h11 (fun r12 g13 h14 => mf_is n (g5 x0 2) 20 ∧ x3 < mf_len (g5 x0 2) ∧ (∀ h17 : mf_M, h17 = mf_up h14 (g5 x0 2) x3 r12 → mf_MT C l 1 YX8_pairAt [(2, x2), (0, mf_w32 (v2 + 2))] n n g13 h17 (fun r18 g19 h20 => mf_is n (g13 x0 3) 20 ∧ x3 < mf_len (g13 x0 3) ∧ (∀ h23 : mf_M, h23 = mf_up h20 (g13 x0 3) x3 r18 → mf_MT C l 1 YX8_pairAt [(2, x2), (0, mf_w32 (v2 + 4))] n n g19 h23 (fun r24 g25 h26 => mf_is n (g19 x0 4) 20 ∧ x3 < mf_len (g19 x0 4) ∧ (∀ h29 : mf_M, h29 = mf_up h26 (g19 x0 4) x3 r24 → mf_is n (g25 x0 1) 20 ∧ x3 < mf_len (g25 x0 1) ∧ ((h29 x1 8 ≤ h29 (g25 x0 1) x3 → K 0 g25 h29) ∧ (¬ h29 x1 8 ≤ h29 (g25 x0 1) x3 → mf_is n (g25 x0 2) 20 ∧ x3 < mf_len (g25 x0 2) ∧ ((h29 x1 9 ≤ h29 (g25 x0 2) x3 → K 0 g25 h29) ∧ (¬ h29 x1 9 ≤ h29 (g25 x0 2) x3 → mf_is n (g25 x0 3) 20 ∧ x3 < mf_len (g25 x0 3) ∧ ((9999 < h29 (g25 x0 3) x3 → K 0 g25 h29) ∧ (¬ 9999 < h29 (g25 x0 3) x3 → mf_is n (g25 x0 4) 20 ∧ x3 < mf_len (g25 x0 4) ∧ ((9999 < h29 (g25 x0 4) x3 → K 0 g25 h29) ∧ (¬ 9999 < h29 (g25 x0 4) x3 → mf_MT C l 1 YX6_isFree [(2, x0), (0, h29 (g25 x0 1) x3), (0, h29 (g25 x0 2) x3), (0, x3)] n n g25 h29 (fun r38 g39 h40 => ((r38 = 0 → K 0 g39 h40) ∧ (¬ r38 = 0 → K 1 g39 h40))))))))))))))))))))) : mf_MT C l d YX6_takeBeing [(2, x0), (2, x1), (2, x2), (0, x3)] n n g h K := by
  refine mf_entry (by decide) (Nat.le_of_ble_eq_true rfl) ?_
  refine mf_iconst (v := 2) (mf_dat eX6_takeBeing_p0 0 rfl) (by decide) ?_
  refine mf_aload_n (mf_dat eX6_takeBeing_p0 1 rfl) rfl rfl ?_
  obtain ⟨ck1, hyp⟩ := hyp
  refine mf_getf (r := (RX1, TX1, 14)) (ci := 1) (k := 8) (t := 0) (v := h x1 8) (mf_dat eX6_takeBeing_p0 2 rfl) fl_X6_77 rfl (by decide) rfl rfl ck1 ?_
  refine mf_iadd (mf_dat eX6_takeBeing_p0 3 rfl) ?_
  refine mf_bipush (v := 6) (mf_dat eX6_takeBeing_p0 4 rfl) (by decide) ?_
  refine mf_iload_n (mf_dat eX6_takeBeing_p0 5 rfl) rfl rfl ?_
  refine mf_imul (mf_dat eX6_takeBeing_p0 6 rfl) ?_
  refine mf_iadd (mf_dat eX6_takeBeing_p0 7 rfl) ?_
  generalize qv2 : mf_w32 ((mf_w32 (2 + (h x1 8))) + (mf_w32 (6 * x3))) = v2
  replace hyp := hyp _ qv2.symm
  refine mf_istore (mf_dat eX6_takeBeing_p0 8 rfl) (by decide) ?_
  refine mf_aload_n (mf_dat eX6_takeBeing_p0 9 rfl) rfl rfl ?_
  obtain ⟨ck3, hyp⟩ := hyp
  refine mf_getf (r := (RX6, TX6, 8)) (ci := 6) (k := 1) (t := 2) (v := g x0 1) (mf_dat eX6_takeBeing_p0 10 rfl) fl_X6_15 rfl (by decide) rfl rfl ck3 ?_
  refine mf_iload_n (mf_dat eX6_takeBeing_p0 11 rfl) rfl rfl ?_
  refine mf_aload_n (mf_dat eX6_takeBeing_p0 12 rfl) rfl rfl ?_
  refine mf_iload (mf_dat eX6_takeBeing_p0 13 rfl) rfl ?_
  obtain ⟨ck7, hyp⟩ := hyp
  refine mf_callV (Yc := YX8_byteAt) (r := (RX8, TX8, 2)) (ci := 8) (mf_dat eX6_takeBeing_p0 14 rfl) ml_X6_90 okX8_byteAt im_X8_byteAt sl_X8_byteAt rfl rfl rfl rfl (Nat.le_of_ble_eq_true rfl) (mf_rr (Nat.le_trans (by decide) hd) (Nat.le_refl _)) (Nat.le_refl _) ck7 hyp (fun r4 g5 h6 hyp => ?_)
  obtain ⟨ck8, hyp⟩ := hyp
  obtain ⟨ck9, hyp⟩ := hyp
  obtain ⟨ck10, hyp⟩ := hyp
  refine mf_iast (mf_dat eX6_takeBeing_p0 15 rfl) ck8 ck9 ck10 ?_
  generalize qh11 : mf_up h6 (g x0 1) x3 r4 = h11
  replace hyp := hyp _ qh11.symm
  refine mf_aload_n (mf_dat eX6_takeBeing_p0 16 rfl) rfl rfl ?_
  refine mf_getf (r := (RX6, TX6, 8)) (ci := 6) (k := 2) (t := 2) (v := g5 x0 2) (mf_dat eX6_takeBeing_p0 17 rfl) fl_X6_18 rfl (by decide) rfl rfl ck3 ?_
  refine mf_iload_n (mf_dat eX6_takeBeing_p0 18 rfl) rfl rfl ?_
  refine mf_aload_n (mf_dat eX6_takeBeing_p0 19 rfl) rfl rfl ?_
  refine mf_iload (mf_dat eX6_takeBeing_p0 20 rfl) rfl ?_
  refine mf_iconst (v := 1) (mf_dat eX6_takeBeing_p0 21 rfl) (by decide) ?_
  refine mf_iadd (mf_dat eX6_takeBeing_p0 22 rfl) ?_
  refine mf_callV (Yc := YX8_byteAt) (r := (RX8, TX8, 2)) (ci := 8) (mf_dat eX6_takeBeing_p0 23 rfl) ml_X6_90 okX8_byteAt im_X8_byteAt sl_X8_byteAt rfl rfl rfl rfl (Nat.le_of_ble_eq_true rfl) (mf_rr (Nat.le_trans (by decide) hd) (Nat.le_refl _)) (Nat.le_refl _) ck7 hyp (fun r12 g13 h14 hyp => ?_)
  obtain ⟨ck15, hyp⟩ := hyp
  obtain ⟨ck16, hyp⟩ := hyp
  refine mf_iast (mf_dat eX6_takeBeing_p0 24 rfl) ck15 ck9 ck16 ?_
  generalize qh17 : mf_up h14 (g5 x0 2) x3 r12 = h17
  replace hyp := hyp _ qh17.symm
  refine mf_aload_n (mf_dat eX6_takeBeing_p0 25 rfl) rfl rfl ?_
  refine mf_getf (r := (RX6, TX6, 8)) (ci := 6) (k := 3) (t := 2) (v := g13 x0 3) (mf_dat eX6_takeBeing_p0 26 rfl) fl_X6_21 rfl (by decide) rfl rfl ck3 ?_
  refine mf_iload_n (mf_dat eX6_takeBeing_p0 27 rfl) rfl rfl ?_
  refine mf_aload_n (mf_dat eX6_takeBeing_p0 28 rfl) rfl rfl ?_
  refine mf_iload (mf_dat eX6_takeBeing_p0 29 rfl) rfl ?_
  refine mf_iconst (v := 2) (mf_dat eX6_takeBeing_p0 30 rfl) (by decide) ?_
  refine mf_iadd (mf_dat eX6_takeBeing_p0 31 rfl) ?_
  refine mf_callV (Yc := YX8_pairAt) (r := (RX8, TX8, 2)) (ci := 8) (mf_dat eX6_takeBeing_p0 32 rfl) ml_X6_99 okX8_pairAt im_X8_pairAt sl_X8_pairAt rfl rfl rfl rfl (Nat.le_of_ble_eq_true rfl) (mf_rr (Nat.le_trans (by decide) hd) (Nat.le_refl _)) (Nat.le_refl _) ck7 hyp (fun r18 g19 h20 hyp => ?_)
  obtain ⟨ck21, hyp⟩ := hyp
  obtain ⟨ck22, hyp⟩ := hyp
  refine mf_iast (mf_dat eX6_takeBeing_p0 33 rfl) ck21 ck9 ck22 ?_
  generalize qh23 : mf_up h20 (g13 x0 3) x3 r18 = h23
  replace hyp := hyp _ qh23.symm
  refine mf_aload_n (mf_dat eX6_takeBeing_p0 34 rfl) rfl rfl ?_
  refine mf_getf (r := (RX6, TX6, 8)) (ci := 6) (k := 4) (t := 2) (v := g19 x0 4) (mf_dat eX6_takeBeing_p0 35 rfl) fl_X6_24 rfl (by decide) rfl rfl ck3 ?_
  refine mf_iload_n (mf_dat eX6_takeBeing_p0 36 rfl) rfl rfl ?_
  refine mf_aload_n (mf_dat eX6_takeBeing_p0 37 rfl) rfl rfl ?_
  refine mf_iload (mf_dat eX6_takeBeing_p0 38 rfl) rfl ?_
  refine mf_iconst (v := 4) (mf_dat eX6_takeBeing_p0 39 rfl) (by decide) ?_
  refine mf_iadd (mf_dat eX6_takeBeing_p0 40 rfl) ?_
  refine mf_callV (Yc := YX8_pairAt) (r := (RX8, TX8, 2)) (ci := 8) (mf_dat eX6_takeBeing_p0 41 rfl) ml_X6_99 okX8_pairAt im_X8_pairAt sl_X8_pairAt rfl rfl rfl rfl (Nat.le_of_ble_eq_true rfl) (mf_rr (Nat.le_trans (by decide) hd) (Nat.le_refl _)) (Nat.le_refl _) ck7 hyp (fun r24 g25 h26 hyp => ?_)
  obtain ⟨ck27, hyp⟩ := hyp
  obtain ⟨ck28, hyp⟩ := hyp
  refine mf_iast (mf_dat eX6_takeBeing_p0 42 rfl) ck27 ck9 ck28 ?_
  generalize qh29 : mf_up h26 (g19 x0 4) x3 r24 = h29
  replace hyp := hyp _ qh29.symm
  refine mf_aload_n (mf_dat eX6_takeBeing_p0 43 rfl) rfl rfl ?_
  refine mf_getf (r := (RX6, TX6, 8)) (ci := 6) (k := 1) (t := 2) (v := g25 x0 1) (mf_dat eX6_takeBeing_p0 44 rfl) fl_X6_15 rfl (by decide) rfl rfl ck3 ?_
  refine mf_iload_n (mf_dat eX6_takeBeing_p0 45 rfl) rfl rfl ?_
  obtain ⟨ck30, hyp⟩ := hyp
  obtain ⟨ck31, hyp⟩ := hyp
  refine mf_iald (mf_dat eX6_takeBeing_p0 46 rfl) ck30 ck9 ck31 ?_
  refine mf_aload_n (mf_dat eX6_takeBeing_p0 47 rfl) rfl rfl ?_
  refine mf_getf (r := (RX1, TX1, 14)) (ci := 1) (k := 8) (t := 0) (v := h29 x1 8) (mf_dat eX6_takeBeing_p0 48 rfl) fl_X6_77 rfl (by decide) rfl rfl ck1 ?_
  refine mf_icmp_ge (tgt := 141) (mf_dat eX6_takeBeing_p0 49 rfl) (by decide) (fun hc => ?_) (fun hc => ?_)
  · replace hyp := hyp.1 hc
    refine mf_iconst (v := 0) (mf_dat eX6_takeBeing_p1 23 rfl) (by decide) ?_
    exact mf_ireturn (mf_dat eX6_takeBeing_p1 24 rfl) rfl (Or.inr ⟨rfl, by decide⟩) hyp
  · replace hyp := hyp.2 hc
    refine mf_aload_n (mf_dat eX6_takeBeing_p0 50 rfl) rfl rfl ?_
    refine mf_getf (r := (RX6, TX6, 8)) (ci := 6) (k := 2) (t := 2) (v := g25 x0 2) (mf_dat eX6_takeBeing_p0 51 rfl) fl_X6_18 rfl (by decide) rfl rfl ck3 ?_
    refine mf_iload_n (mf_dat eX6_takeBeing_p0 52 rfl) rfl rfl ?_
    obtain ⟨ck32, hyp⟩ := hyp
    obtain ⟨ck33, hyp⟩ := hyp
    refine mf_iald (mf_dat eX6_takeBeing_p0 53 rfl) ck32 ck9 ck33 ?_
    refine mf_aload_n (mf_dat eX6_takeBeing_p0 54 rfl) rfl rfl ?_
    refine mf_getf (r := (RX1, TX1, 14)) (ci := 1) (k := 9) (t := 0) (v := h29 x1 9) (mf_dat eX6_takeBeing_p0 55 rfl) fl_X6_102 rfl (by decide) rfl rfl ck1 ?_
    refine mf_icmp_ge (tgt := 141) (mf_dat eX6_takeBeing_p0 56 rfl) (by decide) (fun hc => ?_) (fun hc => ?_)
    · replace hyp := hyp.1 hc
      refine mf_iconst (v := 0) (mf_dat eX6_takeBeing_p1 23 rfl) (by decide) ?_
      exact mf_ireturn (mf_dat eX6_takeBeing_p1 24 rfl) rfl (Or.inr ⟨rfl, by decide⟩) hyp
    · replace hyp := hyp.2 hc
      refine mf_aload_n (mf_dat eX6_takeBeing_p0 57 rfl) rfl rfl ?_
      refine mf_getf (r := (RX6, TX6, 8)) (ci := 6) (k := 3) (t := 2) (v := g25 x0 3) (mf_dat eX6_takeBeing_p0 58 rfl) fl_X6_21 rfl (by decide) rfl rfl ck3 ?_
      refine mf_iload_n (mf_dat eX6_takeBeing_p0 59 rfl) rfl rfl ?_
      obtain ⟨ck34, hyp⟩ := hyp
      obtain ⟨ck35, hyp⟩ := hyp
      refine mf_iald (mf_dat eX6_takeBeing_p1 0 rfl) ck34 ck9 ck35 ?_
      refine mf_sipush (v := 9999) (mf_dat eX6_takeBeing_p1 1 rfl) (by decide) ?_
      refine mf_icmp_gt (tgt := 141) (mf_dat eX6_takeBeing_p1 2 rfl) (by decide) (fun hc => ?_) (fun hc => ?_)
      · replace hyp := hyp.1 hc
        refine mf_iconst (v := 0) (mf_dat eX6_takeBeing_p1 23 rfl) (by decide) ?_
        exact mf_ireturn (mf_dat eX6_takeBeing_p1 24 rfl) rfl (Or.inr ⟨rfl, by decide⟩) hyp
      · replace hyp := hyp.2 hc
        refine mf_aload_n (mf_dat eX6_takeBeing_p1 3 rfl) rfl rfl ?_
        refine mf_getf (r := (RX6, TX6, 8)) (ci := 6) (k := 4) (t := 2) (v := g25 x0 4) (mf_dat eX6_takeBeing_p1 4 rfl) fl_X6_24 rfl (by decide) rfl rfl ck3 ?_
        refine mf_iload_n (mf_dat eX6_takeBeing_p1 5 rfl) rfl rfl ?_
        obtain ⟨ck36, hyp⟩ := hyp
        obtain ⟨ck37, hyp⟩ := hyp
        refine mf_iald (mf_dat eX6_takeBeing_p1 6 rfl) ck36 ck9 ck37 ?_
        refine mf_sipush (v := 9999) (mf_dat eX6_takeBeing_p1 7 rfl) (by decide) ?_
        refine mf_icmp_gt (tgt := 141) (mf_dat eX6_takeBeing_p1 8 rfl) (by decide) (fun hc => ?_) (fun hc => ?_)
        · replace hyp := hyp.1 hc
          refine mf_iconst (v := 0) (mf_dat eX6_takeBeing_p1 23 rfl) (by decide) ?_
          exact mf_ireturn (mf_dat eX6_takeBeing_p1 24 rfl) rfl (Or.inr ⟨rfl, by decide⟩) hyp
        · replace hyp := hyp.2 hc
          refine mf_aload_n (mf_dat eX6_takeBeing_p1 9 rfl) rfl rfl ?_
          refine mf_aload_n (mf_dat eX6_takeBeing_p1 10 rfl) rfl rfl ?_
          refine mf_getf (r := (RX6, TX6, 8)) (ci := 6) (k := 1) (t := 2) (v := g25 x0 1) (mf_dat eX6_takeBeing_p1 11 rfl) fl_X6_15 rfl (by decide) rfl rfl ck3 ?_
          refine mf_iload_n (mf_dat eX6_takeBeing_p1 12 rfl) rfl rfl ?_
          refine mf_iald (mf_dat eX6_takeBeing_p1 13 rfl) ck30 ck9 ck31 ?_
          refine mf_aload_n (mf_dat eX6_takeBeing_p1 14 rfl) rfl rfl ?_
          refine mf_getf (r := (RX6, TX6, 8)) (ci := 6) (k := 2) (t := 2) (v := g25 x0 2) (mf_dat eX6_takeBeing_p1 15 rfl) fl_X6_18 rfl (by decide) rfl rfl ck3 ?_
          refine mf_iload_n (mf_dat eX6_takeBeing_p1 16 rfl) rfl rfl ?_
          refine mf_iald (mf_dat eX6_takeBeing_p1 17 rfl) ck32 ck9 ck33 ?_
          refine mf_iload_n (mf_dat eX6_takeBeing_p1 18 rfl) rfl rfl ?_
          refine mf_callV (Yc := YX6_isFree) (r := (RX6, TX6, 8)) (ci := 6) (mf_dat eX6_takeBeing_p1 19 rfl) ml_X6_109 okX6_isFree im_X6_isFree sl_X6_isFree rfl rfl rfl rfl (Nat.le_of_ble_eq_true rfl) (mf_rr (Nat.le_trans (by decide) hd) (Nat.le_refl _)) (Nat.le_refl _) ck3 hyp (fun r38 g39 h40 hyp => ?_)
          refine mf_if_eq (tgt := 141) (mf_dat eX6_takeBeing_p1 20 rfl) (by decide) (fun hc => ?_) (fun hc => ?_)
          · replace hyp := hyp.1 hc
            refine mf_iconst (v := 0) (mf_dat eX6_takeBeing_p1 23 rfl) (by decide) ?_
            exact mf_ireturn (mf_dat eX6_takeBeing_p1 24 rfl) rfl (Or.inr ⟨rfl, by decide⟩) hyp
          · replace hyp := hyp.2 hc
            refine mf_iconst (v := 1) (mf_dat eX6_takeBeing_p1 21 rfl) (by decide) ?_
            refine mf_goto (tgt := 142) (mf_dat eX6_takeBeing_p1 22 rfl) (by decide) ?_
            exact mf_ireturn (mf_dat eX6_takeBeing_p1 24 rfl) rfl (Or.inr ⟨rfl, by decide⟩) hyp
set_option maxRecDepth 100000 in
set_option maxHeartbeats 4000000 in
theorem mX7_init {C : mf_G} {l : Launch} {d n0 n1 : Nat} {K : mf_Kt} {x0 x1 x2 x3 : Int} {g h : mf_M} (hd : 1 ≤ d) (hyp : 0 ≤ x0 ∧ mf_is n0 x0 7 ∧ (∀ g3 : mf_M, g3 = mf_up g x0 0 x1 → (∀ g4 : mf_M, g4 = mf_up g3 x0 1 x2 → (∀ g5 : mf_M, g5 = mf_up g4 x0 2 x3 → n0 = n1 ∧ K 0 g5 h)))) : mf_MT C l d YX7_init [(2, x0), (2, x1), (2, x2), (2, x3)] n0 n1 g h K := by
  refine mf_entry (by decide) (Nat.le_of_ble_eq_true rfl) ?_
  refine mf_aload_n (mf_dat eX7_init 0 rfl) rfl rfl ?_
  obtain ⟨ck1, hyp⟩ := hyp
  refine mf_objInit (mf_dat eX7_init 1 rfl) ml_X7_7 im_obj co_obj (mf_rmf hd) (mf_rml hd (Nat.le_of_ble_eq_true rfl)) ck1 ?_
  refine mf_aload_n (mf_dat eX7_init 2 rfl) rfl rfl ?_
  refine mf_aload_n (mf_dat eX7_init 3 rfl) rfl rfl ?_
  obtain ⟨ck2, hyp⟩ := hyp
  refine mf_putRF (r := (RX7, TX7, 4)) (ci := 7) (k := 0) (kI := 0) (t := 2) (mf_dat eX7_init 4 rfl) fl_X7_13 rfl rfl (by decide) rfl (by decide) rfl rfl rfl (by decide) (fun h9 => absurd h9 (by decide)) ck2 ?_
  generalize qg3 : mf_up g x0 0 x1 = g3
  replace hyp := hyp _ qg3.symm
  refine mf_aload_n (mf_dat eX7_init 5 rfl) rfl rfl ?_
  refine mf_aload_n (mf_dat eX7_init 6 rfl) rfl rfl ?_
  refine mf_putRF (r := (RX7, TX7, 4)) (ci := 7) (k := 1) (kI := 1) (t := 2) (mf_dat eX7_init 7 rfl) fl_X7_17 rfl rfl (by decide) rfl (by decide) rfl rfl rfl (by decide) (fun h9 => absurd h9 (by decide)) ck2 ?_
  generalize qg4 : mf_up g3 x0 1 x2 = g4
  replace hyp := hyp _ qg4.symm
  refine mf_aload_n (mf_dat eX7_init 8 rfl) rfl rfl ?_
  refine mf_aload_n (mf_dat eX7_init 9 rfl) rfl rfl ?_
  refine mf_putR (r := (RX7, TX7, 4)) (ci := 7) (k := 2) (kI := 2) (t := 2) (mf_dat eX7_init 10 rfl) fl_X7_21 rfl rfl (by decide) rfl (by decide) rfl (by decide) (fun h9 => absurd h9 (by decide)) ck2 ?_
  generalize qg5 : mf_up g4 x0 2 x3 = g5
  replace hyp := hyp _ qg5.symm
  obtain ⟨ck6, hyp⟩ := hyp
  subst ck6
  exact mf_return (mf_dat eX7_init 11 rfl) rfl hyp
set_option maxRecDepth 100000 in
set_option maxHeartbeats 4000000 in
theorem mX7_writeTo {C : mf_G} {l : Launch} {d n : Nat} {K : mf_Kt} {x0 x1 x2 : Int} {g h : mf_M} (hyp : mf_is n x0 7 ∧ (∀ g2 : mf_M, g2 = mf_up g x0 2 x1 → (∀ h3 : mf_M, h3 = mf_up h x0 3 x2 → K 0 g2 h3))) : mf_MT C l d YX7_writeTo [(2, x0), (2, x1), (0, x2)] n n g h K := by
  refine mf_entry (by decide) (Nat.le_of_ble_eq_true rfl) ?_
  refine mf_aload_n (mf_dat eX7_writeTo 0 rfl) rfl rfl ?_
  refine mf_aload_n (mf_dat eX7_writeTo 1 rfl) rfl rfl ?_
  obtain ⟨ck1, hyp⟩ := hyp
  refine mf_putR (r := (RX7, TX7, 4)) (ci := 7) (k := 2) (kI := 2) (t := 2) (mf_dat eX7_writeTo 2 rfl) fl_X7_21 rfl rfl (by decide) rfl (by decide) rfl (by decide) (fun h9 => absurd h9 (by decide)) ck1 ?_
  generalize qg2 : mf_up g x0 2 x1 = g2
  replace hyp := hyp _ qg2.symm
  refine mf_aload_n (mf_dat eX7_writeTo 3 rfl) rfl rfl ?_
  refine mf_iload_n (mf_dat eX7_writeTo 4 rfl) rfl rfl ?_
  refine mf_putI (r := (RX7, TX7, 4)) (ci := 7) (k := 3) (kI := 3) (t := 0) (mf_dat eX7_writeTo 5 rfl) fl_X7_25 rfl rfl (by decide) rfl (by decide) rfl (by decide) (fun h9 => absurd h9 (by decide)) ck1 ?_
  generalize qh3 : mf_up h x0 3 x2 = h3
  replace hyp := hyp _ qh3.symm
  exact mf_return (mf_dat eX7_writeTo 6 rfl) rfl hyp
abbrev JX7_readQuestion_48 (C : mf_G) (l : Launch) (d n : Nat) (K : mf_Kt) (x0 x1 s0 : Int) (g h : mf_M) : Prop := mf_AW C l YX7_readQuestion (mf_rm d n n) n (mf_Zm C YX7_readQuestion n n K) (fun _ _ => True) 48 [(0, (2, x0)), (1, (2, x1))] [(0, s0)] n g h
abbrev JX7_readQuestion_115 (C : mf_G) (l : Launch) (d n : Nat) (K : mf_Kt) (x0 x1 x2 : Int) (g h : mf_M) : Prop := mf_AW C l YX7_readQuestion (mf_rm d n n) n (mf_Zm C YX7_readQuestion n n K) (fun _ _ => True) 115 [(0, (2, x0)), (1, (2, x1)), (2, (0, x2))] [] n g h
set_option maxRecDepth 100000 in
set_option maxHeartbeats 4000000 in
theorem bX7_readQuestion_48 {C : mf_G} {l : Launch} {d n : Nat} {K : mf_Kt} {x0 x1 s0 : Int} {g h : mf_M} (hd : 64 ≤ d) (hyp : ((28 ≤ s0 → mf_is n x0 7 ∧ mf_is n (g x0 0) 9 ∧ mf_MT C l 2 YX9_step [(2, g x0 0)] n n g h (fun r2 g3 h4 => mf_is n x1 4 ∧ mf_MT C l 0 YX4_begin [(2, x1), (0, 0)] n n g3 h4 (fun r6 g7 h8 => ((s0 = 28 → mf_MT C l 63 YX7_readTest [(2, x0), (0, 0)] n n g7 h8 (fun r10 g11 h12 => JX7_readQuestion_115 C l d n K x0 x1 s0 g11 h12)) ∧ (¬ s0 = 28 → ((s0 = 29 → mf_MT C l 63 YX7_readTest [(2, x0), (0, 0)] n n g7 h8 (fun r13 g14 h15 => JX7_readQuestion_115 C l d n K x0 x1 s0 g14 h15)) ∧ (¬ s0 = 29 → ((¬ s0 = 30 → mf_MT C l 63 YX7_readSum [(2, x0), (0, 0)] n n g7 h8 (fun r16 g17 h18 => JX7_readQuestion_115 C l d n K x0 x1 s0 g17 h18)) ∧ (s0 = 30 → mf_MT C l 63 YX7_readTest [(2, x0), (0, 0)] n n g7 h8 (fun r19 g20 h21 => JX7_readQuestion_115 C l d n K x0 x1 s0 g20 h21)))))))))) ∧ (¬ 28 ≤ s0 → mf_is n x0 7 ∧ mf_is n (g x0 0) 9 ∧ mf_MT C l 0 YX9_fail [(2, g x0 0), (0, 1), (0, h (g x0 0) 3)] n n g h (fun r24 g25 h26 => K (-1) g25 h26)))) : JX7_readQuestion_48 C l d n K x0 x1 s0 g h := by
  refine mf_istore_n (mf_dat eX7_readQuestion_p0 22 rfl) rfl (by decide) ?_
  refine mf_iload_n (mf_dat eX7_readQuestion_p0 23 rfl) rfl rfl ?_
  refine mf_bipush (v := 28) (mf_dat eX7_readQuestion_p0 24 rfl) (by decide) ?_
  refine mf_icmp_ge (tgt := 72) (mf_dat eX7_readQuestion_p0 25 rfl) (by decide) (fun hc => ?_) (fun hc => ?_)
  · replace hyp := hyp.1 hc
    refine mf_aload_n (mf_dat eX7_readQuestion_p0 35 rfl) rfl rfl ?_
    obtain ⟨ck1, hyp⟩ := hyp
    refine mf_getf (r := (RX7, TX7, 4)) (ci := 7) (k := 0) (t := 2) (v := g x0 0) (mf_dat eX7_readQuestion_p0 36 rfl) fl_X7_13 rfl (by decide) rfl rfl ck1 ?_
    obtain ⟨ck5, hyp⟩ := hyp
    refine mf_callV (Yc := YX9_step) (r := (RX9, TX9, 9)) (ci := 9) (mf_dat eX7_readQuestion_p0 37 rfl) ml_X7_60 okX9_step im_X9_step sl_X9_step rfl rfl rfl rfl (Nat.le_of_ble_eq_true rfl) (mf_rr (Nat.le_trans (by decide) hd) (Nat.le_refl _)) (Nat.le_refl _) ck5 hyp (fun r2 g3 h4 hyp => ?_)
    refine mf_aload_n (mf_dat eX7_readQuestion_p0 38 rfl) rfl rfl ?_
    refine mf_iconst (v := 0) (mf_dat eX7_readQuestion_p0 39 rfl) (by decide) ?_
    obtain ⟨ck9, hyp⟩ := hyp
    refine mf_callV (Yc := YX4_begin) (r := (RX4, TX4, 5)) (ci := 4) (mf_dat eX7_readQuestion_p0 40 rfl) ml_X7_63 okX4_begin im_X4_begin sl_X4_begin rfl rfl rfl rfl (Nat.le_of_ble_eq_true rfl) (mf_rr (Nat.le_trans (by decide) hd) (Nat.le_refl _)) (Nat.le_refl _) ck9 hyp (fun r6 g7 h8 hyp => ?_)
    refine mf_iload_n (mf_dat eX7_readQuestion_p0 41 rfl) rfl rfl ?_
    refine mf_bipush (v := 28) (mf_dat eX7_readQuestion_p0 42 rfl) (by decide) ?_
    refine mf_icmp_eq (tgt := 102) (mf_dat eX7_readQuestion_p0 43 rfl) (by decide) (fun hc => ?_) (fun hc => ?_)
    · replace hyp := hyp.1 hc
      refine mf_aload_n (mf_dat eX7_readQuestion_p0 50 rfl) rfl rfl ?_
      refine mf_iconst (v := 0) (mf_dat eX7_readQuestion_p0 51 rfl) (by decide) ?_
      refine mf_callV (Yc := YX7_readTest) (r := (RX7, TX7, 4)) (ci := 7) (mf_dat eX7_readQuestion_p0 52 rfl) ml_X7_67 okX7_readTest im_X7_readTest sl_X7_readTest rfl rfl rfl rfl (Nat.le_of_ble_eq_true rfl) (mf_rr (Nat.le_trans (by decide) hd) (Nat.le_refl _)) (Nat.le_refl _) ck1 hyp (fun r10 g11 h12 hyp => ?_)
      refine mf_goto (tgt := 115) (mf_dat eX7_readQuestion_p0 53 rfl) (by decide) ?_
      exact mf_sub [1, 2, 0] rfl hyp
    · replace hyp := hyp.2 hc
      refine mf_iload_n (mf_dat eX7_readQuestion_p0 44 rfl) rfl rfl ?_
      refine mf_bipush (v := 29) (mf_dat eX7_readQuestion_p0 45 rfl) (by decide) ?_
      refine mf_icmp_eq (tgt := 102) (mf_dat eX7_readQuestion_p0 46 rfl) (by decide) (fun hc => ?_) (fun hc => ?_)
      · replace hyp := hyp.1 hc
        refine mf_aload_n (mf_dat eX7_readQuestion_p0 50 rfl) rfl rfl ?_
        refine mf_iconst (v := 0) (mf_dat eX7_readQuestion_p0 51 rfl) (by decide) ?_
        refine mf_callV (Yc := YX7_readTest) (r := (RX7, TX7, 4)) (ci := 7) (mf_dat eX7_readQuestion_p0 52 rfl) ml_X7_67 okX7_readTest im_X7_readTest sl_X7_readTest rfl rfl rfl rfl (Nat.le_of_ble_eq_true rfl) (mf_rr (Nat.le_trans (by decide) hd) (Nat.le_refl _)) (Nat.le_refl _) ck1 hyp (fun r13 g14 h15 hyp => ?_)
        refine mf_goto (tgt := 115) (mf_dat eX7_readQuestion_p0 53 rfl) (by decide) ?_
        exact mf_sub [1, 2, 0] rfl hyp
      · replace hyp := hyp.2 hc
        refine mf_iload_n (mf_dat eX7_readQuestion_p0 47 rfl) rfl rfl ?_
        refine mf_bipush (v := 30) (mf_dat eX7_readQuestion_p0 48 rfl) (by decide) ?_
        refine mf_icmp_ne (tgt := 110) (mf_dat eX7_readQuestion_p0 49 rfl) (by decide) (fun hc => ?_) (fun hc => ?_)
        · replace hyp := hyp.1 hc
          refine mf_aload_n (mf_dat eX7_readQuestion_p0 54 rfl) rfl rfl ?_
          refine mf_iconst (v := 0) (mf_dat eX7_readQuestion_p0 55 rfl) (by decide) ?_
          refine mf_callV (Yc := YX7_readSum) (r := (RX7, TX7, 4)) (ci := 7) (mf_dat eX7_readQuestion_p0 56 rfl) ml_X7_70 okX7_readSum im_X7_readSum sl_X7_readSum rfl rfl rfl rfl (Nat.le_of_ble_eq_true rfl) (mf_rr (Nat.le_trans (by decide) hd) (Nat.le_refl _)) (Nat.le_refl _) ck1 hyp (fun r16 g17 h18 hyp => ?_)
          exact mf_sub [1, 2, 0] rfl hyp
        · replace hyp := hyp.2 hc
          refine mf_aload_n (mf_dat eX7_readQuestion_p0 50 rfl) rfl rfl ?_
          refine mf_iconst (v := 0) (mf_dat eX7_readQuestion_p0 51 rfl) (by decide) ?_
          refine mf_callV (Yc := YX7_readTest) (r := (RX7, TX7, 4)) (ci := 7) (mf_dat eX7_readQuestion_p0 52 rfl) ml_X7_67 okX7_readTest im_X7_readTest sl_X7_readTest rfl rfl rfl rfl (Nat.le_of_ble_eq_true rfl) (mf_rr (Nat.le_trans (by decide) hd) (Nat.le_refl _)) (Nat.le_refl _) ck1 hyp (fun r19 g20 h21 hyp => ?_)
          refine mf_goto (tgt := 115) (mf_dat eX7_readQuestion_p0 53 rfl) (by decide) ?_
          exact mf_sub [1, 2, 0] rfl hyp
  · replace hyp := hyp.2 hc
    refine mf_aload_n (mf_dat eX7_readQuestion_p0 26 rfl) rfl rfl ?_
    obtain ⟨ck22, hyp⟩ := hyp
    refine mf_getf (r := (RX7, TX7, 4)) (ci := 7) (k := 0) (t := 2) (v := g x0 0) (mf_dat eX7_readQuestion_p0 27 rfl) fl_X7_13 rfl (by decide) rfl rfl ck22 ?_
    refine mf_iconst (v := 1) (mf_dat eX7_readQuestion_p0 28 rfl) (by decide) ?_
    refine mf_aload_n (mf_dat eX7_readQuestion_p0 29 rfl) rfl rfl ?_
    refine mf_getf (r := (RX7, TX7, 4)) (ci := 7) (k := 0) (t := 2) (v := g x0 0) (mf_dat eX7_readQuestion_p0 30 rfl) fl_X7_13 rfl (by decide) rfl rfl ck22 ?_
    obtain ⟨ck23, hyp⟩ := hyp
    refine mf_getf (r := (RX9, TX9, 9)) (ci := 9) (k := 3) (t := 0) (v := h (g x0 0) 3) (mf_dat eX7_readQuestion_p0 31 rfl) fl_X7_53 rfl (by decide) rfl rfl ck23 ?_
    refine mf_callV (Yc := YX9_fail) (r := (RX9, TX9, 9)) (ci := 9) (mf_dat eX7_readQuestion_p0 32 rfl) ml_X7_56 okX9_fail im_X9_fail sl_X9_fail rfl rfl rfl rfl (Nat.le_of_ble_eq_true rfl) (mf_rr (Nat.le_trans (by decide) hd) (Nat.le_refl _)) (Nat.le_refl _) ck23 hyp (fun r24 g25 h26 hyp => ?_)
    refine mf_iconst (v := (-1)) (mf_dat eX7_readQuestion_p0 33 rfl) (by decide) ?_
    exact mf_ireturn (mf_dat eX7_readQuestion_p0 34 rfl) rfl (Or.inl rfl) hyp
set_option maxRecDepth 100000 in
set_option maxHeartbeats 4000000 in
theorem bX7_readQuestion_115 {C : mf_G} {l : Launch} {d n : Nat} {K : mf_Kt} {x0 x1 x2 : Int} {g h : mf_M} (hd : 1 ≤ d) (hyp : mf_is n x1 4 ∧ mf_MT C l 0 YX4_finish [(2, x1)] n n g h (fun r1 g2 h3 => mf_is n x0 7 ∧ mf_is n (g2 x0 0) 9 ∧ ((h3 (g2 x0 0) 2 = 0 → K x2 g2 h3) ∧ (¬ h3 (g2 x0 0) 2 = 0 → mf_MT C l 0 YX9_fail [(2, g2 x0 0), (0, 1), (0, h3 (g2 x0 0) 3)] n n g2 h3 (fun r7 g8 h9 => K x2 g8 h9))))) : JX7_readQuestion_115 C l d n K x0 x1 x2 g h := by
  refine mf_aload_n (mf_dat eX7_readQuestion_p0 57 rfl) rfl rfl ?_
  obtain ⟨ck4, hyp⟩ := hyp
  refine mf_callV (Yc := YX4_finish) (r := (RX4, TX4, 5)) (ci := 4) (mf_dat eX7_readQuestion_p0 58 rfl) ml_X7_73 okX4_finish im_X4_finish sl_X4_finish rfl rfl rfl rfl (Nat.le_of_ble_eq_true rfl) (mf_rr (Nat.le_trans (by decide) hd) (Nat.le_refl _)) (Nat.le_refl _) ck4 hyp (fun r1 g2 h3 hyp => ?_)
  refine mf_aload_n (mf_dat eX7_readQuestion_p0 59 rfl) rfl rfl ?_
  obtain ⟨ck5, hyp⟩ := hyp
  refine mf_getf (r := (RX7, TX7, 4)) (ci := 7) (k := 0) (t := 2) (v := g2 x0 0) (mf_dat eX7_readQuestion_p1 0 rfl) fl_X7_13 rfl (by decide) rfl rfl ck5 ?_
  obtain ⟨ck6, hyp⟩ := hyp
  refine mf_getf (r := (RX9, TX9, 9)) (ci := 9) (k := 2) (t := 0) (v := h3 (g2 x0 0) 2) (mf_dat eX7_readQuestion_p1 1 rfl) fl_X7_43 rfl (by decide) rfl rfl ck6 ?_
  refine mf_if_eq (tgt := 144) (mf_dat eX7_readQuestion_p1 2 rfl) (by decide) (fun hc => ?_) (fun hc => ?_)
  · replace hyp := hyp.1 hc
    refine mf_iload_n (mf_dat eX7_readQuestion_p1 10 rfl) rfl rfl ?_
    exact mf_ireturn (mf_dat eX7_readQuestion_p1 11 rfl) rfl (Or.inl rfl) hyp
  · replace hyp := hyp.2 hc
    refine mf_aload_n (mf_dat eX7_readQuestion_p1 3 rfl) rfl rfl ?_
    refine mf_getf (r := (RX7, TX7, 4)) (ci := 7) (k := 0) (t := 2) (v := g2 x0 0) (mf_dat eX7_readQuestion_p1 4 rfl) fl_X7_13 rfl (by decide) rfl rfl ck5 ?_
    refine mf_iconst (v := 1) (mf_dat eX7_readQuestion_p1 5 rfl) (by decide) ?_
    refine mf_aload_n (mf_dat eX7_readQuestion_p1 6 rfl) rfl rfl ?_
    refine mf_getf (r := (RX7, TX7, 4)) (ci := 7) (k := 0) (t := 2) (v := g2 x0 0) (mf_dat eX7_readQuestion_p1 7 rfl) fl_X7_13 rfl (by decide) rfl rfl ck5 ?_
    refine mf_getf (r := (RX9, TX9, 9)) (ci := 9) (k := 3) (t := 0) (v := h3 (g2 x0 0) 3) (mf_dat eX7_readQuestion_p1 8 rfl) fl_X7_53 rfl (by decide) rfl rfl ck6 ?_
    refine mf_callV (Yc := YX9_fail) (r := (RX9, TX9, 9)) (ci := 9) (mf_dat eX7_readQuestion_p1 9 rfl) ml_X7_56 okX9_fail im_X9_fail sl_X9_fail rfl rfl rfl rfl (Nat.le_of_ble_eq_true rfl) (mf_rr (Nat.le_trans (by decide) hd) (Nat.le_refl _)) (Nat.le_refl _) ck6 hyp (fun r7 g8 h9 hyp => ?_)
    refine mf_iload_n (mf_dat eX7_readQuestion_p1 10 rfl) rfl rfl ?_
    exact mf_ireturn (mf_dat eX7_readQuestion_p1 11 rfl) rfl (Or.inl rfl) hyp
set_option maxRecDepth 100000 in
set_option maxHeartbeats 4000000 in
theorem mX7_readQuestion {C : mf_G} {l : Launch} {d n : Nat} {K : mf_Kt} {x0 x1 : Int} {g h : mf_M} (hd : 4 ≤ d) (hyp : mf_is n x1 4 ∧ mf_MT C l 0 YX4_forget [(2, x1)] n n g h (fun r1 g2 h3 => mf_is n x0 7 ∧ mf_MT C l 0 YX7_writeTo [(2, x0), (2, x1), (0, 959)] n n g2 h3 (fun r5 g6 h7 => mf_is n (g6 x0 0) 9 ∧ mf_MT C l 3 YX9_start [(2, g6 x0 0)] n n g6 h7 (fun r9 g10 h11 => mf_is n (g10 x0 0) 9 ∧ ((¬ h11 (g10 x0 0) 2 = 1 → JX7_readQuestion_48 C l d n K x0 x1 (-1) g10 h11) ∧ (h11 (g10 x0 0) 2 = 1 → mf_is n (g10 x0 1) 10 ∧ mf_MT C l 0 YX10_find [(2, g10 x0 1), (0, h11 (g10 x0 0) 5)] n n g10 h11 (fun r14 g15 h16 => JX7_readQuestion_48 C l d n K x0 x1 r14 g15 h16))))))) : mf_MT C l d YX7_readQuestion [(2, x0), (2, x1)] n n g h K := by
  refine mf_entry (by decide) (Nat.le_of_ble_eq_true rfl) ?_
  refine mf_aload_n (mf_dat eX7_readQuestion_p0 0 rfl) rfl rfl ?_
  obtain ⟨ck4, hyp⟩ := hyp
  refine mf_callV (Yc := YX4_forget) (r := (RX4, TX4, 5)) (ci := 4) (mf_dat eX7_readQuestion_p0 1 rfl) ml_X7_29 okX4_forget im_X4_forget sl_X4_forget rfl rfl rfl rfl (Nat.le_of_ble_eq_true rfl) (mf_rr (Nat.le_trans (by decide) hd) (Nat.le_refl _)) (Nat.le_refl _) ck4 hyp (fun r1 g2 h3 hyp => ?_)
  refine mf_aload_n (mf_dat eX7_readQuestion_p0 2 rfl) rfl rfl ?_
  refine mf_aload_n (mf_dat eX7_readQuestion_p0 3 rfl) rfl rfl ?_
  refine mf_sipush (v := 959) (mf_dat eX7_readQuestion_p0 4 rfl) (by decide) ?_
  obtain ⟨ck8, hyp⟩ := hyp
  refine mf_callV (Yc := YX7_writeTo) (r := (RX7, TX7, 4)) (ci := 7) (mf_dat eX7_readQuestion_p0 5 rfl) ml_X7_34 okX7_writeTo im_X7_writeTo sl_X7_writeTo rfl rfl rfl rfl (Nat.le_of_ble_eq_true rfl) (mf_rr (Nat.le_trans (by decide) hd) (Nat.le_refl _)) (Nat.le_refl _) ck8 hyp (fun r5 g6 h7 hyp => ?_)
  refine mf_aload_n (mf_dat eX7_readQuestion_p0 6 rfl) rfl rfl ?_
  refine mf_getf (r := (RX7, TX7, 4)) (ci := 7) (k := 0) (t := 2) (v := g6 x0 0) (mf_dat eX7_readQuestion_p0 7 rfl) fl_X7_13 rfl (by decide) rfl rfl ck8 ?_
  obtain ⟨ck12, hyp⟩ := hyp
  refine mf_callV (Yc := YX9_start) (r := (RX9, TX9, 9)) (ci := 9) (mf_dat eX7_readQuestion_p0 8 rfl) ml_X7_38 okX9_start im_X9_start sl_X9_start rfl rfl rfl rfl (Nat.le_of_ble_eq_true rfl) (mf_rr (Nat.le_trans (by decide) hd) (Nat.le_refl _)) (Nat.le_refl _) ck12 hyp (fun r9 g10 h11 hyp => ?_)
  refine mf_aload_n (mf_dat eX7_readQuestion_p0 9 rfl) rfl rfl ?_
  refine mf_getf (r := (RX7, TX7, 4)) (ci := 7) (k := 0) (t := 2) (v := g10 x0 0) (mf_dat eX7_readQuestion_p0 10 rfl) fl_X7_13 rfl (by decide) rfl rfl ck8 ?_
  obtain ⟨ck13, hyp⟩ := hyp
  refine mf_getf (r := (RX9, TX9, 9)) (ci := 9) (k := 2) (t := 0) (v := h11 (g10 x0 0) 2) (mf_dat eX7_readQuestion_p0 11 rfl) fl_X7_43 rfl (by decide) rfl rfl ck13 ?_
  refine mf_iconst (v := 1) (mf_dat eX7_readQuestion_p0 12 rfl) (by decide) ?_
  refine mf_icmp_ne (tgt := 47) (mf_dat eX7_readQuestion_p0 13 rfl) (by decide) (fun hc => ?_) (fun hc => ?_)
  · replace hyp := hyp.1 hc
    refine mf_iconst (v := (-1)) (mf_dat eX7_readQuestion_p0 21 rfl) (by decide) ?_
    exact mf_sub [0, 1] rfl hyp
  · replace hyp := hyp.2 hc
    refine mf_aload_n (mf_dat eX7_readQuestion_p0 14 rfl) rfl rfl ?_
    refine mf_getf (r := (RX7, TX7, 4)) (ci := 7) (k := 1) (t := 2) (v := g10 x0 1) (mf_dat eX7_readQuestion_p0 15 rfl) fl_X7_17 rfl (by decide) rfl rfl ck8 ?_
    refine mf_aload_n (mf_dat eX7_readQuestion_p0 16 rfl) rfl rfl ?_
    refine mf_getf (r := (RX7, TX7, 4)) (ci := 7) (k := 0) (t := 2) (v := g10 x0 0) (mf_dat eX7_readQuestion_p0 17 rfl) fl_X7_13 rfl (by decide) rfl rfl ck8 ?_
    refine mf_getf (r := (RX9, TX9, 9)) (ci := 9) (k := 5) (t := 0) (v := h11 (g10 x0 0) 5) (mf_dat eX7_readQuestion_p0 18 rfl) fl_X7_46 rfl (by decide) rfl rfl ck13 ?_
    obtain ⟨ck17, hyp⟩ := hyp
    refine mf_callV (Yc := YX10_find) (r := (RX10, TX10, 1)) (ci := 10) (mf_dat eX7_readQuestion_p0 19 rfl) ml_X7_49 okX10_find im_X10_find sl_X10_find rfl rfl rfl rfl (Nat.le_of_ble_eq_true rfl) (mf_rr (Nat.le_trans (by decide) hd) (Nat.le_refl _)) (Nat.le_refl _) ck17 hyp (fun r14 g15 h16 hyp => ?_)
    refine mf_goto (tgt := 48) (mf_dat eX7_readQuestion_p0 20 rfl) (by decide) ?_
    exact mf_sub [0, 1] rfl hyp
abbrev JX7_readTest_7 (C : mf_G) (l : Launch) (d n : Nat) (K : mf_Kt) (x0 x1 x2 x3 x4 : Int) (g h : mf_M) : Prop := mf_AW C l YX7_readTest (mf_rm d n n) n (mf_Zm C YX7_readTest n n K) (fun _ _ => True) 7 [(0, (2, x0)), (1, (0, x1)), (2, (0, x2)), (3, (0, x3)), (4, (0, x4))] [] n g h
abbrev JX7_readTest_44 (C : mf_G) (l : Launch) (d n : Nat) (K : mf_Kt) (x0 x1 x3 x4 : Int) (g h : mf_M) : Prop := mf_AW C l YX7_readTest (mf_rm d n n) n (mf_Zm C YX7_readTest n n K) (fun _ _ => True) 44 [(0, (2, x0)), (1, (0, x1)), (3, (0, x3)), (4, (0, x4))] [] n g h
set_option maxRecDepth 100000 in
set_option maxHeartbeats 4000000 in
theorem bX7_readTest_7 {C : mf_G} {l : Launch} {e n : Nat} {K : mf_Kt} {x0 x1 x2 x3 x4 : Int} {g h : mf_M} (hd : 1 ≤ e + 1) (hyp : ((1600 < x4 → K 0 g h) ∧ (¬ 1600 < x4 → mf_is n x0 7 ∧ mf_MT C l e YX7_readFact [(2, x0), (0, x1)] n n g h (fun r1 g2 h3 => mf_is n (g2 x0 0) 9 ∧ ((h3 (g2 x0 0) 7 = 0 → ((x2 = 0 → JX7_readTest_44 C l (e + 1) n K x0 x1 x3 x4 g2 h3) ∧ (¬ x2 = 0 → mf_is n (g2 x0 2) 4 ∧ mf_MT C l 0 YX4_add [(2, g2 x0 2), (0, 10)] n n g2 h3 (fun r6 g7 h8 => JX7_readTest_44 C l (e + 1) n K x0 x1 x3 x4 g7 h8)))) ∧ (¬ h3 (g2 x0 0) 7 = 0 → K 0 g2 h3)))))) : JX7_readTest_7 C l (e + 1) n K x0 x1 x2 x3 x4 g h := by
  refine mf_iload (mf_dat eX7_readTest 6 rfl) rfl ?_
  refine mf_sipush (v := 1600) (mf_dat eX7_readTest 7 rfl) (by decide) ?_
  refine mf_icmp_gt (tgt := 99) (mf_dat eX7_readTest 8 rfl) (by decide) (fun hc => ?_) (fun hc => ?_)
  · replace hyp := hyp.1 hc
    exact mf_return (mf_dat eX7_readTest 49 rfl) rfl hyp
  · replace hyp := hyp.2 hc
    refine mf_aload_n (mf_dat eX7_readTest 9 rfl) rfl rfl ?_
    refine mf_iload_n (mf_dat eX7_readTest 10 rfl) rfl rfl ?_
    obtain ⟨ck4, hyp⟩ := hyp
    refine mf_callV (Yc := YX7_readFact) (r := (RX7, TX7, 4)) (ci := 7) (mf_dat eX7_readTest 11 rfl) ml_X7_76 okX7_readFact im_X7_readFact sl_X7_readFact rfl rfl rfl rfl (Nat.le_of_ble_eq_true rfl) (mf_rr (Nat.le_refl _) (Nat.le_refl _)) (Nat.le_refl _) ck4 hyp (fun r1 g2 h3 hyp => ?_)
    refine mf_aload_n (mf_dat eX7_readTest 12 rfl) rfl rfl ?_
    refine mf_getf (r := (RX7, TX7, 4)) (ci := 7) (k := 0) (t := 2) (v := g2 x0 0) (mf_dat eX7_readTest 13 rfl) fl_X7_13 rfl (by decide) rfl rfl ck4 ?_
    obtain ⟨ck5, hyp⟩ := hyp
    refine mf_getf (r := (RX9, TX9, 9)) (ci := 9) (k := 7) (t := 0) (v := h3 (g2 x0 0) 7) (mf_dat eX7_readTest 14 rfl) fl_X7_79 rfl (by decide) rfl rfl ck5 ?_
    refine mf_if_eq (tgt := 31) (mf_dat eX7_readTest 15 rfl) (by decide) (fun hc => ?_) (fun hc => ?_)
    · replace hyp := hyp.1 hc
      refine mf_iload_n (mf_dat eX7_readTest 17 rfl) rfl rfl ?_
      refine mf_if_eq (tgt := 44) (mf_dat eX7_readTest 18 rfl) (by decide) (fun hc => ?_) (fun hc => ?_)
      · replace hyp := hyp.1 hc
        exact mf_sub [0, 1, 3, 4] rfl hyp
      · replace hyp := hyp.2 hc
        refine mf_aload_n (mf_dat eX7_readTest 19 rfl) rfl rfl ?_
        refine mf_getf (r := (RX7, TX7, 4)) (ci := 7) (k := 2) (t := 2) (v := g2 x0 2) (mf_dat eX7_readTest 20 rfl) fl_X7_21 rfl (by decide) rfl rfl ck4 ?_
        refine mf_bipush (v := 10) (mf_dat eX7_readTest 21 rfl) (by decide) ?_
        obtain ⟨ck9, hyp⟩ := hyp
        refine mf_callV (Yc := YX4_add) (r := (RX4, TX4, 5)) (ci := 4) (mf_dat eX7_readTest 22 rfl) ml_X7_82 okX4_add im_X4_add sl_X4_add rfl rfl rfl rfl (Nat.le_of_ble_eq_true rfl) (mf_rr (Nat.le_trans (by decide) hd) (Nat.le_refl _)) (Nat.le_refl _) ck9 hyp (fun r6 g7 h8 hyp => ?_)
        exact mf_sub [0, 1, 3, 4] rfl hyp
    · replace hyp := hyp.2 hc
      exact mf_return (mf_dat eX7_readTest 16 rfl) rfl hyp
set_option maxRecDepth 100000 in
set_option maxHeartbeats 4000000 in
theorem bX7_readTest_44 {C : mf_G} {l : Launch} {e n : Nat} {K : mf_Kt} {x0 x1 x3 x4 : Int} {g h : mf_M} (hd : 3 ≤ e + 1) (hyp : mf_is n x0 7 ∧ mf_is n (g x0 0) 9 ∧ mf_MT C l 1 YX9_isWord [(2, g x0 0), (0, 13)] n n g h (fun r2 g3 h4 => ((¬ r2 = 0 → mf_is n (g3 x0 0) 9 ∧ mf_MT C l 2 YX9_step [(2, g3 x0 0)] n n g3 h4 (fun r6 g7 h8 => (∀ v10 : Int, v10 = mf_w32 (x4 + 1) → JX7_readTest_7 C l (e + 1) n K x0 x1 r2 x3 v10 g7 h8))) ∧ (r2 = 0 → ((x3 = 0 → mf_is n (g3 x0 0) 9 ∧ mf_MT C l 1 YX9_isWord [(2, g3 x0 0), (0, 12)] n n g3 h4 (fun r11 g12 h13 => ((¬ r11 = 0 → mf_is n (g12 x0 0) 9 ∧ mf_MT C l 2 YX9_step [(2, g12 x0 0)] n n g12 h13 (fun r15 g16 h17 => (∀ v19 : Int, v19 = mf_w32 (x4 + 1) → JX7_readTest_7 C l (e + 1) n K x0 x1 r2 r11 v19 g16 h17))) ∧ (r11 = 0 → K 0 g12 h13)))) ∧ (¬ x3 = 0 → mf_is n (g3 x0 2) 4 ∧ mf_MT C l 0 YX4_add [(2, g3 x0 2), (0, 11)] n n g3 h4 (fun r20 g21 h22 => mf_is n (g21 x0 0) 9 ∧ mf_MT C l 1 YX9_isWord [(2, g21 x0 0), (0, 12)] n n g21 h22 (fun r24 g25 h26 => ((¬ r24 = 0 → mf_is n (g25 x0 0) 9 ∧ mf_MT C l 2 YX9_step [(2, g25 x0 0)] n n g25 h26 (fun r28 g29 h30 => (∀ v32 : Int, v32 = mf_w32 (x4 + 1) → JX7_readTest_7 C l (e + 1) n K x0 x1 r2 r24 v32 g29 h30))) ∧ (r24 = 0 → K 0 g25 h26)))))))))) : JX7_readTest_44 C l (e + 1) n K x0 x1 x3 x4 g h := by
  refine mf_aload_n (mf_dat eX7_readTest 23 rfl) rfl rfl ?_
  obtain ⟨ck1, hyp⟩ := hyp
  refine mf_getf (r := (RX7, TX7, 4)) (ci := 7) (k := 0) (t := 2) (v := g x0 0) (mf_dat eX7_readTest 24 rfl) fl_X7_13 rfl (by decide) rfl rfl ck1 ?_
  refine mf_bipush (v := 13) (mf_dat eX7_readTest 25 rfl) (by decide) ?_
  obtain ⟨ck5, hyp⟩ := hyp
  refine mf_callV (Yc := YX9_isWord) (r := (RX9, TX9, 9)) (ci := 9) (mf_dat eX7_readTest 26 rfl) ml_X7_85 okX9_isWord im_X9_isWord sl_X9_isWord rfl rfl rfl rfl (Nat.le_of_ble_eq_true rfl) (mf_rr (Nat.le_trans (by decide) hd) (Nat.le_refl _)) (Nat.le_refl _) ck5 hyp (fun r2 g3 h4 hyp => ?_)
  refine mf_istore_n (mf_dat eX7_readTest 27 rfl) rfl (by decide) ?_
  refine mf_iload_n (mf_dat eX7_readTest 28 rfl) rfl rfl ?_
  refine mf_if_ne (tgt := 86) (mf_dat eX7_readTest 29 rfl) (by decide) (fun hc => ?_) (fun hc => ?_)
  · replace hyp := hyp.1 hc
    refine mf_aload_n (mf_dat eX7_readTest 44 rfl) rfl rfl ?_
    refine mf_getf (r := (RX7, TX7, 4)) (ci := 7) (k := 0) (t := 2) (v := g3 x0 0) (mf_dat eX7_readTest 45 rfl) fl_X7_13 rfl (by decide) rfl rfl ck1 ?_
    obtain ⟨ck9, hyp⟩ := hyp
    refine mf_callV (Yc := YX9_step) (r := (RX9, TX9, 9)) (ci := 9) (mf_dat eX7_readTest 46 rfl) ml_X7_60 okX9_step im_X9_step sl_X9_step rfl rfl rfl rfl (Nat.le_of_ble_eq_true rfl) (mf_rr (Nat.le_trans (by decide) hd) (Nat.le_refl _)) (Nat.le_refl _) ck9 hyp (fun r6 g7 h8 hyp => ?_)
    refine mf_iinc (mf_dat eX7_readTest 47 rfl) rfl (by decide) (by decide) ?_
    generalize qv10 : mf_w32 (x4 + 1) = v10
    replace hyp := hyp _ qv10.symm
    refine mf_goto (tgt := 7) (mf_dat eX7_readTest 48 rfl) (by decide) ?_
    exact mf_sub [2, 3, 1, 4, 0] rfl hyp
  · replace hyp := hyp.2 hc
    refine mf_iload_n (mf_dat eX7_readTest 30 rfl) rfl rfl ?_
    refine mf_if_eq (tgt := 71) (mf_dat eX7_readTest 31 rfl) (by decide) (fun hc => ?_) (fun hc => ?_)
    · replace hyp := hyp.1 hc
      refine mf_aload_n (mf_dat eX7_readTest 36 rfl) rfl rfl ?_
      refine mf_getf (r := (RX7, TX7, 4)) (ci := 7) (k := 0) (t := 2) (v := g3 x0 0) (mf_dat eX7_readTest 37 rfl) fl_X7_13 rfl (by decide) rfl rfl ck1 ?_
      refine mf_bipush (v := 12) (mf_dat eX7_readTest 38 rfl) (by decide) ?_
      obtain ⟨ck14, hyp⟩ := hyp
      refine mf_callV (Yc := YX9_isWord) (r := (RX9, TX9, 9)) (ci := 9) (mf_dat eX7_readTest 39 rfl) ml_X7_85 okX9_isWord im_X9_isWord sl_X9_isWord rfl rfl rfl rfl (Nat.le_of_ble_eq_true rfl) (mf_rr (Nat.le_trans (by decide) hd) (Nat.le_refl _)) (Nat.le_refl _) ck14 hyp (fun r11 g12 h13 hyp => ?_)
      refine mf_istore_n (mf_dat eX7_readTest 40 rfl) rfl (by decide) ?_
      refine mf_iload_n (mf_dat eX7_readTest 41 rfl) rfl rfl ?_
      refine mf_if_ne (tgt := 86) (mf_dat eX7_readTest 42 rfl) (by decide) (fun hc => ?_) (fun hc => ?_)
      · replace hyp := hyp.1 hc
        refine mf_aload_n (mf_dat eX7_readTest 44 rfl) rfl rfl ?_
        refine mf_getf (r := (RX7, TX7, 4)) (ci := 7) (k := 0) (t := 2) (v := g12 x0 0) (mf_dat eX7_readTest 45 rfl) fl_X7_13 rfl (by decide) rfl rfl ck1 ?_
        obtain ⟨ck18, hyp⟩ := hyp
        refine mf_callV (Yc := YX9_step) (r := (RX9, TX9, 9)) (ci := 9) (mf_dat eX7_readTest 46 rfl) ml_X7_60 okX9_step im_X9_step sl_X9_step rfl rfl rfl rfl (Nat.le_of_ble_eq_true rfl) (mf_rr (Nat.le_trans (by decide) hd) (Nat.le_refl _)) (Nat.le_refl _) ck18 hyp (fun r15 g16 h17 hyp => ?_)
        refine mf_iinc (mf_dat eX7_readTest 47 rfl) rfl (by decide) (by decide) ?_
        generalize qv19 : mf_w32 (x4 + 1) = v19
        replace hyp := hyp _ qv19.symm
        refine mf_goto (tgt := 7) (mf_dat eX7_readTest 48 rfl) (by decide) ?_
        exact mf_sub [3, 4, 2, 1, 0] rfl hyp
      · replace hyp := hyp.2 hc
        exact mf_return (mf_dat eX7_readTest 43 rfl) rfl hyp
    · replace hyp := hyp.2 hc
      refine mf_aload_n (mf_dat eX7_readTest 32 rfl) rfl rfl ?_
      refine mf_getf (r := (RX7, TX7, 4)) (ci := 7) (k := 2) (t := 2) (v := g3 x0 2) (mf_dat eX7_readTest 33 rfl) fl_X7_21 rfl (by decide) rfl rfl ck1 ?_
      refine mf_bipush (v := 11) (mf_dat eX7_readTest 34 rfl) (by decide) ?_
      obtain ⟨ck23, hyp⟩ := hyp
      refine mf_callV (Yc := YX4_add) (r := (RX4, TX4, 5)) (ci := 4) (mf_dat eX7_readTest 35 rfl) ml_X7_82 okX4_add im_X4_add sl_X4_add rfl rfl rfl rfl (Nat.le_of_ble_eq_true rfl) (mf_rr (Nat.le_trans (by decide) hd) (Nat.le_refl _)) (Nat.le_refl _) ck23 hyp (fun r20 g21 h22 hyp => ?_)
      refine mf_aload_n (mf_dat eX7_readTest 36 rfl) rfl rfl ?_
      refine mf_getf (r := (RX7, TX7, 4)) (ci := 7) (k := 0) (t := 2) (v := g21 x0 0) (mf_dat eX7_readTest 37 rfl) fl_X7_13 rfl (by decide) rfl rfl ck1 ?_
      refine mf_bipush (v := 12) (mf_dat eX7_readTest 38 rfl) (by decide) ?_
      obtain ⟨ck27, hyp⟩ := hyp
      refine mf_callV (Yc := YX9_isWord) (r := (RX9, TX9, 9)) (ci := 9) (mf_dat eX7_readTest 39 rfl) ml_X7_85 okX9_isWord im_X9_isWord sl_X9_isWord rfl rfl rfl rfl (Nat.le_of_ble_eq_true rfl) (mf_rr (Nat.le_trans (by decide) hd) (Nat.le_refl _)) (Nat.le_refl _) ck27 hyp (fun r24 g25 h26 hyp => ?_)
      refine mf_istore_n (mf_dat eX7_readTest 40 rfl) rfl (by decide) ?_
      refine mf_iload_n (mf_dat eX7_readTest 41 rfl) rfl rfl ?_
      refine mf_if_ne (tgt := 86) (mf_dat eX7_readTest 42 rfl) (by decide) (fun hc => ?_) (fun hc => ?_)
      · replace hyp := hyp.1 hc
        refine mf_aload_n (mf_dat eX7_readTest 44 rfl) rfl rfl ?_
        refine mf_getf (r := (RX7, TX7, 4)) (ci := 7) (k := 0) (t := 2) (v := g25 x0 0) (mf_dat eX7_readTest 45 rfl) fl_X7_13 rfl (by decide) rfl rfl ck1 ?_
        obtain ⟨ck31, hyp⟩ := hyp
        refine mf_callV (Yc := YX9_step) (r := (RX9, TX9, 9)) (ci := 9) (mf_dat eX7_readTest 46 rfl) ml_X7_60 okX9_step im_X9_step sl_X9_step rfl rfl rfl rfl (Nat.le_of_ble_eq_true rfl) (mf_rr (Nat.le_trans (by decide) hd) (Nat.le_refl _)) (Nat.le_refl _) ck31 hyp (fun r28 g29 h30 hyp => ?_)
        refine mf_iinc (mf_dat eX7_readTest 47 rfl) rfl (by decide) (by decide) ?_
        generalize qv32 : mf_w32 (x4 + 1) = v32
        replace hyp := hyp _ qv32.symm
        refine mf_goto (tgt := 7) (mf_dat eX7_readTest 48 rfl) (by decide) ?_
        exact mf_sub [3, 4, 2, 1, 0] rfl hyp
      · replace hyp := hyp.2 hc
        exact mf_return (mf_dat eX7_readTest 43 rfl) rfl hyp
set_option maxRecDepth 100000 in
set_option maxHeartbeats 4000000 in
theorem mX7_readTest {C : mf_G} {l : Launch} {e n : Nat} {K : mf_Kt} {x0 x1 : Int} {g h : mf_M} (hd : 1 ≤ e + 1) (hyp : JX7_readTest_7 C l (e + 1) n K x0 x1 0 0 0 g h) : mf_MT C l (e + 1) YX7_readTest [(2, x0), (0, x1)] n n g h K := by
  refine mf_entry (by decide) (Nat.le_of_ble_eq_true rfl) ?_
  refine mf_iconst (v := 0) (mf_dat eX7_readTest 0 rfl) (by decide) ?_
  refine mf_istore_n (mf_dat eX7_readTest 1 rfl) rfl (by decide) ?_
  refine mf_iconst (v := 0) (mf_dat eX7_readTest 2 rfl) (by decide) ?_
  refine mf_istore_n (mf_dat eX7_readTest 3 rfl) rfl (by decide) ?_
  refine mf_iconst (v := 0) (mf_dat eX7_readTest 4 rfl) (by decide) ?_
  refine mf_istore (mf_dat eX7_readTest 5 rfl) (by decide) ?_
  exact mf_sub [3, 4, 2, 1, 0] rfl hyp
abbrev JX7_readFact_159 (C : mf_G) (l : Launch) (d n : Nat) (K : mf_Kt) (x0 x1 x2 : Int) (g h : mf_M) : Prop := mf_AW C l YX7_readFact (mf_rm d n n) n (mf_Zm C YX7_readFact n n K) (fun _ _ => True) 159 [(0, (2, x0)), (1, (0, x1)), (2, (0, x2))] [] n g h
set_option maxRecDepth 100000 in
set_option maxHeartbeats 4000000 in
theorem bX7_readFact_159 {C : mf_G} {l : Launch} {e n : Nat} {K : mf_Kt} {x0 x1 x2 : Int} {g h : mf_M} (hd : 64 ≤ e + 1) (hyp : mf_is n x0 7 ∧ mf_is n (g x0 0) 9 ∧ ((¬ h (g x0 0) 7 = 0 → K 0 g h) ∧ (h (g x0 0) 7 = 0 → mf_MT C l 2 YX9_step [(2, g x0 0)] n n g h (fun r3 g4 h5 => mf_MT C l 63 YX7_readSum [(2, x0), (0, x1)] n n g4 h5 (fun r6 g7 h8 => mf_is n (g7 x0 2) 4 ∧ mf_MT C l 0 YX4_add [(2, g7 x0 2), (0, x2)] n n g7 h8 (fun r9 g10 h11 => K 0 g10 h11)))))) : JX7_readFact_159 C l (e + 1) n K x0 x1 x2 g h := by
  refine mf_aload_n (mf_dat eX7_readFact_p1 15 rfl) rfl rfl ?_
  obtain ⟨ck1, hyp⟩ := hyp
  refine mf_getf (r := (RX7, TX7, 4)) (ci := 7) (k := 0) (t := 2) (v := g x0 0) (mf_dat eX7_readFact_p1 16 rfl) fl_X7_13 rfl (by decide) rfl rfl ck1 ?_
  obtain ⟨ck2, hyp⟩ := hyp
  refine mf_getf (r := (RX9, TX9, 9)) (ci := 9) (k := 7) (t := 0) (v := h (g x0 0) 7) (mf_dat eX7_readFact_p1 17 rfl) fl_X7_79 rfl (by decide) rfl rfl ck2 ?_
  refine mf_if_ne (tgt := 189) (mf_dat eX7_readFact_p1 18 rfl) (by decide) (fun hc => ?_) (fun hc => ?_)
  · replace hyp := hyp.1 hc
    exact mf_return (mf_dat eX7_readFact_p1 29 rfl) rfl hyp
  · replace hyp := hyp.2 hc
    refine mf_aload_n (mf_dat eX7_readFact_p1 19 rfl) rfl rfl ?_
    refine mf_getf (r := (RX7, TX7, 4)) (ci := 7) (k := 0) (t := 2) (v := g x0 0) (mf_dat eX7_readFact_p1 20 rfl) fl_X7_13 rfl (by decide) rfl rfl ck1 ?_
    refine mf_callV (Yc := YX9_step) (r := (RX9, TX9, 9)) (ci := 9) (mf_dat eX7_readFact_p1 21 rfl) ml_X7_60 okX9_step im_X9_step sl_X9_step rfl rfl rfl rfl (Nat.le_of_ble_eq_true rfl) (mf_rr (Nat.le_trans (by decide) hd) (Nat.le_refl _)) (Nat.le_refl _) ck2 hyp (fun r3 g4 h5 hyp => ?_)
    refine mf_aload_n (mf_dat eX7_readFact_p1 22 rfl) rfl rfl ?_
    refine mf_iload_n (mf_dat eX7_readFact_p1 23 rfl) rfl rfl ?_
    refine mf_callV (Yc := YX7_readSum) (r := (RX7, TX7, 4)) (ci := 7) (mf_dat eX7_readFact_p1 24 rfl) ml_X7_70 okX7_readSum im_X7_readSum sl_X7_readSum rfl rfl rfl rfl (Nat.le_of_ble_eq_true rfl) (mf_rr (Nat.le_trans (by decide) hd) (Nat.le_refl _)) (Nat.le_refl _) ck1 hyp (fun r6 g7 h8 hyp => ?_)
    refine mf_aload_n (mf_dat eX7_readFact_p1 25 rfl) rfl rfl ?_
    refine mf_getf (r := (RX7, TX7, 4)) (ci := 7) (k := 2) (t := 2) (v := g7 x0 2) (mf_dat eX7_readFact_p1 26 rfl) fl_X7_21 rfl (by decide) rfl rfl ck1 ?_
    refine mf_iload_n (mf_dat eX7_readFact_p1 27 rfl) rfl rfl ?_
    obtain ⟨ck12, hyp⟩ := hyp
    refine mf_callV (Yc := YX4_add) (r := (RX4, TX4, 5)) (ci := 4) (mf_dat eX7_readFact_p1 28 rfl) ml_X7_82 okX4_add im_X4_add sl_X4_add rfl rfl rfl rfl (Nat.le_of_ble_eq_true rfl) (mf_rr (Nat.le_trans (by decide) hd) (Nat.le_refl _)) (Nat.le_refl _) ck12 hyp (fun r9 g10 h11 hyp => ?_)
    exact mf_return (mf_dat eX7_readFact_p1 29 rfl) rfl hyp
set_option maxRecDepth 100000 in
set_option maxHeartbeats 4000000 in
theorem mX7_readFact {C : mf_G} {l : Launch} {e n : Nat} {K : mf_Kt} {x0 x1 : Int} {g h : mf_M} (hd : 64 ≤ e + 1) (hyp : mf_is n x0 7 ∧ mf_is n (g x0 0) 9 ∧ mf_MT C l 1 YX9_isWord [(2, g x0 0), (0, 15)] n n g h (fun r2 g3 h4 => ((r2 = 0 → mf_is n (g3 x0 0) 9 ∧ mf_MT C l 1 YX9_isWord [(2, g3 x0 0), (0, 14)] n n g3 h4 (fun r6 g7 h8 => ((r6 = 0 → mf_is n (g7 x0 0) 9 ∧ mf_MT C l 0 YX9_isSign [(2, g7 x0 0), (0, 91)] n n g7 h8 (fun r10 g11 h12 => ((r10 = 0 → mf_MT C l 63 YX7_readSum [(2, x0), (0, x1)] n n g11 h12 (fun r14 g15 h16 => mf_MT C l 0 YX7_compareSign [(2, x0)] n n g15 h16 (fun r17 g18 h19 => ((¬ r17 = (-1) → JX7_readFact_159 C l (e + 1) n K x0 x1 r17 g18 h19) ∧ (r17 = (-1) → mf_is n (g18 x0 0) 9 ∧ mf_MT C l 0 YX9_fail [(2, g18 x0 0), (0, 1), (0, h19 (g18 x0 0) 3)] n n g18 h19 (fun r21 g22 h23 => JX7_readFact_159 C l (e + 1) n K x0 x1 r17 g22 h23)))))) ∧ (¬ r10 = 0 → mf_is n (g11 x0 0) 9 ∧ mf_MT C l 1 YX9_mayOpen [(2, g11 x0 0), (0, x1)] n n g11 h12 (fun r24 g25 h26 => ((r24 = 0 → K 0 g25 h26) ∧ (¬ r24 = 0 → mf_is n (g25 x0 0) 9 ∧ mf_MT C l 2 YX9_step [(2, g25 x0 0)] n n g25 h26 (fun r28 g29 h30 => mf_MT C l e YX7_readTest [(2, x0), (0, mf_w32 (x1 + 1))] n n g29 h30 (fun r32 g33 h34 => mf_is n (g33 x0 0) 9 ∧ mf_MT C l 3 YX9_passSign [(2, g33 x0 0), (0, 93)] n n g33 h34 (fun r35 g36 h37 => K 0 g36 h37)))))))))) ∧ (¬ r6 = 0 → mf_is n (g7 x0 0) 9 ∧ mf_MT C l 1 YX9_mayOpen [(2, g7 x0 0), (0, x1)] n n g7 h8 (fun r39 g40 h41 => ((r39 = 0 → K 0 g40 h41) ∧ (¬ r39 = 0 → mf_is n (g40 x0 0) 9 ∧ mf_MT C l 2 YX9_step [(2, g40 x0 0)] n n g40 h41 (fun r43 g44 h45 => mf_MT C l e YX7_readFact [(2, x0), (0, mf_w32 (x1 + 1))] n n g44 h45 (fun r47 g48 h49 => mf_is n (g48 x0 2) 4 ∧ mf_MT C l 0 YX4_add [(2, g48 x0 2), (0, 12)] n n g48 h49 (fun r50 g51 h52 => K 0 g51 h52)))))))))) ∧ (¬ r2 = 0 → mf_is n (g3 x0 2) 4 ∧ mf_MT C l 0 YX4_add [(2, g3 x0 2), (0, 41)] n n g3 h4 (fun r54 g55 h56 => mf_is n (g55 x0 0) 9 ∧ mf_MT C l 2 YX9_step [(2, g55 x0 0)] n n g55 h56 (fun r58 g59 h60 => K 0 g59 h60)))))) : mf_MT C l (e + 1) YX7_readFact [(2, x0), (0, x1)] n n g h K := by
  refine mf_entry (by decide) (Nat.le_of_ble_eq_true rfl) ?_
  refine mf_aload_n (mf_dat eX7_readFact_p0 0 rfl) rfl rfl ?_
  obtain ⟨ck1, hyp⟩ := hyp
  refine mf_getf (r := (RX7, TX7, 4)) (ci := 7) (k := 0) (t := 2) (v := g x0 0) (mf_dat eX7_readFact_p0 1 rfl) fl_X7_13 rfl (by decide) rfl rfl ck1 ?_
  refine mf_bipush (v := 15) (mf_dat eX7_readFact_p0 2 rfl) (by decide) ?_
  obtain ⟨ck5, hyp⟩ := hyp
  refine mf_callV (Yc := YX9_isWord) (r := (RX9, TX9, 9)) (ci := 9) (mf_dat eX7_readFact_p0 3 rfl) ml_X7_85 okX9_isWord im_X9_isWord sl_X9_isWord rfl rfl rfl rfl (Nat.le_of_ble_eq_true rfl) (mf_rr (Nat.le_trans (by decide) hd) (Nat.le_refl _)) (Nat.le_refl _) ck5 hyp (fun r2 g3 h4 hyp => ?_)
  refine mf_if_eq (tgt := 31) (mf_dat eX7_readFact_p0 4 rfl) (by decide) (fun hc => ?_) (fun hc => ?_)
  · replace hyp := hyp.1 hc
    refine mf_aload_n (mf_dat eX7_readFact_p0 13 rfl) rfl rfl ?_
    refine mf_getf (r := (RX7, TX7, 4)) (ci := 7) (k := 0) (t := 2) (v := g3 x0 0) (mf_dat eX7_readFact_p0 14 rfl) fl_X7_13 rfl (by decide) rfl rfl ck1 ?_
    refine mf_bipush (v := 14) (mf_dat eX7_readFact_p0 15 rfl) (by decide) ?_
    obtain ⟨ck9, hyp⟩ := hyp
    refine mf_callV (Yc := YX9_isWord) (r := (RX9, TX9, 9)) (ci := 9) (mf_dat eX7_readFact_p0 16 rfl) ml_X7_85 okX9_isWord im_X9_isWord sl_X9_isWord rfl rfl rfl rfl (Nat.le_of_ble_eq_true rfl) (mf_rr (Nat.le_trans (by decide) hd) (Nat.le_refl _)) (Nat.le_refl _) ck9 hyp (fun r6 g7 h8 hyp => ?_)
    refine mf_if_eq (tgt := 80) (mf_dat eX7_readFact_p0 17 rfl) (by decide) (fun hc => ?_) (fun hc => ?_)
    · replace hyp := hyp.1 hc
      refine mf_aload_n (mf_dat eX7_readFact_p0 36 rfl) rfl rfl ?_
      refine mf_getf (r := (RX7, TX7, 4)) (ci := 7) (k := 0) (t := 2) (v := g7 x0 0) (mf_dat eX7_readFact_p0 37 rfl) fl_X7_13 rfl (by decide) rfl rfl ck1 ?_
      refine mf_bipush (v := 91) (mf_dat eX7_readFact_p0 38 rfl) (by decide) ?_
      obtain ⟨ck13, hyp⟩ := hyp
      refine mf_callV (Yc := YX9_isSign) (r := (RX9, TX9, 9)) (ci := 9) (mf_dat eX7_readFact_p0 39 rfl) ml_X7_92 okX9_isSign im_X9_isSign sl_X9_isSign rfl rfl rfl rfl (Nat.le_of_ble_eq_true rfl) (mf_rr (Nat.le_trans (by decide) hd) (Nat.le_refl _)) (Nat.le_refl _) ck13 hyp (fun r10 g11 h12 hyp => ?_)
      refine mf_if_eq (tgt := 129) (mf_dat eX7_readFact_p0 40 rfl) (by decide) (fun hc => ?_) (fun hc => ?_)
      · replace hyp := hyp.1 hc
        refine mf_aload_n (mf_dat eX7_readFact_p0 59 rfl) rfl rfl ?_
        refine mf_iload_n (mf_dat eX7_readFact_p1 0 rfl) rfl rfl ?_
        refine mf_callV (Yc := YX7_readSum) (r := (RX7, TX7, 4)) (ci := 7) (mf_dat eX7_readFact_p1 1 rfl) ml_X7_70 okX7_readSum im_X7_readSum sl_X7_readSum rfl rfl rfl rfl (Nat.le_of_ble_eq_true rfl) (mf_rr (Nat.le_trans (by decide) hd) (Nat.le_refl _)) (Nat.le_refl _) ck1 hyp (fun r14 g15 h16 hyp => ?_)
        refine mf_aload_n (mf_dat eX7_readFact_p1 2 rfl) rfl rfl ?_
        refine mf_callV (Yc := YX7_compareSign) (r := (RX7, TX7, 4)) (ci := 7) (mf_dat eX7_readFact_p1 3 rfl) ml_X7_100 okX7_compareSign im_X7_compareSign sl_X7_compareSign rfl rfl rfl rfl (Nat.le_of_ble_eq_true rfl) (mf_rr (Nat.le_trans (by decide) hd) (Nat.le_refl _)) (Nat.le_refl _) ck1 hyp (fun r17 g18 h19 hyp => ?_)
        refine mf_istore_n (mf_dat eX7_readFact_p1 4 rfl) rfl (by decide) ?_
        refine mf_iload_n (mf_dat eX7_readFact_p1 5 rfl) rfl rfl ?_
        refine mf_iconst (v := (-1)) (mf_dat eX7_readFact_p1 6 rfl) (by decide) ?_
        refine mf_icmp_ne (tgt := 159) (mf_dat eX7_readFact_p1 7 rfl) (by decide) (fun hc => ?_) (fun hc => ?_)
        · replace hyp := hyp.1 hc
          exact mf_sub [1, 2, 0] rfl hyp
        · replace hyp := hyp.2 hc
          refine mf_aload_n (mf_dat eX7_readFact_p1 8 rfl) rfl rfl ?_
          refine mf_getf (r := (RX7, TX7, 4)) (ci := 7) (k := 0) (t := 2) (v := g18 x0 0) (mf_dat eX7_readFact_p1 9 rfl) fl_X7_13 rfl (by decide) rfl rfl ck1 ?_
          refine mf_iconst (v := 1) (mf_dat eX7_readFact_p1 10 rfl) (by decide) ?_
          refine mf_aload_n (mf_dat eX7_readFact_p1 11 rfl) rfl rfl ?_
          refine mf_getf (r := (RX7, TX7, 4)) (ci := 7) (k := 0) (t := 2) (v := g18 x0 0) (mf_dat eX7_readFact_p1 12 rfl) fl_X7_13 rfl (by decide) rfl rfl ck1 ?_
          obtain ⟨ck20, hyp⟩ := hyp
          refine mf_getf (r := (RX9, TX9, 9)) (ci := 9) (k := 3) (t := 0) (v := h19 (g18 x0 0) 3) (mf_dat eX7_readFact_p1 13 rfl) fl_X7_53 rfl (by decide) rfl rfl ck20 ?_
          refine mf_callV (Yc := YX9_fail) (r := (RX9, TX9, 9)) (ci := 9) (mf_dat eX7_readFact_p1 14 rfl) ml_X7_56 okX9_fail im_X9_fail sl_X9_fail rfl rfl rfl rfl (Nat.le_of_ble_eq_true rfl) (mf_rr (Nat.le_trans (by decide) hd) (Nat.le_refl _)) (Nat.le_refl _) ck20 hyp (fun r21 g22 h23 hyp => ?_)
          exact mf_sub [1, 2, 0] rfl hyp
      · replace hyp := hyp.2 hc
        refine mf_aload_n (mf_dat eX7_readFact_p0 41 rfl) rfl rfl ?_
        refine mf_getf (r := (RX7, TX7, 4)) (ci := 7) (k := 0) (t := 2) (v := g11 x0 0) (mf_dat eX7_readFact_p0 42 rfl) fl_X7_13 rfl (by decide) rfl rfl ck1 ?_
        refine mf_iload_n (mf_dat eX7_readFact_p0 43 rfl) rfl rfl ?_
        obtain ⟨ck27, hyp⟩ := hyp
        refine mf_callV (Yc := YX9_mayOpen) (r := (RX9, TX9, 9)) (ci := 9) (mf_dat eX7_readFact_p0 44 rfl) ml_X7_89 okX9_mayOpen im_X9_mayOpen sl_X9_mayOpen rfl rfl rfl rfl (Nat.le_of_ble_eq_true rfl) (mf_rr (Nat.le_trans (by decide) hd) (Nat.le_refl _)) (Nat.le_refl _) ck27 hyp (fun r24 g25 h26 hyp => ?_)
        refine mf_if_eq (tgt := 189) (mf_dat eX7_readFact_p0 45 rfl) (by decide) (fun hc => ?_) (fun hc => ?_)
        · replace hyp := hyp.1 hc
          exact mf_return (mf_dat eX7_readFact_p1 29 rfl) rfl hyp
        · replace hyp := hyp.2 hc
          refine mf_aload_n (mf_dat eX7_readFact_p0 46 rfl) rfl rfl ?_
          refine mf_getf (r := (RX7, TX7, 4)) (ci := 7) (k := 0) (t := 2) (v := g25 x0 0) (mf_dat eX7_readFact_p0 47 rfl) fl_X7_13 rfl (by decide) rfl rfl ck1 ?_
          obtain ⟨ck31, hyp⟩ := hyp
          refine mf_callV (Yc := YX9_step) (r := (RX9, TX9, 9)) (ci := 9) (mf_dat eX7_readFact_p0 48 rfl) ml_X7_60 okX9_step im_X9_step sl_X9_step rfl rfl rfl rfl (Nat.le_of_ble_eq_true rfl) (mf_rr (Nat.le_trans (by decide) hd) (Nat.le_refl _)) (Nat.le_refl _) ck31 hyp (fun r28 g29 h30 hyp => ?_)
          refine mf_aload_n (mf_dat eX7_readFact_p0 49 rfl) rfl rfl ?_
          refine mf_iload_n (mf_dat eX7_readFact_p0 50 rfl) rfl rfl ?_
          refine mf_iconst (v := 1) (mf_dat eX7_readFact_p0 51 rfl) (by decide) ?_
          refine mf_iadd (mf_dat eX7_readFact_p0 52 rfl) ?_
          refine mf_callV (Yc := YX7_readTest) (r := (RX7, TX7, 4)) (ci := 7) (mf_dat eX7_readFact_p0 53 rfl) ml_X7_67 okX7_readTest im_X7_readTest sl_X7_readTest rfl rfl rfl rfl (Nat.le_of_ble_eq_true rfl) (mf_rr (Nat.le_refl _) (Nat.le_refl _)) (Nat.le_refl _) ck1 hyp (fun r32 g33 h34 hyp => ?_)
          refine mf_aload_n (mf_dat eX7_readFact_p0 54 rfl) rfl rfl ?_
          refine mf_getf (r := (RX7, TX7, 4)) (ci := 7) (k := 0) (t := 2) (v := g33 x0 0) (mf_dat eX7_readFact_p0 55 rfl) fl_X7_13 rfl (by decide) rfl rfl ck1 ?_
          refine mf_bipush (v := 93) (mf_dat eX7_readFact_p0 56 rfl) (by decide) ?_
          obtain ⟨ck38, hyp⟩ := hyp
          refine mf_callV (Yc := YX9_passSign) (r := (RX9, TX9, 9)) (ci := 9) (mf_dat eX7_readFact_p0 57 rfl) ml_X7_96 okX9_passSign im_X9_passSign sl_X9_passSign rfl rfl rfl rfl (Nat.le_of_ble_eq_true rfl) (mf_rr (Nat.le_trans (by decide) hd) (Nat.le_refl _)) (Nat.le_refl _) ck38 hyp (fun r35 g36 h37 hyp => ?_)
          refine mf_goto (tgt := 189) (mf_dat eX7_readFact_p0 58 rfl) (by decide) ?_
          exact mf_return (mf_dat eX7_readFact_p1 29 rfl) rfl hyp
    · replace hyp := hyp.2 hc
      refine mf_aload_n (mf_dat eX7_readFact_p0 18 rfl) rfl rfl ?_
      refine mf_getf (r := (RX7, TX7, 4)) (ci := 7) (k := 0) (t := 2) (v := g7 x0 0) (mf_dat eX7_readFact_p0 19 rfl) fl_X7_13 rfl (by decide) rfl rfl ck1 ?_
      refine mf_iload_n (mf_dat eX7_readFact_p0 20 rfl) rfl rfl ?_
      obtain ⟨ck42, hyp⟩ := hyp
      refine mf_callV (Yc := YX9_mayOpen) (r := (RX9, TX9, 9)) (ci := 9) (mf_dat eX7_readFact_p0 21 rfl) ml_X7_89 okX9_mayOpen im_X9_mayOpen sl_X9_mayOpen rfl rfl rfl rfl (Nat.le_of_ble_eq_true rfl) (mf_rr (Nat.le_trans (by decide) hd) (Nat.le_refl _)) (Nat.le_refl _) ck42 hyp (fun r39 g40 h41 hyp => ?_)
      refine mf_if_eq (tgt := 189) (mf_dat eX7_readFact_p0 22 rfl) (by decide) (fun hc => ?_) (fun hc => ?_)
      · replace hyp := hyp.1 hc
        exact mf_return (mf_dat eX7_readFact_p1 29 rfl) rfl hyp
      · replace hyp := hyp.2 hc
        refine mf_aload_n (mf_dat eX7_readFact_p0 23 rfl) rfl rfl ?_
        refine mf_getf (r := (RX7, TX7, 4)) (ci := 7) (k := 0) (t := 2) (v := g40 x0 0) (mf_dat eX7_readFact_p0 24 rfl) fl_X7_13 rfl (by decide) rfl rfl ck1 ?_
        obtain ⟨ck46, hyp⟩ := hyp
        refine mf_callV (Yc := YX9_step) (r := (RX9, TX9, 9)) (ci := 9) (mf_dat eX7_readFact_p0 25 rfl) ml_X7_60 okX9_step im_X9_step sl_X9_step rfl rfl rfl rfl (Nat.le_of_ble_eq_true rfl) (mf_rr (Nat.le_trans (by decide) hd) (Nat.le_refl _)) (Nat.le_refl _) ck46 hyp (fun r43 g44 h45 hyp => ?_)
        refine mf_aload_n (mf_dat eX7_readFact_p0 26 rfl) rfl rfl ?_
        refine mf_iload_n (mf_dat eX7_readFact_p0 27 rfl) rfl rfl ?_
        refine mf_iconst (v := 1) (mf_dat eX7_readFact_p0 28 rfl) (by decide) ?_
        refine mf_iadd (mf_dat eX7_readFact_p0 29 rfl) ?_
        refine mf_callV (Yc := YX7_readFact) (r := (RX7, TX7, 4)) (ci := 7) (mf_dat eX7_readFact_p0 30 rfl) ml_X7_76 okX7_readFact im_X7_readFact sl_X7_readFact rfl rfl rfl rfl (Nat.le_of_ble_eq_true rfl) (mf_rr (Nat.le_refl _) (Nat.le_refl _)) (Nat.le_refl _) ck1 hyp (fun r47 g48 h49 hyp => ?_)
        refine mf_aload_n (mf_dat eX7_readFact_p0 31 rfl) rfl rfl ?_
        refine mf_getf (r := (RX7, TX7, 4)) (ci := 7) (k := 2) (t := 2) (v := g48 x0 2) (mf_dat eX7_readFact_p0 32 rfl) fl_X7_21 rfl (by decide) rfl rfl ck1 ?_
        refine mf_bipush (v := 12) (mf_dat eX7_readFact_p0 33 rfl) (by decide) ?_
        obtain ⟨ck53, hyp⟩ := hyp
        refine mf_callV (Yc := YX4_add) (r := (RX4, TX4, 5)) (ci := 4) (mf_dat eX7_readFact_p0 34 rfl) ml_X7_82 okX4_add im_X4_add sl_X4_add rfl rfl rfl rfl (Nat.le_of_ble_eq_true rfl) (mf_rr (Nat.le_trans (by decide) hd) (Nat.le_refl _)) (Nat.le_refl _) ck53 hyp (fun r50 g51 h52 hyp => ?_)
        refine mf_goto (tgt := 189) (mf_dat eX7_readFact_p0 35 rfl) (by decide) ?_
        exact mf_return (mf_dat eX7_readFact_p1 29 rfl) rfl hyp
  · replace hyp := hyp.2 hc
    refine mf_aload_n (mf_dat eX7_readFact_p0 5 rfl) rfl rfl ?_
    refine mf_getf (r := (RX7, TX7, 4)) (ci := 7) (k := 2) (t := 2) (v := g3 x0 2) (mf_dat eX7_readFact_p0 6 rfl) fl_X7_21 rfl (by decide) rfl rfl ck1 ?_
    refine mf_bipush (v := 41) (mf_dat eX7_readFact_p0 7 rfl) (by decide) ?_
    obtain ⟨ck57, hyp⟩ := hyp
    refine mf_callV (Yc := YX4_add) (r := (RX4, TX4, 5)) (ci := 4) (mf_dat eX7_readFact_p0 8 rfl) ml_X7_82 okX4_add im_X4_add sl_X4_add rfl rfl rfl rfl (Nat.le_of_ble_eq_true rfl) (mf_rr (Nat.le_trans (by decide) hd) (Nat.le_refl _)) (Nat.le_refl _) ck57 hyp (fun r54 g55 h56 hyp => ?_)
    refine mf_aload_n (mf_dat eX7_readFact_p0 9 rfl) rfl rfl ?_
    refine mf_getf (r := (RX7, TX7, 4)) (ci := 7) (k := 0) (t := 2) (v := g55 x0 0) (mf_dat eX7_readFact_p0 10 rfl) fl_X7_13 rfl (by decide) rfl rfl ck1 ?_
    obtain ⟨ck61, hyp⟩ := hyp
    refine mf_callV (Yc := YX9_step) (r := (RX9, TX9, 9)) (ci := 9) (mf_dat eX7_readFact_p0 11 rfl) ml_X7_60 okX9_step im_X9_step sl_X9_step rfl rfl rfl rfl (Nat.le_of_ble_eq_true rfl) (mf_rr (Nat.le_trans (by decide) hd) (Nat.le_refl _)) (Nat.le_refl _) ck61 hyp (fun r58 g59 h60 hyp => ?_)
    refine mf_goto (tgt := 189) (mf_dat eX7_readFact_p0 12 rfl) (by decide) ?_
    exact mf_return (mf_dat eX7_readFact_p1 29 rfl) rfl hyp
abbrev JX7_readSum_7 (C : mf_G) (l : Launch) (d n : Nat) (K : mf_Kt) (x0 x1 x2 x3 x4 : Int) (g h : mf_M) : Prop := mf_AW C l YX7_readSum (mf_rm d n n) n (mf_Zm C YX7_readSum n n K) (fun _ _ => True) 7 [(0, (2, x0)), (1, (0, x1)), (2, (0, x2)), (3, (0, x3)), (4, (0, x4))] [] n g h
abbrev JX7_readSum_54 (C : mf_G) (l : Launch) (d n : Nat) (K : mf_Kt) (x0 x1 x2 x4 : Int) (g h : mf_M) : Prop := mf_AW C l YX7_readSum (mf_rm d n n) n (mf_Zm C YX7_readSum n n K) (fun _ _ => True) 54 [(0, (2, x0)), (1, (0, x1)), (2, (0, x2)), (4, (0, x4))] [] n g h
set_option maxRecDepth 100000 in
set_option maxHeartbeats 4000000 in
theorem bX7_readSum_7 {C : mf_G} {l : Launch} {e n : Nat} {K : mf_Kt} {x0 x1 x2 x3 x4 : Int} {g h : mf_M} (hd : 1 ≤ e + 1) (hyp : ((1600 < x4 → K 0 g h) ∧ (¬ 1600 < x4 → mf_is n x0 7 ∧ mf_is n (g x0 0) 9 ∧ ((¬ h (g x0 0) 7 = 0 → K 0 g h) ∧ (h (g x0 0) 7 = 0 → mf_MT C l e YX7_readPart [(2, x0), (0, x1)] n n g h (fun r3 g4 h5 => mf_is n (g4 x0 0) 9 ∧ ((h5 (g4 x0 0) 7 = 0 → ((x3 = (-1) → JX7_readSum_54 C l (e + 1) n K x0 x1 x2 x4 g4 h5) ∧ (¬ x3 = (-1) → mf_is n (g4 x0 2) 4 ∧ mf_MT C l 0 YX4_add [(2, g4 x0 2), (0, x3)] n n g4 h5 (fun r7 g8 h9 => JX7_readSum_54 C l (e + 1) n K x0 x1 x2 x4 g8 h9)))) ∧ (¬ h5 (g4 x0 0) 7 = 0 → K 0 g4 h5)))))))) : JX7_readSum_7 C l (e + 1) n K x0 x1 x2 x3 x4 g h := by
  refine mf_iload (mf_dat eX7_readSum 6 rfl) rfl ?_
  refine mf_sipush (v := 1600) (mf_dat eX7_readSum 7 rfl) (by decide) ?_
  refine mf_icmp_gt (tgt := 101) (mf_dat eX7_readSum 8 rfl) (by decide) (fun hc => ?_) (fun hc => ?_)
  · replace hyp := hyp.1 hc
    exact mf_return (mf_dat eX7_readSum 53 rfl) rfl hyp
  · replace hyp := hyp.2 hc
    refine mf_aload_n (mf_dat eX7_readSum 9 rfl) rfl rfl ?_
    obtain ⟨ck1, hyp⟩ := hyp
    refine mf_getf (r := (RX7, TX7, 4)) (ci := 7) (k := 0) (t := 2) (v := g x0 0) (mf_dat eX7_readSum 10 rfl) fl_X7_13 rfl (by decide) rfl rfl ck1 ?_
    obtain ⟨ck2, hyp⟩ := hyp
    refine mf_getf (r := (RX9, TX9, 9)) (ci := 9) (k := 7) (t := 0) (v := h (g x0 0) 7) (mf_dat eX7_readSum 11 rfl) fl_X7_79 rfl (by decide) rfl rfl ck2 ?_
    refine mf_if_ne (tgt := 101) (mf_dat eX7_readSum 12 rfl) (by decide) (fun hc => ?_) (fun hc => ?_)
    · replace hyp := hyp.1 hc
      exact mf_return (mf_dat eX7_readSum 53 rfl) rfl hyp
    · replace hyp := hyp.2 hc
      refine mf_aload_n (mf_dat eX7_readSum 13 rfl) rfl rfl ?_
      refine mf_iload_n (mf_dat eX7_readSum 14 rfl) rfl rfl ?_
      refine mf_callV (Yc := YX7_readPart) (r := (RX7, TX7, 4)) (ci := 7) (mf_dat eX7_readSum 15 rfl) ml_X7_104 okX7_readPart im_X7_readPart sl_X7_readPart rfl rfl rfl rfl (Nat.le_of_ble_eq_true rfl) (mf_rr (Nat.le_refl _) (Nat.le_refl _)) (Nat.le_refl _) ck1 hyp (fun r3 g4 h5 hyp => ?_)
      refine mf_aload_n (mf_dat eX7_readSum 16 rfl) rfl rfl ?_
      refine mf_getf (r := (RX7, TX7, 4)) (ci := 7) (k := 0) (t := 2) (v := g4 x0 0) (mf_dat eX7_readSum 17 rfl) fl_X7_13 rfl (by decide) rfl rfl ck1 ?_
      obtain ⟨ck6, hyp⟩ := hyp
      refine mf_getf (r := (RX9, TX9, 9)) (ci := 9) (k := 7) (t := 0) (v := h5 (g4 x0 0) 7) (mf_dat eX7_readSum 18 rfl) fl_X7_79 rfl (by decide) rfl rfl ck6 ?_
      refine mf_if_eq (tgt := 41) (mf_dat eX7_readSum 19 rfl) (by decide) (fun hc => ?_) (fun hc => ?_)
      · replace hyp := hyp.1 hc
        refine mf_iload_n (mf_dat eX7_readSum 21 rfl) rfl rfl ?_
        refine mf_iconst (v := (-1)) (mf_dat eX7_readSum 22 rfl) (by decide) ?_
        refine mf_icmp_eq (tgt := 54) (mf_dat eX7_readSum 23 rfl) (by decide) (fun hc => ?_) (fun hc => ?_)
        · replace hyp := hyp.1 hc
          exact mf_sub [0, 1, 2, 4] rfl hyp
        · replace hyp := hyp.2 hc
          refine mf_aload_n (mf_dat eX7_readSum 24 rfl) rfl rfl ?_
          refine mf_getf (r := (RX7, TX7, 4)) (ci := 7) (k := 2) (t := 2) (v := g4 x0 2) (mf_dat eX7_readSum 25 rfl) fl_X7_21 rfl (by decide) rfl rfl ck1 ?_
          refine mf_iload_n (mf_dat eX7_readSum 26 rfl) rfl rfl ?_
          obtain ⟨ck10, hyp⟩ := hyp
          refine mf_callV (Yc := YX4_add) (r := (RX4, TX4, 5)) (ci := 4) (mf_dat eX7_readSum 27 rfl) ml_X7_82 okX4_add im_X4_add sl_X4_add rfl rfl rfl rfl (Nat.le_of_ble_eq_true rfl) (mf_rr (Nat.le_trans (by decide) hd) (Nat.le_refl _)) (Nat.le_refl _) ck10 hyp (fun r7 g8 h9 hyp => ?_)
          exact mf_sub [0, 1, 2, 4] rfl hyp
      · replace hyp := hyp.2 hc
        exact mf_return (mf_dat eX7_readSum 20 rfl) rfl hyp
set_option maxRecDepth 100000 in
set_option maxHeartbeats 4000000 in
theorem bX7_readSum_54 {C : mf_G} {l : Launch} {e n : Nat} {K : mf_Kt} {x0 x1 x2 x4 : Int} {g h : mf_M} (hd : 3 ≤ e + 1) (hyp : mf_is n x0 7 ∧ mf_MT C l 1 YX7_productSign [(2, x0)] n n g h (fun r1 g2 h3 => ((¬ r1 = (-1) → mf_is n (g2 x0 0) 9 ∧ mf_MT C l 2 YX9_step [(2, g2 x0 0)] n n g2 h3 (fun r5 g6 h7 => (∀ v9 : Int, v9 = mf_w32 (x4 + 1) → JX7_readSum_7 C l (e + 1) n K x0 x1 x2 r1 v9 g6 h7))) ∧ (r1 = (-1) → ((x2 = (-1) → mf_MT C l 1 YX7_sumSign [(2, x0)] n n g2 h3 (fun r10 g11 h12 => ((¬ r10 = (-1) → mf_is n (g11 x0 0) 9 ∧ mf_MT C l 2 YX9_step [(2, g11 x0 0)] n n g11 h12 (fun r13 g14 h15 => (∀ v17 : Int, v17 = mf_w32 (x4 + 1) → JX7_readSum_7 C l (e + 1) n K x0 x1 r10 r1 v17 g14 h15))) ∧ (r10 = (-1) → K 0 g11 h12)))) ∧ (¬ x2 = (-1) → mf_is n (g2 x0 2) 4 ∧ mf_MT C l 0 YX4_add [(2, g2 x0 2), (0, x2)] n n g2 h3 (fun r18 g19 h20 => mf_MT C l 1 YX7_sumSign [(2, x0)] n n g19 h20 (fun r22 g23 h24 => ((¬ r22 = (-1) → mf_is n (g23 x0 0) 9 ∧ mf_MT C l 2 YX9_step [(2, g23 x0 0)] n n g23 h24 (fun r25 g26 h27 => (∀ v29 : Int, v29 = mf_w32 (x4 + 1) → JX7_readSum_7 C l (e + 1) n K x0 x1 r22 r1 v29 g26 h27))) ∧ (r22 = (-1) → K 0 g23 h24)))))))))) : JX7_readSum_54 C l (e + 1) n K x0 x1 x2 x4 g h := by
  refine mf_aload_n (mf_dat eX7_readSum 28 rfl) rfl rfl ?_
  obtain ⟨ck4, hyp⟩ := hyp
  refine mf_callV (Yc := YX7_productSign) (r := (RX7, TX7, 4)) (ci := 7) (mf_dat eX7_readSum 29 rfl) ml_X7_107 okX7_productSign im_X7_productSign sl_X7_productSign rfl rfl rfl rfl (Nat.le_of_ble_eq_true rfl) (mf_rr (Nat.le_trans (by decide) hd) (Nat.le_refl _)) (Nat.le_refl _) ck4 hyp (fun r1 g2 h3 hyp => ?_)
  refine mf_istore_n (mf_dat eX7_readSum 30 rfl) rfl (by decide) ?_
  refine mf_iload_n (mf_dat eX7_readSum 31 rfl) rfl rfl ?_
  refine mf_iconst (v := (-1)) (mf_dat eX7_readSum 32 rfl) (by decide) ?_
  refine mf_icmp_ne (tgt := 88) (mf_dat eX7_readSum 33 rfl) (by decide) (fun hc => ?_) (fun hc => ?_)
  · replace hyp := hyp.1 hc
    refine mf_aload_n (mf_dat eX7_readSum 48 rfl) rfl rfl ?_
    refine mf_getf (r := (RX7, TX7, 4)) (ci := 7) (k := 0) (t := 2) (v := g2 x0 0) (mf_dat eX7_readSum 49 rfl) fl_X7_13 rfl (by decide) rfl rfl ck4 ?_
    obtain ⟨ck8, hyp⟩ := hyp
    refine mf_callV (Yc := YX9_step) (r := (RX9, TX9, 9)) (ci := 9) (mf_dat eX7_readSum 50 rfl) ml_X7_60 okX9_step im_X9_step sl_X9_step rfl rfl rfl rfl (Nat.le_of_ble_eq_true rfl) (mf_rr (Nat.le_trans (by decide) hd) (Nat.le_refl _)) (Nat.le_refl _) ck8 hyp (fun r5 g6 h7 hyp => ?_)
    refine mf_iinc (mf_dat eX7_readSum 51 rfl) rfl (by decide) (by decide) ?_
    generalize qv9 : mf_w32 (x4 + 1) = v9
    replace hyp := hyp _ qv9.symm
    refine mf_goto (tgt := 7) (mf_dat eX7_readSum 52 rfl) (by decide) ?_
    exact mf_sub [2, 3, 4, 1, 0] rfl hyp
  · replace hyp := hyp.2 hc
    refine mf_iload_n (mf_dat eX7_readSum 34 rfl) rfl rfl ?_
    refine mf_iconst (v := (-1)) (mf_dat eX7_readSum 35 rfl) (by decide) ?_
    refine mf_icmp_eq (tgt := 77) (mf_dat eX7_readSum 36 rfl) (by decide) (fun hc => ?_) (fun hc => ?_)
    · replace hyp := hyp.1 hc
      refine mf_aload_n (mf_dat eX7_readSum 41 rfl) rfl rfl ?_
      refine mf_callV (Yc := YX7_sumSign) (r := (RX7, TX7, 4)) (ci := 7) (mf_dat eX7_readSum 42 rfl) ml_X7_110 okX7_sumSign im_X7_sumSign sl_X7_sumSign rfl rfl rfl rfl (Nat.le_of_ble_eq_true rfl) (mf_rr (Nat.le_trans (by decide) hd) (Nat.le_refl _)) (Nat.le_refl _) ck4 hyp (fun r10 g11 h12 hyp => ?_)
      refine mf_istore_n (mf_dat eX7_readSum 43 rfl) rfl (by decide) ?_
      refine mf_iload_n (mf_dat eX7_readSum 44 rfl) rfl rfl ?_
      refine mf_iconst (v := (-1)) (mf_dat eX7_readSum 45 rfl) (by decide) ?_
      refine mf_icmp_ne (tgt := 88) (mf_dat eX7_readSum 46 rfl) (by decide) (fun hc => ?_) (fun hc => ?_)
      · replace hyp := hyp.1 hc
        refine mf_aload_n (mf_dat eX7_readSum 48 rfl) rfl rfl ?_
        refine mf_getf (r := (RX7, TX7, 4)) (ci := 7) (k := 0) (t := 2) (v := g11 x0 0) (mf_dat eX7_readSum 49 rfl) fl_X7_13 rfl (by decide) rfl rfl ck4 ?_
        obtain ⟨ck16, hyp⟩ := hyp
        refine mf_callV (Yc := YX9_step) (r := (RX9, TX9, 9)) (ci := 9) (mf_dat eX7_readSum 50 rfl) ml_X7_60 okX9_step im_X9_step sl_X9_step rfl rfl rfl rfl (Nat.le_of_ble_eq_true rfl) (mf_rr (Nat.le_trans (by decide) hd) (Nat.le_refl _)) (Nat.le_refl _) ck16 hyp (fun r13 g14 h15 hyp => ?_)
        refine mf_iinc (mf_dat eX7_readSum 51 rfl) rfl (by decide) (by decide) ?_
        generalize qv17 : mf_w32 (x4 + 1) = v17
        replace hyp := hyp _ qv17.symm
        refine mf_goto (tgt := 7) (mf_dat eX7_readSum 52 rfl) (by decide) ?_
        exact mf_sub [3, 4, 1, 2, 0] rfl hyp
      · replace hyp := hyp.2 hc
        exact mf_return (mf_dat eX7_readSum 47 rfl) rfl hyp
    · replace hyp := hyp.2 hc
      refine mf_aload_n (mf_dat eX7_readSum 37 rfl) rfl rfl ?_
      refine mf_getf (r := (RX7, TX7, 4)) (ci := 7) (k := 2) (t := 2) (v := g2 x0 2) (mf_dat eX7_readSum 38 rfl) fl_X7_21 rfl (by decide) rfl rfl ck4 ?_
      refine mf_iload_n (mf_dat eX7_readSum 39 rfl) rfl rfl ?_
      obtain ⟨ck21, hyp⟩ := hyp
      refine mf_callV (Yc := YX4_add) (r := (RX4, TX4, 5)) (ci := 4) (mf_dat eX7_readSum 40 rfl) ml_X7_82 okX4_add im_X4_add sl_X4_add rfl rfl rfl rfl (Nat.le_of_ble_eq_true rfl) (mf_rr (Nat.le_trans (by decide) hd) (Nat.le_refl _)) (Nat.le_refl _) ck21 hyp (fun r18 g19 h20 hyp => ?_)
      refine mf_aload_n (mf_dat eX7_readSum 41 rfl) rfl rfl ?_
      refine mf_callV (Yc := YX7_sumSign) (r := (RX7, TX7, 4)) (ci := 7) (mf_dat eX7_readSum 42 rfl) ml_X7_110 okX7_sumSign im_X7_sumSign sl_X7_sumSign rfl rfl rfl rfl (Nat.le_of_ble_eq_true rfl) (mf_rr (Nat.le_trans (by decide) hd) (Nat.le_refl _)) (Nat.le_refl _) ck4 hyp (fun r22 g23 h24 hyp => ?_)
      refine mf_istore_n (mf_dat eX7_readSum 43 rfl) rfl (by decide) ?_
      refine mf_iload_n (mf_dat eX7_readSum 44 rfl) rfl rfl ?_
      refine mf_iconst (v := (-1)) (mf_dat eX7_readSum 45 rfl) (by decide) ?_
      refine mf_icmp_ne (tgt := 88) (mf_dat eX7_readSum 46 rfl) (by decide) (fun hc => ?_) (fun hc => ?_)
      · replace hyp := hyp.1 hc
        refine mf_aload_n (mf_dat eX7_readSum 48 rfl) rfl rfl ?_
        refine mf_getf (r := (RX7, TX7, 4)) (ci := 7) (k := 0) (t := 2) (v := g23 x0 0) (mf_dat eX7_readSum 49 rfl) fl_X7_13 rfl (by decide) rfl rfl ck4 ?_
        obtain ⟨ck28, hyp⟩ := hyp
        refine mf_callV (Yc := YX9_step) (r := (RX9, TX9, 9)) (ci := 9) (mf_dat eX7_readSum 50 rfl) ml_X7_60 okX9_step im_X9_step sl_X9_step rfl rfl rfl rfl (Nat.le_of_ble_eq_true rfl) (mf_rr (Nat.le_trans (by decide) hd) (Nat.le_refl _)) (Nat.le_refl _) ck28 hyp (fun r25 g26 h27 hyp => ?_)
        refine mf_iinc (mf_dat eX7_readSum 51 rfl) rfl (by decide) (by decide) ?_
        generalize qv29 : mf_w32 (x4 + 1) = v29
        replace hyp := hyp _ qv29.symm
        refine mf_goto (tgt := 7) (mf_dat eX7_readSum 52 rfl) (by decide) ?_
        exact mf_sub [3, 4, 1, 2, 0] rfl hyp
      · replace hyp := hyp.2 hc
        exact mf_return (mf_dat eX7_readSum 47 rfl) rfl hyp
set_option maxRecDepth 100000 in
set_option maxHeartbeats 4000000 in
theorem mX7_readSum {C : mf_G} {l : Launch} {e n : Nat} {K : mf_Kt} {x0 x1 : Int} {g h : mf_M} (hd : 1 ≤ e + 1) (hyp : JX7_readSum_7 C l (e + 1) n K x0 x1 (-1) (-1) 0 g h) : mf_MT C l (e + 1) YX7_readSum [(2, x0), (0, x1)] n n g h K := by
  refine mf_entry (by decide) (Nat.le_of_ble_eq_true rfl) ?_
  refine mf_iconst (v := (-1)) (mf_dat eX7_readSum 0 rfl) (by decide) ?_
  refine mf_istore_n (mf_dat eX7_readSum 1 rfl) rfl (by decide) ?_
  refine mf_iconst (v := (-1)) (mf_dat eX7_readSum 2 rfl) (by decide) ?_
  refine mf_istore_n (mf_dat eX7_readSum 3 rfl) rfl (by decide) ?_
  refine mf_iconst (v := 0) (mf_dat eX7_readSum 4 rfl) (by decide) ?_
  refine mf_istore (mf_dat eX7_readSum 5 rfl) (by decide) ?_
  exact mf_sub [3, 4, 2, 1, 0] rfl hyp
abbrev JX7_readPart_64 (C : mf_G) (l : Launch) (d n : Nat) (K : mf_Kt) (x0 x1 s0 : Int) (g h : mf_M) : Prop := mf_AW C l YX7_readPart (mf_rm d n n) n (mf_Zm C YX7_readPart n n K) (fun _ _ => True) 64 [(0, (2, x0)), (1, (0, x1))] [(0, s0)] n g h
abbrev JX7_readPart_94 (C : mf_G) (l : Launch) (d n : Nat) (K : mf_Kt) (x0 x1 x2 x3 : Int) (g h : mf_M) : Prop := mf_AW C l YX7_readPart (mf_rm d n n) n (mf_Zm C YX7_readPart n n K) (fun _ _ => True) 94 [(0, (2, x0)), (1, (0, x1)), (2, (0, x2)), (3, (0, x3))] [] n g h
set_option maxRecDepth 100000 in
set_option maxHeartbeats 4000000 in
theorem bX7_readPart_64 {C : mf_G} {l : Launch} {e n : Nat} {K : mf_Kt} {x0 x1 s0 : Int} {g h : mf_M} (hd : 3 ≤ e + 1) (hyp : ((s0 = 10 → ((1 = 0 → JX7_readPart_94 C l (e + 1) n K x0 x1 s0 1 g h) ∧ (¬ 1 = 0 → mf_is n x0 7 ∧ mf_is n (g x0 0) 9 ∧ mf_MT C l 2 YX9_step [(2, g x0 0)] n n g h (fun r2 g3 h4 => JX7_readPart_94 C l (e + 1) n K x0 x1 s0 1 g3 h4)))) ∧ (¬ s0 = 10 → ((¬ s0 = 11 → ((0 = 0 → JX7_readPart_94 C l (e + 1) n K x0 x1 s0 0 g h) ∧ (¬ 0 = 0 → mf_is n x0 7 ∧ mf_is n (g x0 0) 9 ∧ mf_MT C l 2 YX9_step [(2, g x0 0)] n n g h (fun r7 g8 h9 => JX7_readPart_94 C l (e + 1) n K x0 x1 s0 0 g8 h9)))) ∧ (s0 = 11 → ((1 = 0 → JX7_readPart_94 C l (e + 1) n K x0 x1 s0 1 g h) ∧ (¬ 1 = 0 → mf_is n x0 7 ∧ mf_is n (g x0 0) 9 ∧ mf_MT C l 2 YX9_step [(2, g x0 0)] n n g h (fun r12 g13 h14 => JX7_readPart_94 C l (e + 1) n K x0 x1 s0 1 g13 h14)))))))) : JX7_readPart_64 C l (e + 1) n K x0 x1 s0 g h := by
  refine mf_istore_n (mf_dat eX7_readPart_p0 31 rfl) rfl (by decide) ?_
  refine mf_iload_n (mf_dat eX7_readPart_p0 32 rfl) rfl rfl ?_
  refine mf_bipush (v := 10) (mf_dat eX7_readPart_p0 33 rfl) (by decide) ?_
  refine mf_icmp_eq (tgt := 77) (mf_dat eX7_readPart_p0 34 rfl) (by decide) (fun hc => ?_) (fun hc => ?_)
  · replace hyp := hyp.1 hc
    refine mf_iconst (v := 1) (mf_dat eX7_readPart_p0 38 rfl) (by decide) ?_
    refine mf_goto (tgt := 82) (mf_dat eX7_readPart_p0 39 rfl) (by decide) ?_
    refine mf_istore_n (mf_dat eX7_readPart_p0 41 rfl) rfl (by decide) ?_
    refine mf_iload_n (mf_dat eX7_readPart_p0 42 rfl) rfl rfl ?_
    refine mf_if_eq (tgt := 94) (mf_dat eX7_readPart_p0 43 rfl) (by decide) (fun hc => ?_) (fun hc => ?_)
    · replace hyp := hyp.1 hc
      exact mf_sub [2, 3, 1, 0] rfl hyp
    · replace hyp := hyp.2 hc
      refine mf_aload_n (mf_dat eX7_readPart_p0 44 rfl) rfl rfl ?_
      obtain ⟨ck1, hyp⟩ := hyp
      refine mf_getf (r := (RX7, TX7, 4)) (ci := 7) (k := 0) (t := 2) (v := g x0 0) (mf_dat eX7_readPart_p0 45 rfl) fl_X7_13 rfl (by decide) rfl rfl ck1 ?_
      obtain ⟨ck5, hyp⟩ := hyp
      refine mf_callV (Yc := YX9_step) (r := (RX9, TX9, 9)) (ci := 9) (mf_dat eX7_readPart_p0 46 rfl) ml_X7_60 okX9_step im_X9_step sl_X9_step rfl rfl rfl rfl (Nat.le_of_ble_eq_true rfl) (mf_rr (Nat.le_trans (by decide) hd) (Nat.le_refl _)) (Nat.le_refl _) ck5 hyp (fun r2 g3 h4 hyp => ?_)
      exact mf_sub [2, 3, 1, 0] rfl hyp
  · replace hyp := hyp.2 hc
    refine mf_iload_n (mf_dat eX7_readPart_p0 35 rfl) rfl rfl ?_
    refine mf_bipush (v := 11) (mf_dat eX7_readPart_p0 36 rfl) (by decide) ?_
    refine mf_icmp_ne (tgt := 81) (mf_dat eX7_readPart_p0 37 rfl) (by decide) (fun hc => ?_) (fun hc => ?_)
    · replace hyp := hyp.1 hc
      refine mf_iconst (v := 0) (mf_dat eX7_readPart_p0 40 rfl) (by decide) ?_
      refine mf_istore_n (mf_dat eX7_readPart_p0 41 rfl) rfl (by decide) ?_
      refine mf_iload_n (mf_dat eX7_readPart_p0 42 rfl) rfl rfl ?_
      refine mf_if_eq (tgt := 94) (mf_dat eX7_readPart_p0 43 rfl) (by decide) (fun hc => ?_) (fun hc => ?_)
      · replace hyp := hyp.1 hc
        exact mf_sub [2, 3, 1, 0] rfl hyp
      · replace hyp := hyp.2 hc
        refine mf_aload_n (mf_dat eX7_readPart_p0 44 rfl) rfl rfl ?_
        obtain ⟨ck6, hyp⟩ := hyp
        refine mf_getf (r := (RX7, TX7, 4)) (ci := 7) (k := 0) (t := 2) (v := g x0 0) (mf_dat eX7_readPart_p0 45 rfl) fl_X7_13 rfl (by decide) rfl rfl ck6 ?_
        obtain ⟨ck10, hyp⟩ := hyp
        refine mf_callV (Yc := YX9_step) (r := (RX9, TX9, 9)) (ci := 9) (mf_dat eX7_readPart_p0 46 rfl) ml_X7_60 okX9_step im_X9_step sl_X9_step rfl rfl rfl rfl (Nat.le_of_ble_eq_true rfl) (mf_rr (Nat.le_trans (by decide) hd) (Nat.le_refl _)) (Nat.le_refl _) ck10 hyp (fun r7 g8 h9 hyp => ?_)
        exact mf_sub [2, 3, 1, 0] rfl hyp
    · replace hyp := hyp.2 hc
      refine mf_iconst (v := 1) (mf_dat eX7_readPart_p0 38 rfl) (by decide) ?_
      refine mf_goto (tgt := 82) (mf_dat eX7_readPart_p0 39 rfl) (by decide) ?_
      refine mf_istore_n (mf_dat eX7_readPart_p0 41 rfl) rfl (by decide) ?_
      refine mf_iload_n (mf_dat eX7_readPart_p0 42 rfl) rfl rfl ?_
      refine mf_if_eq (tgt := 94) (mf_dat eX7_readPart_p0 43 rfl) (by decide) (fun hc => ?_) (fun hc => ?_)
      · replace hyp := hyp.1 hc
        exact mf_sub [2, 3, 1, 0] rfl hyp
      · replace hyp := hyp.2 hc
        refine mf_aload_n (mf_dat eX7_readPart_p0 44 rfl) rfl rfl ?_
        obtain ⟨ck11, hyp⟩ := hyp
        refine mf_getf (r := (RX7, TX7, 4)) (ci := 7) (k := 0) (t := 2) (v := g x0 0) (mf_dat eX7_readPart_p0 45 rfl) fl_X7_13 rfl (by decide) rfl rfl ck11 ?_
        obtain ⟨ck15, hyp⟩ := hyp
        refine mf_callV (Yc := YX9_step) (r := (RX9, TX9, 9)) (ci := 9) (mf_dat eX7_readPart_p0 46 rfl) ml_X7_60 okX9_step im_X9_step sl_X9_step rfl rfl rfl rfl (Nat.le_of_ble_eq_true rfl) (mf_rr (Nat.le_trans (by decide) hd) (Nat.le_refl _)) (Nat.le_refl _) ck15 hyp (fun r12 g13 h14 hyp => ?_)
        exact mf_sub [2, 3, 1, 0] rfl hyp
set_option maxRecDepth 100000 in
set_option maxHeartbeats 4000000 in
theorem bX7_readPart_94 {C : mf_G} {l : Launch} {e n : Nat} {K : mf_Kt} {x0 x1 x2 x3 : Int} {g h : mf_M} (hd : 4 ≤ e + 1) (hyp : mf_is n x0 7 ∧ mf_is n (g x0 0) 9 ∧ mf_MT C l 0 YX9_isSign [(2, g x0 0), (0, 40)] n n g h (fun r2 g3 h4 => ((r2 = 0 → ((¬ x3 = 0 → mf_is n (g3 x0 0) 9 ∧ mf_MT C l 0 YX9_fail [(2, g3 x0 0), (0, 1), (0, h4 (g3 x0 0) 3)] n n g3 h4 (fun r7 g8 h9 => K 0 g8 h9)) ∧ (x3 = 0 → ((x2 < 0 → mf_is n (g3 x0 0) 9 ∧ mf_MT C l 0 YX9_fail [(2, g3 x0 0), (0, 1), (0, h4 (g3 x0 0) 3)] n n g3 h4 (fun r11 g12 h13 => K 0 g12 h13)) ∧ (¬ x2 < 0 → ((9 < x2 → mf_is n (g3 x0 0) 9 ∧ mf_MT C l 0 YX9_fail [(2, g3 x0 0), (0, 1), (0, h4 (g3 x0 0) 3)] n n g3 h4 (fun r15 g16 h17 => K 0 g16 h17)) ∧ (¬ 9 < x2 → ((¬ mf_and (mf_shr (h4 x0 3) x2) 1 = 0 → ((x2 = 9 → mf_is n (g3 x0 0) 9 ∧ mf_MT C l 1 YX9_mayOpen [(2, g3 x0 0), (0, x1)] n n g3 h4 (fun r18 g19 h20 => ((r18 = 0 → K 0 g19 h20) ∧ (¬ r18 = 0 → mf_is n (g19 x0 0) 9 ∧ mf_MT C l 2 YX9_step [(2, g19 x0 0)] n n g19 h20 (fun r22 g23 h24 => mf_MT C l e YX7_readPart [(2, x0), (0, mf_w32 (x1 + 1))] n n g23 h24 (fun r26 g27 h28 => mf_is n (g27 x0 2) 4 ∧ mf_MT C l 0 YX4_add [(2, g27 x0 2), (0, 13)] n n g27 h28 (fun r29 g30 h31 => K 0 g30 h31))))))) ∧ (¬ x2 = 9 → mf_is n (g3 x0 2) 4 ∧ mf_MT C l 0 YX4_add [(2, g3 x0 2), (0, mf_w32 (20 + x2))] n n g3 h4 (fun r33 g34 h35 => mf_is n (g34 x0 0) 9 ∧ mf_MT C l 2 YX9_step [(2, g34 x0 0)] n n g34 h35 (fun r37 g38 h39 => K 0 g38 h39))))) ∧ (mf_and (mf_shr (h4 x0 3) x2) 1 = 0 → mf_is n (g3 x0 0) 9 ∧ mf_MT C l 0 YX9_fail [(2, g3 x0 0), (0, 1), (0, h4 (g3 x0 0) 3)] n n g3 h4 (fun r42 g43 h44 => K 0 g43 h44)))))))))) ∧ (¬ r2 = 0 → mf_is n (g3 x0 0) 9 ∧ mf_MT C l 1 YX9_mayOpen [(2, g3 x0 0), (0, x1)] n n g3 h4 (fun r45 g46 h47 => ((¬ r45 = 0 → mf_is n (g46 x0 0) 9 ∧ mf_MT C l 2 YX9_step [(2, g46 x0 0)] n n g46 h47 (fun r49 g50 h51 => mf_MT C l e YX7_readSum [(2, x0), (0, mf_w32 (x1 + 1))] n n g50 h51 (fun r53 g54 h55 => ((x3 = 0 → mf_is n (g54 x0 0) 9 ∧ mf_MT C l 3 YX9_passSign [(2, g54 x0 0), (0, 41)] n n g54 h55 (fun r56 g57 h58 => K 0 g57 h58)) ∧ (¬ x3 = 0 → mf_is n (g54 x0 0) 9 ∧ mf_MT C l 3 YX9_passSign [(2, g54 x0 0), (0, 44)] n n g54 h55 (fun r60 g61 h62 => mf_MT C l e YX7_readSum [(2, x0), (0, mf_w32 (x1 + 1))] n n g61 h62 (fun r64 g65 h66 => ((¬ x2 = 10 → mf_is n (g65 x0 2) 4 ∧ mf_MT C l 0 YX4_add [(2, g65 x0 2), (0, 6)] n n g65 h66 (fun r67 g68 h69 => mf_is n (g68 x0 0) 9 ∧ mf_MT C l 3 YX9_passSign [(2, g68 x0 0), (0, 41)] n n g68 h69 (fun r71 g72 h73 => K 0 g72 h73))) ∧ (x2 = 10 → mf_is n (g65 x0 2) 4 ∧ mf_MT C l 0 YX4_add [(2, g65 x0 2), (0, 5)] n n g65 h66 (fun r75 g76 h77 => mf_is n (g76 x0 0) 9 ∧ mf_MT C l 3 YX9_passSign [(2, g76 x0 0), (0, 41)] n n g76 h77 (fun r79 g80 h81 => K 0 g80 h81))))))))))) ∧ (r45 = 0 → K 0 g46 h47))))))) : JX7_readPart_94 C l (e + 1) n K x0 x1 x2 x3 g h := by
  refine mf_aload_n (mf_dat eX7_readPart_p0 47 rfl) rfl rfl ?_
  obtain ⟨ck1, hyp⟩ := hyp
  refine mf_getf (r := (RX7, TX7, 4)) (ci := 7) (k := 0) (t := 2) (v := g x0 0) (mf_dat eX7_readPart_p0 48 rfl) fl_X7_13 rfl (by decide) rfl rfl ck1 ?_
  refine mf_bipush (v := 40) (mf_dat eX7_readPart_p0 49 rfl) (by decide) ?_
  obtain ⟨ck5, hyp⟩ := hyp
  refine mf_callV (Yc := YX9_isSign) (r := (RX9, TX9, 9)) (ci := 9) (mf_dat eX7_readPart_p0 50 rfl) ml_X7_92 okX9_isSign im_X9_isSign sl_X9_isSign rfl rfl rfl rfl (Nat.le_of_ble_eq_true rfl) (mf_rr (Nat.le_trans (by decide) hd) (Nat.le_refl _)) (Nat.le_refl _) ck5 hyp (fun r2 g3 h4 hyp => ?_)
  refine mf_if_eq (tgt := 183) (mf_dat eX7_readPart_p0 51 rfl) (by decide) (fun hc => ?_) (fun hc => ?_)
  · replace hyp := hyp.1 hc
    refine mf_iload_n (mf_dat eX7_readPart_p1 31 rfl) rfl rfl ?_
    refine mf_if_ne (tgt := 208) (mf_dat eX7_readPart_p1 32 rfl) (by decide) (fun hc => ?_) (fun hc => ?_)
    · replace hyp := hyp.1 hc
      refine mf_aload_n (mf_dat eX7_readPart_p1 45 rfl) rfl rfl ?_
      refine mf_getf (r := (RX7, TX7, 4)) (ci := 7) (k := 0) (t := 2) (v := g3 x0 0) (mf_dat eX7_readPart_p1 46 rfl) fl_X7_13 rfl (by decide) rfl rfl ck1 ?_
      refine mf_iconst (v := 1) (mf_dat eX7_readPart_p1 47 rfl) (by decide) ?_
      refine mf_aload_n (mf_dat eX7_readPart_p1 48 rfl) rfl rfl ?_
      refine mf_getf (r := (RX7, TX7, 4)) (ci := 7) (k := 0) (t := 2) (v := g3 x0 0) (mf_dat eX7_readPart_p1 49 rfl) fl_X7_13 rfl (by decide) rfl rfl ck1 ?_
      obtain ⟨ck6, hyp⟩ := hyp
      refine mf_getf (r := (RX9, TX9, 9)) (ci := 9) (k := 3) (t := 0) (v := h4 (g3 x0 0) 3) (mf_dat eX7_readPart_p1 50 rfl) fl_X7_53 rfl (by decide) rfl rfl ck6 ?_
      refine mf_callV (Yc := YX9_fail) (r := (RX9, TX9, 9)) (ci := 9) (mf_dat eX7_readPart_p1 51 rfl) ml_X7_56 okX9_fail im_X9_fail sl_X9_fail rfl rfl rfl rfl (Nat.le_of_ble_eq_true rfl) (mf_rr (Nat.le_trans (by decide) hd) (Nat.le_refl _)) (Nat.le_refl _) ck6 hyp (fun r7 g8 h9 hyp => ?_)
      refine mf_goto (tgt := 287) (mf_dat eX7_readPart_p1 52 rfl) (by decide) ?_
      exact mf_return (mf_dat eX7_readPart_p2 23 rfl) rfl hyp
    · replace hyp := hyp.2 hc
      refine mf_iload_n (mf_dat eX7_readPart_p1 33 rfl) rfl rfl ?_
      refine mf_if_lt (tgt := 208) (mf_dat eX7_readPart_p1 34 rfl) (by decide) (fun hc => ?_) (fun hc => ?_)
      · replace hyp := hyp.1 hc
        refine mf_aload_n (mf_dat eX7_readPart_p1 45 rfl) rfl rfl ?_
        refine mf_getf (r := (RX7, TX7, 4)) (ci := 7) (k := 0) (t := 2) (v := g3 x0 0) (mf_dat eX7_readPart_p1 46 rfl) fl_X7_13 rfl (by decide) rfl rfl ck1 ?_
        refine mf_iconst (v := 1) (mf_dat eX7_readPart_p1 47 rfl) (by decide) ?_
        refine mf_aload_n (mf_dat eX7_readPart_p1 48 rfl) rfl rfl ?_
        refine mf_getf (r := (RX7, TX7, 4)) (ci := 7) (k := 0) (t := 2) (v := g3 x0 0) (mf_dat eX7_readPart_p1 49 rfl) fl_X7_13 rfl (by decide) rfl rfl ck1 ?_
        obtain ⟨ck10, hyp⟩ := hyp
        refine mf_getf (r := (RX9, TX9, 9)) (ci := 9) (k := 3) (t := 0) (v := h4 (g3 x0 0) 3) (mf_dat eX7_readPart_p1 50 rfl) fl_X7_53 rfl (by decide) rfl rfl ck10 ?_
        refine mf_callV (Yc := YX9_fail) (r := (RX9, TX9, 9)) (ci := 9) (mf_dat eX7_readPart_p1 51 rfl) ml_X7_56 okX9_fail im_X9_fail sl_X9_fail rfl rfl rfl rfl (Nat.le_of_ble_eq_true rfl) (mf_rr (Nat.le_trans (by decide) hd) (Nat.le_refl _)) (Nat.le_refl _) ck10 hyp (fun r11 g12 h13 hyp => ?_)
        refine mf_goto (tgt := 287) (mf_dat eX7_readPart_p1 52 rfl) (by decide) ?_
        exact mf_return (mf_dat eX7_readPart_p2 23 rfl) rfl hyp
      · replace hyp := hyp.2 hc
        refine mf_iload_n (mf_dat eX7_readPart_p1 35 rfl) rfl rfl ?_
        refine mf_bipush (v := 9) (mf_dat eX7_readPart_p1 36 rfl) (by decide) ?_
        refine mf_icmp_gt (tgt := 208) (mf_dat eX7_readPart_p1 37 rfl) (by decide) (fun hc => ?_) (fun hc => ?_)
        · replace hyp := hyp.1 hc
          refine mf_aload_n (mf_dat eX7_readPart_p1 45 rfl) rfl rfl ?_
          refine mf_getf (r := (RX7, TX7, 4)) (ci := 7) (k := 0) (t := 2) (v := g3 x0 0) (mf_dat eX7_readPart_p1 46 rfl) fl_X7_13 rfl (by decide) rfl rfl ck1 ?_
          refine mf_iconst (v := 1) (mf_dat eX7_readPart_p1 47 rfl) (by decide) ?_
          refine mf_aload_n (mf_dat eX7_readPart_p1 48 rfl) rfl rfl ?_
          refine mf_getf (r := (RX7, TX7, 4)) (ci := 7) (k := 0) (t := 2) (v := g3 x0 0) (mf_dat eX7_readPart_p1 49 rfl) fl_X7_13 rfl (by decide) rfl rfl ck1 ?_
          obtain ⟨ck14, hyp⟩ := hyp
          refine mf_getf (r := (RX9, TX9, 9)) (ci := 9) (k := 3) (t := 0) (v := h4 (g3 x0 0) 3) (mf_dat eX7_readPart_p1 50 rfl) fl_X7_53 rfl (by decide) rfl rfl ck14 ?_
          refine mf_callV (Yc := YX9_fail) (r := (RX9, TX9, 9)) (ci := 9) (mf_dat eX7_readPart_p1 51 rfl) ml_X7_56 okX9_fail im_X9_fail sl_X9_fail rfl rfl rfl rfl (Nat.le_of_ble_eq_true rfl) (mf_rr (Nat.le_trans (by decide) hd) (Nat.le_refl _)) (Nat.le_refl _) ck14 hyp (fun r15 g16 h17 hyp => ?_)
          refine mf_goto (tgt := 287) (mf_dat eX7_readPart_p1 52 rfl) (by decide) ?_
          exact mf_return (mf_dat eX7_readPart_p2 23 rfl) rfl hyp
        · replace hyp := hyp.2 hc
          refine mf_aload_n (mf_dat eX7_readPart_p1 38 rfl) rfl rfl ?_
          refine mf_getf (r := (RX7, TX7, 4)) (ci := 7) (k := 3) (t := 0) (v := h4 x0 3) (mf_dat eX7_readPart_p1 39 rfl) fl_X7_25 rfl (by decide) rfl rfl ck1 ?_
          refine mf_iload_n (mf_dat eX7_readPart_p1 40 rfl) rfl rfl ?_
          refine mf_ishr (mf_dat eX7_readPart_p1 41 rfl) ?_
          refine mf_iconst (v := 1) (mf_dat eX7_readPart_p1 42 rfl) (by decide) ?_
          refine mf_iand (mf_dat eX7_readPart_p1 43 rfl) ?_
          refine mf_if_ne (tgt := 226) (mf_dat eX7_readPart_p1 44 rfl) (by decide) (fun hc => ?_) (fun hc => ?_)
          · replace hyp := hyp.1 hc
            refine mf_iload_n (mf_dat eX7_readPart_p1 53 rfl) rfl rfl ?_
            refine mf_bipush (v := 9) (mf_dat eX7_readPart_p1 54 rfl) (by decide) ?_
            refine mf_icmp_eq (tgt := 253) (mf_dat eX7_readPart_p1 55 rfl) (by decide) (fun hc => ?_) (fun hc => ?_)
            · replace hyp := hyp.1 hc
              refine mf_aload_n (mf_dat eX7_readPart_p2 6 rfl) rfl rfl ?_
              refine mf_getf (r := (RX7, TX7, 4)) (ci := 7) (k := 0) (t := 2) (v := g3 x0 0) (mf_dat eX7_readPart_p2 7 rfl) fl_X7_13 rfl (by decide) rfl rfl ck1 ?_
              refine mf_iload_n (mf_dat eX7_readPart_p2 8 rfl) rfl rfl ?_
              obtain ⟨ck21, hyp⟩ := hyp
              refine mf_callV (Yc := YX9_mayOpen) (r := (RX9, TX9, 9)) (ci := 9) (mf_dat eX7_readPart_p2 9 rfl) ml_X7_89 okX9_mayOpen im_X9_mayOpen sl_X9_mayOpen rfl rfl rfl rfl (Nat.le_of_ble_eq_true rfl) (mf_rr (Nat.le_trans (by decide) hd) (Nat.le_refl _)) (Nat.le_refl _) ck21 hyp (fun r18 g19 h20 hyp => ?_)
              refine mf_if_eq (tgt := 287) (mf_dat eX7_readPart_p2 10 rfl) (by decide) (fun hc => ?_) (fun hc => ?_)
              · replace hyp := hyp.1 hc
                exact mf_return (mf_dat eX7_readPart_p2 23 rfl) rfl hyp
              · replace hyp := hyp.2 hc
                refine mf_aload_n (mf_dat eX7_readPart_p2 11 rfl) rfl rfl ?_
                refine mf_getf (r := (RX7, TX7, 4)) (ci := 7) (k := 0) (t := 2) (v := g19 x0 0) (mf_dat eX7_readPart_p2 12 rfl) fl_X7_13 rfl (by decide) rfl rfl ck1 ?_
                obtain ⟨ck25, hyp⟩ := hyp
                refine mf_callV (Yc := YX9_step) (r := (RX9, TX9, 9)) (ci := 9) (mf_dat eX7_readPart_p2 13 rfl) ml_X7_60 okX9_step im_X9_step sl_X9_step rfl rfl rfl rfl (Nat.le_of_ble_eq_true rfl) (mf_rr (Nat.le_trans (by decide) hd) (Nat.le_refl _)) (Nat.le_refl _) ck25 hyp (fun r22 g23 h24 hyp => ?_)
                refine mf_aload_n (mf_dat eX7_readPart_p2 14 rfl) rfl rfl ?_
                refine mf_iload_n (mf_dat eX7_readPart_p2 15 rfl) rfl rfl ?_
                refine mf_iconst (v := 1) (mf_dat eX7_readPart_p2 16 rfl) (by decide) ?_
                refine mf_iadd (mf_dat eX7_readPart_p2 17 rfl) ?_
                refine mf_callV (Yc := YX7_readPart) (r := (RX7, TX7, 4)) (ci := 7) (mf_dat eX7_readPart_p2 18 rfl) ml_X7_104 okX7_readPart im_X7_readPart sl_X7_readPart rfl rfl rfl rfl (Nat.le_of_ble_eq_true rfl) (mf_rr (Nat.le_refl _) (Nat.le_refl _)) (Nat.le_refl _) ck1 hyp (fun r26 g27 h28 hyp => ?_)
                refine mf_aload_n (mf_dat eX7_readPart_p2 19 rfl) rfl rfl ?_
                refine mf_getf (r := (RX7, TX7, 4)) (ci := 7) (k := 2) (t := 2) (v := g27 x0 2) (mf_dat eX7_readPart_p2 20 rfl) fl_X7_21 rfl (by decide) rfl rfl ck1 ?_
                refine mf_bipush (v := 13) (mf_dat eX7_readPart_p2 21 rfl) (by decide) ?_
                obtain ⟨ck32, hyp⟩ := hyp
                refine mf_callV (Yc := YX4_add) (r := (RX4, TX4, 5)) (ci := 4) (mf_dat eX7_readPart_p2 22 rfl) ml_X7_82 okX4_add im_X4_add sl_X4_add rfl rfl rfl rfl (Nat.le_of_ble_eq_true rfl) (mf_rr (Nat.le_trans (by decide) hd) (Nat.le_refl _)) (Nat.le_refl _) ck32 hyp (fun r29 g30 h31 hyp => ?_)
                exact mf_return (mf_dat eX7_readPart_p2 23 rfl) rfl hyp
            · replace hyp := hyp.2 hc
              refine mf_aload_n (mf_dat eX7_readPart_p1 56 rfl) rfl rfl ?_
              refine mf_getf (r := (RX7, TX7, 4)) (ci := 7) (k := 2) (t := 2) (v := g3 x0 2) (mf_dat eX7_readPart_p1 57 rfl) fl_X7_21 rfl (by decide) rfl rfl ck1 ?_
              refine mf_bipush (v := 20) (mf_dat eX7_readPart_p1 58 rfl) (by decide) ?_
              refine mf_iload_n (mf_dat eX7_readPart_p1 59 rfl) rfl rfl ?_
              refine mf_iadd (mf_dat eX7_readPart_p2 0 rfl) ?_
              obtain ⟨ck36, hyp⟩ := hyp
              refine mf_callV (Yc := YX4_add) (r := (RX4, TX4, 5)) (ci := 4) (mf_dat eX7_readPart_p2 1 rfl) ml_X7_82 okX4_add im_X4_add sl_X4_add rfl rfl rfl rfl (Nat.le_of_ble_eq_true rfl) (mf_rr (Nat.le_trans (by decide) hd) (Nat.le_refl _)) (Nat.le_refl _) ck36 hyp (fun r33 g34 h35 hyp => ?_)
              refine mf_aload_n (mf_dat eX7_readPart_p2 2 rfl) rfl rfl ?_
              refine mf_getf (r := (RX7, TX7, 4)) (ci := 7) (k := 0) (t := 2) (v := g34 x0 0) (mf_dat eX7_readPart_p2 3 rfl) fl_X7_13 rfl (by decide) rfl rfl ck1 ?_
              obtain ⟨ck40, hyp⟩ := hyp
              refine mf_callV (Yc := YX9_step) (r := (RX9, TX9, 9)) (ci := 9) (mf_dat eX7_readPart_p2 4 rfl) ml_X7_60 okX9_step im_X9_step sl_X9_step rfl rfl rfl rfl (Nat.le_of_ble_eq_true rfl) (mf_rr (Nat.le_trans (by decide) hd) (Nat.le_refl _)) (Nat.le_refl _) ck40 hyp (fun r37 g38 h39 hyp => ?_)
              refine mf_goto (tgt := 287) (mf_dat eX7_readPart_p2 5 rfl) (by decide) ?_
              exact mf_return (mf_dat eX7_readPart_p2 23 rfl) rfl hyp
          · replace hyp := hyp.2 hc
            refine mf_aload_n (mf_dat eX7_readPart_p1 45 rfl) rfl rfl ?_
            refine mf_getf (r := (RX7, TX7, 4)) (ci := 7) (k := 0) (t := 2) (v := g3 x0 0) (mf_dat eX7_readPart_p1 46 rfl) fl_X7_13 rfl (by decide) rfl rfl ck1 ?_
            refine mf_iconst (v := 1) (mf_dat eX7_readPart_p1 47 rfl) (by decide) ?_
            refine mf_aload_n (mf_dat eX7_readPart_p1 48 rfl) rfl rfl ?_
            refine mf_getf (r := (RX7, TX7, 4)) (ci := 7) (k := 0) (t := 2) (v := g3 x0 0) (mf_dat eX7_readPart_p1 49 rfl) fl_X7_13 rfl (by decide) rfl rfl ck1 ?_
            obtain ⟨ck41, hyp⟩ := hyp
            refine mf_getf (r := (RX9, TX9, 9)) (ci := 9) (k := 3) (t := 0) (v := h4 (g3 x0 0) 3) (mf_dat eX7_readPart_p1 50 rfl) fl_X7_53 rfl (by decide) rfl rfl ck41 ?_
            refine mf_callV (Yc := YX9_fail) (r := (RX9, TX9, 9)) (ci := 9) (mf_dat eX7_readPart_p1 51 rfl) ml_X7_56 okX9_fail im_X9_fail sl_X9_fail rfl rfl rfl rfl (Nat.le_of_ble_eq_true rfl) (mf_rr (Nat.le_trans (by decide) hd) (Nat.le_refl _)) (Nat.le_refl _) ck41 hyp (fun r42 g43 h44 hyp => ?_)
            refine mf_goto (tgt := 287) (mf_dat eX7_readPart_p1 52 rfl) (by decide) ?_
            exact mf_return (mf_dat eX7_readPart_p2 23 rfl) rfl hyp
  · replace hyp := hyp.2 hc
    refine mf_aload_n (mf_dat eX7_readPart_p0 52 rfl) rfl rfl ?_
    refine mf_getf (r := (RX7, TX7, 4)) (ci := 7) (k := 0) (t := 2) (v := g3 x0 0) (mf_dat eX7_readPart_p0 53 rfl) fl_X7_13 rfl (by decide) rfl rfl ck1 ?_
    refine mf_iload_n (mf_dat eX7_readPart_p0 54 rfl) rfl rfl ?_
    obtain ⟨ck48, hyp⟩ := hyp
    refine mf_callV (Yc := YX9_mayOpen) (r := (RX9, TX9, 9)) (ci := 9) (mf_dat eX7_readPart_p0 55 rfl) ml_X7_89 okX9_mayOpen im_X9_mayOpen sl_X9_mayOpen rfl rfl rfl rfl (Nat.le_of_ble_eq_true rfl) (mf_rr (Nat.le_trans (by decide) hd) (Nat.le_refl _)) (Nat.le_refl _) ck48 hyp (fun r45 g46 h47 hyp => ?_)
    refine mf_if_ne (tgt := 118) (mf_dat eX7_readPart_p0 56 rfl) (by decide) (fun hc => ?_) (fun hc => ?_)
    · replace hyp := hyp.1 hc
      refine mf_aload_n (mf_dat eX7_readPart_p0 58 rfl) rfl rfl ?_
      refine mf_getf (r := (RX7, TX7, 4)) (ci := 7) (k := 0) (t := 2) (v := g46 x0 0) (mf_dat eX7_readPart_p0 59 rfl) fl_X7_13 rfl (by decide) rfl rfl ck1 ?_
      obtain ⟨ck52, hyp⟩ := hyp
      refine mf_callV (Yc := YX9_step) (r := (RX9, TX9, 9)) (ci := 9) (mf_dat eX7_readPart_p1 0 rfl) ml_X7_60 okX9_step im_X9_step sl_X9_step rfl rfl rfl rfl (Nat.le_of_ble_eq_true rfl) (mf_rr (Nat.le_trans (by decide) hd) (Nat.le_refl _)) (Nat.le_refl _) ck52 hyp (fun r49 g50 h51 hyp => ?_)
      refine mf_aload_n (mf_dat eX7_readPart_p1 1 rfl) rfl rfl ?_
      refine mf_iload_n (mf_dat eX7_readPart_p1 2 rfl) rfl rfl ?_
      refine mf_iconst (v := 1) (mf_dat eX7_readPart_p1 3 rfl) (by decide) ?_
      refine mf_iadd (mf_dat eX7_readPart_p1 4 rfl) ?_
      refine mf_callV (Yc := YX7_readSum) (r := (RX7, TX7, 4)) (ci := 7) (mf_dat eX7_readPart_p1 5 rfl) ml_X7_70 okX7_readSum im_X7_readSum sl_X7_readSum rfl rfl rfl rfl (Nat.le_of_ble_eq_true rfl) (mf_rr (Nat.le_refl _) (Nat.le_refl _)) (Nat.le_refl _) ck1 hyp (fun r53 g54 h55 hyp => ?_)
      refine mf_iload_n (mf_dat eX7_readPart_p1 6 rfl) rfl rfl ?_
      refine mf_if_eq (tgt := 171) (mf_dat eX7_readPart_p1 7 rfl) (by decide) (fun hc => ?_) (fun hc => ?_)
      · replace hyp := hyp.1 hc
        refine mf_aload_n (mf_dat eX7_readPart_p1 26 rfl) rfl rfl ?_
        refine mf_getf (r := (RX7, TX7, 4)) (ci := 7) (k := 0) (t := 2) (v := g54 x0 0) (mf_dat eX7_readPart_p1 27 rfl) fl_X7_13 rfl (by decide) rfl rfl ck1 ?_
        refine mf_bipush (v := 41) (mf_dat eX7_readPart_p1 28 rfl) (by decide) ?_
        obtain ⟨ck59, hyp⟩ := hyp
        refine mf_callV (Yc := YX9_passSign) (r := (RX9, TX9, 9)) (ci := 9) (mf_dat eX7_readPart_p1 29 rfl) ml_X7_96 okX9_passSign im_X9_passSign sl_X9_passSign rfl rfl rfl rfl (Nat.le_of_ble_eq_true rfl) (mf_rr (Nat.le_trans (by decide) hd) (Nat.le_refl _)) (Nat.le_refl _) ck59 hyp (fun r56 g57 h58 hyp => ?_)
        refine mf_goto (tgt := 287) (mf_dat eX7_readPart_p1 30 rfl) (by decide) ?_
        exact mf_return (mf_dat eX7_readPart_p2 23 rfl) rfl hyp
      · replace hyp := hyp.2 hc
        refine mf_aload_n (mf_dat eX7_readPart_p1 8 rfl) rfl rfl ?_
        refine mf_getf (r := (RX7, TX7, 4)) (ci := 7) (k := 0) (t := 2) (v := g54 x0 0) (mf_dat eX7_readPart_p1 9 rfl) fl_X7_13 rfl (by decide) rfl rfl ck1 ?_
        refine mf_bipush (v := 44) (mf_dat eX7_readPart_p1 10 rfl) (by decide) ?_
        obtain ⟨ck63, hyp⟩ := hyp
        refine mf_callV (Yc := YX9_passSign) (r := (RX9, TX9, 9)) (ci := 9) (mf_dat eX7_readPart_p1 11 rfl) ml_X7_96 okX9_passSign im_X9_passSign sl_X9_passSign rfl rfl rfl rfl (Nat.le_of_ble_eq_true rfl) (mf_rr (Nat.le_trans (by decide) hd) (Nat.le_refl _)) (Nat.le_refl _) ck63 hyp (fun r60 g61 h62 hyp => ?_)
        refine mf_aload_n (mf_dat eX7_readPart_p1 12 rfl) rfl rfl ?_
        refine mf_iload_n (mf_dat eX7_readPart_p1 13 rfl) rfl rfl ?_
        refine mf_iconst (v := 1) (mf_dat eX7_readPart_p1 14 rfl) (by decide) ?_
        refine mf_iadd (mf_dat eX7_readPart_p1 15 rfl) ?_
        refine mf_callV (Yc := YX7_readSum) (r := (RX7, TX7, 4)) (ci := 7) (mf_dat eX7_readPart_p1 16 rfl) ml_X7_70 okX7_readSum im_X7_readSum sl_X7_readSum rfl rfl rfl rfl (Nat.le_of_ble_eq_true rfl) (mf_rr (Nat.le_refl _) (Nat.le_refl _)) (Nat.le_refl _) ck1 hyp (fun r64 g65 h66 hyp => ?_)
        refine mf_aload_n (mf_dat eX7_readPart_p1 17 rfl) rfl rfl ?_
        refine mf_getf (r := (RX7, TX7, 4)) (ci := 7) (k := 2) (t := 2) (v := g65 x0 2) (mf_dat eX7_readPart_p1 18 rfl) fl_X7_21 rfl (by decide) rfl rfl ck1 ?_
        refine mf_iload_n (mf_dat eX7_readPart_p1 19 rfl) rfl rfl ?_
        refine mf_bipush (v := 10) (mf_dat eX7_readPart_p1 20 rfl) (by decide) ?_
        refine mf_icmp_ne (tgt := 166) (mf_dat eX7_readPart_p1 21 rfl) (by decide) (fun hc => ?_) (fun hc => ?_)
        · replace hyp := hyp.1 hc
          refine mf_bipush (v := 6) (mf_dat eX7_readPart_p1 24 rfl) (by decide) ?_
          obtain ⟨ck70, hyp⟩ := hyp
          refine mf_callV (Yc := YX4_add) (r := (RX4, TX4, 5)) (ci := 4) (mf_dat eX7_readPart_p1 25 rfl) ml_X7_82 okX4_add im_X4_add sl_X4_add rfl rfl rfl rfl (Nat.le_of_ble_eq_true rfl) (mf_rr (Nat.le_trans (by decide) hd) (Nat.le_refl _)) (Nat.le_refl _) ck70 hyp (fun r67 g68 h69 hyp => ?_)
          refine mf_aload_n (mf_dat eX7_readPart_p1 26 rfl) rfl rfl ?_
          refine mf_getf (r := (RX7, TX7, 4)) (ci := 7) (k := 0) (t := 2) (v := g68 x0 0) (mf_dat eX7_readPart_p1 27 rfl) fl_X7_13 rfl (by decide) rfl rfl ck1 ?_
          refine mf_bipush (v := 41) (mf_dat eX7_readPart_p1 28 rfl) (by decide) ?_
          obtain ⟨ck74, hyp⟩ := hyp
          refine mf_callV (Yc := YX9_passSign) (r := (RX9, TX9, 9)) (ci := 9) (mf_dat eX7_readPart_p1 29 rfl) ml_X7_96 okX9_passSign im_X9_passSign sl_X9_passSign rfl rfl rfl rfl (Nat.le_of_ble_eq_true rfl) (mf_rr (Nat.le_trans (by decide) hd) (Nat.le_refl _)) (Nat.le_refl _) ck74 hyp (fun r71 g72 h73 hyp => ?_)
          refine mf_goto (tgt := 287) (mf_dat eX7_readPart_p1 30 rfl) (by decide) ?_
          exact mf_return (mf_dat eX7_readPart_p2 23 rfl) rfl hyp
        · replace hyp := hyp.2 hc
          refine mf_iconst (v := 5) (mf_dat eX7_readPart_p1 22 rfl) (by decide) ?_
          refine mf_goto (tgt := 168) (mf_dat eX7_readPart_p1 23 rfl) (by decide) ?_
          obtain ⟨ck78, hyp⟩ := hyp
          refine mf_callV (Yc := YX4_add) (r := (RX4, TX4, 5)) (ci := 4) (mf_dat eX7_readPart_p1 25 rfl) ml_X7_82 okX4_add im_X4_add sl_X4_add rfl rfl rfl rfl (Nat.le_of_ble_eq_true rfl) (mf_rr (Nat.le_trans (by decide) hd) (Nat.le_refl _)) (Nat.le_refl _) ck78 hyp (fun r75 g76 h77 hyp => ?_)
          refine mf_aload_n (mf_dat eX7_readPart_p1 26 rfl) rfl rfl ?_
          refine mf_getf (r := (RX7, TX7, 4)) (ci := 7) (k := 0) (t := 2) (v := g76 x0 0) (mf_dat eX7_readPart_p1 27 rfl) fl_X7_13 rfl (by decide) rfl rfl ck1 ?_
          refine mf_bipush (v := 41) (mf_dat eX7_readPart_p1 28 rfl) (by decide) ?_
          obtain ⟨ck82, hyp⟩ := hyp
          refine mf_callV (Yc := YX9_passSign) (r := (RX9, TX9, 9)) (ci := 9) (mf_dat eX7_readPart_p1 29 rfl) ml_X7_96 okX9_passSign im_X9_passSign sl_X9_passSign rfl rfl rfl rfl (Nat.le_of_ble_eq_true rfl) (mf_rr (Nat.le_trans (by decide) hd) (Nat.le_refl _)) (Nat.le_refl _) ck82 hyp (fun r79 g80 h81 hyp => ?_)
          refine mf_goto (tgt := 287) (mf_dat eX7_readPart_p1 30 rfl) (by decide) ?_
          exact mf_return (mf_dat eX7_readPart_p2 23 rfl) rfl hyp
    · replace hyp := hyp.2 hc
      exact mf_return (mf_dat eX7_readPart_p0 57 rfl) rfl hyp
set_option maxRecDepth 100000 in
set_option maxHeartbeats 4000000 in
theorem mX7_readPart {C : mf_G} {l : Launch} {e n : Nat} {K : mf_Kt} {x0 x1 : Int} {g h : mf_M} (hd : 4 ≤ e + 1) (hyp : mf_is n x0 7 ∧ mf_is n (g x0 0) 9 ∧ ((¬ h (g x0 0) 2 = 2 → ((¬ h (g x0 0) 2 = 1 → JX7_readPart_64 C l (e + 1) n K x0 x1 (-1) g h) ∧ (h (g x0 0) 2 = 1 → mf_is n (g x0 1) 10 ∧ mf_MT C l 0 YX10_find [(2, g x0 1), (0, h (g x0 0) 5)] n n g h (fun r3 g4 h5 => JX7_readPart_64 C l (e + 1) n K x0 x1 r3 g4 h5)))) ∧ (h (g x0 0) 2 = 2 → mf_MT C l 3 YX9_passNumber [(2, g x0 0)] n n g h (fun r7 g8 h9 => mf_MT C l 0 YJ9_max_7cf53 [(0, 0), (0, r7)] n n g8 h9 (fun r10 g11 h12 => mf_is n (g8 x0 2) 4 ∧ mf_MT C l 0 YX4_add [(2, g8 x0 2), (0, mf_w32 (40 + r10))] n n g11 h12 (fun r13 g14 h15 => K 0 g14 h15)))))) : mf_MT C l (e + 1) YX7_readPart [(2, x0), (0, x1)] n n g h K := by
  refine mf_entry (by decide) (Nat.le_of_ble_eq_true rfl) ?_
  refine mf_aload_n (mf_dat eX7_readPart_p0 0 rfl) rfl rfl ?_
  obtain ⟨ck1, hyp⟩ := hyp
  refine mf_getf (r := (RX7, TX7, 4)) (ci := 7) (k := 0) (t := 2) (v := g x0 0) (mf_dat eX7_readPart_p0 1 rfl) fl_X7_13 rfl (by decide) rfl rfl ck1 ?_
  obtain ⟨ck2, hyp⟩ := hyp
  refine mf_getf (r := (RX9, TX9, 9)) (ci := 9) (k := 2) (t := 0) (v := h (g x0 0) 2) (mf_dat eX7_readPart_p0 2 rfl) fl_X7_43 rfl (by decide) rfl rfl ck2 ?_
  refine mf_iconst (v := 2) (mf_dat eX7_readPart_p0 3 rfl) (by decide) ?_
  refine mf_icmp_ne (tgt := 35) (mf_dat eX7_readPart_p0 4 rfl) (by decide) (fun hc => ?_) (fun hc => ?_)
  · replace hyp := hyp.1 hc
    refine mf_aload_n (mf_dat eX7_readPart_p0 18 rfl) rfl rfl ?_
    refine mf_getf (r := (RX7, TX7, 4)) (ci := 7) (k := 0) (t := 2) (v := g x0 0) (mf_dat eX7_readPart_p0 19 rfl) fl_X7_13 rfl (by decide) rfl rfl ck1 ?_
    refine mf_getf (r := (RX9, TX9, 9)) (ci := 9) (k := 2) (t := 0) (v := h (g x0 0) 2) (mf_dat eX7_readPart_p0 20 rfl) fl_X7_43 rfl (by decide) rfl rfl ck2 ?_
    refine mf_iconst (v := 1) (mf_dat eX7_readPart_p0 21 rfl) (by decide) ?_
    refine mf_icmp_ne (tgt := 63) (mf_dat eX7_readPart_p0 22 rfl) (by decide) (fun hc => ?_) (fun hc => ?_)
    · replace hyp := hyp.1 hc
      refine mf_iconst (v := (-1)) (mf_dat eX7_readPart_p0 30 rfl) (by decide) ?_
      exact mf_sub [0, 1] rfl hyp
    · replace hyp := hyp.2 hc
      refine mf_aload_n (mf_dat eX7_readPart_p0 23 rfl) rfl rfl ?_
      refine mf_getf (r := (RX7, TX7, 4)) (ci := 7) (k := 1) (t := 2) (v := g x0 1) (mf_dat eX7_readPart_p0 24 rfl) fl_X7_17 rfl (by decide) rfl rfl ck1 ?_
      refine mf_aload_n (mf_dat eX7_readPart_p0 25 rfl) rfl rfl ?_
      refine mf_getf (r := (RX7, TX7, 4)) (ci := 7) (k := 0) (t := 2) (v := g x0 0) (mf_dat eX7_readPart_p0 26 rfl) fl_X7_13 rfl (by decide) rfl rfl ck1 ?_
      refine mf_getf (r := (RX9, TX9, 9)) (ci := 9) (k := 5) (t := 0) (v := h (g x0 0) 5) (mf_dat eX7_readPart_p0 27 rfl) fl_X7_46 rfl (by decide) rfl rfl ck2 ?_
      obtain ⟨ck6, hyp⟩ := hyp
      refine mf_callV (Yc := YX10_find) (r := (RX10, TX10, 1)) (ci := 10) (mf_dat eX7_readPart_p0 28 rfl) ml_X7_49 okX10_find im_X10_find sl_X10_find rfl rfl rfl rfl (Nat.le_of_ble_eq_true rfl) (mf_rr (Nat.le_trans (by decide) hd) (Nat.le_refl _)) (Nat.le_refl _) ck6 hyp (fun r3 g4 h5 hyp => ?_)
      refine mf_goto (tgt := 64) (mf_dat eX7_readPart_p0 29 rfl) (by decide) ?_
      exact mf_sub [0, 1] rfl hyp
  · replace hyp := hyp.2 hc
    refine mf_aload_n (mf_dat eX7_readPart_p0 5 rfl) rfl rfl ?_
    refine mf_getf (r := (RX7, TX7, 4)) (ci := 7) (k := 0) (t := 2) (v := g x0 0) (mf_dat eX7_readPart_p0 6 rfl) fl_X7_13 rfl (by decide) rfl rfl ck1 ?_
    refine mf_callV (Yc := YX9_passNumber) (r := (RX9, TX9, 9)) (ci := 9) (mf_dat eX7_readPart_p0 7 rfl) ml_X7_113 okX9_passNumber im_X9_passNumber sl_X9_passNumber rfl rfl rfl rfl (Nat.le_of_ble_eq_true rfl) (mf_rr (Nat.le_trans (by decide) hd) (Nat.le_refl _)) (Nat.le_refl _) ck2 hyp (fun r7 g8 h9 hyp => ?_)
    refine mf_istore_n (mf_dat eX7_readPart_p0 8 rfl) rfl (by decide) ?_
    refine mf_aload_n (mf_dat eX7_readPart_p0 9 rfl) rfl rfl ?_
    refine mf_getf (r := (RX7, TX7, 4)) (ci := 7) (k := 2) (t := 2) (v := g8 x0 2) (mf_dat eX7_readPart_p0 10 rfl) fl_X7_21 rfl (by decide) rfl rfl ck1 ?_
    refine mf_bipush (v := 40) (mf_dat eX7_readPart_p0 11 rfl) (by decide) ?_
    refine mf_iconst (v := 0) (mf_dat eX7_readPart_p0 12 rfl) (by decide) ?_
    refine mf_iload_n (mf_dat eX7_readPart_p0 13 rfl) rfl rfl ?_
    refine mf_callS (Yc := YJ9_max_7cf53) (mf_dat eX7_readPart_p0 14 rfl) ml_X7_116 okJ9_max_7cf53 sm_J9_max_7cf53 rfl rfl (Nat.le_of_ble_eq_true rfl) (mf_rr (Nat.le_trans (by decide) hd) (Nat.le_refl _)) (Nat.le_refl _) hyp (fun r10 g11 h12 hyp => ?_)
    refine mf_iadd (mf_dat eX7_readPart_p0 15 rfl) ?_
    obtain ⟨ck16, hyp⟩ := hyp
    refine mf_callV (Yc := YX4_add) (r := (RX4, TX4, 5)) (ci := 4) (mf_dat eX7_readPart_p0 16 rfl) ml_X7_82 okX4_add im_X4_add sl_X4_add rfl rfl rfl rfl (Nat.le_of_ble_eq_true rfl) (mf_rr (Nat.le_trans (by decide) hd) (Nat.le_refl _)) (Nat.le_refl _) ck16 hyp (fun r13 g14 h15 hyp => ?_)
    exact mf_return (mf_dat eX7_readPart_p0 17 rfl) rfl hyp
set_option maxRecDepth 100000 in
set_option maxHeartbeats 4000000 in
theorem mX7_compareSign {C : mf_G} {l : Launch} {d n : Nat} {K : mf_Kt} {x0 : Int} {g h : mf_M} (hyp : mf_is n x0 7 ∧ mf_is n (g x0 0) 9 ∧ ((h (g x0 0) 2 = 3 → ((h (g x0 0) 5 = 60 → K 7 g h) ∧ (h (g x0 0) 5 = 61 → K 9 g h) ∧ (h (g x0 0) 5 = 62 → K 8 g h) ∧ ((h (g x0 0) 5 < 60 ∨ 62 < h (g x0 0) 5) → K (-1) g h))) ∧ (¬ h (g x0 0) 2 = 3 → K (-1) g h))) : mf_MT C l d YX7_compareSign [(2, x0)] n n g h K := by
  refine mf_entry (by decide) (Nat.le_of_ble_eq_true rfl) ?_
  refine mf_aload_n (mf_dat eX7_compareSign 0 rfl) rfl rfl ?_
  obtain ⟨ck1, hyp⟩ := hyp
  refine mf_getf (r := (RX7, TX7, 4)) (ci := 7) (k := 0) (t := 2) (v := g x0 0) (mf_dat eX7_compareSign 1 rfl) fl_X7_13 rfl (by decide) rfl rfl ck1 ?_
  obtain ⟨ck2, hyp⟩ := hyp
  refine mf_getf (r := (RX9, TX9, 9)) (ci := 9) (k := 2) (t := 0) (v := h (g x0 0) 2) (mf_dat eX7_compareSign 2 rfl) fl_X7_43 rfl (by decide) rfl rfl ck2 ?_
  refine mf_iconst (v := 3) (mf_dat eX7_compareSign 3 rfl) (by decide) ?_
  refine mf_icmp_eq (tgt := 13) (mf_dat eX7_compareSign 4 rfl) (by decide) (fun hc => ?_) (fun hc => ?_)
  · replace hyp := hyp.1 hc
    refine mf_aload_n (mf_dat eX7_compareSign 7 rfl) rfl rfl ?_
    refine mf_getf (r := (RX7, TX7, 4)) (ci := 7) (k := 0) (t := 2) (v := g x0 0) (mf_dat eX7_compareSign 8 rfl) fl_X7_13 rfl (by decide) rfl rfl ck1 ?_
    refine mf_getf (r := (RX9, TX9, 9)) (ci := 9) (k := 5) (t := 0) (v := h (g x0 0) 5) (mf_dat eX7_compareSign 9 rfl) fl_X7_46 rfl (by decide) rfl rfl ck2 ?_
    refine mf_tsw1 (v := 60) (tgt := 48) (mf_dat eX7_compareSign 10 rfl) (by decide) (by decide) (off := 28) (by decide) (by decide) (fun hc => ?_) (fun hc0 => ?_)
    · replace hyp := hyp.1 hc
      refine mf_bipush (v := 7) (mf_dat eX7_compareSign 11 rfl) (by decide) ?_
      exact mf_ireturn (mf_dat eX7_compareSign 12 rfl) rfl (Or.inl rfl) hyp
    replace hyp := hyp.2
    refine mf_tsw1 (v := 61) (tgt := 54) (mf_dat eX7_compareSign 10 rfl) (by decide) (by decide) (off := 34) (by decide) (by decide) (fun hc => ?_) (fun hc1 => ?_)
    · replace hyp := hyp.1 hc
      refine mf_bipush (v := 9) (mf_dat eX7_compareSign 15 rfl) (by decide) ?_
      exact mf_ireturn (mf_dat eX7_compareSign 16 rfl) rfl (Or.inl rfl) hyp
    replace hyp := hyp.2
    refine mf_tsw1 (v := 62) (tgt := 51) (mf_dat eX7_compareSign 10 rfl) (by decide) (by decide) (off := 31) (by decide) (by decide) (fun hc => ?_) (fun hc2 => ?_)
    · replace hyp := hyp.1 hc
      refine mf_bipush (v := 8) (mf_dat eX7_compareSign 13 rfl) (by decide) ?_
      exact mf_ireturn (mf_dat eX7_compareSign 14 rfl) rfl (Or.inl rfl) hyp
    replace hyp := hyp.2
    refine mf_tswO (tgt := 57) (mf_dat eX7_compareSign 10 rfl) (by omega) (by decide) ?_
    replace hyp := hyp (by omega)
    refine mf_iconst (v := (-1)) (mf_dat eX7_compareSign 17 rfl) (by decide) ?_
    exact mf_ireturn (mf_dat eX7_compareSign 18 rfl) rfl (Or.inl rfl) hyp
  · replace hyp := hyp.2 hc
    refine mf_iconst (v := (-1)) (mf_dat eX7_compareSign 5 rfl) (by decide) ?_
    exact mf_ireturn (mf_dat eX7_compareSign 6 rfl) rfl (Or.inl rfl) hyp
set_option maxRecDepth 100000 in
set_option maxHeartbeats 4000000 in
theorem mX7_sumSign {C : mf_G} {l : Launch} {d n : Nat} {K : mf_Kt} {x0 : Int} {g h : mf_M} (hd : 1 ≤ d) (hyp : mf_is n x0 7 ∧ mf_is n (g x0 0) 9 ∧ mf_MT C l 0 YX9_isSign [(2, g x0 0), (0, 43)] n n g h (fun r2 g3 h4 => ((r2 = 0 → mf_is n (g3 x0 0) 9 ∧ mf_MT C l 0 YX9_isSign [(2, g3 x0 0), (0, 45)] n n g3 h4 (fun r6 g7 h8 => ((r6 = 0 → K (-1) g7 h8) ∧ (¬ r6 = 0 → K 2 g7 h8)))) ∧ (¬ r2 = 0 → K 1 g3 h4)))) : mf_MT C l d YX7_sumSign [(2, x0)] n n g h K := by
  refine mf_entry (by decide) (Nat.le_of_ble_eq_true rfl) ?_
  refine mf_aload_n (mf_dat eX7_sumSign 0 rfl) rfl rfl ?_
  obtain ⟨ck1, hyp⟩ := hyp
  refine mf_getf (r := (RX7, TX7, 4)) (ci := 7) (k := 0) (t := 2) (v := g x0 0) (mf_dat eX7_sumSign 1 rfl) fl_X7_13 rfl (by decide) rfl rfl ck1 ?_
  refine mf_bipush (v := 43) (mf_dat eX7_sumSign 2 rfl) (by decide) ?_
  obtain ⟨ck5, hyp⟩ := hyp
  refine mf_callV (Yc := YX9_isSign) (r := (RX9, TX9, 9)) (ci := 9) (mf_dat eX7_sumSign 3 rfl) ml_X7_92 okX9_isSign im_X9_isSign sl_X9_isSign rfl rfl rfl rfl (Nat.le_of_ble_eq_true rfl) (mf_rr (Nat.le_trans (by decide) hd) (Nat.le_refl _)) (Nat.le_refl _) ck5 hyp (fun r2 g3 h4 hyp => ?_)
  refine mf_if_eq (tgt := 14) (mf_dat eX7_sumSign 4 rfl) (by decide) (fun hc => ?_) (fun hc => ?_)
  · replace hyp := hyp.1 hc
    refine mf_aload_n (mf_dat eX7_sumSign 7 rfl) rfl rfl ?_
    refine mf_getf (r := (RX7, TX7, 4)) (ci := 7) (k := 0) (t := 2) (v := g3 x0 0) (mf_dat eX7_sumSign 8 rfl) fl_X7_13 rfl (by decide) rfl rfl ck1 ?_
    refine mf_bipush (v := 45) (mf_dat eX7_sumSign 9 rfl) (by decide) ?_
    obtain ⟨ck9, hyp⟩ := hyp
    refine mf_callV (Yc := YX9_isSign) (r := (RX9, TX9, 9)) (ci := 9) (mf_dat eX7_sumSign 10 rfl) ml_X7_92 okX9_isSign im_X9_isSign sl_X9_isSign rfl rfl rfl rfl (Nat.le_of_ble_eq_true rfl) (mf_rr (Nat.le_trans (by decide) hd) (Nat.le_refl _)) (Nat.le_refl _) ck9 hyp (fun r6 g7 h8 hyp => ?_)
    refine mf_if_eq (tgt := 30) (mf_dat eX7_sumSign 11 rfl) (by decide) (fun hc => ?_) (fun hc => ?_)
    · replace hyp := hyp.1 hc
      refine mf_iconst (v := (-1)) (mf_dat eX7_sumSign 14 rfl) (by decide) ?_
      exact mf_ireturn (mf_dat eX7_sumSign 15 rfl) rfl (Or.inl rfl) hyp
    · replace hyp := hyp.2 hc
      refine mf_iconst (v := 2) (mf_dat eX7_sumSign 12 rfl) (by decide) ?_
      refine mf_goto (tgt := 31) (mf_dat eX7_sumSign 13 rfl) (by decide) ?_
      exact mf_ireturn (mf_dat eX7_sumSign 15 rfl) rfl (Or.inl rfl) hyp
  · replace hyp := hyp.2 hc
    refine mf_iconst (v := 1) (mf_dat eX7_sumSign 5 rfl) (by decide) ?_
    exact mf_ireturn (mf_dat eX7_sumSign 6 rfl) rfl (Or.inl rfl) hyp
set_option maxRecDepth 100000 in
set_option maxHeartbeats 4000000 in
theorem mX7_productSign {C : mf_G} {l : Launch} {d n : Nat} {K : mf_Kt} {x0 : Int} {g h : mf_M} (hd : 1 ≤ d) (hyp : mf_is n x0 7 ∧ mf_is n (g x0 0) 9 ∧ mf_MT C l 0 YX9_isSign [(2, g x0 0), (0, 42)] n n g h (fun r2 g3 h4 => ((r2 = 0 → mf_is n (g3 x0 0) 9 ∧ mf_MT C l 0 YX9_isSign [(2, g3 x0 0), (0, 47)] n n g3 h4 (fun r6 g7 h8 => ((r6 = 0 → K (-1) g7 h8) ∧ (¬ r6 = 0 → K 4 g7 h8)))) ∧ (¬ r2 = 0 → K 3 g3 h4)))) : mf_MT C l d YX7_productSign [(2, x0)] n n g h K := by
  refine mf_entry (by decide) (Nat.le_of_ble_eq_true rfl) ?_
  refine mf_aload_n (mf_dat eX7_productSign 0 rfl) rfl rfl ?_
  obtain ⟨ck1, hyp⟩ := hyp
  refine mf_getf (r := (RX7, TX7, 4)) (ci := 7) (k := 0) (t := 2) (v := g x0 0) (mf_dat eX7_productSign 1 rfl) fl_X7_13 rfl (by decide) rfl rfl ck1 ?_
  refine mf_bipush (v := 42) (mf_dat eX7_productSign 2 rfl) (by decide) ?_
  obtain ⟨ck5, hyp⟩ := hyp
  refine mf_callV (Yc := YX9_isSign) (r := (RX9, TX9, 9)) (ci := 9) (mf_dat eX7_productSign 3 rfl) ml_X7_92 okX9_isSign im_X9_isSign sl_X9_isSign rfl rfl rfl rfl (Nat.le_of_ble_eq_true rfl) (mf_rr (Nat.le_trans (by decide) hd) (Nat.le_refl _)) (Nat.le_refl _) ck5 hyp (fun r2 g3 h4 hyp => ?_)
  refine mf_if_eq (tgt := 14) (mf_dat eX7_productSign 4 rfl) (by decide) (fun hc => ?_) (fun hc => ?_)
  · replace hyp := hyp.1 hc
    refine mf_aload_n (mf_dat eX7_productSign 7 rfl) rfl rfl ?_
    refine mf_getf (r := (RX7, TX7, 4)) (ci := 7) (k := 0) (t := 2) (v := g3 x0 0) (mf_dat eX7_productSign 8 rfl) fl_X7_13 rfl (by decide) rfl rfl ck1 ?_
    refine mf_bipush (v := 47) (mf_dat eX7_productSign 9 rfl) (by decide) ?_
    obtain ⟨ck9, hyp⟩ := hyp
    refine mf_callV (Yc := YX9_isSign) (r := (RX9, TX9, 9)) (ci := 9) (mf_dat eX7_productSign 10 rfl) ml_X7_92 okX9_isSign im_X9_isSign sl_X9_isSign rfl rfl rfl rfl (Nat.le_of_ble_eq_true rfl) (mf_rr (Nat.le_trans (by decide) hd) (Nat.le_refl _)) (Nat.le_refl _) ck9 hyp (fun r6 g7 h8 hyp => ?_)
    refine mf_if_eq (tgt := 30) (mf_dat eX7_productSign 11 rfl) (by decide) (fun hc => ?_) (fun hc => ?_)
    · replace hyp := hyp.1 hc
      refine mf_iconst (v := (-1)) (mf_dat eX7_productSign 14 rfl) (by decide) ?_
      exact mf_ireturn (mf_dat eX7_productSign 15 rfl) rfl (Or.inl rfl) hyp
    · replace hyp := hyp.2 hc
      refine mf_iconst (v := 4) (mf_dat eX7_productSign 12 rfl) (by decide) ?_
      refine mf_goto (tgt := 31) (mf_dat eX7_productSign 13 rfl) (by decide) ?_
      exact mf_ireturn (mf_dat eX7_productSign 15 rfl) rfl (Or.inl rfl) hyp
  · replace hyp := hyp.2 hc
    refine mf_iconst (v := 3) (mf_dat eX7_productSign 5 rfl) (by decide) ?_
    exact mf_ireturn (mf_dat eX7_productSign 6 rfl) rfl (Or.inl rfl) hyp
set_option maxRecDepth 100000 in
set_option maxHeartbeats 4000000 in
theorem mX8_init {C : mf_G} {l : Launch} {d n0 n1 : Nat} {K : mf_Kt} {x0 : Int} {g h : mf_M} (hd : 1 ≤ d) (hyp : 0 ≤ x0 ∧ mf_sh n0 = (21, 1600) ∧ mf_more (mf_rm d n0 n1) n0 n0 ∧ (∀ j : Nat, g n0 j = -1) ∧ (∀ j : Nat, h n0 j = 0) ∧ mf_is (n0 + 1) x0 8 ∧ (∀ g7 : mf_M, g7 = mf_up g x0 0 ((n0 : Nat) : Int) → n0 + 1 = n1 ∧ K 0 g7 h)) : mf_MT C l d YX8_init [(2, x0)] n0 n1 g h K := by
  refine mf_entry (by decide) (Nat.le_of_ble_eq_true rfl) ?_
  refine mf_aload_n (mf_dat eX8_init 0 rfl) rfl rfl ?_
  obtain ⟨ck1, hyp⟩ := hyp
  refine mf_objInit (mf_dat eX8_init 1 rfl) ml_X8_3 im_obj co_obj (mf_rmf hd) (mf_rml hd (Nat.le_of_ble_eq_true rfl)) ck1 ?_
  refine mf_aload_n (mf_dat eX8_init 2 rfl) rfl rfl ?_
  refine mf_sipush (v := 1600) (mf_dat eX8_init 3 rfl) (by decide) ?_
  obtain ⟨ck2, hyp⟩ := hyp
  obtain ⟨ck3, hyp⟩ := hyp
  obtain ⟨ck4, hyp⟩ := hyp
  obtain ⟨ck5, hyp⟩ := hyp
  refine mf_newa (at_ := .byte) (i := 1) (mf_dat eX8_init 4 rfl) ac_21 rfl ck2 rfl (by decide) rfl rfl (by decide) (by intro c; simp) (by decide) ck3 ck4 ck5 ?_
  obtain ⟨ck6, hyp⟩ := hyp
  refine mf_putRF (r := (RX8, TX8, 2)) (ci := 8) (k := 0) (kI := 0) (t := 2) (mf_dat eX8_init 5 rfl) fl_X8_9 rfl rfl (by decide) rfl (by decide) rfl rfl rfl (by decide) (fun h9 => absurd h9 (by decide)) ck6 ?_
  generalize qg7 : mf_up g x0 0 ((n0 : Nat) : Int) = g7
  replace hyp := hyp _ qg7.symm
  obtain ⟨ck8, hyp⟩ := hyp
  subst ck8
  exact mf_return (mf_dat eX8_init 6 rfl) rfl hyp
set_option maxRecDepth 100000 in
set_option maxHeartbeats 4000000 in
theorem mX8_nextCheck {C : mf_G} {l : Launch} {d n : Nat} {K : mf_Kt} {x0 x1 : Int} {g h : mf_M} (hyp : K ((mf_w32 ((mf_w32 (3 * x0)) + x1)).tmod 251) g h) : mf_MT C l d YX8_nextCheck [(0, x0), (0, x1)] n n g h K := by
  refine mf_entry (by decide) (Nat.le_of_ble_eq_true rfl) ?_
  refine mf_iconst (v := 3) (mf_dat eX8_nextCheck 0 rfl) (by decide) ?_
  refine mf_iload_n (mf_dat eX8_nextCheck 1 rfl) rfl rfl ?_
  refine mf_imul (mf_dat eX8_nextCheck 2 rfl) ?_
  refine mf_iload_n (mf_dat eX8_nextCheck 3 rfl) rfl rfl ?_
  refine mf_iadd (mf_dat eX8_nextCheck 4 rfl) ?_
  refine mf_sipush (v := 251) (mf_dat eX8_nextCheck 5 rfl) (by decide) ?_
  refine mf_irem (mf_dat eX8_nextCheck 6 rfl) (by decide) ?_
  exact mf_ireturn (mf_dat eX8_nextCheck 7 rfl) rfl (Or.inl rfl) hyp
abbrev JX8_add_3 (C : mf_G) (l : Launch) (d n : Nat) (K : mf_Kt) (x0 x1 x2 : Int) (g h : mf_M) : Prop := mf_AW C l YX8_add (mf_rm d n n) n (mf_Zm C YX8_add n n K) (fun _ _ => True) 3 [(0, (2, x0)), (1, (0, x1)), (2, (0, x2))] [] n g h
set_option maxRecDepth 100000 in
set_option maxHeartbeats 4000000 in
theorem bX8_add_3 {C : mf_G} {l : Launch} {d n : Nat} {K : mf_Kt} {x0 x1 x2 : Int} {g h : mf_M} (hyp : ((x2 < 0 → K 0 g h) ∧ (¬ x2 < 0 → mf_is n x0 8 ∧ mf_is n (g x0 0) 21 ∧ ((mf_len (g x0 0) ≤ h x0 1 → (∀ v3 : Int, v3 = mf_w32 (x2 + (-8)) → JX8_add_3 C l d n K x0 x1 v3 g h)) ∧ (¬ mf_len (g x0 0) ≤ h x0 1 → 0 ≤ h x0 1 ∧ h x0 1 < mf_len (g x0 0) ∧ (∀ h6 : mf_M, h6 = mf_up h (g x0 0) (h x0 1) (mf_b8 (mf_b8 (mf_shr x1 x2))) → (∀ h7 : mf_M, h7 = mf_up h6 x0 1 (mf_w32 ((h6 x0 1) + 1)) → (∀ v8 : Int, v8 = mf_w32 (x2 + (-8)) → JX8_add_3 C l d n K x0 x1 v8 g h7)))))))) : JX8_add_3 C l d n K x0 x1 x2 g h := by
  refine mf_iload_n (mf_dat eX8_add 2 rfl) rfl rfl ?_
  refine mf_if_lt (tgt := 48) (mf_dat eX8_add 3 rfl) (by decide) (fun hc => ?_) (fun hc => ?_)
  · replace hyp := hyp.1 hc
    exact mf_return (mf_dat eX8_add 27 rfl) rfl hyp
  · replace hyp := hyp.2 hc
    refine mf_aload_n (mf_dat eX8_add 4 rfl) rfl rfl ?_
    obtain ⟨ck1, hyp⟩ := hyp
    refine mf_getf (r := (RX8, TX8, 2)) (ci := 8) (k := 1) (t := 0) (v := h x0 1) (mf_dat eX8_add 5 rfl) fl_X8_15 rfl (by decide) rfl rfl ck1 ?_
    refine mf_aload_n (mf_dat eX8_add 6 rfl) rfl rfl ?_
    refine mf_getf (r := (RX8, TX8, 2)) (ci := 8) (k := 0) (t := 2) (v := g x0 0) (mf_dat eX8_add 7 rfl) fl_X8_9 rfl (by decide) rfl rfl ck1 ?_
    obtain ⟨ck2, hyp⟩ := hyp
    refine mf_alen (c := 21) (i := 1) (ty := .byte) (v := mf_len _) (mf_dat eX8_add 8 rfl) (by decide) rfl ck2 rfl (mf_len_small _) ?_
    refine mf_icmp_ge (tgt := 42) (mf_dat eX8_add 9 rfl) (by decide) (fun hc => ?_) (fun hc => ?_)
    · replace hyp := hyp.1 hc
      refine mf_iinc (mf_dat eX8_add 25 rfl) rfl (by decide) (by decide) ?_
      generalize qv3 : mf_w32 (x2 + (-8)) = v3
      replace hyp := hyp _ qv3.symm
      refine mf_goto (tgt := 3) (mf_dat eX8_add 26 rfl) (by decide) ?_
      exact mf_sub [1, 2, 0] rfl hyp
    · replace hyp := hyp.2 hc
      refine mf_aload_n (mf_dat eX8_add 10 rfl) rfl rfl ?_
      refine mf_getf (r := (RX8, TX8, 2)) (ci := 8) (k := 0) (t := 2) (v := g x0 0) (mf_dat eX8_add 11 rfl) fl_X8_9 rfl (by decide) rfl rfl ck1 ?_
      refine mf_aload_n (mf_dat eX8_add 12 rfl) rfl rfl ?_
      refine mf_getf (r := (RX8, TX8, 2)) (ci := 8) (k := 1) (t := 0) (v := h x0 1) (mf_dat eX8_add 13 rfl) fl_X8_15 rfl (by decide) rfl rfl ck1 ?_
      refine mf_iload_n (mf_dat eX8_add 14 rfl) rfl rfl ?_
      refine mf_iload_n (mf_dat eX8_add 15 rfl) rfl rfl ?_
      refine mf_ishr (mf_dat eX8_add 16 rfl) ?_
      refine mf_i2b (mf_dat eX8_add 17 rfl) ?_
      obtain ⟨ck4, hyp⟩ := hyp
      obtain ⟨ck5, hyp⟩ := hyp
      refine mf_bast (mf_dat eX8_add 18 rfl) ck2 ck4 ck5 ?_
      generalize qh6 : mf_up h (g x0 0) (h x0 1) (mf_b8 (mf_b8 (mf_shr x1 x2))) = h6
      replace hyp := hyp _ qh6.symm
      refine mf_aload_n (mf_dat eX8_add 19 rfl) rfl rfl ?_
      refine mf_dup (mf_dat eX8_add 20 rfl) (by decide) ?_
      refine mf_getf (r := (RX8, TX8, 2)) (ci := 8) (k := 1) (t := 0) (v := h6 x0 1) (mf_dat eX8_add 21 rfl) fl_X8_15 rfl (by decide) rfl rfl ck1 ?_
      refine mf_iconst (v := 1) (mf_dat eX8_add 22 rfl) (by decide) ?_
      refine mf_iadd (mf_dat eX8_add 23 rfl) ?_
      refine mf_putI (r := (RX8, TX8, 2)) (ci := 8) (k := 1) (kI := 1) (t := 0) (mf_dat eX8_add 24 rfl) fl_X8_15 rfl rfl (by decide) rfl (by decide) rfl (by decide) (fun h9 => absurd h9 (by decide)) ck1 ?_
      generalize qh7 : mf_up h6 x0 1 (mf_w32 ((h6 x0 1) + 1)) = h7
      replace hyp := hyp _ qh7.symm
      refine mf_iinc (mf_dat eX8_add 25 rfl) rfl (by decide) (by decide) ?_
      generalize qv8 : mf_w32 (x2 + (-8)) = v8
      replace hyp := hyp _ qv8.symm
      refine mf_goto (tgt := 3) (mf_dat eX8_add 26 rfl) (by decide) ?_
      exact mf_sub [1, 2, 0] rfl hyp
set_option maxRecDepth 100000 in
set_option maxHeartbeats 4000000 in
theorem mX8_add {C : mf_G} {l : Launch} {d n : Nat} {K : mf_Kt} {x0 x1 : Int} {g h : mf_M} (hyp : JX8_add_3 C l d n K x0 x1 24 g h) : mf_MT C l d YX8_add [(2, x0), (0, x1)] n n g h K := by
  refine mf_entry (by decide) (Nat.le_of_ble_eq_true rfl) ?_
  refine mf_bipush (v := 24) (mf_dat eX8_add 0 rfl) (by decide) ?_
  refine mf_istore_n (mf_dat eX8_add 1 rfl) rfl (by decide) ?_
  exact mf_sub [1, 2, 0] rfl hyp
set_option maxRecDepth 100000 in
set_option maxHeartbeats 4000000 in
theorem mX8_byteAt {C : mf_G} {l : Launch} {d n : Nat} {K : mf_Kt} {x0 x1 : Int} {g h : mf_M} (hyp : ((x1 < 0 → K 0 g h) ∧ (¬ x1 < 0 → mf_is n x0 8 ∧ ((h x0 1 ≤ x1 → K 0 g h) ∧ (¬ h x0 1 ≤ x1 → mf_is n (g x0 0) 21 ∧ ((x1 < mf_len (g x0 0) → 0 ≤ x1 ∧ x1 < mf_len (g x0 0) ∧ K (mf_and (h (g x0 0) x1) 255) g h) ∧ (¬ x1 < mf_len (g x0 0) → K 0 g h))))))) : mf_MT C l d YX8_byteAt [(2, x0), (0, x1)] n n g h K := by
  refine mf_entry (by decide) (Nat.le_of_ble_eq_true rfl) ?_
  refine mf_iload_n (mf_dat eX8_byteAt 0 rfl) rfl rfl ?_
  refine mf_if_lt (tgt := 21) (mf_dat eX8_byteAt 1 rfl) (by decide) (fun hc => ?_) (fun hc => ?_)
  · replace hyp := hyp.1 hc
    refine mf_iconst (v := 0) (mf_dat eX8_byteAt 11 rfl) (by decide) ?_
    refine mf_goto (tgt := 35) (mf_dat eX8_byteAt 12 rfl) (by decide) ?_
    exact mf_ireturn (mf_dat eX8_byteAt 19 rfl) rfl (Or.inl rfl) hyp
  · replace hyp := hyp.2 hc
    refine mf_iload_n (mf_dat eX8_byteAt 2 rfl) rfl rfl ?_
    refine mf_aload_n (mf_dat eX8_byteAt 3 rfl) rfl rfl ?_
    obtain ⟨ck1, hyp⟩ := hyp
    refine mf_getf (r := (RX8, TX8, 2)) (ci := 8) (k := 1) (t := 0) (v := h x0 1) (mf_dat eX8_byteAt 4 rfl) fl_X8_15 rfl (by decide) rfl rfl ck1 ?_
    refine mf_icmp_ge (tgt := 21) (mf_dat eX8_byteAt 5 rfl) (by decide) (fun hc => ?_) (fun hc => ?_)
    · replace hyp := hyp.1 hc
      refine mf_iconst (v := 0) (mf_dat eX8_byteAt 11 rfl) (by decide) ?_
      refine mf_goto (tgt := 35) (mf_dat eX8_byteAt 12 rfl) (by decide) ?_
      exact mf_ireturn (mf_dat eX8_byteAt 19 rfl) rfl (Or.inl rfl) hyp
    · replace hyp := hyp.2 hc
      refine mf_iload_n (mf_dat eX8_byteAt 6 rfl) rfl rfl ?_
      refine mf_aload_n (mf_dat eX8_byteAt 7 rfl) rfl rfl ?_
      refine mf_getf (r := (RX8, TX8, 2)) (ci := 8) (k := 0) (t := 2) (v := g x0 0) (mf_dat eX8_byteAt 8 rfl) fl_X8_9 rfl (by decide) rfl rfl ck1 ?_
      obtain ⟨ck2, hyp⟩ := hyp
      refine mf_alen (c := 21) (i := 1) (ty := .byte) (v := mf_len _) (mf_dat eX8_byteAt 9 rfl) (by decide) rfl ck2 rfl (mf_len_small _) ?_
      refine mf_icmp_lt (tgt := 25) (mf_dat eX8_byteAt 10 rfl) (by decide) (fun hc => ?_) (fun hc => ?_)
      · replace hyp := hyp.1 hc
        refine mf_aload_n (mf_dat eX8_byteAt 13 rfl) rfl rfl ?_
        refine mf_getf (r := (RX8, TX8, 2)) (ci := 8) (k := 0) (t := 2) (v := g x0 0) (mf_dat eX8_byteAt 14 rfl) fl_X8_9 rfl (by decide) rfl rfl ck1 ?_
        refine mf_iload_n (mf_dat eX8_byteAt 15 rfl) rfl rfl ?_
        obtain ⟨ck3, hyp⟩ := hyp
        obtain ⟨ck4, hyp⟩ := hyp
        refine mf_bald (mf_dat eX8_byteAt 16 rfl) ck2 ck3 ck4 ?_
        refine mf_sipush (v := 255) (mf_dat eX8_byteAt 17 rfl) (by decide) ?_
        refine mf_iand (mf_dat eX8_byteAt 18 rfl) ?_
        exact mf_ireturn (mf_dat eX8_byteAt 19 rfl) rfl (Or.inl rfl) hyp
      · replace hyp := hyp.2 hc
        refine mf_iconst (v := 0) (mf_dat eX8_byteAt 11 rfl) (by decide) ?_
        refine mf_goto (tgt := 35) (mf_dat eX8_byteAt 12 rfl) (by decide) ?_
        exact mf_ireturn (mf_dat eX8_byteAt 19 rfl) rfl (Or.inl rfl) hyp
set_option maxRecDepth 100000 in
set_option maxHeartbeats 4000000 in
theorem mX8_pairAt {C : mf_G} {l : Launch} {d n : Nat} {K : mf_Kt} {x0 x1 : Int} {g h : mf_M} (hd : 1 ≤ d) (hyp : mf_is n x0 8 ∧ mf_MT C l 0 YX8_byteAt [(2, x0), (0, x1)] n n g h (fun r1 g2 h3 => mf_MT C l 0 YX8_byteAt [(2, x0), (0, mf_w32 (x1 + 1))] n n g2 h3 (fun r5 g6 h7 => K (mf_w32 ((mf_w32 (r1 * 256)) + r5)) g6 h7))) : mf_MT C l d YX8_pairAt [(2, x0), (0, x1)] n n g h K := by
  refine mf_entry (by decide) (Nat.le_of_ble_eq_true rfl) ?_
  refine mf_aload_n (mf_dat eX8_pairAt 0 rfl) rfl rfl ?_
  refine mf_iload_n (mf_dat eX8_pairAt 1 rfl) rfl rfl ?_
  obtain ⟨ck4, hyp⟩ := hyp
  refine mf_callV (Yc := YX8_byteAt) (r := (RX8, TX8, 2)) (ci := 8) (mf_dat eX8_pairAt 2 rfl) ml_X8_19 okX8_byteAt im_X8_byteAt sl_X8_byteAt rfl rfl rfl rfl (Nat.le_of_ble_eq_true rfl) (mf_rr (Nat.le_trans (by decide) hd) (Nat.le_refl _)) (Nat.le_refl _) ck4 hyp (fun r1 g2 h3 hyp => ?_)
  refine mf_sipush (v := 256) (mf_dat eX8_pairAt 3 rfl) (by decide) ?_
  refine mf_imul (mf_dat eX8_pairAt 4 rfl) ?_
  refine mf_aload_n (mf_dat eX8_pairAt 5 rfl) rfl rfl ?_
  refine mf_iload_n (mf_dat eX8_pairAt 6 rfl) rfl rfl ?_
  refine mf_iconst (v := 1) (mf_dat eX8_pairAt 7 rfl) (by decide) ?_
  refine mf_iadd (mf_dat eX8_pairAt 8 rfl) ?_
  refine mf_callV (Yc := YX8_byteAt) (r := (RX8, TX8, 2)) (ci := 8) (mf_dat eX8_pairAt 9 rfl) ml_X8_19 okX8_byteAt im_X8_byteAt sl_X8_byteAt rfl rfl rfl rfl (Nat.le_of_ble_eq_true rfl) (mf_rr (Nat.le_trans (by decide) hd) (Nat.le_refl _)) (Nat.le_refl _) ck4 hyp (fun r5 g6 h7 hyp => ?_)
  refine mf_iadd (mf_dat eX8_pairAt 10 rfl) ?_
  exact mf_ireturn (mf_dat eX8_pairAt 11 rfl) rfl (Or.inl rfl) hyp
set_option maxRecDepth 100000 in
set_option maxHeartbeats 4000000 in
theorem mX9_init {C : mf_G} {l : Launch} {d n0 n1 : Nat} {K : mf_Kt} {x0 x1 x2 : Int} {g h : mf_M} (hd : 1 ≤ d) (hyp : 0 ≤ x0 ∧ mf_is n0 x0 9 ∧ (∀ g3 : mf_M, g3 = mf_up g x0 0 x1 → (∀ g4 : mf_M, g4 = mf_up g3 x0 1 x2 → n0 = n1 ∧ K 0 g4 h))) : mf_MT C l d YX9_init [(2, x0), (2, x1), (2, x2)] n0 n1 g h K := by
  refine mf_entry (by decide) (Nat.le_of_ble_eq_true rfl) ?_
  refine mf_aload_n (mf_dat eX9_init 0 rfl) rfl rfl ?_
  obtain ⟨ck1, hyp⟩ := hyp
  refine mf_objInit (mf_dat eX9_init 1 rfl) ml_X9_3 im_obj co_obj (mf_rmf hd) (mf_rml hd (Nat.le_of_ble_eq_true rfl)) ck1 ?_
  refine mf_aload_n (mf_dat eX9_init 2 rfl) rfl rfl ?_
  refine mf_aload_n (mf_dat eX9_init 3 rfl) rfl rfl ?_
  obtain ⟨ck2, hyp⟩ := hyp
  refine mf_putRF (r := (RX9, TX9, 9)) (ci := 9) (k := 0) (kI := 0) (t := 2) (mf_dat eX9_init 4 rfl) fl_X9_9 rfl rfl (by decide) rfl (by decide) rfl rfl rfl (by decide) (fun h9 => absurd h9 (by decide)) ck2 ?_
  generalize qg3 : mf_up g x0 0 x1 = g3
  replace hyp := hyp _ qg3.symm
  refine mf_aload_n (mf_dat eX9_init 5 rfl) rfl rfl ?_
  refine mf_aload_n (mf_dat eX9_init 6 rfl) rfl rfl ?_
  refine mf_putRF (r := (RX9, TX9, 9)) (ci := 9) (k := 1) (kI := 1) (t := 2) (mf_dat eX9_init 7 rfl) fl_X9_15 rfl rfl (by decide) rfl (by decide) rfl rfl rfl (by decide) (fun h9 => absurd h9 (by decide)) ck2 ?_
  generalize qg4 : mf_up g3 x0 1 x2 = g4
  replace hyp := hyp _ qg4.symm
  obtain ⟨ck5, hyp⟩ := hyp
  subst ck5
  exact mf_return (mf_dat eX9_init 8 rfl) rfl hyp
set_option maxRecDepth 100000 in
set_option maxHeartbeats 4000000 in
theorem mX9_start {C : mf_G} {l : Launch} {d n : Nat} {K : mf_Kt} {x0 : Int} {g h : mf_M} (hd : 3 ≤ d) (hyp : mf_is n x0 9 ∧ (∀ h2 : mf_M, h2 = mf_up h x0 7 0 → (∀ h3 : mf_M, h3 = mf_up h2 x0 8 (-1) → (∀ h4 : mf_M, h4 = mf_up h3 x0 6 0 → (∀ h5 : mf_M, h5 = mf_up h4 x0 2 3 → mf_MT C l 2 YX9_step [(2, x0)] n n g h5 (fun r6 g7 h8 => K 0 g7 h8)))))) : mf_MT C l d YX9_start [(2, x0)] n n g h K := by
  refine mf_entry (by decide) (Nat.le_of_ble_eq_true rfl) ?_
  refine mf_aload_n (mf_dat eX9_start 0 rfl) rfl rfl ?_
  refine mf_iconst (v := 0) (mf_dat eX9_start 1 rfl) (by decide) ?_
  obtain ⟨ck1, hyp⟩ := hyp
  refine mf_putI (r := (RX9, TX9, 9)) (ci := 9) (k := 7) (kI := 7) (t := 0) (mf_dat eX9_start 2 rfl) fl_X9_19 rfl rfl (by decide) rfl (by decide) rfl (by decide) (fun h9 => absurd h9 (by decide)) ck1 ?_
  generalize qh2 : mf_up h x0 7 0 = h2
  replace hyp := hyp _ qh2.symm
  refine mf_aload_n (mf_dat eX9_start 3 rfl) rfl rfl ?_
  refine mf_iconst (v := (-1)) (mf_dat eX9_start 4 rfl) (by decide) ?_
  refine mf_putI (r := (RX9, TX9, 9)) (ci := 9) (k := 8) (kI := 8) (t := 0) (mf_dat eX9_start 5 rfl) fl_X9_23 rfl rfl (by decide) rfl (by decide) rfl (by decide) (fun h9 => absurd h9 (by decide)) ck1 ?_
  generalize qh3 : mf_up h2 x0 8 (-1) = h3
  replace hyp := hyp _ qh3.symm
  refine mf_aload_n (mf_dat eX9_start 6 rfl) rfl rfl ?_
  refine mf_iconst (v := 0) (mf_dat eX9_start 7 rfl) (by decide) ?_
  refine mf_putI (r := (RX9, TX9, 9)) (ci := 9) (k := 6) (kI := 6) (t := 0) (mf_dat eX9_start 8 rfl) fl_X9_26 rfl rfl (by decide) rfl (by decide) rfl (by decide) (fun h9 => absurd h9 (by decide)) ck1 ?_
  generalize qh4 : mf_up h3 x0 6 0 = h4
  replace hyp := hyp _ qh4.symm
  refine mf_aload_n (mf_dat eX9_start 9 rfl) rfl rfl ?_
  refine mf_iconst (v := 3) (mf_dat eX9_start 10 rfl) (by decide) ?_
  refine mf_putI (r := (RX9, TX9, 9)) (ci := 9) (k := 2) (kI := 2) (t := 0) (mf_dat eX9_start 11 rfl) fl_X9_29 rfl rfl (by decide) rfl (by decide) rfl (by decide) (fun h9 => absurd h9 (by decide)) ck1 ?_
  generalize qh5 : mf_up h4 x0 2 3 = h5
  replace hyp := hyp _ qh5.symm
  refine mf_aload_n (mf_dat eX9_start 12 rfl) rfl rfl ?_
  refine mf_callV (Yc := YX9_step) (r := (RX9, TX9, 9)) (ci := 9) (mf_dat eX9_start 13 rfl) ml_X9_32 okX9_step im_X9_step sl_X9_step rfl rfl rfl rfl (Nat.le_of_ble_eq_true rfl) (mf_rr (Nat.le_trans (by decide) hd) (Nat.le_refl _)) (Nat.le_refl _) ck1 hyp (fun r6 g7 h8 hyp => ?_)
  exact mf_return (mf_dat eX9_start 14 rfl) rfl hyp
abbrev JX9_step_21 (C : mf_G) (l : Launch) (d n : Nat) (K : mf_Kt) (x0 x1 : Int) (g h : mf_M) : Prop := mf_AW C l YX9_step (mf_rm d n n) n (mf_Zm C YX9_step n n K) (fun _ _ => True) 21 [(0, (2, x0)), (1, (0, x1))] [] n g h
abbrev JX9_step_51 (C : mf_G) (l : Launch) (d n : Nat) (K : mf_Kt) (x0 x1 x2 x3 : Int) (g h : mf_M) : Prop := mf_AW C l YX9_step (mf_rm d n n) n (mf_Zm C YX9_step n n K) (fun _ _ => True) 51 [(0, (2, x0)), (1, (0, x1)), (2, (0, x2)), (3, (0, x3))] [] n g h
abbrev JX9_step_113 (C : mf_G) (l : Launch) (d n : Nat) (K : mf_Kt) (x0 x1 x2 x3 : Int) (g h : mf_M) : Prop := mf_AW C l YX9_step (mf_rm d n n) n (mf_Zm C YX9_step n n K) (fun _ _ => True) 113 [(0, (2, x0)), (1, (0, x1)), (2, (0, x2)), (3, (0, x3))] [] n g h
abbrev JX9_step_210 (C : mf_G) (l : Launch) (d n : Nat) (K : mf_Kt) (x0 x1 x2 : Int) (g h : mf_M) : Prop := mf_AW C l YX9_step (mf_rm d n n) n (mf_Zm C YX9_step n n K) (fun _ _ => True) 210 [(0, (2, x0)), (1, (0, x1)), (2, (0, x2))] [] n g h
set_option maxRecDepth 100000 in
set_option maxHeartbeats 4000000 in
theorem bX9_step_21 {C : mf_G} {l : Launch} {d n : Nat} {K : mf_Kt} {x0 x1 : Int} {g h : mf_M} (hd : 1 ≤ d) (hyp : mf_is n x0 9 ∧ mf_is n (g x0 0) 8 ∧ mf_is n (g (g x0 0) 0) 21 ∧ mf_MT C l 0 YJ9_min_7cf53 [(0, h (g x0 0) 1), (0, mf_len (g (g x0 0) 0))] n n g h (fun r4 g5 h6 => (∀ h7 : mf_M, h7 = mf_up h6 x0 3 x1 → JX9_step_51 C l d n K x0 x1 1 r4 g5 h7))) : JX9_step_21 C l d n K x0 x1 g h := by
  refine mf_iconst (v := 1) (mf_dat eX9_step_p0 11 rfl) (by decide) ?_
  refine mf_goto (tgt := 26) (mf_dat eX9_step_p0 12 rfl) (by decide) ?_
  refine mf_istore_n (mf_dat eX9_step_p0 14 rfl) rfl (by decide) ?_
  refine mf_aload_n (mf_dat eX9_step_p0 15 rfl) rfl rfl ?_
  obtain ⟨ck1, hyp⟩ := hyp
  refine mf_getf (r := (RX9, TX9, 9)) (ci := 9) (k := 0) (t := 2) (v := g x0 0) (mf_dat eX9_step_p0 16 rfl) fl_X9_9 rfl (by decide) rfl rfl ck1 ?_
  obtain ⟨ck2, hyp⟩ := hyp
  refine mf_getf (r := (RX8, TX8, 2)) (ci := 8) (k := 1) (t := 0) (v := h (g x0 0) 1) (mf_dat eX9_step_p0 17 rfl) fl_X9_35 rfl (by decide) rfl rfl ck2 ?_
  refine mf_aload_n (mf_dat eX9_step_p0 18 rfl) rfl rfl ?_
  refine mf_getf (r := (RX9, TX9, 9)) (ci := 9) (k := 0) (t := 2) (v := g x0 0) (mf_dat eX9_step_p0 19 rfl) fl_X9_9 rfl (by decide) rfl rfl ck1 ?_
  refine mf_getf (r := (RX8, TX8, 2)) (ci := 8) (k := 0) (t := 2) (v := g (g x0 0) 0) (mf_dat eX9_step_p0 20 rfl) fl_X9_40 rfl (by decide) rfl rfl ck2 ?_
  obtain ⟨ck3, hyp⟩ := hyp
  refine mf_alen (c := 21) (i := 1) (ty := .byte) (v := mf_len _) (mf_dat eX9_step_p0 21 rfl) (by decide) rfl ck3 rfl (mf_len_small _) ?_
  refine mf_callS (Yc := YJ9_min_7cf53) (mf_dat eX9_step_p0 22 rfl) ml_X9_44 okJ9_min_7cf53 sm_J9_min_7cf53 rfl rfl (Nat.le_of_ble_eq_true rfl) (mf_rr (Nat.le_trans (by decide) hd) (Nat.le_refl _)) (Nat.le_refl _) hyp (fun r4 g5 h6 hyp => ?_)
  refine mf_istore_n (mf_dat eX9_step_p0 23 rfl) rfl (by decide) ?_
  refine mf_aload_n (mf_dat eX9_step_p0 24 rfl) rfl rfl ?_
  refine mf_iload_n (mf_dat eX9_step_p0 25 rfl) rfl rfl ?_
  refine mf_putI (r := (RX9, TX9, 9)) (ci := 9) (k := 3) (kI := 3) (t := 0) (mf_dat eX9_step_p0 26 rfl) fl_X9_50 rfl rfl (by decide) rfl (by decide) rfl (by decide) (fun h9 => absurd h9 (by decide)) ck1 ?_
  generalize qh7 : mf_up h6 x0 3 x1 = h7
  replace hyp := hyp _ qh7.symm
  exact mf_sub [2, 3, 1, 0] rfl hyp
set_option maxRecDepth 100000 in
set_option maxHeartbeats 4000000 in
theorem bX9_step_51 {C : mf_G} {l : Launch} {d n : Nat} {K : mf_Kt} {x0 x1 x2 x3 : Int} {g h : mf_M} (hyp : mf_is n x0 9 ∧ ((h x0 3 < 0 → JX9_step_113 C l d n K x0 x1 x2 x3 g h) ∧ (¬ h x0 3 < 0 → ((x3 ≤ h x0 3 → JX9_step_113 C l d n K x0 x1 x2 x3 g h) ∧ (¬ x3 ≤ h x0 3 → mf_is n (g x0 0) 8 ∧ mf_is n (g (g x0 0) 0) 21 ∧ 0 ≤ h x0 3 ∧ h x0 3 < mf_len (g (g x0 0) 0) ∧ ((h (g (g x0 0) 0) (h x0 3) = 32 → (∀ h6 : mf_M, h6 = mf_up h x0 3 (mf_w32 ((h x0 3) + 1)) → JX9_step_51 C l d n K x0 x1 x2 x3 g h6)) ∧ (¬ h (g (g x0 0) 0) (h x0 3) = 32 → ((¬ h (g (g x0 0) 0) (h x0 3) = 10 → JX9_step_113 C l d n K x0 x1 x2 x3 g h) ∧ (h (g (g x0 0) 0) (h x0 3) = 10 → (∀ h7 : mf_M, h7 = mf_up h x0 3 (mf_w32 ((h x0 3) + 1)) → JX9_step_51 C l d n K x0 x1 x2 x3 g h7)))))))))) : JX9_step_51 C l d n K x0 x1 x2 x3 g h := by
  refine mf_aload_n (mf_dat eX9_step_p0 27 rfl) rfl rfl ?_
  obtain ⟨ck1, hyp⟩ := hyp
  refine mf_getf (r := (RX9, TX9, 9)) (ci := 9) (k := 3) (t := 0) (v := h x0 3) (mf_dat eX9_step_p0 28 rfl) fl_X9_50 rfl (by decide) rfl rfl ck1 ?_
  refine mf_if_lt (tgt := 113) (mf_dat eX9_step_p0 29 rfl) (by decide) (fun hc => ?_) (fun hc => ?_)
  · replace hyp := hyp.1 hc
    exact mf_sub [0, 1, 2, 3] rfl hyp
  · replace hyp := hyp.2 hc
    refine mf_aload_n (mf_dat eX9_step_p0 30 rfl) rfl rfl ?_
    refine mf_getf (r := (RX9, TX9, 9)) (ci := 9) (k := 3) (t := 0) (v := h x0 3) (mf_dat eX9_step_p0 31 rfl) fl_X9_50 rfl (by decide) rfl rfl ck1 ?_
    refine mf_iload_n (mf_dat eX9_step_p0 32 rfl) rfl rfl ?_
    refine mf_icmp_ge (tgt := 113) (mf_dat eX9_step_p0 33 rfl) (by decide) (fun hc => ?_) (fun hc => ?_)
    · replace hyp := hyp.1 hc
      exact mf_sub [0, 1, 2, 3] rfl hyp
    · replace hyp := hyp.2 hc
      refine mf_aload_n (mf_dat eX9_step_p0 34 rfl) rfl rfl ?_
      refine mf_getf (r := (RX9, TX9, 9)) (ci := 9) (k := 0) (t := 2) (v := g x0 0) (mf_dat eX9_step_p0 35 rfl) fl_X9_9 rfl (by decide) rfl rfl ck1 ?_
      obtain ⟨ck2, hyp⟩ := hyp
      refine mf_getf (r := (RX8, TX8, 2)) (ci := 8) (k := 0) (t := 2) (v := g (g x0 0) 0) (mf_dat eX9_step_p0 36 rfl) fl_X9_40 rfl (by decide) rfl rfl ck2 ?_
      refine mf_aload_n (mf_dat eX9_step_p0 37 rfl) rfl rfl ?_
      refine mf_getf (r := (RX9, TX9, 9)) (ci := 9) (k := 3) (t := 0) (v := h x0 3) (mf_dat eX9_step_p0 38 rfl) fl_X9_50 rfl (by decide) rfl rfl ck1 ?_
      obtain ⟨ck3, hyp⟩ := hyp
      obtain ⟨ck4, hyp⟩ := hyp
      obtain ⟨ck5, hyp⟩ := hyp
      refine mf_bald (mf_dat eX9_step_p0 39 rfl) ck3 ck4 ck5 ?_
      refine mf_bipush (v := 32) (mf_dat eX9_step_p0 40 rfl) (by decide) ?_
      refine mf_icmp_eq (tgt := 100) (mf_dat eX9_step_p0 41 rfl) (by decide) (fun hc => ?_) (fun hc => ?_)
      · replace hyp := hyp.1 hc
        refine mf_aload_n (mf_dat eX9_step_p0 50 rfl) rfl rfl ?_
        refine mf_dup (mf_dat eX9_step_p0 51 rfl) (by decide) ?_
        refine mf_getf (r := (RX9, TX9, 9)) (ci := 9) (k := 3) (t := 0) (v := h x0 3) (mf_dat eX9_step_p0 52 rfl) fl_X9_50 rfl (by decide) rfl rfl ck1 ?_
        refine mf_iconst (v := 1) (mf_dat eX9_step_p0 53 rfl) (by decide) ?_
        refine mf_iadd (mf_dat eX9_step_p0 54 rfl) ?_
        refine mf_putI (r := (RX9, TX9, 9)) (ci := 9) (k := 3) (kI := 3) (t := 0) (mf_dat eX9_step_p0 55 rfl) fl_X9_50 rfl rfl (by decide) rfl (by decide) rfl (by decide) (fun h9 => absurd h9 (by decide)) ck1 ?_
        generalize qh6 : mf_up h x0 3 (mf_w32 ((h x0 3) + 1)) = h6
        replace hyp := hyp _ qh6.symm
        refine mf_goto (tgt := 51) (mf_dat eX9_step_p0 56 rfl) (by decide) ?_
        exact mf_sub [0, 1, 2, 3] rfl hyp
      · replace hyp := hyp.2 hc
        refine mf_aload_n (mf_dat eX9_step_p0 42 rfl) rfl rfl ?_
        refine mf_getf (r := (RX9, TX9, 9)) (ci := 9) (k := 0) (t := 2) (v := g x0 0) (mf_dat eX9_step_p0 43 rfl) fl_X9_9 rfl (by decide) rfl rfl ck1 ?_
        refine mf_getf (r := (RX8, TX8, 2)) (ci := 8) (k := 0) (t := 2) (v := g (g x0 0) 0) (mf_dat eX9_step_p0 44 rfl) fl_X9_40 rfl (by decide) rfl rfl ck2 ?_
        refine mf_aload_n (mf_dat eX9_step_p0 45 rfl) rfl rfl ?_
        refine mf_getf (r := (RX9, TX9, 9)) (ci := 9) (k := 3) (t := 0) (v := h x0 3) (mf_dat eX9_step_p0 46 rfl) fl_X9_50 rfl (by decide) rfl rfl ck1 ?_
        refine mf_bald (mf_dat eX9_step_p0 47 rfl) ck3 ck4 ck5 ?_
        refine mf_bipush (v := 10) (mf_dat eX9_step_p0 48 rfl) (by decide) ?_
        refine mf_icmp_ne (tgt := 113) (mf_dat eX9_step_p0 49 rfl) (by decide) (fun hc => ?_) (fun hc => ?_)
        · replace hyp := hyp.1 hc
          exact mf_sub [0, 1, 2, 3] rfl hyp
        · replace hyp := hyp.2 hc
          refine mf_aload_n (mf_dat eX9_step_p0 50 rfl) rfl rfl ?_
          refine mf_dup (mf_dat eX9_step_p0 51 rfl) (by decide) ?_
          refine mf_getf (r := (RX9, TX9, 9)) (ci := 9) (k := 3) (t := 0) (v := h x0 3) (mf_dat eX9_step_p0 52 rfl) fl_X9_50 rfl (by decide) rfl rfl ck1 ?_
          refine mf_iconst (v := 1) (mf_dat eX9_step_p0 53 rfl) (by decide) ?_
          refine mf_iadd (mf_dat eX9_step_p0 54 rfl) ?_
          refine mf_putI (r := (RX9, TX9, 9)) (ci := 9) (k := 3) (kI := 3) (t := 0) (mf_dat eX9_step_p0 55 rfl) fl_X9_50 rfl rfl (by decide) rfl (by decide) rfl (by decide) (fun h9 => absurd h9 (by decide)) ck1 ?_
          generalize qh7 : mf_up h x0 3 (mf_w32 ((h x0 3) + 1)) = h7
          replace hyp := hyp _ qh7.symm
          refine mf_goto (tgt := 51) (mf_dat eX9_step_p0 56 rfl) (by decide) ?_
          exact mf_sub [0, 1, 2, 3] rfl hyp
set_option maxRecDepth 100000 in
set_option maxHeartbeats 4000000 in
theorem bX9_step_113 {C : mf_G} {l : Launch} {d n : Nat} {K : mf_Kt} {x0 x1 x2 x3 : Int} {g h : mf_M} (hd : 2 ≤ d) (hyp : mf_is n x0 9 ∧ ((h x0 3 < 0 → (∀ h2 : mf_M, h2 = mf_up h x0 2 0 → (∀ h3 : mf_M, h3 = mf_up h2 x0 3 x3 → (∀ h4 : mf_M, h4 = mf_up h3 x0 6 x3 → K 0 g h4)))) ∧ (¬ h x0 3 < 0 → ((h x0 3 < x3 → mf_is n (g x0 0) 8 ∧ mf_is n (g (g x0 0) 0) 21 ∧ 0 ≤ h x0 3 ∧ h x0 3 < mf_len (g (g x0 0) 0) ∧ (∀ v9 : Int, v9 = mf_and (h (g (g x0 0) 0) (h x0 3)) 255 → mf_MT C l 0 YX9_isLetter [(0, v9)] n n g h (fun r10 g11 h12 => ((r10 = 0 → mf_MT C l 0 YX9_isDigit [(0, v9)] n n g11 h12 (fun r13 g14 h15 => ((r13 = 0 → (∀ h16 : mf_M, h16 = mf_up h15 x0 2 3 → (∀ h17 : mf_M, h17 = mf_up h16 x0 4 1 → (∀ h18 : mf_M, h18 = mf_up h17 x0 5 v9 → JX9_step_210 C l d n K x0 x1 x2 g14 h18)))) ∧ (¬ r13 = 0 → mf_MT C l 1 YX9_takeNumber [(2, x0), (0, x3)] n n g14 h15 (fun r19 g20 h21 => JX9_step_210 C l d n K x0 x1 x2 g20 h21))))) ∧ (¬ r10 = 0 → mf_MT C l 1 YX9_takeWord [(2, x0), (0, x3)] n n g11 h12 (fun r22 g23 h24 => JX9_step_210 C l d n K x0 x1 x2 g23 h24)))))) ∧ (¬ h x0 3 < x3 → (∀ h25 : mf_M, h25 = mf_up h x0 2 0 → (∀ h26 : mf_M, h26 = mf_up h25 x0 3 x3 → (∀ h27 : mf_M, h27 = mf_up h26 x0 6 x3 → K 0 g h27)))))))) : JX9_step_113 C l d n K x0 x1 x2 x3 g h := by
  refine mf_aload_n (mf_dat eX9_step_p0 57 rfl) rfl rfl ?_
  obtain ⟨ck1, hyp⟩ := hyp
  refine mf_getf (r := (RX9, TX9, 9)) (ci := 9) (k := 3) (t := 0) (v := h x0 3) (mf_dat eX9_step_p0 58 rfl) fl_X9_50 rfl (by decide) rfl rfl ck1 ?_
  refine mf_if_lt (tgt := 128) (mf_dat eX9_step_p0 59 rfl) (by decide) (fun hc => ?_) (fun hc => ?_)
  · replace hyp := hyp.1 hc
    refine mf_aload_n (mf_dat eX9_step_p1 4 rfl) rfl rfl ?_
    refine mf_iconst (v := 0) (mf_dat eX9_step_p1 5 rfl) (by decide) ?_
    refine mf_putI (r := (RX9, TX9, 9)) (ci := 9) (k := 2) (kI := 2) (t := 0) (mf_dat eX9_step_p1 6 rfl) fl_X9_29 rfl rfl (by decide) rfl (by decide) rfl (by decide) (fun h9 => absurd h9 (by decide)) ck1 ?_
    generalize qh2 : mf_up h x0 2 0 = h2
    replace hyp := hyp _ qh2.symm
    refine mf_aload_n (mf_dat eX9_step_p1 7 rfl) rfl rfl ?_
    refine mf_iload_n (mf_dat eX9_step_p1 8 rfl) rfl rfl ?_
    refine mf_putI (r := (RX9, TX9, 9)) (ci := 9) (k := 3) (kI := 3) (t := 0) (mf_dat eX9_step_p1 9 rfl) fl_X9_50 rfl rfl (by decide) rfl (by decide) rfl (by decide) (fun h9 => absurd h9 (by decide)) ck1 ?_
    generalize qh3 : mf_up h2 x0 3 x3 = h3
    replace hyp := hyp _ qh3.symm
    refine mf_aload_n (mf_dat eX9_step_p1 10 rfl) rfl rfl ?_
    refine mf_iload_n (mf_dat eX9_step_p1 11 rfl) rfl rfl ?_
    refine mf_putI (r := (RX9, TX9, 9)) (ci := 9) (k := 6) (kI := 6) (t := 0) (mf_dat eX9_step_p1 12 rfl) fl_X9_26 rfl rfl (by decide) rfl (by decide) rfl (by decide) (fun h9 => absurd h9 (by decide)) ck1 ?_
    generalize qh4 : mf_up h3 x0 6 x3 = h4
    replace hyp := hyp _ qh4.symm
    exact mf_return (mf_dat eX9_step_p1 13 rfl) rfl hyp
  · replace hyp := hyp.2 hc
    refine mf_aload_n (mf_dat eX9_step_p1 0 rfl) rfl rfl ?_
    refine mf_getf (r := (RX9, TX9, 9)) (ci := 9) (k := 3) (t := 0) (v := h x0 3) (mf_dat eX9_step_p1 1 rfl) fl_X9_50 rfl (by decide) rfl rfl ck1 ?_
    refine mf_iload_n (mf_dat eX9_step_p1 2 rfl) rfl rfl ?_
    refine mf_icmp_lt (tgt := 144) (mf_dat eX9_step_p1 3 rfl) (by decide) (fun hc => ?_) (fun hc => ?_)
    · replace hyp := hyp.1 hc
      refine mf_aload_n (mf_dat eX9_step_p1 14 rfl) rfl rfl ?_
      refine mf_getf (r := (RX9, TX9, 9)) (ci := 9) (k := 0) (t := 2) (v := g x0 0) (mf_dat eX9_step_p1 15 rfl) fl_X9_9 rfl (by decide) rfl rfl ck1 ?_
      obtain ⟨ck5, hyp⟩ := hyp
      refine mf_getf (r := (RX8, TX8, 2)) (ci := 8) (k := 0) (t := 2) (v := g (g x0 0) 0) (mf_dat eX9_step_p1 16 rfl) fl_X9_40 rfl (by decide) rfl rfl ck5 ?_
      refine mf_aload_n (mf_dat eX9_step_p1 17 rfl) rfl rfl ?_
      refine mf_getf (r := (RX9, TX9, 9)) (ci := 9) (k := 3) (t := 0) (v := h x0 3) (mf_dat eX9_step_p1 18 rfl) fl_X9_50 rfl (by decide) rfl rfl ck1 ?_
      obtain ⟨ck6, hyp⟩ := hyp
      obtain ⟨ck7, hyp⟩ := hyp
      obtain ⟨ck8, hyp⟩ := hyp
      refine mf_bald (mf_dat eX9_step_p1 19 rfl) ck6 ck7 ck8 ?_
      refine mf_sipush (v := 255) (mf_dat eX9_step_p1 20 rfl) (by decide) ?_
      refine mf_iand (mf_dat eX9_step_p1 21 rfl) ?_
      generalize qv9 : mf_and (h (g (g x0 0) 0) (h x0 3)) 255 = v9
      replace hyp := hyp _ qv9.symm
      refine mf_istore (mf_dat eX9_step_p1 22 rfl) (by decide) ?_
      refine mf_iload (mf_dat eX9_step_p1 23 rfl) rfl ?_
      refine mf_callS (Yc := YX9_isLetter) (mf_dat eX9_step_p1 24 rfl) ml_X9_53 okX9_isLetter sm_X9_isLetter rfl rfl (Nat.le_of_ble_eq_true rfl) (mf_rr (Nat.le_trans (by decide) hd) (Nat.le_refl _)) (Nat.le_refl _) hyp (fun r10 g11 h12 hyp => ?_)
      refine mf_if_eq (tgt := 178) (mf_dat eX9_step_p1 25 rfl) (by decide) (fun hc => ?_) (fun hc => ?_)
      · replace hyp := hyp.1 hc
        refine mf_iload (mf_dat eX9_step_p1 30 rfl) rfl ?_
        refine mf_callS (Yc := YX9_isDigit) (mf_dat eX9_step_p1 31 rfl) ml_X9_61 okX9_isDigit sm_X9_isDigit rfl rfl (Nat.le_of_ble_eq_true rfl) (mf_rr (Nat.le_trans (by decide) hd) (Nat.le_refl _)) (Nat.le_refl _) hyp (fun r13 g14 h15 hyp => ?_)
        refine mf_if_eq (tgt := 194) (mf_dat eX9_step_p1 32 rfl) (by decide) (fun hc => ?_) (fun hc => ?_)
        · replace hyp := hyp.1 hc
          refine mf_aload_n (mf_dat eX9_step_p1 37 rfl) rfl rfl ?_
          refine mf_iconst (v := 3) (mf_dat eX9_step_p1 38 rfl) (by decide) ?_
          refine mf_putI (r := (RX9, TX9, 9)) (ci := 9) (k := 2) (kI := 2) (t := 0) (mf_dat eX9_step_p1 39 rfl) fl_X9_29 rfl rfl (by decide) rfl (by decide) rfl (by decide) (fun h9 => absurd h9 (by decide)) ck1 ?_
          generalize qh16 : mf_up h15 x0 2 3 = h16
          replace hyp := hyp _ qh16.symm
          refine mf_aload_n (mf_dat eX9_step_p1 40 rfl) rfl rfl ?_
          refine mf_iconst (v := 1) (mf_dat eX9_step_p1 41 rfl) (by decide) ?_
          refine mf_putI (r := (RX9, TX9, 9)) (ci := 9) (k := 4) (kI := 4) (t := 0) (mf_dat eX9_step_p1 42 rfl) fl_X9_67 rfl rfl (by decide) rfl (by decide) rfl (by decide) (fun h9 => absurd h9 (by decide)) ck1 ?_
          generalize qh17 : mf_up h16 x0 4 1 = h17
          replace hyp := hyp _ qh17.symm
          refine mf_aload_n (mf_dat eX9_step_p1 43 rfl) rfl rfl ?_
          refine mf_iload (mf_dat eX9_step_p1 44 rfl) rfl ?_
          refine mf_putI (r := (RX9, TX9, 9)) (ci := 9) (k := 5) (kI := 5) (t := 0) (mf_dat eX9_step_p1 45 rfl) fl_X9_68 rfl rfl (by decide) rfl (by decide) rfl (by decide) (fun h9 => absurd h9 (by decide)) ck1 ?_
          generalize qh18 : mf_up h17 x0 5 v9 = h18
          replace hyp := hyp _ qh18.symm
          exact mf_sub [1, 2, 3] rfl hyp
        · replace hyp := hyp.2 hc
          refine mf_aload_n (mf_dat eX9_step_p1 33 rfl) rfl rfl ?_
          refine mf_iload_n (mf_dat eX9_step_p1 34 rfl) rfl rfl ?_
          refine mf_callV (Yc := YX9_takeNumber) (r := (RX9, TX9, 9)) (ci := 9) (mf_dat eX9_step_p1 35 rfl) ml_X9_64 okX9_takeNumber im_X9_takeNumber sl_X9_takeNumber rfl rfl rfl rfl (Nat.le_of_ble_eq_true rfl) (mf_rr (Nat.le_trans (by decide) hd) (Nat.le_refl _)) (Nat.le_refl _) ck1 hyp (fun r19 g20 h21 hyp => ?_)
          refine mf_goto (tgt := 210) (mf_dat eX9_step_p1 36 rfl) (by decide) ?_
          exact mf_sub [1, 2, 3] rfl hyp
      · replace hyp := hyp.2 hc
        refine mf_aload_n (mf_dat eX9_step_p1 26 rfl) rfl rfl ?_
        refine mf_iload_n (mf_dat eX9_step_p1 27 rfl) rfl rfl ?_
        refine mf_callV (Yc := YX9_takeWord) (r := (RX9, TX9, 9)) (ci := 9) (mf_dat eX9_step_p1 28 rfl) ml_X9_57 okX9_takeWord im_X9_takeWord sl_X9_takeWord rfl rfl rfl rfl (Nat.le_of_ble_eq_true rfl) (mf_rr (Nat.le_trans (by decide) hd) (Nat.le_refl _)) (Nat.le_refl _) ck1 hyp (fun r22 g23 h24 hyp => ?_)
        refine mf_goto (tgt := 210) (mf_dat eX9_step_p1 29 rfl) (by decide) ?_
        exact mf_sub [1, 2, 3] rfl hyp
    · replace hyp := hyp.2 hc
      refine mf_aload_n (mf_dat eX9_step_p1 4 rfl) rfl rfl ?_
      refine mf_iconst (v := 0) (mf_dat eX9_step_p1 5 rfl) (by decide) ?_
      refine mf_putI (r := (RX9, TX9, 9)) (ci := 9) (k := 2) (kI := 2) (t := 0) (mf_dat eX9_step_p1 6 rfl) fl_X9_29 rfl rfl (by decide) rfl (by decide) rfl (by decide) (fun h9 => absurd h9 (by decide)) ck1 ?_
      generalize qh25 : mf_up h x0 2 0 = h25
      replace hyp := hyp _ qh25.symm
      refine mf_aload_n (mf_dat eX9_step_p1 7 rfl) rfl rfl ?_
      refine mf_iload_n (mf_dat eX9_step_p1 8 rfl) rfl rfl ?_
      refine mf_putI (r := (RX9, TX9, 9)) (ci := 9) (k := 3) (kI := 3) (t := 0) (mf_dat eX9_step_p1 9 rfl) fl_X9_50 rfl rfl (by decide) rfl (by decide) rfl (by decide) (fun h9 => absurd h9 (by decide)) ck1 ?_
      generalize qh26 : mf_up h25 x0 3 x3 = h26
      replace hyp := hyp _ qh26.symm
      refine mf_aload_n (mf_dat eX9_step_p1 10 rfl) rfl rfl ?_
      refine mf_iload_n (mf_dat eX9_step_p1 11 rfl) rfl rfl ?_
      refine mf_putI (r := (RX9, TX9, 9)) (ci := 9) (k := 6) (kI := 6) (t := 0) (mf_dat eX9_step_p1 12 rfl) fl_X9_26 rfl rfl (by decide) rfl (by decide) rfl (by decide) (fun h9 => absurd h9 (by decide)) ck1 ?_
      generalize qh27 : mf_up h26 x0 6 x3 = h27
      replace hyp := hyp _ qh27.symm
      exact mf_return (mf_dat eX9_step_p1 13 rfl) rfl hyp
set_option maxRecDepth 100000 in
set_option maxHeartbeats 4000000 in
theorem bX9_step_210 {C : mf_G} {l : Launch} {d n : Nat} {K : mf_Kt} {x0 x1 x2 : Int} {g h : mf_M} (hyp : mf_is n x0 9 ∧ (∀ h2 : mf_M, h2 = mf_up h x0 6 (mf_w32 ((h x0 3) + (h x0 4))) → ((x2 = 0 → K 0 g h2) ∧ (¬ x2 = 0 → ((¬ h2 x0 3 = x1 → K 0 g h2) ∧ (h2 x0 3 = x1 → ((h2 x0 2 = 3 → K 0 g h2) ∧ (¬ h2 x0 2 = 3 → (∀ h3 : mf_M, h3 = mf_up h2 x0 2 4 → K 0 g h3))))))))) : JX9_step_210 C l d n K x0 x1 x2 g h := by
  refine mf_aload_n (mf_dat eX9_step_p1 46 rfl) rfl rfl ?_
  refine mf_aload_n (mf_dat eX9_step_p1 47 rfl) rfl rfl ?_
  obtain ⟨ck1, hyp⟩ := hyp
  refine mf_getf (r := (RX9, TX9, 9)) (ci := 9) (k := 3) (t := 0) (v := h x0 3) (mf_dat eX9_step_p1 48 rfl) fl_X9_50 rfl (by decide) rfl rfl ck1 ?_
  refine mf_aload_n (mf_dat eX9_step_p1 49 rfl) rfl rfl ?_
  refine mf_getf (r := (RX9, TX9, 9)) (ci := 9) (k := 4) (t := 0) (v := h x0 4) (mf_dat eX9_step_p1 50 rfl) fl_X9_67 rfl (by decide) rfl rfl ck1 ?_
  refine mf_iadd (mf_dat eX9_step_p1 51 rfl) ?_
  refine mf_putI (r := (RX9, TX9, 9)) (ci := 9) (k := 6) (kI := 6) (t := 0) (mf_dat eX9_step_p1 52 rfl) fl_X9_26 rfl rfl (by decide) rfl (by decide) rfl (by decide) (fun h9 => absurd h9 (by decide)) ck1 ?_
  generalize qh2 : mf_up h x0 6 (mf_w32 ((h x0 3) + (h x0 4))) = h2
  replace hyp := hyp _ qh2.symm
  refine mf_iload_n (mf_dat eX9_step_p1 53 rfl) rfl rfl ?_
  refine mf_if_eq (tgt := 248) (mf_dat eX9_step_p1 54 rfl) (by decide) (fun hc => ?_) (fun hc => ?_)
  · replace hyp := hyp.1 hc
    exact mf_return (mf_dat eX9_step_p2 6 rfl) rfl hyp
  · replace hyp := hyp.2 hc
    refine mf_aload_n (mf_dat eX9_step_p1 55 rfl) rfl rfl ?_
    refine mf_getf (r := (RX9, TX9, 9)) (ci := 9) (k := 3) (t := 0) (v := h2 x0 3) (mf_dat eX9_step_p1 56 rfl) fl_X9_50 rfl (by decide) rfl rfl ck1 ?_
    refine mf_iload_n (mf_dat eX9_step_p1 57 rfl) rfl rfl ?_
    refine mf_icmp_ne (tgt := 248) (mf_dat eX9_step_p1 58 rfl) (by decide) (fun hc => ?_) (fun hc => ?_)
    · replace hyp := hyp.1 hc
      exact mf_return (mf_dat eX9_step_p2 6 rfl) rfl hyp
    · replace hyp := hyp.2 hc
      refine mf_aload_n (mf_dat eX9_step_p1 59 rfl) rfl rfl ?_
      refine mf_getf (r := (RX9, TX9, 9)) (ci := 9) (k := 2) (t := 0) (v := h2 x0 2) (mf_dat eX9_step_p2 0 rfl) fl_X9_29 rfl (by decide) rfl rfl ck1 ?_
      refine mf_iconst (v := 3) (mf_dat eX9_step_p2 1 rfl) (by decide) ?_
      refine mf_icmp_eq (tgt := 248) (mf_dat eX9_step_p2 2 rfl) (by decide) (fun hc => ?_) (fun hc => ?_)
      · replace hyp := hyp.1 hc
        exact mf_return (mf_dat eX9_step_p2 6 rfl) rfl hyp
      · replace hyp := hyp.2 hc
        refine mf_aload_n (mf_dat eX9_step_p2 3 rfl) rfl rfl ?_
        refine mf_iconst (v := 4) (mf_dat eX9_step_p2 4 rfl) (by decide) ?_
        refine mf_putI (r := (RX9, TX9, 9)) (ci := 9) (k := 2) (kI := 2) (t := 0) (mf_dat eX9_step_p2 5 rfl) fl_X9_29 rfl rfl (by decide) rfl (by decide) rfl (by decide) (fun h9 => absurd h9 (by decide)) ck1 ?_
        generalize qh3 : mf_up h2 x0 2 4 = h3
        replace hyp := hyp _ qh3.symm
        exact mf_return (mf_dat eX9_step_p2 6 rfl) rfl hyp
set_option maxRecDepth 100000 in
set_option maxHeartbeats 4000000 in
theorem mX9_step {C : mf_G} {l : Launch} {d n : Nat} {K : mf_Kt} {x0 : Int} {g h : mf_M} (hd : 1 ≤ d) (hyp : mf_is n x0 9 ∧ (∀ v2 : Int, v2 = h x0 6 → ((h x0 2 = 1 → JX9_step_21 C l d n K x0 v2 g h) ∧ (¬ h x0 2 = 1 → ((¬ h x0 2 = 2 → mf_is n (g x0 0) 8 ∧ mf_is n (g (g x0 0) 0) 21 ∧ mf_MT C l 0 YJ9_min_7cf53 [(0, h (g x0 0) 1), (0, mf_len (g (g x0 0) 0))] n n g h (fun r5 g6 h7 => (∀ h8 : mf_M, h8 = mf_up h7 x0 3 v2 → JX9_step_51 C l d n K x0 v2 0 r5 g6 h8))) ∧ (h x0 2 = 2 → JX9_step_21 C l d n K x0 v2 g h)))))) : mf_MT C l d YX9_step [(2, x0)] n n g h K := by
  refine mf_entry (by decide) (Nat.le_of_ble_eq_true rfl) ?_
  refine mf_aload_n (mf_dat eX9_step_p0 0 rfl) rfl rfl ?_
  obtain ⟨ck1, hyp⟩ := hyp
  refine mf_getf (r := (RX9, TX9, 9)) (ci := 9) (k := 6) (t := 0) (v := h x0 6) (mf_dat eX9_step_p0 1 rfl) fl_X9_26 rfl (by decide) rfl rfl ck1 ?_
  generalize qv2 : h x0 6 = v2
  replace hyp := hyp _ qv2.symm
  refine mf_istore_n (mf_dat eX9_step_p0 2 rfl) rfl (by decide) ?_
  refine mf_aload_n (mf_dat eX9_step_p0 3 rfl) rfl rfl ?_
  refine mf_getf (r := (RX9, TX9, 9)) (ci := 9) (k := 2) (t := 0) (v := h x0 2) (mf_dat eX9_step_p0 4 rfl) fl_X9_29 rfl (by decide) rfl rfl ck1 ?_
  refine mf_iconst (v := 1) (mf_dat eX9_step_p0 5 rfl) (by decide) ?_
  refine mf_icmp_eq (tgt := 21) (mf_dat eX9_step_p0 6 rfl) (by decide) (fun hc => ?_) (fun hc => ?_)
  · replace hyp := hyp.1 hc
    exact mf_sub [1, 0] rfl hyp
  · replace hyp := hyp.2 hc
    refine mf_aload_n (mf_dat eX9_step_p0 7 rfl) rfl rfl ?_
    refine mf_getf (r := (RX9, TX9, 9)) (ci := 9) (k := 2) (t := 0) (v := h x0 2) (mf_dat eX9_step_p0 8 rfl) fl_X9_29 rfl (by decide) rfl rfl ck1 ?_
    refine mf_iconst (v := 2) (mf_dat eX9_step_p0 9 rfl) (by decide) ?_
    refine mf_icmp_ne (tgt := 25) (mf_dat eX9_step_p0 10 rfl) (by decide) (fun hc => ?_) (fun hc => ?_)
    · replace hyp := hyp.1 hc
      refine mf_iconst (v := 0) (mf_dat eX9_step_p0 13 rfl) (by decide) ?_
      refine mf_istore_n (mf_dat eX9_step_p0 14 rfl) rfl (by decide) ?_
      refine mf_aload_n (mf_dat eX9_step_p0 15 rfl) rfl rfl ?_
      refine mf_getf (r := (RX9, TX9, 9)) (ci := 9) (k := 0) (t := 2) (v := g x0 0) (mf_dat eX9_step_p0 16 rfl) fl_X9_9 rfl (by decide) rfl rfl ck1 ?_
      obtain ⟨ck3, hyp⟩ := hyp
      refine mf_getf (r := (RX8, TX8, 2)) (ci := 8) (k := 1) (t := 0) (v := h (g x0 0) 1) (mf_dat eX9_step_p0 17 rfl) fl_X9_35 rfl (by decide) rfl rfl ck3 ?_
      refine mf_aload_n (mf_dat eX9_step_p0 18 rfl) rfl rfl ?_
      refine mf_getf (r := (RX9, TX9, 9)) (ci := 9) (k := 0) (t := 2) (v := g x0 0) (mf_dat eX9_step_p0 19 rfl) fl_X9_9 rfl (by decide) rfl rfl ck1 ?_
      refine mf_getf (r := (RX8, TX8, 2)) (ci := 8) (k := 0) (t := 2) (v := g (g x0 0) 0) (mf_dat eX9_step_p0 20 rfl) fl_X9_40 rfl (by decide) rfl rfl ck3 ?_
      obtain ⟨ck4, hyp⟩ := hyp
      refine mf_alen (c := 21) (i := 1) (ty := .byte) (v := mf_len _) (mf_dat eX9_step_p0 21 rfl) (by decide) rfl ck4 rfl (mf_len_small _) ?_
      refine mf_callS (Yc := YJ9_min_7cf53) (mf_dat eX9_step_p0 22 rfl) ml_X9_44 okJ9_min_7cf53 sm_J9_min_7cf53 rfl rfl (Nat.le_of_ble_eq_true rfl) (mf_rr (Nat.le_trans (by decide) hd) (Nat.le_refl _)) (Nat.le_refl _) hyp (fun r5 g6 h7 hyp => ?_)
      refine mf_istore_n (mf_dat eX9_step_p0 23 rfl) rfl (by decide) ?_
      refine mf_aload_n (mf_dat eX9_step_p0 24 rfl) rfl rfl ?_
      refine mf_iload_n (mf_dat eX9_step_p0 25 rfl) rfl rfl ?_
      refine mf_putI (r := (RX9, TX9, 9)) (ci := 9) (k := 3) (kI := 3) (t := 0) (mf_dat eX9_step_p0 26 rfl) fl_X9_50 rfl rfl (by decide) rfl (by decide) rfl (by decide) (fun h9 => absurd h9 (by decide)) ck1 ?_
      generalize qh8 : mf_up h7 x0 3 v2 = h8
      replace hyp := hyp _ qh8.symm
      exact mf_sub [3, 2, 1, 0] rfl hyp
    · replace hyp := hyp.2 hc
      exact mf_sub [1, 0] rfl hyp
abbrev JX9_takeWord_20 (C : mf_G) (l : Launch) (d n : Nat) (K : mf_Kt) (x0 x1 x2 : Int) (g h : mf_M) : Prop := mf_AW C l YX9_takeWord (mf_rm d n n) n (mf_Zm C YX9_takeWord n n K) (fun _ _ => True) 20 [(0, (2, x0)), (1, (0, x1)), (2, (0, x2))] [] n g h
abbrev JX9_takeWord_98 (C : mf_G) (l : Launch) (d n : Nat) (K : mf_Kt) (x0 x2 : Int) (g h : mf_M) : Prop := mf_AW C l YX9_takeWord (mf_rm d n n) n (mf_Zm C YX9_takeWord n n K) (fun _ _ => True) 98 [(0, (2, x0)), (2, (0, x2))] [] n g h
set_option maxRecDepth 100000 in
set_option maxHeartbeats 4000000 in
theorem bX9_takeWord_20 {C : mf_G} {l : Launch} {d n : Nat} {K : mf_Kt} {x0 x1 x2 : Int} {g h : mf_M} (hd : 1 ≤ d) (hyp : ((x2 < 0 → mf_is n x0 9 ∧ (∀ v2 : Int, v2 = h x0 4 → JX9_takeWord_98 C l d n K x0 v2 g h)) ∧ (¬ x2 < 0 → ((x1 ≤ x2 → mf_is n x0 9 ∧ (∀ v4 : Int, v4 = h x0 4 → JX9_takeWord_98 C l d n K x0 v4 g h)) ∧ (¬ x1 ≤ x2 → mf_is n x0 9 ∧ mf_is n (g x0 0) 8 ∧ mf_is n (g (g x0 0) 0) 21 ∧ 0 ≤ x2 ∧ x2 < mf_len (g (g x0 0) 0) ∧ mf_MT C l 0 YX9_isLetter [(0, h (g (g x0 0) 0) x2)] n n g h (fun r10 g11 h12 => ((r10 = 0 → (∀ v13 : Int, v13 = h12 x0 4 → JX9_takeWord_98 C l d n K x0 v13 g11 h12)) ∧ (¬ r10 = 0 → (∀ h14 : mf_M, h14 = mf_up h12 x0 4 (mf_w32 ((h12 x0 4) + 1)) → ((h14 x0 4 ≤ 6 → mf_is n (g11 x0 0) 8 ∧ mf_is n (g11 (g11 x0 0) 0) 21 ∧ x2 < mf_len (g11 (g11 x0 0) 0) ∧ mf_MT C l 0 YX10_addLetter [(0, h14 x0 5), (0, h14 (g11 (g11 x0 0) 0) x2)] n n g11 h14 (fun r18 g19 h20 => (∀ h21 : mf_M, h21 = mf_up h20 x0 5 r18 → (∀ v22 : Int, v22 = mf_w32 (x2 + 1) → JX9_takeWord_20 C l d n K x0 x1 v22 g19 h21)))) ∧ (¬ h14 x0 4 ≤ 6 → (∀ h23 : mf_M, h23 = mf_up h14 x0 5 (-1) → (∀ v24 : Int, v24 = mf_w32 (x2 + 1) → JX9_takeWord_20 C l d n K x0 x1 v24 g11 h23))))))))))))) : JX9_takeWord_20 C l d n K x0 x1 x2 g h := by
  refine mf_iload_n (mf_dat eX9_takeWord_p0 12 rfl) rfl rfl ?_
  refine mf_if_lt (tgt := 93) (mf_dat eX9_takeWord_p0 13 rfl) (by decide) (fun hc => ?_) (fun hc => ?_)
  · replace hyp := hyp.1 hc
    refine mf_aload_n (mf_dat eX9_takeWord_p0 48 rfl) rfl rfl ?_
    obtain ⟨ck1, hyp⟩ := hyp
    refine mf_getf (r := (RX9, TX9, 9)) (ci := 9) (k := 4) (t := 0) (v := h x0 4) (mf_dat eX9_takeWord_p0 49 rfl) fl_X9_67 rfl (by decide) rfl rfl ck1 ?_
    generalize qv2 : h x0 4 = v2
    replace hyp := hyp _ qv2.symm
    refine mf_istore_n (mf_dat eX9_takeWord_p0 50 rfl) rfl (by decide) ?_
    exact mf_sub [1, 0] rfl hyp
  · replace hyp := hyp.2 hc
    refine mf_iload_n (mf_dat eX9_takeWord_p0 14 rfl) rfl rfl ?_
    refine mf_iload_n (mf_dat eX9_takeWord_p0 15 rfl) rfl rfl ?_
    refine mf_icmp_ge (tgt := 93) (mf_dat eX9_takeWord_p0 16 rfl) (by decide) (fun hc => ?_) (fun hc => ?_)
    · replace hyp := hyp.1 hc
      refine mf_aload_n (mf_dat eX9_takeWord_p0 48 rfl) rfl rfl ?_
      obtain ⟨ck3, hyp⟩ := hyp
      refine mf_getf (r := (RX9, TX9, 9)) (ci := 9) (k := 4) (t := 0) (v := h x0 4) (mf_dat eX9_takeWord_p0 49 rfl) fl_X9_67 rfl (by decide) rfl rfl ck3 ?_
      generalize qv4 : h x0 4 = v4
      replace hyp := hyp _ qv4.symm
      refine mf_istore_n (mf_dat eX9_takeWord_p0 50 rfl) rfl (by decide) ?_
      exact mf_sub [1, 0] rfl hyp
    · replace hyp := hyp.2 hc
      refine mf_aload_n (mf_dat eX9_takeWord_p0 17 rfl) rfl rfl ?_
      obtain ⟨ck5, hyp⟩ := hyp
      refine mf_getf (r := (RX9, TX9, 9)) (ci := 9) (k := 0) (t := 2) (v := g x0 0) (mf_dat eX9_takeWord_p0 18 rfl) fl_X9_9 rfl (by decide) rfl rfl ck5 ?_
      obtain ⟨ck6, hyp⟩ := hyp
      refine mf_getf (r := (RX8, TX8, 2)) (ci := 8) (k := 0) (t := 2) (v := g (g x0 0) 0) (mf_dat eX9_takeWord_p0 19 rfl) fl_X9_40 rfl (by decide) rfl rfl ck6 ?_
      refine mf_iload_n (mf_dat eX9_takeWord_p0 20 rfl) rfl rfl ?_
      obtain ⟨ck7, hyp⟩ := hyp
      obtain ⟨ck8, hyp⟩ := hyp
      obtain ⟨ck9, hyp⟩ := hyp
      refine mf_bald (mf_dat eX9_takeWord_p0 21 rfl) ck7 ck8 ck9 ?_
      refine mf_callS (Yc := YX9_isLetter) (mf_dat eX9_takeWord_p0 22 rfl) ml_X9_53 okX9_isLetter sm_X9_isLetter rfl rfl (Nat.le_of_ble_eq_true rfl) (mf_rr (Nat.le_trans (by decide) hd) (Nat.le_refl _)) (Nat.le_refl _) hyp (fun r10 g11 h12 hyp => ?_)
      refine mf_if_eq (tgt := 93) (mf_dat eX9_takeWord_p0 23 rfl) (by decide) (fun hc => ?_) (fun hc => ?_)
      · replace hyp := hyp.1 hc
        refine mf_aload_n (mf_dat eX9_takeWord_p0 48 rfl) rfl rfl ?_
        refine mf_getf (r := (RX9, TX9, 9)) (ci := 9) (k := 4) (t := 0) (v := h12 x0 4) (mf_dat eX9_takeWord_p0 49 rfl) fl_X9_67 rfl (by decide) rfl rfl ck5 ?_
        generalize qv13 : h12 x0 4 = v13
        replace hyp := hyp _ qv13.symm
        refine mf_istore_n (mf_dat eX9_takeWord_p0 50 rfl) rfl (by decide) ?_
        exact mf_sub [1, 0] rfl hyp
      · replace hyp := hyp.2 hc
        refine mf_aload_n (mf_dat eX9_takeWord_p0 24 rfl) rfl rfl ?_
        refine mf_dup (mf_dat eX9_takeWord_p0 25 rfl) (by decide) ?_
        refine mf_getf (r := (RX9, TX9, 9)) (ci := 9) (k := 4) (t := 0) (v := h12 x0 4) (mf_dat eX9_takeWord_p0 26 rfl) fl_X9_67 rfl (by decide) rfl rfl ck5 ?_
        refine mf_iconst (v := 1) (mf_dat eX9_takeWord_p0 27 rfl) (by decide) ?_
        refine mf_iadd (mf_dat eX9_takeWord_p0 28 rfl) ?_
        refine mf_putI (r := (RX9, TX9, 9)) (ci := 9) (k := 4) (kI := 4) (t := 0) (mf_dat eX9_takeWord_p0 29 rfl) fl_X9_67 rfl rfl (by decide) rfl (by decide) rfl (by decide) (fun h9 => absurd h9 (by decide)) ck5 ?_
        generalize qh14 : mf_up h12 x0 4 (mf_w32 ((h12 x0 4) + 1)) = h14
        replace hyp := hyp _ qh14.symm
        refine mf_aload_n (mf_dat eX9_takeWord_p0 30 rfl) rfl rfl ?_
        refine mf_aload_n (mf_dat eX9_takeWord_p0 31 rfl) rfl rfl ?_
        refine mf_getf (r := (RX9, TX9, 9)) (ci := 9) (k := 4) (t := 0) (v := h14 x0 4) (mf_dat eX9_takeWord_p0 32 rfl) fl_X9_67 rfl (by decide) rfl rfl ck5 ?_
        refine mf_bipush (v := 6) (mf_dat eX9_takeWord_p0 33 rfl) (by decide) ?_
        refine mf_icmp_le (tgt := 68) (mf_dat eX9_takeWord_p0 34 rfl) (by decide) (fun hc => ?_) (fun hc => ?_)
        · replace hyp := hyp.1 hc
          refine mf_aload_n (mf_dat eX9_takeWord_p0 37 rfl) rfl rfl ?_
          refine mf_getf (r := (RX9, TX9, 9)) (ci := 9) (k := 5) (t := 0) (v := h14 x0 5) (mf_dat eX9_takeWord_p0 38 rfl) fl_X9_68 rfl (by decide) rfl rfl ck5 ?_
          refine mf_aload_n (mf_dat eX9_takeWord_p0 39 rfl) rfl rfl ?_
          refine mf_getf (r := (RX9, TX9, 9)) (ci := 9) (k := 0) (t := 2) (v := g11 x0 0) (mf_dat eX9_takeWord_p0 40 rfl) fl_X9_9 rfl (by decide) rfl rfl ck5 ?_
          obtain ⟨ck15, hyp⟩ := hyp
          refine mf_getf (r := (RX8, TX8, 2)) (ci := 8) (k := 0) (t := 2) (v := g11 (g11 x0 0) 0) (mf_dat eX9_takeWord_p0 41 rfl) fl_X9_40 rfl (by decide) rfl rfl ck15 ?_
          refine mf_iload_n (mf_dat eX9_takeWord_p0 42 rfl) rfl rfl ?_
          obtain ⟨ck16, hyp⟩ := hyp
          obtain ⟨ck17, hyp⟩ := hyp
          refine mf_bald (mf_dat eX9_takeWord_p0 43 rfl) ck16 ck8 ck17 ?_
          refine mf_callS (Yc := YX10_addLetter) (mf_dat eX9_takeWord_p0 44 rfl) ml_X9_73 okX10_addLetter sm_X10_addLetter rfl rfl (Nat.le_of_ble_eq_true rfl) (mf_rr (Nat.le_trans (by decide) hd) (Nat.le_refl _)) (Nat.le_refl _) hyp (fun r18 g19 h20 hyp => ?_)
          refine mf_putI (r := (RX9, TX9, 9)) (ci := 9) (k := 5) (kI := 5) (t := 0) (mf_dat eX9_takeWord_p0 45 rfl) fl_X9_68 rfl rfl (by decide) rfl (by decide) rfl (by decide) (fun h9 => absurd h9 (by decide)) ck5 ?_
          generalize qh21 : mf_up h20 x0 5 r18 = h21
          replace hyp := hyp _ qh21.symm
          refine mf_iinc (mf_dat eX9_takeWord_p0 46 rfl) rfl (by decide) (by decide) ?_
          generalize qv22 : mf_w32 (x2 + 1) = v22
          replace hyp := hyp _ qv22.symm
          refine mf_goto (tgt := 20) (mf_dat eX9_takeWord_p0 47 rfl) (by decide) ?_
          exact mf_sub [1, 2, 0] rfl hyp
        · replace hyp := hyp.2 hc
          refine mf_iconst (v := (-1)) (mf_dat eX9_takeWord_p0 35 rfl) (by decide) ?_
          refine mf_goto (tgt := 84) (mf_dat eX9_takeWord_p0 36 rfl) (by decide) ?_
          refine mf_putI (r := (RX9, TX9, 9)) (ci := 9) (k := 5) (kI := 5) (t := 0) (mf_dat eX9_takeWord_p0 45 rfl) fl_X9_68 rfl rfl (by decide) rfl (by decide) rfl (by decide) (fun h9 => absurd h9 (by decide)) ck5 ?_
          generalize qh23 : mf_up h14 x0 5 (-1) = h23
          replace hyp := hyp _ qh23.symm
          refine mf_iinc (mf_dat eX9_takeWord_p0 46 rfl) rfl (by decide) (by decide) ?_
          generalize qv24 : mf_w32 (x2 + 1) = v24
          replace hyp := hyp _ qv24.symm
          refine mf_goto (tgt := 20) (mf_dat eX9_takeWord_p0 47 rfl) (by decide) ?_
          exact mf_sub [1, 2, 0] rfl hyp
set_option maxRecDepth 100000 in
set_option maxHeartbeats 4000000 in
theorem bX9_takeWord_98 {C : mf_G} {l : Launch} {d n : Nat} {K : mf_Kt} {x0 x2 : Int} {g h : mf_M} (hd : 1 ≤ d) (hyp : ((6 ≤ x2 → K 0 g h) ∧ (¬ 6 ≤ x2 → mf_is n x0 9 ∧ mf_MT C l 0 YX10_addLetter [(0, h x0 5), (0, 0)] n n g h (fun r2 g3 h4 => (∀ h5 : mf_M, h5 = mf_up h4 x0 5 r2 → (∀ v6 : Int, v6 = mf_w32 (x2 + 1) → JX9_takeWord_98 C l d n K x0 v6 g3 h5)))))) : JX9_takeWord_98 C l d n K x0 x2 g h := by
  refine mf_iload_n (mf_dat eX9_takeWord_p0 51 rfl) rfl rfl ?_
  refine mf_bipush (v := 6) (mf_dat eX9_takeWord_p0 52 rfl) (by decide) ?_
  refine mf_icmp_ge (tgt := 122) (mf_dat eX9_takeWord_p0 53 rfl) (by decide) (fun hc => ?_) (fun hc => ?_)
  · replace hyp := hyp.1 hc
    exact mf_return (mf_dat eX9_takeWord_p1 2 rfl) rfl hyp
  · replace hyp := hyp.2 hc
    refine mf_aload_n (mf_dat eX9_takeWord_p0 54 rfl) rfl rfl ?_
    refine mf_aload_n (mf_dat eX9_takeWord_p0 55 rfl) rfl rfl ?_
    obtain ⟨ck1, hyp⟩ := hyp
    refine mf_getf (r := (RX9, TX9, 9)) (ci := 9) (k := 5) (t := 0) (v := h x0 5) (mf_dat eX9_takeWord_p0 56 rfl) fl_X9_68 rfl (by decide) rfl rfl ck1 ?_
    refine mf_iconst (v := 0) (mf_dat eX9_takeWord_p0 57 rfl) (by decide) ?_
    refine mf_callS (Yc := YX10_addLetter) (mf_dat eX9_takeWord_p0 58 rfl) ml_X9_73 okX10_addLetter sm_X10_addLetter rfl rfl (Nat.le_of_ble_eq_true rfl) (mf_rr (Nat.le_trans (by decide) hd) (Nat.le_refl _)) (Nat.le_refl _) hyp (fun r2 g3 h4 hyp => ?_)
    refine mf_putI (r := (RX9, TX9, 9)) (ci := 9) (k := 5) (kI := 5) (t := 0) (mf_dat eX9_takeWord_p0 59 rfl) fl_X9_68 rfl rfl (by decide) rfl (by decide) rfl (by decide) (fun h9 => absurd h9 (by decide)) ck1 ?_
    generalize qh5 : mf_up h4 x0 5 r2 = h5
    replace hyp := hyp _ qh5.symm
    refine mf_iinc (mf_dat eX9_takeWord_p1 0 rfl) rfl (by decide) (by decide) ?_
    generalize qv6 : mf_w32 (x2 + 1) = v6
    replace hyp := hyp _ qv6.symm
    refine mf_goto (tgt := 98) (mf_dat eX9_takeWord_p1 1 rfl) (by decide) ?_
    exact mf_sub [1, 0] rfl hyp
set_option maxRecDepth 100000 in
set_option maxHeartbeats 4000000 in
theorem mX9_takeWord {C : mf_G} {l : Launch} {d n : Nat} {K : mf_Kt} {x0 x1 : Int} {g h : mf_M} (hyp : mf_is n x0 9 ∧ (∀ h2 : mf_M, h2 = mf_up h x0 2 1 → (∀ h3 : mf_M, h3 = mf_up h2 x0 4 0 → (∀ h4 : mf_M, h4 = mf_up h3 x0 5 0 → (∀ v5 : Int, v5 = h4 x0 3 → JX9_takeWord_20 C l d n K x0 x1 v5 g h4))))) : mf_MT C l d YX9_takeWord [(2, x0), (0, x1)] n n g h K := by
  refine mf_entry (by decide) (Nat.le_of_ble_eq_true rfl) ?_
  refine mf_aload_n (mf_dat eX9_takeWord_p0 0 rfl) rfl rfl ?_
  refine mf_iconst (v := 1) (mf_dat eX9_takeWord_p0 1 rfl) (by decide) ?_
  obtain ⟨ck1, hyp⟩ := hyp
  refine mf_putI (r := (RX9, TX9, 9)) (ci := 9) (k := 2) (kI := 2) (t := 0) (mf_dat eX9_takeWord_p0 2 rfl) fl_X9_29 rfl rfl (by decide) rfl (by decide) rfl (by decide) (fun h9 => absurd h9 (by decide)) ck1 ?_
  generalize qh2 : mf_up h x0 2 1 = h2
  replace hyp := hyp _ qh2.symm
  refine mf_aload_n (mf_dat eX9_takeWord_p0 3 rfl) rfl rfl ?_
  refine mf_iconst (v := 0) (mf_dat eX9_takeWord_p0 4 rfl) (by decide) ?_
  refine mf_putI (r := (RX9, TX9, 9)) (ci := 9) (k := 4) (kI := 4) (t := 0) (mf_dat eX9_takeWord_p0 5 rfl) fl_X9_67 rfl rfl (by decide) rfl (by decide) rfl (by decide) (fun h9 => absurd h9 (by decide)) ck1 ?_
  generalize qh3 : mf_up h2 x0 4 0 = h3
  replace hyp := hyp _ qh3.symm
  refine mf_aload_n (mf_dat eX9_takeWord_p0 6 rfl) rfl rfl ?_
  refine mf_iconst (v := 0) (mf_dat eX9_takeWord_p0 7 rfl) (by decide) ?_
  refine mf_putI (r := (RX9, TX9, 9)) (ci := 9) (k := 5) (kI := 5) (t := 0) (mf_dat eX9_takeWord_p0 8 rfl) fl_X9_68 rfl rfl (by decide) rfl (by decide) rfl (by decide) (fun h9 => absurd h9 (by decide)) ck1 ?_
  generalize qh4 : mf_up h3 x0 5 0 = h4
  replace hyp := hyp _ qh4.symm
  refine mf_aload_n (mf_dat eX9_takeWord_p0 9 rfl) rfl rfl ?_
  refine mf_getf (r := (RX9, TX9, 9)) (ci := 9) (k := 3) (t := 0) (v := h4 x0 3) (mf_dat eX9_takeWord_p0 10 rfl) fl_X9_50 rfl (by decide) rfl rfl ck1 ?_
  generalize qv5 : h4 x0 3 = v5
  replace hyp := hyp _ qv5.symm
  refine mf_istore_n (mf_dat eX9_takeWord_p0 11 rfl) rfl (by decide) ?_
  exact mf_sub [1, 2, 0] rfl hyp
abbrev JX9_takeNumber_20 (C : mf_G) (l : Launch) (d n : Nat) (K : mf_Kt) (x0 x1 x2 : Int) (g h : mf_M) : Prop := mf_AW C l YX9_takeNumber (mf_rm d n n) n (mf_Zm C YX9_takeNumber n n K) (fun _ _ => True) 20 [(0, (2, x0)), (1, (0, x1)), (2, (0, x2))] [] n g h
set_option maxRecDepth 100000 in
set_option maxHeartbeats 4000000 in
theorem bX9_takeNumber_20 {C : mf_G} {l : Launch} {d n : Nat} {K : mf_Kt} {x0 x1 x2 : Int} {g h : mf_M} (hd : 1 ≤ d) (hyp : ((x2 < 0 → K 0 g h) ∧ (¬ x2 < 0 → ((x1 ≤ x2 → K 0 g h) ∧ (¬ x1 ≤ x2 → mf_is n x0 9 ∧ mf_is n (g x0 0) 8 ∧ mf_is n (g (g x0 0) 0) 21 ∧ 0 ≤ x2 ∧ x2 < mf_len (g (g x0 0) 0) ∧ mf_MT C l 0 YX9_isDigit [(0, h (g (g x0 0) 0) x2)] n n g h (fun r6 g7 h8 => ((r6 = 0 → K 0 g7 h8) ∧ (¬ r6 = 0 → (∀ h9 : mf_M, h9 = mf_up h8 x0 4 (mf_w32 ((h8 x0 4) + 1)) → ((h9 x0 4 ≤ 4 → mf_is n (g7 x0 0) 8 ∧ mf_is n (g7 (g7 x0 0) 0) 21 ∧ x2 < mf_len (g7 (g7 x0 0) 0) ∧ (∀ h13 : mf_M, h13 = mf_up h9 x0 5 (mf_w32 ((mf_w32 ((mf_w32 ((h9 x0 5) * 10)) + (h9 (g7 (g7 x0 0) 0) x2))) - 48)) → (∀ v14 : Int, v14 = mf_w32 (x2 + 1) → JX9_takeNumber_20 C l d n K x0 x1 v14 g7 h13))) ∧ (¬ h9 x0 4 ≤ 4 → (∀ h15 : mf_M, h15 = mf_up h9 x0 5 (h9 x0 5) → (∀ v16 : Int, v16 = mf_w32 (x2 + 1) → JX9_takeNumber_20 C l d n K x0 x1 v16 g7 h15))))))))))))) : JX9_takeNumber_20 C l d n K x0 x1 x2 g h := by
  refine mf_iload_n (mf_dat eX9_takeNumber 12 rfl) rfl rfl ?_
  refine mf_if_lt (tgt := 99) (mf_dat eX9_takeNumber 13 rfl) (by decide) (fun hc => ?_) (fun hc => ?_)
  · replace hyp := hyp.1 hc
    exact mf_return (mf_dat eX9_takeNumber 53 rfl) rfl hyp
  · replace hyp := hyp.2 hc
    refine mf_iload_n (mf_dat eX9_takeNumber 14 rfl) rfl rfl ?_
    refine mf_iload_n (mf_dat eX9_takeNumber 15 rfl) rfl rfl ?_
    refine mf_icmp_ge (tgt := 99) (mf_dat eX9_takeNumber 16 rfl) (by decide) (fun hc => ?_) (fun hc => ?_)
    · replace hyp := hyp.1 hc
      exact mf_return (mf_dat eX9_takeNumber 53 rfl) rfl hyp
    · replace hyp := hyp.2 hc
      refine mf_aload_n (mf_dat eX9_takeNumber 17 rfl) rfl rfl ?_
      obtain ⟨ck1, hyp⟩ := hyp
      refine mf_getf (r := (RX9, TX9, 9)) (ci := 9) (k := 0) (t := 2) (v := g x0 0) (mf_dat eX9_takeNumber 18 rfl) fl_X9_9 rfl (by decide) rfl rfl ck1 ?_
      obtain ⟨ck2, hyp⟩ := hyp
      refine mf_getf (r := (RX8, TX8, 2)) (ci := 8) (k := 0) (t := 2) (v := g (g x0 0) 0) (mf_dat eX9_takeNumber 19 rfl) fl_X9_40 rfl (by decide) rfl rfl ck2 ?_
      refine mf_iload_n (mf_dat eX9_takeNumber 20 rfl) rfl rfl ?_
      obtain ⟨ck3, hyp⟩ := hyp
      obtain ⟨ck4, hyp⟩ := hyp
      obtain ⟨ck5, hyp⟩ := hyp
      refine mf_bald (mf_dat eX9_takeNumber 21 rfl) ck3 ck4 ck5 ?_
      refine mf_callS (Yc := YX9_isDigit) (mf_dat eX9_takeNumber 22 rfl) ml_X9_61 okX9_isDigit sm_X9_isDigit rfl rfl (Nat.le_of_ble_eq_true rfl) (mf_rr (Nat.le_trans (by decide) hd) (Nat.le_refl _)) (Nat.le_refl _) hyp (fun r6 g7 h8 hyp => ?_)
      refine mf_if_eq (tgt := 99) (mf_dat eX9_takeNumber 23 rfl) (by decide) (fun hc => ?_) (fun hc => ?_)
      · replace hyp := hyp.1 hc
        exact mf_return (mf_dat eX9_takeNumber 53 rfl) rfl hyp
      · replace hyp := hyp.2 hc
        refine mf_aload_n (mf_dat eX9_takeNumber 24 rfl) rfl rfl ?_
        refine mf_dup (mf_dat eX9_takeNumber 25 rfl) (by decide) ?_
        refine mf_getf (r := (RX9, TX9, 9)) (ci := 9) (k := 4) (t := 0) (v := h8 x0 4) (mf_dat eX9_takeNumber 26 rfl) fl_X9_67 rfl (by decide) rfl rfl ck1 ?_
        refine mf_iconst (v := 1) (mf_dat eX9_takeNumber 27 rfl) (by decide) ?_
        refine mf_iadd (mf_dat eX9_takeNumber 28 rfl) ?_
        refine mf_putI (r := (RX9, TX9, 9)) (ci := 9) (k := 4) (kI := 4) (t := 0) (mf_dat eX9_takeNumber 29 rfl) fl_X9_67 rfl rfl (by decide) rfl (by decide) rfl (by decide) (fun h9 => absurd h9 (by decide)) ck1 ?_
        generalize qh9 : mf_up h8 x0 4 (mf_w32 ((h8 x0 4) + 1)) = h9
        replace hyp := hyp _ qh9.symm
        refine mf_aload_n (mf_dat eX9_takeNumber 30 rfl) rfl rfl ?_
        refine mf_aload_n (mf_dat eX9_takeNumber 31 rfl) rfl rfl ?_
        refine mf_getf (r := (RX9, TX9, 9)) (ci := 9) (k := 4) (t := 0) (v := h9 x0 4) (mf_dat eX9_takeNumber 32 rfl) fl_X9_67 rfl (by decide) rfl rfl ck1 ?_
        refine mf_iconst (v := 4) (mf_dat eX9_takeNumber 33 rfl) (by decide) ?_
        refine mf_icmp_le (tgt := 70) (mf_dat eX9_takeNumber 34 rfl) (by decide) (fun hc => ?_) (fun hc => ?_)
        · replace hyp := hyp.1 hc
          refine mf_aload_n (mf_dat eX9_takeNumber 38 rfl) rfl rfl ?_
          refine mf_getf (r := (RX9, TX9, 9)) (ci := 9) (k := 5) (t := 0) (v := h9 x0 5) (mf_dat eX9_takeNumber 39 rfl) fl_X9_68 rfl (by decide) rfl rfl ck1 ?_
          refine mf_bipush (v := 10) (mf_dat eX9_takeNumber 40 rfl) (by decide) ?_
          refine mf_imul (mf_dat eX9_takeNumber 41 rfl) ?_
          refine mf_aload_n (mf_dat eX9_takeNumber 42 rfl) rfl rfl ?_
          refine mf_getf (r := (RX9, TX9, 9)) (ci := 9) (k := 0) (t := 2) (v := g7 x0 0) (mf_dat eX9_takeNumber 43 rfl) fl_X9_9 rfl (by decide) rfl rfl ck1 ?_
          obtain ⟨ck10, hyp⟩ := hyp
          refine mf_getf (r := (RX8, TX8, 2)) (ci := 8) (k := 0) (t := 2) (v := g7 (g7 x0 0) 0) (mf_dat eX9_takeNumber 44 rfl) fl_X9_40 rfl (by decide) rfl rfl ck10 ?_
          refine mf_iload_n (mf_dat eX9_takeNumber 45 rfl) rfl rfl ?_
          obtain ⟨ck11, hyp⟩ := hyp
          obtain ⟨ck12, hyp⟩ := hyp
          refine mf_bald (mf_dat eX9_takeNumber 46 rfl) ck11 ck4 ck12 ?_
          refine mf_iadd (mf_dat eX9_takeNumber 47 rfl) ?_
          refine mf_bipush (v := 48) (mf_dat eX9_takeNumber 48 rfl) (by decide) ?_
          refine mf_isub (mf_dat eX9_takeNumber 49 rfl) ?_
          refine mf_putI (r := (RX9, TX9, 9)) (ci := 9) (k := 5) (kI := 5) (t := 0) (mf_dat eX9_takeNumber 50 rfl) fl_X9_68 rfl rfl (by decide) rfl (by decide) rfl (by decide) (fun h9 => absurd h9 (by decide)) ck1 ?_
          generalize qh13 : mf_up h9 x0 5 (mf_w32 ((mf_w32 ((mf_w32 ((h9 x0 5) * 10)) + (h9 (g7 (g7 x0 0) 0) x2))) - 48)) = h13
          replace hyp := hyp _ qh13.symm
          refine mf_iinc (mf_dat eX9_takeNumber 51 rfl) rfl (by decide) (by decide) ?_
          generalize qv14 : mf_w32 (x2 + 1) = v14
          replace hyp := hyp _ qv14.symm
          refine mf_goto (tgt := 20) (mf_dat eX9_takeNumber 52 rfl) (by decide) ?_
          exact mf_sub [1, 2, 0] rfl hyp
        · replace hyp := hyp.2 hc
          refine mf_aload_n (mf_dat eX9_takeNumber 35 rfl) rfl rfl ?_
          refine mf_getf (r := (RX9, TX9, 9)) (ci := 9) (k := 5) (t := 0) (v := h9 x0 5) (mf_dat eX9_takeNumber 36 rfl) fl_X9_68 rfl (by decide) rfl rfl ck1 ?_
          refine mf_goto (tgt := 90) (mf_dat eX9_takeNumber 37 rfl) (by decide) ?_
          refine mf_putI (r := (RX9, TX9, 9)) (ci := 9) (k := 5) (kI := 5) (t := 0) (mf_dat eX9_takeNumber 50 rfl) fl_X9_68 rfl rfl (by decide) rfl (by decide) rfl (by decide) (fun h9 => absurd h9 (by decide)) ck1 ?_
          generalize qh15 : mf_up h9 x0 5 (h9 x0 5) = h15
          replace hyp := hyp _ qh15.symm
          refine mf_iinc (mf_dat eX9_takeNumber 51 rfl) rfl (by decide) (by decide) ?_
          generalize qv16 : mf_w32 (x2 + 1) = v16
          replace hyp := hyp _ qv16.symm
          refine mf_goto (tgt := 20) (mf_dat eX9_takeNumber 52 rfl) (by decide) ?_
          exact mf_sub [1, 2, 0] rfl hyp
set_option maxRecDepth 100000 in
set_option maxHeartbeats 4000000 in
theorem mX9_takeNumber {C : mf_G} {l : Launch} {d n : Nat} {K : mf_Kt} {x0 x1 : Int} {g h : mf_M} (hyp : mf_is n x0 9 ∧ (∀ h2 : mf_M, h2 = mf_up h x0 2 2 → (∀ h3 : mf_M, h3 = mf_up h2 x0 4 0 → (∀ h4 : mf_M, h4 = mf_up h3 x0 5 0 → (∀ v5 : Int, v5 = h4 x0 3 → JX9_takeNumber_20 C l d n K x0 x1 v5 g h4))))) : mf_MT C l d YX9_takeNumber [(2, x0), (0, x1)] n n g h K := by
  refine mf_entry (by decide) (Nat.le_of_ble_eq_true rfl) ?_
  refine mf_aload_n (mf_dat eX9_takeNumber 0 rfl) rfl rfl ?_
  refine mf_iconst (v := 2) (mf_dat eX9_takeNumber 1 rfl) (by decide) ?_
  obtain ⟨ck1, hyp⟩ := hyp
  refine mf_putI (r := (RX9, TX9, 9)) (ci := 9) (k := 2) (kI := 2) (t := 0) (mf_dat eX9_takeNumber 2 rfl) fl_X9_29 rfl rfl (by decide) rfl (by decide) rfl (by decide) (fun h9 => absurd h9 (by decide)) ck1 ?_
  generalize qh2 : mf_up h x0 2 2 = h2
  replace hyp := hyp _ qh2.symm
  refine mf_aload_n (mf_dat eX9_takeNumber 3 rfl) rfl rfl ?_
  refine mf_iconst (v := 0) (mf_dat eX9_takeNumber 4 rfl) (by decide) ?_
  refine mf_putI (r := (RX9, TX9, 9)) (ci := 9) (k := 4) (kI := 4) (t := 0) (mf_dat eX9_takeNumber 5 rfl) fl_X9_67 rfl rfl (by decide) rfl (by decide) rfl (by decide) (fun h9 => absurd h9 (by decide)) ck1 ?_
  generalize qh3 : mf_up h2 x0 4 0 = h3
  replace hyp := hyp _ qh3.symm
  refine mf_aload_n (mf_dat eX9_takeNumber 6 rfl) rfl rfl ?_
  refine mf_iconst (v := 0) (mf_dat eX9_takeNumber 7 rfl) (by decide) ?_
  refine mf_putI (r := (RX9, TX9, 9)) (ci := 9) (k := 5) (kI := 5) (t := 0) (mf_dat eX9_takeNumber 8 rfl) fl_X9_68 rfl rfl (by decide) rfl (by decide) rfl (by decide) (fun h9 => absurd h9 (by decide)) ck1 ?_
  generalize qh4 : mf_up h3 x0 5 0 = h4
  replace hyp := hyp _ qh4.symm
  refine mf_aload_n (mf_dat eX9_takeNumber 9 rfl) rfl rfl ?_
  refine mf_getf (r := (RX9, TX9, 9)) (ci := 9) (k := 3) (t := 0) (v := h4 x0 3) (mf_dat eX9_takeNumber 10 rfl) fl_X9_50 rfl (by decide) rfl rfl ck1 ?_
  generalize qv5 : h4 x0 3 = v5
  replace hyp := hyp _ qv5.symm
  refine mf_istore_n (mf_dat eX9_takeNumber 11 rfl) rfl (by decide) ?_
  exact mf_sub [1, 2, 0] rfl hyp
set_option maxRecDepth 100000 in
set_option maxHeartbeats 4000000 in
theorem mX9_isLetter {C : mf_G} {l : Launch} {d n : Nat} {K : mf_Kt} {x0 : Int} {g h : mf_M} (hyp : ((x0 < 97 → K 0 g h) ∧ (¬ x0 < 97 → ((122 < x0 → K 0 g h) ∧ (¬ 122 < x0 → K 1 g h))))) : mf_MT C l d YX9_isLetter [(0, x0)] n n g h K := by
  refine mf_entry (by decide) (Nat.le_of_ble_eq_true rfl) ?_
  refine mf_iload_n (mf_dat eX9_isLetter 0 rfl) rfl rfl ?_
  refine mf_bipush (v := 97) (mf_dat eX9_isLetter 1 rfl) (by decide) ?_
  refine mf_icmp_lt (tgt := 16) (mf_dat eX9_isLetter 2 rfl) (by decide) (fun hc => ?_) (fun hc => ?_)
  · replace hyp := hyp.1 hc
    refine mf_iconst (v := 0) (mf_dat eX9_isLetter 8 rfl) (by decide) ?_
    exact mf_ireturn (mf_dat eX9_isLetter 9 rfl) rfl (Or.inr ⟨rfl, by decide⟩) hyp
  · replace hyp := hyp.2 hc
    refine mf_iload_n (mf_dat eX9_isLetter 3 rfl) rfl rfl ?_
    refine mf_bipush (v := 122) (mf_dat eX9_isLetter 4 rfl) (by decide) ?_
    refine mf_icmp_gt (tgt := 16) (mf_dat eX9_isLetter 5 rfl) (by decide) (fun hc => ?_) (fun hc => ?_)
    · replace hyp := hyp.1 hc
      refine mf_iconst (v := 0) (mf_dat eX9_isLetter 8 rfl) (by decide) ?_
      exact mf_ireturn (mf_dat eX9_isLetter 9 rfl) rfl (Or.inr ⟨rfl, by decide⟩) hyp
    · replace hyp := hyp.2 hc
      refine mf_iconst (v := 1) (mf_dat eX9_isLetter 6 rfl) (by decide) ?_
      refine mf_goto (tgt := 17) (mf_dat eX9_isLetter 7 rfl) (by decide) ?_
      exact mf_ireturn (mf_dat eX9_isLetter 9 rfl) rfl (Or.inr ⟨rfl, by decide⟩) hyp
set_option maxRecDepth 100000 in
set_option maxHeartbeats 4000000 in
theorem mX9_isDigit {C : mf_G} {l : Launch} {d n : Nat} {K : mf_Kt} {x0 : Int} {g h : mf_M} (hyp : ((x0 < 48 → K 0 g h) ∧ (¬ x0 < 48 → ((57 < x0 → K 0 g h) ∧ (¬ 57 < x0 → K 1 g h))))) : mf_MT C l d YX9_isDigit [(0, x0)] n n g h K := by
  refine mf_entry (by decide) (Nat.le_of_ble_eq_true rfl) ?_
  refine mf_iload_n (mf_dat eX9_isDigit 0 rfl) rfl rfl ?_
  refine mf_bipush (v := 48) (mf_dat eX9_isDigit 1 rfl) (by decide) ?_
  refine mf_icmp_lt (tgt := 16) (mf_dat eX9_isDigit 2 rfl) (by decide) (fun hc => ?_) (fun hc => ?_)
  · replace hyp := hyp.1 hc
    refine mf_iconst (v := 0) (mf_dat eX9_isDigit 8 rfl) (by decide) ?_
    exact mf_ireturn (mf_dat eX9_isDigit 9 rfl) rfl (Or.inr ⟨rfl, by decide⟩) hyp
  · replace hyp := hyp.2 hc
    refine mf_iload_n (mf_dat eX9_isDigit 3 rfl) rfl rfl ?_
    refine mf_bipush (v := 57) (mf_dat eX9_isDigit 4 rfl) (by decide) ?_
    refine mf_icmp_gt (tgt := 16) (mf_dat eX9_isDigit 5 rfl) (by decide) (fun hc => ?_) (fun hc => ?_)
    · replace hyp := hyp.1 hc
      refine mf_iconst (v := 0) (mf_dat eX9_isDigit 8 rfl) (by decide) ?_
      exact mf_ireturn (mf_dat eX9_isDigit 9 rfl) rfl (Or.inr ⟨rfl, by decide⟩) hyp
    · replace hyp := hyp.2 hc
      refine mf_iconst (v := 1) (mf_dat eX9_isDigit 6 rfl) (by decide) ?_
      refine mf_goto (tgt := 17) (mf_dat eX9_isDigit 7 rfl) (by decide) ?_
      exact mf_ireturn (mf_dat eX9_isDigit 9 rfl) rfl (Or.inr ⟨rfl, by decide⟩) hyp
set_option maxRecDepth 100000 in
set_option maxHeartbeats 4000000 in
theorem mX9_isWord {C : mf_G} {l : Launch} {d n : Nat} {K : mf_Kt} {x0 x1 : Int} {g h : mf_M} (hd : 1 ≤ d) (hyp : mf_is n x0 9 ∧ ((¬ h x0 2 = 1 → K 0 g h) ∧ (h x0 2 = 1 → mf_is n (g x0 1) 10 ∧ mf_MT C l 0 YX10_isThat [(2, g x0 1), (0, x1), (0, h x0 5)] n n g h (fun r2 g3 h4 => ((r2 = 0 → K 0 g3 h4) ∧ (¬ r2 = 0 → K 1 g3 h4)))))) : mf_MT C l d YX9_isWord [(2, x0), (0, x1)] n n g h K := by
  refine mf_entry (by decide) (Nat.le_of_ble_eq_true rfl) ?_
  refine mf_aload_n (mf_dat eX9_isWord 0 rfl) rfl rfl ?_
  obtain ⟨ck1, hyp⟩ := hyp
  refine mf_getf (r := (RX9, TX9, 9)) (ci := 9) (k := 2) (t := 0) (v := h x0 2) (mf_dat eX9_isWord 1 rfl) fl_X9_29 rfl (by decide) rfl rfl ck1 ?_
  refine mf_iconst (v := 1) (mf_dat eX9_isWord 2 rfl) (by decide) ?_
  refine mf_icmp_ne (tgt := 27) (mf_dat eX9_isWord 3 rfl) (by decide) (fun hc => ?_) (fun hc => ?_)
  · replace hyp := hyp.1 hc
    refine mf_iconst (v := 0) (mf_dat eX9_isWord 13 rfl) (by decide) ?_
    exact mf_ireturn (mf_dat eX9_isWord 14 rfl) rfl (Or.inr ⟨rfl, by decide⟩) hyp
  · replace hyp := hyp.2 hc
    refine mf_aload_n (mf_dat eX9_isWord 4 rfl) rfl rfl ?_
    refine mf_getf (r := (RX9, TX9, 9)) (ci := 9) (k := 1) (t := 2) (v := g x0 1) (mf_dat eX9_isWord 5 rfl) fl_X9_15 rfl (by decide) rfl rfl ck1 ?_
    refine mf_iload_n (mf_dat eX9_isWord 6 rfl) rfl rfl ?_
    refine mf_aload_n (mf_dat eX9_isWord 7 rfl) rfl rfl ?_
    refine mf_getf (r := (RX9, TX9, 9)) (ci := 9) (k := 5) (t := 0) (v := h x0 5) (mf_dat eX9_isWord 8 rfl) fl_X9_68 rfl (by decide) rfl rfl ck1 ?_
    obtain ⟨ck5, hyp⟩ := hyp
    refine mf_callV (Yc := YX10_isThat) (r := (RX10, TX10, 1)) (ci := 10) (mf_dat eX9_isWord 9 rfl) ml_X9_76 okX10_isThat im_X10_isThat sl_X10_isThat rfl rfl rfl rfl (Nat.le_of_ble_eq_true rfl) (mf_rr (Nat.le_trans (by decide) hd) (Nat.le_refl _)) (Nat.le_refl _) ck5 hyp (fun r2 g3 h4 hyp => ?_)
    refine mf_if_eq (tgt := 27) (mf_dat eX9_isWord 10 rfl) (by decide) (fun hc => ?_) (fun hc => ?_)
    · replace hyp := hyp.1 hc
      refine mf_iconst (v := 0) (mf_dat eX9_isWord 13 rfl) (by decide) ?_
      exact mf_ireturn (mf_dat eX9_isWord 14 rfl) rfl (Or.inr ⟨rfl, by decide⟩) hyp
    · replace hyp := hyp.2 hc
      refine mf_iconst (v := 1) (mf_dat eX9_isWord 11 rfl) (by decide) ?_
      refine mf_goto (tgt := 28) (mf_dat eX9_isWord 12 rfl) (by decide) ?_
      exact mf_ireturn (mf_dat eX9_isWord 14 rfl) rfl (Or.inr ⟨rfl, by decide⟩) hyp
set_option maxRecDepth 100000 in
set_option maxHeartbeats 4000000 in
theorem mX9_isSign {C : mf_G} {l : Launch} {d n : Nat} {K : mf_Kt} {x0 x1 : Int} {g h : mf_M} (hyp : mf_is n x0 9 ∧ ((¬ h x0 2 = 3 → K 0 g h) ∧ (h x0 2 = 3 → ((¬ h x0 5 = x1 → K 0 g h) ∧ (h x0 5 = x1 → K 1 g h))))) : mf_MT C l d YX9_isSign [(2, x0), (0, x1)] n n g h K := by
  refine mf_entry (by decide) (Nat.le_of_ble_eq_true rfl) ?_
  refine mf_aload_n (mf_dat eX9_isSign 0 rfl) rfl rfl ?_
  obtain ⟨ck1, hyp⟩ := hyp
  refine mf_getf (r := (RX9, TX9, 9)) (ci := 9) (k := 2) (t := 0) (v := h x0 2) (mf_dat eX9_isSign 1 rfl) fl_X9_29 rfl (by decide) rfl rfl ck1 ?_
  refine mf_iconst (v := 3) (mf_dat eX9_isSign 2 rfl) (by decide) ?_
  refine mf_icmp_ne (tgt := 20) (mf_dat eX9_isSign 3 rfl) (by decide) (fun hc => ?_) (fun hc => ?_)
  · replace hyp := hyp.1 hc
    refine mf_iconst (v := 0) (mf_dat eX9_isSign 10 rfl) (by decide) ?_
    exact mf_ireturn (mf_dat eX9_isSign 11 rfl) rfl (Or.inr ⟨rfl, by decide⟩) hyp
  · replace hyp := hyp.2 hc
    refine mf_aload_n (mf_dat eX9_isSign 4 rfl) rfl rfl ?_
    refine mf_getf (r := (RX9, TX9, 9)) (ci := 9) (k := 5) (t := 0) (v := h x0 5) (mf_dat eX9_isSign 5 rfl) fl_X9_68 rfl (by decide) rfl rfl ck1 ?_
    refine mf_iload_n (mf_dat eX9_isSign 6 rfl) rfl rfl ?_
    refine mf_icmp_ne (tgt := 20) (mf_dat eX9_isSign 7 rfl) (by decide) (fun hc => ?_) (fun hc => ?_)
    · replace hyp := hyp.1 hc
      refine mf_iconst (v := 0) (mf_dat eX9_isSign 10 rfl) (by decide) ?_
      exact mf_ireturn (mf_dat eX9_isSign 11 rfl) rfl (Or.inr ⟨rfl, by decide⟩) hyp
    · replace hyp := hyp.2 hc
      refine mf_iconst (v := 1) (mf_dat eX9_isSign 8 rfl) (by decide) ?_
      refine mf_goto (tgt := 21) (mf_dat eX9_isSign 9 rfl) (by decide) ?_
      exact mf_ireturn (mf_dat eX9_isSign 11 rfl) rfl (Or.inr ⟨rfl, by decide⟩) hyp
set_option maxRecDepth 100000 in
set_option maxHeartbeats 4000000 in
theorem mX9_fail {C : mf_G} {l : Launch} {d n : Nat} {K : mf_Kt} {x0 x1 x2 : Int} {g h : mf_M} (hyp : mf_is n x0 9 ∧ ((¬ h x0 7 = 0 → K 0 g h) ∧ (h x0 7 = 0 → (∀ h2 : mf_M, h2 = mf_up h x0 7 x1 → (∀ h3 : mf_M, h3 = mf_up h2 x0 8 x2 → K 0 g h3))))) : mf_MT C l d YX9_fail [(2, x0), (0, x1), (0, x2)] n n g h K := by
  refine mf_entry (by decide) (Nat.le_of_ble_eq_true rfl) ?_
  refine mf_aload_n (mf_dat eX9_fail 0 rfl) rfl rfl ?_
  obtain ⟨ck1, hyp⟩ := hyp
  refine mf_getf (r := (RX9, TX9, 9)) (ci := 9) (k := 7) (t := 0) (v := h x0 7) (mf_dat eX9_fail 1 rfl) fl_X9_19 rfl (by decide) rfl rfl ck1 ?_
  refine mf_if_ne (tgt := 17) (mf_dat eX9_fail 2 rfl) (by decide) (fun hc => ?_) (fun hc => ?_)
  · replace hyp := hyp.1 hc
    exact mf_return (mf_dat eX9_fail 9 rfl) rfl hyp
  · replace hyp := hyp.2 hc
    refine mf_aload_n (mf_dat eX9_fail 3 rfl) rfl rfl ?_
    refine mf_iload_n (mf_dat eX9_fail 4 rfl) rfl rfl ?_
    refine mf_putI (r := (RX9, TX9, 9)) (ci := 9) (k := 7) (kI := 7) (t := 0) (mf_dat eX9_fail 5 rfl) fl_X9_19 rfl rfl (by decide) rfl (by decide) rfl (by decide) (fun h9 => absurd h9 (by decide)) ck1 ?_
    generalize qh2 : mf_up h x0 7 x1 = h2
    replace hyp := hyp _ qh2.symm
    refine mf_aload_n (mf_dat eX9_fail 6 rfl) rfl rfl ?_
    refine mf_iload_n (mf_dat eX9_fail 7 rfl) rfl rfl ?_
    refine mf_putI (r := (RX9, TX9, 9)) (ci := 9) (k := 8) (kI := 8) (t := 0) (mf_dat eX9_fail 8 rfl) fl_X9_23 rfl rfl (by decide) rfl (by decide) rfl (by decide) (fun h9 => absurd h9 (by decide)) ck1 ?_
    generalize qh3 : mf_up h2 x0 8 x2 = h3
    replace hyp := hyp _ qh3.symm
    exact mf_return (mf_dat eX9_fail 9 rfl) rfl hyp
set_option maxRecDepth 100000 in
set_option maxHeartbeats 4000000 in
theorem mX9_passSign {C : mf_G} {l : Launch} {d n : Nat} {K : mf_Kt} {x0 x1 : Int} {g h : mf_M} (hd : 3 ≤ d) (hyp : mf_is n x0 9 ∧ ((¬ h x0 7 = 0 → ((¬ h x0 7 = 0 → K 0 g h) ∧ (h x0 7 = 0 → mf_MT C l 2 YX9_step [(2, x0)] n n g h (fun r2 g3 h4 => K 0 g3 h4)))) ∧ (h x0 7 = 0 → mf_MT C l 0 YX9_isSign [(2, x0), (0, x1)] n n g h (fun r5 g6 h7 => ((¬ r5 = 0 → ((¬ h7 x0 7 = 0 → K 0 g6 h7) ∧ (h7 x0 7 = 0 → mf_MT C l 2 YX9_step [(2, x0)] n n g6 h7 (fun r8 g9 h10 => K 0 g9 h10)))) ∧ (r5 = 0 → mf_MT C l 0 YX9_fail [(2, x0), (0, 1), (0, h7 x0 3)] n n g6 h7 (fun r11 g12 h13 => ((¬ h13 x0 7 = 0 → K 0 g12 h13) ∧ (h13 x0 7 = 0 → mf_MT C l 2 YX9_step [(2, x0)] n n g12 h13 (fun r14 g15 h16 => K 0 g15 h16)))))))))) : mf_MT C l d YX9_passSign [(2, x0), (0, x1)] n n g h K := by
  refine mf_entry (by decide) (Nat.le_of_ble_eq_true rfl) ?_
  refine mf_aload_n (mf_dat eX9_passSign 0 rfl) rfl rfl ?_
  obtain ⟨ck1, hyp⟩ := hyp
  refine mf_getf (r := (RX9, TX9, 9)) (ci := 9) (k := 7) (t := 0) (v := h x0 7) (mf_dat eX9_passSign 1 rfl) fl_X9_19 rfl (by decide) rfl rfl ck1 ?_
  refine mf_if_ne (tgt := 24) (mf_dat eX9_passSign 2 rfl) (by decide) (fun hc => ?_) (fun hc => ?_)
  · replace hyp := hyp.1 hc
    refine mf_aload_n (mf_dat eX9_passSign 12 rfl) rfl rfl ?_
    refine mf_getf (r := (RX9, TX9, 9)) (ci := 9) (k := 7) (t := 0) (v := h x0 7) (mf_dat eX9_passSign 13 rfl) fl_X9_19 rfl (by decide) rfl rfl ck1 ?_
    refine mf_if_ne (tgt := 35) (mf_dat eX9_passSign 14 rfl) (by decide) (fun hc => ?_) (fun hc => ?_)
    · replace hyp := hyp.1 hc
      exact mf_return (mf_dat eX9_passSign 17 rfl) rfl hyp
    · replace hyp := hyp.2 hc
      refine mf_aload_n (mf_dat eX9_passSign 15 rfl) rfl rfl ?_
      refine mf_callV (Yc := YX9_step) (r := (RX9, TX9, 9)) (ci := 9) (mf_dat eX9_passSign 16 rfl) ml_X9_32 okX9_step im_X9_step sl_X9_step rfl rfl rfl rfl (Nat.le_of_ble_eq_true rfl) (mf_rr (Nat.le_trans (by decide) hd) (Nat.le_refl _)) (Nat.le_refl _) ck1 hyp (fun r2 g3 h4 hyp => ?_)
      exact mf_return (mf_dat eX9_passSign 17 rfl) rfl hyp
  · replace hyp := hyp.2 hc
    refine mf_aload_n (mf_dat eX9_passSign 3 rfl) rfl rfl ?_
    refine mf_iload_n (mf_dat eX9_passSign 4 rfl) rfl rfl ?_
    refine mf_callV (Yc := YX9_isSign) (r := (RX9, TX9, 9)) (ci := 9) (mf_dat eX9_passSign 5 rfl) ml_X9_80 okX9_isSign im_X9_isSign sl_X9_isSign rfl rfl rfl rfl (Nat.le_of_ble_eq_true rfl) (mf_rr (Nat.le_trans (by decide) hd) (Nat.le_refl _)) (Nat.le_refl _) ck1 hyp (fun r5 g6 h7 hyp => ?_)
    refine mf_if_ne (tgt := 24) (mf_dat eX9_passSign 6 rfl) (by decide) (fun hc => ?_) (fun hc => ?_)
    · replace hyp := hyp.1 hc
      refine mf_aload_n (mf_dat eX9_passSign 12 rfl) rfl rfl ?_
      refine mf_getf (r := (RX9, TX9, 9)) (ci := 9) (k := 7) (t := 0) (v := h7 x0 7) (mf_dat eX9_passSign 13 rfl) fl_X9_19 rfl (by decide) rfl rfl ck1 ?_
      refine mf_if_ne (tgt := 35) (mf_dat eX9_passSign 14 rfl) (by decide) (fun hc => ?_) (fun hc => ?_)
      · replace hyp := hyp.1 hc
        exact mf_return (mf_dat eX9_passSign 17 rfl) rfl hyp
      · replace hyp := hyp.2 hc
        refine mf_aload_n (mf_dat eX9_passSign 15 rfl) rfl rfl ?_
        refine mf_callV (Yc := YX9_step) (r := (RX9, TX9, 9)) (ci := 9) (mf_dat eX9_passSign 16 rfl) ml_X9_32 okX9_step im_X9_step sl_X9_step rfl rfl rfl rfl (Nat.le_of_ble_eq_true rfl) (mf_rr (Nat.le_trans (by decide) hd) (Nat.le_refl _)) (Nat.le_refl _) ck1 hyp (fun r8 g9 h10 hyp => ?_)
        exact mf_return (mf_dat eX9_passSign 17 rfl) rfl hyp
    · replace hyp := hyp.2 hc
      refine mf_aload_n (mf_dat eX9_passSign 7 rfl) rfl rfl ?_
      refine mf_iconst (v := 1) (mf_dat eX9_passSign 8 rfl) (by decide) ?_
      refine mf_aload_n (mf_dat eX9_passSign 9 rfl) rfl rfl ?_
      refine mf_getf (r := (RX9, TX9, 9)) (ci := 9) (k := 3) (t := 0) (v := h7 x0 3) (mf_dat eX9_passSign 10 rfl) fl_X9_50 rfl (by decide) rfl rfl ck1 ?_
      refine mf_callV (Yc := YX9_fail) (r := (RX9, TX9, 9)) (ci := 9) (mf_dat eX9_passSign 11 rfl) ml_X9_84 okX9_fail im_X9_fail sl_X9_fail rfl rfl rfl rfl (Nat.le_of_ble_eq_true rfl) (mf_rr (Nat.le_trans (by decide) hd) (Nat.le_refl _)) (Nat.le_refl _) ck1 hyp (fun r11 g12 h13 hyp => ?_)
      refine mf_aload_n (mf_dat eX9_passSign 12 rfl) rfl rfl ?_
      refine mf_getf (r := (RX9, TX9, 9)) (ci := 9) (k := 7) (t := 0) (v := h13 x0 7) (mf_dat eX9_passSign 13 rfl) fl_X9_19 rfl (by decide) rfl rfl ck1 ?_
      refine mf_if_ne (tgt := 35) (mf_dat eX9_passSign 14 rfl) (by decide) (fun hc => ?_) (fun hc => ?_)
      · replace hyp := hyp.1 hc
        exact mf_return (mf_dat eX9_passSign 17 rfl) rfl hyp
      · replace hyp := hyp.2 hc
        refine mf_aload_n (mf_dat eX9_passSign 15 rfl) rfl rfl ?_
        refine mf_callV (Yc := YX9_step) (r := (RX9, TX9, 9)) (ci := 9) (mf_dat eX9_passSign 16 rfl) ml_X9_32 okX9_step im_X9_step sl_X9_step rfl rfl rfl rfl (Nat.le_of_ble_eq_true rfl) (mf_rr (Nat.le_trans (by decide) hd) (Nat.le_refl _)) (Nat.le_refl _) ck1 hyp (fun r14 g15 h16 hyp => ?_)
        exact mf_return (mf_dat eX9_passSign 17 rfl) rfl hyp
set_option maxRecDepth 100000 in
set_option maxHeartbeats 4000000 in
theorem mX9_passWord {C : mf_G} {l : Launch} {d n : Nat} {K : mf_Kt} {x0 x1 : Int} {g h : mf_M} (hd : 3 ≤ d) (hyp : mf_is n x0 9 ∧ ((¬ h x0 7 = 0 → ((¬ h x0 7 = 0 → K 0 g h) ∧ (h x0 7 = 0 → mf_MT C l 2 YX9_step [(2, x0)] n n g h (fun r2 g3 h4 => K 0 g3 h4)))) ∧ (h x0 7 = 0 → mf_MT C l 1 YX9_isWord [(2, x0), (0, x1)] n n g h (fun r5 g6 h7 => ((¬ r5 = 0 → ((¬ h7 x0 7 = 0 → K 0 g6 h7) ∧ (h7 x0 7 = 0 → mf_MT C l 2 YX9_step [(2, x0)] n n g6 h7 (fun r8 g9 h10 => K 0 g9 h10)))) ∧ (r5 = 0 → mf_MT C l 0 YX9_fail [(2, x0), (0, 1), (0, h7 x0 3)] n n g6 h7 (fun r11 g12 h13 => ((¬ h13 x0 7 = 0 → K 0 g12 h13) ∧ (h13 x0 7 = 0 → mf_MT C l 2 YX9_step [(2, x0)] n n g12 h13 (fun r14 g15 h16 => K 0 g15 h16)))))))))) : mf_MT C l d YX9_passWord [(2, x0), (0, x1)] n n g h K := by
  refine mf_entry (by decide) (Nat.le_of_ble_eq_true rfl) ?_
  refine mf_aload_n (mf_dat eX9_passWord 0 rfl) rfl rfl ?_
  obtain ⟨ck1, hyp⟩ := hyp
  refine mf_getf (r := (RX9, TX9, 9)) (ci := 9) (k := 7) (t := 0) (v := h x0 7) (mf_dat eX9_passWord 1 rfl) fl_X9_19 rfl (by decide) rfl rfl ck1 ?_
  refine mf_if_ne (tgt := 24) (mf_dat eX9_passWord 2 rfl) (by decide) (fun hc => ?_) (fun hc => ?_)
  · replace hyp := hyp.1 hc
    refine mf_aload_n (mf_dat eX9_passWord 12 rfl) rfl rfl ?_
    refine mf_getf (r := (RX9, TX9, 9)) (ci := 9) (k := 7) (t := 0) (v := h x0 7) (mf_dat eX9_passWord 13 rfl) fl_X9_19 rfl (by decide) rfl rfl ck1 ?_
    refine mf_if_ne (tgt := 35) (mf_dat eX9_passWord 14 rfl) (by decide) (fun hc => ?_) (fun hc => ?_)
    · replace hyp := hyp.1 hc
      exact mf_return (mf_dat eX9_passWord 17 rfl) rfl hyp
    · replace hyp := hyp.2 hc
      refine mf_aload_n (mf_dat eX9_passWord 15 rfl) rfl rfl ?_
      refine mf_callV (Yc := YX9_step) (r := (RX9, TX9, 9)) (ci := 9) (mf_dat eX9_passWord 16 rfl) ml_X9_32 okX9_step im_X9_step sl_X9_step rfl rfl rfl rfl (Nat.le_of_ble_eq_true rfl) (mf_rr (Nat.le_trans (by decide) hd) (Nat.le_refl _)) (Nat.le_refl _) ck1 hyp (fun r2 g3 h4 hyp => ?_)
      exact mf_return (mf_dat eX9_passWord 17 rfl) rfl hyp
  · replace hyp := hyp.2 hc
    refine mf_aload_n (mf_dat eX9_passWord 3 rfl) rfl rfl ?_
    refine mf_iload_n (mf_dat eX9_passWord 4 rfl) rfl rfl ?_
    refine mf_callV (Yc := YX9_isWord) (r := (RX9, TX9, 9)) (ci := 9) (mf_dat eX9_passWord 5 rfl) ml_X9_88 okX9_isWord im_X9_isWord sl_X9_isWord rfl rfl rfl rfl (Nat.le_of_ble_eq_true rfl) (mf_rr (Nat.le_trans (by decide) hd) (Nat.le_refl _)) (Nat.le_refl _) ck1 hyp (fun r5 g6 h7 hyp => ?_)
    refine mf_if_ne (tgt := 24) (mf_dat eX9_passWord 6 rfl) (by decide) (fun hc => ?_) (fun hc => ?_)
    · replace hyp := hyp.1 hc
      refine mf_aload_n (mf_dat eX9_passWord 12 rfl) rfl rfl ?_
      refine mf_getf (r := (RX9, TX9, 9)) (ci := 9) (k := 7) (t := 0) (v := h7 x0 7) (mf_dat eX9_passWord 13 rfl) fl_X9_19 rfl (by decide) rfl rfl ck1 ?_
      refine mf_if_ne (tgt := 35) (mf_dat eX9_passWord 14 rfl) (by decide) (fun hc => ?_) (fun hc => ?_)
      · replace hyp := hyp.1 hc
        exact mf_return (mf_dat eX9_passWord 17 rfl) rfl hyp
      · replace hyp := hyp.2 hc
        refine mf_aload_n (mf_dat eX9_passWord 15 rfl) rfl rfl ?_
        refine mf_callV (Yc := YX9_step) (r := (RX9, TX9, 9)) (ci := 9) (mf_dat eX9_passWord 16 rfl) ml_X9_32 okX9_step im_X9_step sl_X9_step rfl rfl rfl rfl (Nat.le_of_ble_eq_true rfl) (mf_rr (Nat.le_trans (by decide) hd) (Nat.le_refl _)) (Nat.le_refl _) ck1 hyp (fun r8 g9 h10 hyp => ?_)
        exact mf_return (mf_dat eX9_passWord 17 rfl) rfl hyp
    · replace hyp := hyp.2 hc
      refine mf_aload_n (mf_dat eX9_passWord 7 rfl) rfl rfl ?_
      refine mf_iconst (v := 1) (mf_dat eX9_passWord 8 rfl) (by decide) ?_
      refine mf_aload_n (mf_dat eX9_passWord 9 rfl) rfl rfl ?_
      refine mf_getf (r := (RX9, TX9, 9)) (ci := 9) (k := 3) (t := 0) (v := h7 x0 3) (mf_dat eX9_passWord 10 rfl) fl_X9_50 rfl (by decide) rfl rfl ck1 ?_
      refine mf_callV (Yc := YX9_fail) (r := (RX9, TX9, 9)) (ci := 9) (mf_dat eX9_passWord 11 rfl) ml_X9_84 okX9_fail im_X9_fail sl_X9_fail rfl rfl rfl rfl (Nat.le_of_ble_eq_true rfl) (mf_rr (Nat.le_trans (by decide) hd) (Nat.le_refl _)) (Nat.le_refl _) ck1 hyp (fun r11 g12 h13 hyp => ?_)
      refine mf_aload_n (mf_dat eX9_passWord 12 rfl) rfl rfl ?_
      refine mf_getf (r := (RX9, TX9, 9)) (ci := 9) (k := 7) (t := 0) (v := h13 x0 7) (mf_dat eX9_passWord 13 rfl) fl_X9_19 rfl (by decide) rfl rfl ck1 ?_
      refine mf_if_ne (tgt := 35) (mf_dat eX9_passWord 14 rfl) (by decide) (fun hc => ?_) (fun hc => ?_)
      · replace hyp := hyp.1 hc
        exact mf_return (mf_dat eX9_passWord 17 rfl) rfl hyp
      · replace hyp := hyp.2 hc
        refine mf_aload_n (mf_dat eX9_passWord 15 rfl) rfl rfl ?_
        refine mf_callV (Yc := YX9_step) (r := (RX9, TX9, 9)) (ci := 9) (mf_dat eX9_passWord 16 rfl) ml_X9_32 okX9_step im_X9_step sl_X9_step rfl rfl rfl rfl (Nat.le_of_ble_eq_true rfl) (mf_rr (Nat.le_trans (by decide) hd) (Nat.le_refl _)) (Nat.le_refl _) ck1 hyp (fun r14 g15 h16 hyp => ?_)
        exact mf_return (mf_dat eX9_passWord 17 rfl) rfl hyp
abbrev JX9_passNumber_25 (C : mf_G) (l : Launch) (d n : Nat) (K : mf_Kt) (x0 : Int) (g h : mf_M) : Prop := mf_AW C l YX9_passNumber (mf_rm d n n) n (mf_Zm C YX9_passNumber n n K) (fun _ _ => True) 25 [(0, (2, x0))] [] n g h
set_option maxRecDepth 100000 in
set_option maxHeartbeats 4000000 in
theorem bX9_passNumber_25 {C : mf_G} {l : Launch} {d n : Nat} {K : mf_Kt} {x0 : Int} {g h : mf_M} (hd : 1 ≤ d) (hyp : mf_is n x0 9 ∧ ((¬ h x0 2 = 2 → mf_MT C l 0 YX9_fail [(2, x0), (0, 1), (0, h x0 3)] n n g h (fun r2 g3 h4 => K (-1) g3 h4)) ∧ (h x0 2 = 2 → mf_MT C l 0 YX9_fail [(2, x0), (0, 1), (0, mf_w32 ((h x0 3) + 4))] n n g h (fun r5 g6 h7 => K (-1) g6 h7)))) : JX9_passNumber_25 C l d n K x0 g h := by
  refine mf_aload_n (mf_dat eX9_passNumber 13 rfl) rfl rfl ?_
  refine mf_iconst (v := 1) (mf_dat eX9_passNumber 14 rfl) (by decide) ?_
  refine mf_aload_n (mf_dat eX9_passNumber 15 rfl) rfl rfl ?_
  obtain ⟨ck1, hyp⟩ := hyp
  refine mf_getf (r := (RX9, TX9, 9)) (ci := 9) (k := 2) (t := 0) (v := h x0 2) (mf_dat eX9_passNumber 16 rfl) fl_X9_29 rfl (by decide) rfl rfl ck1 ?_
  refine mf_iconst (v := 2) (mf_dat eX9_passNumber 17 rfl) (by decide) ?_
  refine mf_icmp_ne (tgt := 44) (mf_dat eX9_passNumber 18 rfl) (by decide) (fun hc => ?_) (fun hc => ?_)
  · replace hyp := hyp.1 hc
    refine mf_aload_n (mf_dat eX9_passNumber 24 rfl) rfl rfl ?_
    refine mf_getf (r := (RX9, TX9, 9)) (ci := 9) (k := 3) (t := 0) (v := h x0 3) (mf_dat eX9_passNumber 25 rfl) fl_X9_50 rfl (by decide) rfl rfl ck1 ?_
    refine mf_callV (Yc := YX9_fail) (r := (RX9, TX9, 9)) (ci := 9) (mf_dat eX9_passNumber 26 rfl) ml_X9_84 okX9_fail im_X9_fail sl_X9_fail rfl rfl rfl rfl (Nat.le_of_ble_eq_true rfl) (mf_rr (Nat.le_trans (by decide) hd) (Nat.le_refl _)) (Nat.le_refl _) ck1 hyp (fun r2 g3 h4 hyp => ?_)
    refine mf_iconst (v := (-1)) (mf_dat eX9_passNumber 27 rfl) (by decide) ?_
    exact mf_ireturn (mf_dat eX9_passNumber 28 rfl) rfl (Or.inl rfl) hyp
  · replace hyp := hyp.2 hc
    refine mf_aload_n (mf_dat eX9_passNumber 19 rfl) rfl rfl ?_
    refine mf_getf (r := (RX9, TX9, 9)) (ci := 9) (k := 3) (t := 0) (v := h x0 3) (mf_dat eX9_passNumber 20 rfl) fl_X9_50 rfl (by decide) rfl rfl ck1 ?_
    refine mf_iconst (v := 4) (mf_dat eX9_passNumber 21 rfl) (by decide) ?_
    refine mf_iadd (mf_dat eX9_passNumber 22 rfl) ?_
    refine mf_goto (tgt := 48) (mf_dat eX9_passNumber 23 rfl) (by decide) ?_
    refine mf_callV (Yc := YX9_fail) (r := (RX9, TX9, 9)) (ci := 9) (mf_dat eX9_passNumber 26 rfl) ml_X9_84 okX9_fail im_X9_fail sl_X9_fail rfl rfl rfl rfl (Nat.le_of_ble_eq_true rfl) (mf_rr (Nat.le_trans (by decide) hd) (Nat.le_refl _)) (Nat.le_refl _) ck1 hyp (fun r5 g6 h7 hyp => ?_)
    refine mf_iconst (v := (-1)) (mf_dat eX9_passNumber 27 rfl) (by decide) ?_
    exact mf_ireturn (mf_dat eX9_passNumber 28 rfl) rfl (Or.inl rfl) hyp
set_option maxRecDepth 100000 in
set_option maxHeartbeats 4000000 in
theorem mX9_passNumber {C : mf_G} {l : Launch} {d n : Nat} {K : mf_Kt} {x0 : Int} {g h : mf_M} (hd : 3 ≤ d) (hyp : mf_is n x0 9 ∧ ((h x0 7 = 0 → ((¬ h x0 2 = 2 → JX9_passNumber_25 C l d n K x0 g h) ∧ (h x0 2 = 2 → ((h x0 4 ≤ 4 → (∀ v2 : Int, v2 = h x0 5 → mf_MT C l 2 YX9_step [(2, x0)] n n g h (fun r3 g4 h5 => K v2 g4 h5))) ∧ (¬ h x0 4 ≤ 4 → JX9_passNumber_25 C l d n K x0 g h))))) ∧ (¬ h x0 7 = 0 → K (-1) g h))) : mf_MT C l d YX9_passNumber [(2, x0)] n n g h K := by
  refine mf_entry (by decide) (Nat.le_of_ble_eq_true rfl) ?_
  refine mf_aload_n (mf_dat eX9_passNumber 0 rfl) rfl rfl ?_
  obtain ⟨ck1, hyp⟩ := hyp
  refine mf_getf (r := (RX9, TX9, 9)) (ci := 9) (k := 7) (t := 0) (v := h x0 7) (mf_dat eX9_passNumber 1 rfl) fl_X9_19 rfl (by decide) rfl rfl ck1 ?_
  refine mf_if_eq (tgt := 9) (mf_dat eX9_passNumber 2 rfl) (by decide) (fun hc => ?_) (fun hc => ?_)
  · replace hyp := hyp.1 hc
    refine mf_aload_n (mf_dat eX9_passNumber 5 rfl) rfl rfl ?_
    refine mf_getf (r := (RX9, TX9, 9)) (ci := 9) (k := 2) (t := 0) (v := h x0 2) (mf_dat eX9_passNumber 6 rfl) fl_X9_29 rfl (by decide) rfl rfl ck1 ?_
    refine mf_iconst (v := 2) (mf_dat eX9_passNumber 7 rfl) (by decide) ?_
    refine mf_icmp_ne (tgt := 25) (mf_dat eX9_passNumber 8 rfl) (by decide) (fun hc => ?_) (fun hc => ?_)
    · replace hyp := hyp.1 hc
      exact mf_sub [0] rfl hyp
    · replace hyp := hyp.2 hc
      refine mf_aload_n (mf_dat eX9_passNumber 9 rfl) rfl rfl ?_
      refine mf_getf (r := (RX9, TX9, 9)) (ci := 9) (k := 4) (t := 0) (v := h x0 4) (mf_dat eX9_passNumber 10 rfl) fl_X9_67 rfl (by decide) rfl rfl ck1 ?_
      refine mf_iconst (v := 4) (mf_dat eX9_passNumber 11 rfl) (by decide) ?_
      refine mf_icmp_le (tgt := 53) (mf_dat eX9_passNumber 12 rfl) (by decide) (fun hc => ?_) (fun hc => ?_)
      · replace hyp := hyp.1 hc
        refine mf_aload_n (mf_dat eX9_passNumber 29 rfl) rfl rfl ?_
        refine mf_getf (r := (RX9, TX9, 9)) (ci := 9) (k := 5) (t := 0) (v := h x0 5) (mf_dat eX9_passNumber 30 rfl) fl_X9_68 rfl (by decide) rfl rfl ck1 ?_
        generalize qv2 : h x0 5 = v2
        replace hyp := hyp _ qv2.symm
        refine mf_istore_n (mf_dat eX9_passNumber 31 rfl) rfl (by decide) ?_
        refine mf_aload_n (mf_dat eX9_passNumber 32 rfl) rfl rfl ?_
        refine mf_callV (Yc := YX9_step) (r := (RX9, TX9, 9)) (ci := 9) (mf_dat eX9_passNumber 33 rfl) ml_X9_32 okX9_step im_X9_step sl_X9_step rfl rfl rfl rfl (Nat.le_of_ble_eq_true rfl) (mf_rr (Nat.le_trans (by decide) hd) (Nat.le_refl _)) (Nat.le_refl _) ck1 hyp (fun r3 g4 h5 hyp => ?_)
        refine mf_iload_n (mf_dat eX9_passNumber 34 rfl) rfl rfl ?_
        exact mf_ireturn (mf_dat eX9_passNumber 35 rfl) rfl (Or.inl rfl) hyp
      · replace hyp := hyp.2 hc
        exact mf_sub [0] rfl hyp
  · replace hyp := hyp.2 hc
    refine mf_iconst (v := (-1)) (mf_dat eX9_passNumber 3 rfl) (by decide) ?_
    exact mf_ireturn (mf_dat eX9_passNumber 4 rfl) rfl (Or.inl rfl) hyp
set_option maxRecDepth 100000 in
set_option maxHeartbeats 4000000 in
theorem mX9_mayOpen {C : mf_G} {l : Launch} {d n : Nat} {K : mf_Kt} {x0 x1 : Int} {g h : mf_M} (hd : 1 ≤ d) (hyp : ((x1 < 6 → mf_is n x0 9 ∧ ((¬ h x0 7 = 0 → K 0 g h) ∧ (h x0 7 = 0 → K 1 g h))) ∧ (¬ x1 < 6 → mf_is n x0 9 ∧ mf_MT C l 0 YX9_fail [(2, x0), (0, 4), (0, h x0 3)] n n g h (fun r3 g4 h5 => ((¬ h5 x0 7 = 0 → K 0 g4 h5) ∧ (h5 x0 7 = 0 → K 1 g4 h5)))))) : mf_MT C l d YX9_mayOpen [(2, x0), (0, x1)] n n g h K := by
  refine mf_entry (by decide) (Nat.le_of_ble_eq_true rfl) ?_
  refine mf_iload_n (mf_dat eX9_mayOpen 0 rfl) rfl rfl ?_
  refine mf_bipush (v := 6) (mf_dat eX9_mayOpen 1 rfl) (by decide) ?_
  refine mf_icmp_lt (tgt := 15) (mf_dat eX9_mayOpen 2 rfl) (by decide) (fun hc => ?_) (fun hc => ?_)
  · replace hyp := hyp.1 hc
    refine mf_aload_n (mf_dat eX9_mayOpen 8 rfl) rfl rfl ?_
    obtain ⟨ck1, hyp⟩ := hyp
    refine mf_getf (r := (RX9, TX9, 9)) (ci := 9) (k := 7) (t := 0) (v := h x0 7) (mf_dat eX9_mayOpen 9 rfl) fl_X9_19 rfl (by decide) rfl rfl ck1 ?_
    refine mf_if_ne (tgt := 26) (mf_dat eX9_mayOpen 10 rfl) (by decide) (fun hc => ?_) (fun hc => ?_)
    · replace hyp := hyp.1 hc
      refine mf_iconst (v := 0) (mf_dat eX9_mayOpen 13 rfl) (by decide) ?_
      exact mf_ireturn (mf_dat eX9_mayOpen 14 rfl) rfl (Or.inr ⟨rfl, by decide⟩) hyp
    · replace hyp := hyp.2 hc
      refine mf_iconst (v := 1) (mf_dat eX9_mayOpen 11 rfl) (by decide) ?_
      refine mf_goto (tgt := 27) (mf_dat eX9_mayOpen 12 rfl) (by decide) ?_
      exact mf_ireturn (mf_dat eX9_mayOpen 14 rfl) rfl (Or.inr ⟨rfl, by decide⟩) hyp
  · replace hyp := hyp.2 hc
    refine mf_aload_n (mf_dat eX9_mayOpen 3 rfl) rfl rfl ?_
    refine mf_iconst (v := 4) (mf_dat eX9_mayOpen 4 rfl) (by decide) ?_
    refine mf_aload_n (mf_dat eX9_mayOpen 5 rfl) rfl rfl ?_
    obtain ⟨ck2, hyp⟩ := hyp
    refine mf_getf (r := (RX9, TX9, 9)) (ci := 9) (k := 3) (t := 0) (v := h x0 3) (mf_dat eX9_mayOpen 6 rfl) fl_X9_50 rfl (by decide) rfl rfl ck2 ?_
    refine mf_callV (Yc := YX9_fail) (r := (RX9, TX9, 9)) (ci := 9) (mf_dat eX9_mayOpen 7 rfl) ml_X9_84 okX9_fail im_X9_fail sl_X9_fail rfl rfl rfl rfl (Nat.le_of_ble_eq_true rfl) (mf_rr (Nat.le_trans (by decide) hd) (Nat.le_refl _)) (Nat.le_refl _) ck2 hyp (fun r3 g4 h5 hyp => ?_)
    refine mf_aload_n (mf_dat eX9_mayOpen 8 rfl) rfl rfl ?_
    refine mf_getf (r := (RX9, TX9, 9)) (ci := 9) (k := 7) (t := 0) (v := h5 x0 7) (mf_dat eX9_mayOpen 9 rfl) fl_X9_19 rfl (by decide) rfl rfl ck2 ?_
    refine mf_if_ne (tgt := 26) (mf_dat eX9_mayOpen 10 rfl) (by decide) (fun hc => ?_) (fun hc => ?_)
    · replace hyp := hyp.1 hc
      refine mf_iconst (v := 0) (mf_dat eX9_mayOpen 13 rfl) (by decide) ?_
      exact mf_ireturn (mf_dat eX9_mayOpen 14 rfl) rfl (Or.inr ⟨rfl, by decide⟩) hyp
    · replace hyp := hyp.2 hc
      refine mf_iconst (v := 1) (mf_dat eX9_mayOpen 11 rfl) (by decide) ?_
      refine mf_goto (tgt := 27) (mf_dat eX9_mayOpen 12 rfl) (by decide) ?_
      exact mf_ireturn (mf_dat eX9_mayOpen 14 rfl) rfl (Or.inr ⟨rfl, by decide⟩) hyp
abbrev JX10_init_18 (C : mf_G) (l : Launch) (d n0 n1 n : Nat) (K : mf_Kt) (x0 x1 x2 x3 : Int) (g h : mf_M) : Prop := mf_AW C l YX10_init (mf_rm d n0 n1) n0 (mf_Zm C YX10_init n0 n1 K) (fun _ _ => True) 18 [(0, (2, x0)), (1, (0, x1)), (2, (0, x2)), (3, (0, x3))] [] n g h
set_option maxRecDepth 100000 in
set_option maxHeartbeats 4000000 in
theorem bX10_init_18 {C : mf_G} {l : Launch} {d n0 n1 n : Nat} {K : mf_Kt} {x0 x1 x2 x3 : Int} {g h : mf_M} (hd : 6 ≤ d) (hn0 : n0 ≤ n) (hyp : n ≤ n1 ∧ mf_MT C l 1 YJ0_length_8abf5 [(2, (-2))] n n g h (fun r2 g3 h4 => ((r2 ≤ x3 → n = n1 ∧ K 0 g3 h4) ∧ (¬ r2 ≤ x3 → mf_MT C l 4 YJ0_charAt_5068e [(2, (-2)), (0, x3)] n n g3 h4 (fun r6 g7 h8 => ((¬ r6 = 32 → (∀ v9 : Int, v9 = mf_w32 (x3 + 1) → JX10_init_18 C l d n0 n1 n K x0 x1 x2 v9 g7 h8)) ∧ (r6 = 32 → mf_is n x0 10 ∧ mf_is n (g7 x0 0) 20 ∧ ((mf_len (g7 x0 0) ≤ x1 → (∀ v12 : Int, v12 = mf_w32 (x3 + 1) → JX10_init_18 C l d n0 n1 n K x0 x1 x2 v12 g7 h8)) ∧ (¬ mf_len (g7 x0 0) ≤ x1 → mf_MT C l 5 YX10_packListed [(0, x2), (0, x3)] n n g7 h8 (fun r13 g14 h15 => 0 ≤ x1 ∧ x1 < mf_len (g7 x0 0) ∧ (∀ h18 : mf_M, h18 = mf_up h15 (g7 x0 0) x1 r13 → (∀ v19 : Int, v19 = mf_w32 (x1 + 1) → (∀ v20 : Int, v20 = mf_w32 (x3 + 1) → (∀ v21 : Int, v21 = mf_w32 (x3 + 1) → JX10_init_18 C l d n0 n1 n K x0 v19 v20 v21 g14 h18)))))))))))))) : JX10_init_18 C l d n0 n1 n K x0 x1 x2 x3 g h := by
  refine mf_iload_n (mf_dat eX10_init 12 rfl) rfl rfl ?_
  refine mf_ldcS (mf_dat eX10_init 13 rfl) rfl ?_
  obtain ⟨ck1, hyp⟩ := hyp
  refine mf_callVT (Yc := YJ0_length_8abf5) (mf_dat eX10_init 14 rfl) ml_X10_17 okJ0_length_8abf5 im_J0_length_8abf5 sl_J0_length_8abf5 rfl rfl rfl (Nat.le_of_ble_eq_true rfl) (mf_rr (Nat.le_trans (by decide) hd) ck1) (Nat.le_refl _) hyp (fun r2 g3 h4 hyp => ?_)
  refine mf_icmp_ge (tgt := 71) (mf_dat eX10_init 15 rfl) (by decide) (fun hc => ?_) (fun hc => ?_)
  · replace hyp := hyp.1 hc
    obtain ⟨ck5, hyp⟩ := hyp
    subst ck5
    exact mf_return (mf_dat eX10_init 40 rfl) rfl hyp
  · replace hyp := hyp.2 hc
    refine mf_ldcS (mf_dat eX10_init 16 rfl) rfl ?_
    refine mf_iload_n (mf_dat eX10_init 17 rfl) rfl rfl ?_
    refine mf_callVT (Yc := YJ0_charAt_5068e) (mf_dat eX10_init 18 rfl) ml_X10_23 okJ0_charAt_5068e im_J0_charAt_5068e sl_J0_charAt_5068e rfl rfl rfl (Nat.le_of_ble_eq_true rfl) (mf_rr (Nat.le_trans (by decide) hd) ck1) (Nat.le_refl _) hyp (fun r6 g7 h8 hyp => ?_)
    refine mf_bipush (v := 32) (mf_dat eX10_init 19 rfl) (by decide) ?_
    refine mf_icmp_ne (tgt := 65) (mf_dat eX10_init 20 rfl) (by decide) (fun hc => ?_) (fun hc => ?_)
    · replace hyp := hyp.1 hc
      refine mf_iinc (mf_dat eX10_init 38 rfl) rfl (by decide) (by decide) ?_
      generalize qv9 : mf_w32 (x3 + 1) = v9
      replace hyp := hyp _ qv9.symm
      refine mf_goto (tgt := 18) (mf_dat eX10_init 39 rfl) (by decide) ?_
      exact mf_sub [1, 2, 3, 0] rfl hyp
    · replace hyp := hyp.2 hc
      refine mf_iload_n (mf_dat eX10_init 21 rfl) rfl rfl ?_
      refine mf_aload_n (mf_dat eX10_init 22 rfl) rfl rfl ?_
      obtain ⟨ck10, hyp⟩ := hyp
      refine mf_getf (r := (RX10, TX10, 1)) (ci := 10) (k := 0) (t := 2) (v := g7 x0 0) (mf_dat eX10_init 23 rfl) fl_X10_11 rfl (by decide) rfl rfl ck10 ?_
      obtain ⟨ck11, hyp⟩ := hyp
      refine mf_alen (c := 20) (i := 0) (ty := .int) (v := mf_len _) (mf_dat eX10_init 24 rfl) (by decide) rfl ck11 rfl (mf_len_small _) ?_
      refine mf_icmp_ge (tgt := 65) (mf_dat eX10_init 25 rfl) (by decide) (fun hc => ?_) (fun hc => ?_)
      · replace hyp := hyp.1 hc
        refine mf_iinc (mf_dat eX10_init 38 rfl) rfl (by decide) (by decide) ?_
        generalize qv12 : mf_w32 (x3 + 1) = v12
        replace hyp := hyp _ qv12.symm
        refine mf_goto (tgt := 18) (mf_dat eX10_init 39 rfl) (by decide) ?_
        exact mf_sub [1, 2, 3, 0] rfl hyp
      · replace hyp := hyp.2 hc
        refine mf_aload_n (mf_dat eX10_init 26 rfl) rfl rfl ?_
        refine mf_getf (r := (RX10, TX10, 1)) (ci := 10) (k := 0) (t := 2) (v := g7 x0 0) (mf_dat eX10_init 27 rfl) fl_X10_11 rfl (by decide) rfl rfl ck10 ?_
        refine mf_iload_n (mf_dat eX10_init 28 rfl) rfl rfl ?_
        refine mf_iload_n (mf_dat eX10_init 29 rfl) rfl rfl ?_
        refine mf_iload_n (mf_dat eX10_init 30 rfl) rfl rfl ?_
        refine mf_callS (Yc := YX10_packListed) (mf_dat eX10_init 31 rfl) ml_X10_27 okX10_packListed sm_X10_packListed rfl rfl (Nat.le_of_ble_eq_true rfl) (mf_rr (Nat.le_trans (by decide) hd) ck1) (Nat.le_refl _) hyp (fun r13 g14 h15 hyp => ?_)
        obtain ⟨ck16, hyp⟩ := hyp
        obtain ⟨ck17, hyp⟩ := hyp
        refine mf_iast (mf_dat eX10_init 32 rfl) ck11 ck16 ck17 ?_
        generalize qh18 : mf_up h15 (g7 x0 0) x1 r13 = h18
        replace hyp := hyp _ qh18.symm
        refine mf_iinc (mf_dat eX10_init 33 rfl) rfl (by decide) (by decide) ?_
        generalize qv19 : mf_w32 (x1 + 1) = v19
        replace hyp := hyp _ qv19.symm
        refine mf_iload_n (mf_dat eX10_init 34 rfl) rfl rfl ?_
        refine mf_iconst (v := 1) (mf_dat eX10_init 35 rfl) (by decide) ?_
        refine mf_iadd (mf_dat eX10_init 36 rfl) ?_
        generalize qv20 : mf_w32 (x3 + 1) = v20
        replace hyp := hyp _ qv20.symm
        refine mf_istore_n (mf_dat eX10_init 37 rfl) rfl (by decide) ?_
        refine mf_iinc (mf_dat eX10_init 38 rfl) rfl (by decide) (by decide) ?_
        generalize qv21 : mf_w32 (x3 + 1) = v21
        replace hyp := hyp _ qv21.symm
        refine mf_goto (tgt := 18) (mf_dat eX10_init 39 rfl) (by decide) ?_
        exact mf_sub [3, 2, 1, 0] rfl hyp
set_option maxRecDepth 100000 in
set_option maxHeartbeats 4000000 in
theorem mX10_init {C : mf_G} {l : Launch} {d n0 n1 : Nat} {K : mf_Kt} {x0 : Int} {g h : mf_M} (hd : 1 ≤ d) (hyp : 0 ≤ x0 ∧ mf_sh n0 = (20, 34) ∧ mf_more (mf_rm d n0 n1) n0 n0 ∧ (∀ j : Nat, g n0 j = -1) ∧ (∀ j : Nat, h n0 j = 0) ∧ mf_is (n0 + 1) x0 10 ∧ (∀ g7 : mf_M, g7 = mf_up g x0 0 ((n0 : Nat) : Int) → JX10_init_18 C l d n0 n1 (n0 + 1) K x0 0 0 0 g7 h)) : mf_MT C l d YX10_init [(2, x0)] n0 n1 g h K := by
  refine mf_entry (by decide) (Nat.le_of_ble_eq_true rfl) ?_
  refine mf_aload_n (mf_dat eX10_init 0 rfl) rfl rfl ?_
  obtain ⟨ck1, hyp⟩ := hyp
  refine mf_objInit (mf_dat eX10_init 1 rfl) ml_X10_3 im_obj co_obj (mf_rmf hd) (mf_rml hd (Nat.le_of_ble_eq_true rfl)) ck1 ?_
  refine mf_aload_n (mf_dat eX10_init 2 rfl) rfl rfl ?_
  refine mf_bipush (v := 34) (mf_dat eX10_init 3 rfl) (by decide) ?_
  obtain ⟨ck2, hyp⟩ := hyp
  obtain ⟨ck3, hyp⟩ := hyp
  obtain ⟨ck4, hyp⟩ := hyp
  obtain ⟨ck5, hyp⟩ := hyp
  refine mf_newa (at_ := .int) (i := 0) (mf_dat eX10_init 4 rfl) ac_20 rfl ck2 rfl (by decide) rfl rfl (by decide) (by intro c; simp) (by decide) ck3 ck4 ck5 ?_
  obtain ⟨ck6, hyp⟩ := hyp
  refine mf_putRF (r := (RX10, TX10, 1)) (ci := 10) (k := 0) (kI := 0) (t := 2) (mf_dat eX10_init 5 rfl) fl_X10_11 rfl rfl (by decide) rfl (by decide) rfl rfl rfl (by decide) (fun h9 => absurd h9 (by decide)) ck6 ?_
  generalize qg7 : mf_up g x0 0 ((n0 : Nat) : Int) = g7
  replace hyp := hyp _ qg7.symm
  refine mf_iconst (v := 0) (mf_dat eX10_init 6 rfl) (by decide) ?_
  refine mf_istore_n (mf_dat eX10_init 7 rfl) rfl (by decide) ?_
  refine mf_iconst (v := 0) (mf_dat eX10_init 8 rfl) (by decide) ?_
  refine mf_istore_n (mf_dat eX10_init 9 rfl) rfl (by decide) ?_
  refine mf_iconst (v := 0) (mf_dat eX10_init 10 rfl) (by decide) ?_
  refine mf_istore_n (mf_dat eX10_init 11 rfl) rfl (by decide) ?_
  exact mf_sub [3, 2, 1, 0] rfl hyp
abbrev JX10_packListed_4 (C : mf_G) (l : Launch) (d n : Nat) (K : mf_Kt) (x0 x1 x2 x3 : Int) (g h : mf_M) : Prop := mf_AW C l YX10_packListed (mf_rm d n n) n (mf_Zm C YX10_packListed n n K) (fun _ _ => True) 4 [(0, (0, x0)), (1, (0, x1)), (2, (0, x2)), (3, (0, x3))] [] n g h
set_option maxRecDepth 100000 in
set_option maxHeartbeats 4000000 in
theorem bX10_packListed_4 {C : mf_G} {l : Launch} {d n : Nat} {K : mf_Kt} {x0 x1 x2 x3 : Int} {g h : mf_M} (hd : 5 ≤ d) (hyp : ((mf_w32 (x0 + 6) ≤ x3 → K x2 g h) ∧ (¬ mf_w32 (x0 + 6) ≤ x3 → ((x1 ≤ x3 → mf_MT C l 0 YX10_addLetter [(0, x2), (0, 0)] n n g h (fun r1 g2 h3 => (∀ v4 : Int, v4 = mf_w32 (x3 + 1) → JX10_packListed_4 C l d n K x0 x1 r1 v4 g2 h3))) ∧ (¬ x1 ≤ x3 → mf_MT C l 1 YJ0_length_8abf5 [(2, (-2))] n n g h (fun r5 g6 h7 => ((r5 ≤ x3 → mf_MT C l 0 YX10_addLetter [(0, x2), (0, 0)] n n g6 h7 (fun r8 g9 h10 => (∀ v11 : Int, v11 = mf_w32 (x3 + 1) → JX10_packListed_4 C l d n K x0 x1 r8 v11 g9 h10))) ∧ (¬ r5 ≤ x3 → mf_MT C l 4 YJ0_charAt_5068e [(2, (-2)), (0, x3)] n n g6 h7 (fun r12 g13 h14 => mf_MT C l 0 YX10_addLetter [(0, x2), (0, r12)] n n g13 h14 (fun r15 g16 h17 => (∀ v18 : Int, v18 = mf_w32 (x3 + 1) → JX10_packListed_4 C l d n K x0 x1 r15 v18 g16 h17))))))))))) : JX10_packListed_4 C l d n K x0 x1 x2 x3 g h := by
  refine mf_iload_n (mf_dat eX10_packListed 4 rfl) rfl rfl ?_
  refine mf_iload_n (mf_dat eX10_packListed 5 rfl) rfl rfl ?_
  refine mf_bipush (v := 6) (mf_dat eX10_packListed 6 rfl) (by decide) ?_
  refine mf_iadd (mf_dat eX10_packListed 7 rfl) ?_
  refine mf_icmp_ge (tgt := 47) (mf_dat eX10_packListed 8 rfl) (by decide) (fun hc => ?_) (fun hc => ?_)
  · replace hyp := hyp.1 hc
    refine mf_iload_n (mf_dat eX10_packListed 26 rfl) rfl rfl ?_
    exact mf_ireturn (mf_dat eX10_packListed 27 rfl) rfl (Or.inl rfl) hyp
  · replace hyp := hyp.2 hc
    refine mf_iload_n (mf_dat eX10_packListed 9 rfl) rfl rfl ?_
    refine mf_iload_n (mf_dat eX10_packListed 10 rfl) rfl rfl ?_
    refine mf_iload_n (mf_dat eX10_packListed 11 rfl) rfl rfl ?_
    refine mf_icmp_ge (tgt := 36) (mf_dat eX10_packListed 12 rfl) (by decide) (fun hc => ?_) (fun hc => ?_)
    · replace hyp := hyp.1 hc
      refine mf_iconst (v := 0) (mf_dat eX10_packListed 21 rfl) (by decide) ?_
      refine mf_callS (Yc := YX10_addLetter) (mf_dat eX10_packListed 22 rfl) ml_X10_31 okX10_addLetter sm_X10_addLetter rfl rfl (Nat.le_of_ble_eq_true rfl) (mf_rr (Nat.le_trans (by decide) hd) (Nat.le_refl _)) (Nat.le_refl _) hyp (fun r1 g2 h3 hyp => ?_)
      refine mf_istore_n (mf_dat eX10_packListed 23 rfl) rfl (by decide) ?_
      refine mf_iinc (mf_dat eX10_packListed 24 rfl) rfl (by decide) (by decide) ?_
      generalize qv4 : mf_w32 (x3 + 1) = v4
      replace hyp := hyp _ qv4.symm
      refine mf_goto (tgt := 4) (mf_dat eX10_packListed 25 rfl) (by decide) ?_
      exact mf_sub [2, 3, 1, 0] rfl hyp
    · replace hyp := hyp.2 hc
      refine mf_iload_n (mf_dat eX10_packListed 13 rfl) rfl rfl ?_
      refine mf_ldcS (mf_dat eX10_packListed 14 rfl) rfl ?_
      refine mf_callVT (Yc := YJ0_length_8abf5) (mf_dat eX10_packListed 15 rfl) ml_X10_17 okJ0_length_8abf5 im_J0_length_8abf5 sl_J0_length_8abf5 rfl rfl rfl (Nat.le_of_ble_eq_true rfl) (mf_rr (Nat.le_trans (by decide) hd) (Nat.le_refl _)) (Nat.le_refl _) hyp (fun r5 g6 h7 hyp => ?_)
      refine mf_icmp_ge (tgt := 36) (mf_dat eX10_packListed 16 rfl) (by decide) (fun hc => ?_) (fun hc => ?_)
      · replace hyp := hyp.1 hc
        refine mf_iconst (v := 0) (mf_dat eX10_packListed 21 rfl) (by decide) ?_
        refine mf_callS (Yc := YX10_addLetter) (mf_dat eX10_packListed 22 rfl) ml_X10_31 okX10_addLetter sm_X10_addLetter rfl rfl (Nat.le_of_ble_eq_true rfl) (mf_rr (Nat.le_trans (by decide) hd) (Nat.le_refl _)) (Nat.le_refl _) hyp (fun r8 g9 h10 hyp => ?_)
        refine mf_istore_n (mf_dat eX10_packListed 23 rfl) rfl (by decide) ?_
        refine mf_iinc (mf_dat eX10_packListed 24 rfl) rfl (by decide) (by decide) ?_
        generalize qv11 : mf_w32 (x3 + 1) = v11
        replace hyp := hyp _ qv11.symm
        refine mf_goto (tgt := 4) (mf_dat eX10_packListed 25 rfl) (by decide) ?_
        exact mf_sub [2, 3, 1, 0] rfl hyp
      · replace hyp := hyp.2 hc
        refine mf_ldcS (mf_dat eX10_packListed 17 rfl) rfl ?_
        refine mf_iload_n (mf_dat eX10_packListed 18 rfl) rfl rfl ?_
        refine mf_callVT (Yc := YJ0_charAt_5068e) (mf_dat eX10_packListed 19 rfl) ml_X10_23 okJ0_charAt_5068e im_J0_charAt_5068e sl_J0_charAt_5068e rfl rfl rfl (Nat.le_of_ble_eq_true rfl) (mf_rr (Nat.le_trans (by decide) hd) (Nat.le_refl _)) (Nat.le_refl _) hyp (fun r12 g13 h14 hyp => ?_)
        refine mf_goto (tgt := 37) (mf_dat eX10_packListed 20 rfl) (by decide) ?_
        refine mf_callS (Yc := YX10_addLetter) (mf_dat eX10_packListed 22 rfl) ml_X10_31 okX10_addLetter sm_X10_addLetter rfl rfl (Nat.le_of_ble_eq_true rfl) (mf_rr (Nat.le_trans (by decide) hd) (Nat.le_refl _)) (Nat.le_refl _) hyp (fun r15 g16 h17 hyp => ?_)
        refine mf_istore_n (mf_dat eX10_packListed 23 rfl) rfl (by decide) ?_
        refine mf_iinc (mf_dat eX10_packListed 24 rfl) rfl (by decide) (by decide) ?_
        generalize qv18 : mf_w32 (x3 + 1) = v18
        replace hyp := hyp _ qv18.symm
        refine mf_goto (tgt := 4) (mf_dat eX10_packListed 25 rfl) (by decide) ?_
        exact mf_sub [2, 3, 1, 0] rfl hyp
set_option maxRecDepth 100000 in
set_option maxHeartbeats 4000000 in
theorem mX10_packListed {C : mf_G} {l : Launch} {d n : Nat} {K : mf_Kt} {x0 x1 : Int} {g h : mf_M} (hyp : JX10_packListed_4 C l d n K x0 x1 0 x0 g h) : mf_MT C l d YX10_packListed [(0, x0), (0, x1)] n n g h K := by
  refine mf_entry (by decide) (Nat.le_of_ble_eq_true rfl) ?_
  refine mf_iconst (v := 0) (mf_dat eX10_packListed 0 rfl) (by decide) ?_
  refine mf_istore_n (mf_dat eX10_packListed 1 rfl) rfl (by decide) ?_
  refine mf_iload_n (mf_dat eX10_packListed 2 rfl) rfl rfl ?_
  refine mf_istore_n (mf_dat eX10_packListed 3 rfl) rfl (by decide) ?_
  exact mf_sub [2, 3, 1, 0] rfl hyp
set_option maxRecDepth 100000 in
set_option maxHeartbeats 4000000 in
theorem mX10_addLetter {C : mf_G} {l : Launch} {d n : Nat} {K : mf_Kt} {x0 x1 : Int} {g h : mf_M} (hyp : ((¬ x1 = 0 → K (mf_w32 ((mf_w32 (x0 * 27)) + (mf_w32 ((mf_w32 (x1 - 97)) + 1)))) g h) ∧ (x1 = 0 → K (mf_w32 ((mf_w32 (x0 * 27)) + 0)) g h))) : mf_MT C l d YX10_addLetter [(0, x0), (0, x1)] n n g h K := by
  refine mf_entry (by decide) (Nat.le_of_ble_eq_true rfl) ?_
  refine mf_iload_n (mf_dat eX10_addLetter 0 rfl) rfl rfl ?_
  refine mf_bipush (v := 27) (mf_dat eX10_addLetter 1 rfl) (by decide) ?_
  refine mf_imul (mf_dat eX10_addLetter 2 rfl) ?_
  refine mf_iload_n (mf_dat eX10_addLetter 3 rfl) rfl rfl ?_
  refine mf_if_ne (tgt := 12) (mf_dat eX10_addLetter 4 rfl) (by decide) (fun hc => ?_) (fun hc => ?_)
  · replace hyp := hyp.1 hc
    refine mf_iload_n (mf_dat eX10_addLetter 7 rfl) rfl rfl ?_
    refine mf_bipush (v := 97) (mf_dat eX10_addLetter 8 rfl) (by decide) ?_
    refine mf_isub (mf_dat eX10_addLetter 9 rfl) ?_
    refine mf_iconst (v := 1) (mf_dat eX10_addLetter 10 rfl) (by decide) ?_
    refine mf_iadd (mf_dat eX10_addLetter 11 rfl) ?_
    refine mf_iadd (mf_dat eX10_addLetter 12 rfl) ?_
    exact mf_ireturn (mf_dat eX10_addLetter 13 rfl) rfl (Or.inl rfl) hyp
  · replace hyp := hyp.2 hc
    refine mf_iconst (v := 0) (mf_dat eX10_addLetter 5 rfl) (by decide) ?_
    refine mf_goto (tgt := 18) (mf_dat eX10_addLetter 6 rfl) (by decide) ?_
    refine mf_iadd (mf_dat eX10_addLetter 12 rfl) ?_
    exact mf_ireturn (mf_dat eX10_addLetter 13 rfl) rfl (Or.inl rfl) hyp
abbrev JX10_letterOf_6 (C : mf_G) (l : Launch) (d n : Nat) (K : mf_Kt) (x2 x3 : Int) (g h : mf_M) : Prop := mf_AW C l YX10_letterOf (mf_rm d n n) n (mf_Zm C YX10_letterOf n n K) (fun _ _ => True) 6 [(2, (0, x2)), (3, (0, x3))] [] n g h
set_option maxRecDepth 100000 in
set_option maxHeartbeats 4000000 in
theorem bX10_letterOf_6 {C : mf_G} {l : Launch} {d n : Nat} {K : mf_Kt} {x2 x3 : Int} {g h : mf_M} (hyp : ((6 ≤ x3 → K (x2.tmod 27) g h) ∧ (¬ 6 ≤ x3 → (∀ v1 : Int, v1 = mf_w32 (x2.tdiv 27) → (∀ v2 : Int, v2 = mf_w32 (x3 + 1) → JX10_letterOf_6 C l d n K v1 v2 g h))))) : JX10_letterOf_6 C l d n K x2 x3 g h := by
  refine mf_iload_n (mf_dat eX10_letterOf 6 rfl) rfl rfl ?_
  refine mf_bipush (v := 6) (mf_dat eX10_letterOf 7 rfl) (by decide) ?_
  refine mf_icmp_ge (tgt := 23) (mf_dat eX10_letterOf 8 rfl) (by decide) (fun hc => ?_) (fun hc => ?_)
  · replace hyp := hyp.1 hc
    refine mf_iload_n (mf_dat eX10_letterOf 15 rfl) rfl rfl ?_
    refine mf_bipush (v := 27) (mf_dat eX10_letterOf 16 rfl) (by decide) ?_
    refine mf_irem (mf_dat eX10_letterOf 17 rfl) (by decide) ?_
    exact mf_ireturn (mf_dat eX10_letterOf 18 rfl) rfl (Or.inl rfl) hyp
  · replace hyp := hyp.2 hc
    refine mf_iload_n (mf_dat eX10_letterOf 9 rfl) rfl rfl ?_
    refine mf_bipush (v := 27) (mf_dat eX10_letterOf 10 rfl) (by decide) ?_
    refine mf_idiv (mf_dat eX10_letterOf 11 rfl) (by decide) ?_
    generalize qv1 : mf_w32 (x2.tdiv 27) = v1
    replace hyp := hyp _ qv1.symm
    refine mf_istore_n (mf_dat eX10_letterOf 12 rfl) rfl (by decide) ?_
    refine mf_iinc (mf_dat eX10_letterOf 13 rfl) rfl (by decide) (by decide) ?_
    generalize qv2 : mf_w32 (x3 + 1) = v2
    replace hyp := hyp _ qv2.symm
    refine mf_goto (tgt := 6) (mf_dat eX10_letterOf 14 rfl) (by decide) ?_
    exact mf_sub [1, 0] rfl hyp
set_option maxRecDepth 100000 in
set_option maxHeartbeats 4000000 in
theorem mX10_letterOf {C : mf_G} {l : Launch} {d n : Nat} {K : mf_Kt} {x0 x1 : Int} {g h : mf_M} (hyp : (∀ v1 : Int, v1 = mf_w32 (x1 + 1) → JX10_letterOf_6 C l d n K x0 v1 g h)) : mf_MT C l d YX10_letterOf [(0, x0), (0, x1)] n n g h K := by
  refine mf_entry (by decide) (Nat.le_of_ble_eq_true rfl) ?_
  refine mf_iload_n (mf_dat eX10_letterOf 0 rfl) rfl rfl ?_
  refine mf_istore_n (mf_dat eX10_letterOf 1 rfl) rfl (by decide) ?_
  refine mf_iload_n (mf_dat eX10_letterOf 2 rfl) rfl rfl ?_
  refine mf_iconst (v := 1) (mf_dat eX10_letterOf 3 rfl) (by decide) ?_
  refine mf_iadd (mf_dat eX10_letterOf 4 rfl) ?_
  generalize qv1 : mf_w32 (x1 + 1) = v1
  replace hyp := hyp _ qv1.symm
  refine mf_istore_n (mf_dat eX10_letterOf 5 rfl) rfl (by decide) ?_
  exact mf_sub [1, 0] rfl hyp
set_option maxRecDepth 100000 in
set_option maxHeartbeats 4000000 in
theorem mX10_isThat {C : mf_G} {l : Launch} {d n : Nat} {K : mf_Kt} {x0 x1 x2 : Int} {g h : mf_M} (hyp : ((x1 < 0 → K 0 g h) ∧ (¬ x1 < 0 → mf_is n x0 10 ∧ mf_is n (g x0 0) 20 ∧ ((mf_len (g x0 0) ≤ x1 → K 0 g h) ∧ (¬ mf_len (g x0 0) ≤ x1 → 0 ≤ x1 ∧ x1 < mf_len (g x0 0) ∧ ((¬ h (g x0 0) x1 = x2 → K 0 g h) ∧ (h (g x0 0) x1 = x2 → K 1 g h))))))) : mf_MT C l d YX10_isThat [(2, x0), (0, x1), (0, x2)] n n g h K := by
  refine mf_entry (by decide) (Nat.le_of_ble_eq_true rfl) ?_
  refine mf_iload_n (mf_dat eX10_isThat 0 rfl) rfl rfl ?_
  refine mf_if_lt (tgt := 27) (mf_dat eX10_isThat 1 rfl) (by decide) (fun hc => ?_) (fun hc => ?_)
  · replace hyp := hyp.1 hc
    refine mf_iconst (v := 0) (mf_dat eX10_isThat 15 rfl) (by decide) ?_
    exact mf_ireturn (mf_dat eX10_isThat 16 rfl) rfl (Or.inr ⟨rfl, by decide⟩) hyp
  · replace hyp := hyp.2 hc
    refine mf_iload_n (mf_dat eX10_isThat 2 rfl) rfl rfl ?_
    refine mf_aload_n (mf_dat eX10_isThat 3 rfl) rfl rfl ?_
    obtain ⟨ck1, hyp⟩ := hyp
    refine mf_getf (r := (RX10, TX10, 1)) (ci := 10) (k := 0) (t := 2) (v := g x0 0) (mf_dat eX10_isThat 4 rfl) fl_X10_11 rfl (by decide) rfl rfl ck1 ?_
    obtain ⟨ck2, hyp⟩ := hyp
    refine mf_alen (c := 20) (i := 0) (ty := .int) (v := mf_len _) (mf_dat eX10_isThat 5 rfl) (by decide) rfl ck2 rfl (mf_len_small _) ?_
    refine mf_icmp_ge (tgt := 27) (mf_dat eX10_isThat 6 rfl) (by decide) (fun hc => ?_) (fun hc => ?_)
    · replace hyp := hyp.1 hc
      refine mf_iconst (v := 0) (mf_dat eX10_isThat 15 rfl) (by decide) ?_
      exact mf_ireturn (mf_dat eX10_isThat 16 rfl) rfl (Or.inr ⟨rfl, by decide⟩) hyp
    · replace hyp := hyp.2 hc
      refine mf_aload_n (mf_dat eX10_isThat 7 rfl) rfl rfl ?_
      refine mf_getf (r := (RX10, TX10, 1)) (ci := 10) (k := 0) (t := 2) (v := g x0 0) (mf_dat eX10_isThat 8 rfl) fl_X10_11 rfl (by decide) rfl rfl ck1 ?_
      refine mf_iload_n (mf_dat eX10_isThat 9 rfl) rfl rfl ?_
      obtain ⟨ck3, hyp⟩ := hyp
      obtain ⟨ck4, hyp⟩ := hyp
      refine mf_iald (mf_dat eX10_isThat 10 rfl) ck2 ck3 ck4 ?_
      refine mf_iload_n (mf_dat eX10_isThat 11 rfl) rfl rfl ?_
      refine mf_icmp_ne (tgt := 27) (mf_dat eX10_isThat 12 rfl) (by decide) (fun hc => ?_) (fun hc => ?_)
      · replace hyp := hyp.1 hc
        refine mf_iconst (v := 0) (mf_dat eX10_isThat 15 rfl) (by decide) ?_
        exact mf_ireturn (mf_dat eX10_isThat 16 rfl) rfl (Or.inr ⟨rfl, by decide⟩) hyp
      · replace hyp := hyp.2 hc
        refine mf_iconst (v := 1) (mf_dat eX10_isThat 13 rfl) (by decide) ?_
        refine mf_goto (tgt := 28) (mf_dat eX10_isThat 14 rfl) (by decide) ?_
        exact mf_ireturn (mf_dat eX10_isThat 16 rfl) rfl (Or.inr ⟨rfl, by decide⟩) hyp
abbrev JX10_find_2 (C : mf_G) (l : Launch) (d n : Nat) (K : mf_Kt) (x0 x1 x2 : Int) (g h : mf_M) : Prop := mf_AW C l YX10_find (mf_rm d n n) n (mf_Zm C YX10_find n n K) (fun _ _ => True) 2 [(0, (2, x0)), (1, (0, x1)), (2, (0, x2))] [] n g h
set_option maxRecDepth 100000 in
set_option maxHeartbeats 4000000 in
theorem bX10_find_2 {C : mf_G} {l : Launch} {d n : Nat} {K : mf_Kt} {x0 x1 x2 : Int} {g h : mf_M} (hyp : mf_is n x0 10 ∧ mf_is n (g x0 0) 20 ∧ ((mf_len (g x0 0) ≤ x2 → K (-1) g h) ∧ (¬ mf_len (g x0 0) ≤ x2 → 0 ≤ x2 ∧ x2 < mf_len (g x0 0) ∧ ((¬ h (g x0 0) x2 = x1 → (∀ v5 : Int, v5 = mf_w32 (x2 + 1) → JX10_find_2 C l d n K x0 x1 v5 g h)) ∧ (h (g x0 0) x2 = x1 → K x2 g h))))) : JX10_find_2 C l d n K x0 x1 x2 g h := by
  refine mf_iload_n (mf_dat eX10_find 2 rfl) rfl rfl ?_
  refine mf_aload_n (mf_dat eX10_find 3 rfl) rfl rfl ?_
  obtain ⟨ck1, hyp⟩ := hyp
  refine mf_getf (r := (RX10, TX10, 1)) (ci := 10) (k := 0) (t := 2) (v := g x0 0) (mf_dat eX10_find 4 rfl) fl_X10_11 rfl (by decide) rfl rfl ck1 ?_
  obtain ⟨ck2, hyp⟩ := hyp
  refine mf_alen (c := 20) (i := 0) (ty := .int) (v := mf_len _) (mf_dat eX10_find 5 rfl) (by decide) rfl ck2 rfl (mf_len_small _) ?_
  refine mf_icmp_ge (tgt := 29) (mf_dat eX10_find 6 rfl) (by decide) (fun hc => ?_) (fun hc => ?_)
  · replace hyp := hyp.1 hc
    refine mf_iconst (v := (-1)) (mf_dat eX10_find 17 rfl) (by decide) ?_
    exact mf_ireturn (mf_dat eX10_find 18 rfl) rfl (Or.inl rfl) hyp
  · replace hyp := hyp.2 hc
    refine mf_aload_n (mf_dat eX10_find 7 rfl) rfl rfl ?_
    refine mf_getf (r := (RX10, TX10, 1)) (ci := 10) (k := 0) (t := 2) (v := g x0 0) (mf_dat eX10_find 8 rfl) fl_X10_11 rfl (by decide) rfl rfl ck1 ?_
    refine mf_iload_n (mf_dat eX10_find 9 rfl) rfl rfl ?_
    obtain ⟨ck3, hyp⟩ := hyp
    obtain ⟨ck4, hyp⟩ := hyp
    refine mf_iald (mf_dat eX10_find 10 rfl) ck2 ck3 ck4 ?_
    refine mf_iload_n (mf_dat eX10_find 11 rfl) rfl rfl ?_
    refine mf_icmp_ne (tgt := 23) (mf_dat eX10_find 12 rfl) (by decide) (fun hc => ?_) (fun hc => ?_)
    · replace hyp := hyp.1 hc
      refine mf_iinc (mf_dat eX10_find 15 rfl) rfl (by decide) (by decide) ?_
      generalize qv5 : mf_w32 (x2 + 1) = v5
      replace hyp := hyp _ qv5.symm
      refine mf_goto (tgt := 2) (mf_dat eX10_find 16 rfl) (by decide) ?_
      exact mf_sub [1, 2, 0] rfl hyp
    · replace hyp := hyp.2 hc
      refine mf_iload_n (mf_dat eX10_find 13 rfl) rfl rfl ?_
      exact mf_ireturn (mf_dat eX10_find 14 rfl) rfl (Or.inl rfl) hyp
set_option maxRecDepth 100000 in
set_option maxHeartbeats 4000000 in
theorem mX10_find {C : mf_G} {l : Launch} {d n : Nat} {K : mf_Kt} {x0 x1 : Int} {g h : mf_M} (hyp : JX10_find_2 C l d n K x0 x1 0 g h) : mf_MT C l d YX10_find [(2, x0), (0, x1)] n n g h K := by
  refine mf_entry (by decide) (Nat.le_of_ble_eq_true rfl) ?_
  refine mf_iconst (v := 0) (mf_dat eX10_find 0 rfl) (by decide) ?_
  refine mf_istore_n (mf_dat eX10_find 1 rfl) rfl (by decide) ?_
  exact mf_sub [1, 2, 0] rfl hyp
abbrev JX11_init_175 (C : mf_G) (l : Launch) (d n0 n1 n : Nat) (K : mf_Kt) (x0 x2 : Int) (g h : mf_M) : Prop := mf_AW C l YX11_init (mf_rm d n0 n1) n0 (mf_Zm C YX11_init n0 n1 K) (fun _ _ => True) 175 [(0, (2, x0)), (2, (0, x2))] [] n g h
set_option maxRecDepth 100000 in
set_option maxHeartbeats 4000000 in
theorem bX11_init_175 {C : mf_G} {l : Launch} {d n0 n1 n : Nat} {K : mf_Kt} {x0 x2 : Int} {g h : mf_M} (hd : 2 ≤ d) (hn0 : n0 ≤ n) (hyp : mf_is n x0 11 ∧ mf_is n (g x0 9) 25 ∧ ((mf_len (g x0 9) ≤ x2 → mf_sh n = (20, 6) ∧ mf_more (mf_rm d n0 n1) n0 n ∧ (∀ j : Nat, g n j = -1) ∧ (∀ j : Nat, h n j = 0) ∧ mf_is (n + 1) x0 11 ∧ (∀ g8 : mf_M, g8 = mf_up g x0 10 ((n : Nat) : Int) → mf_sh (n + 1) = (20, 57) ∧ mf_more (mf_rm d n0 n1) n0 (n + 1) ∧ (∀ j : Nat, g8 (n + 1) j = -1) ∧ (∀ j : Nat, h (n + 1) j = 0) ∧ mf_is (n + 2) x0 11 ∧ (∀ g14 : mf_M, g14 = mf_up g8 x0 11 ((n + 1 : Nat) : Int) → (∀ h15 : mf_M, h15 = mf_up h x0 18 (-1) → (∀ h16 : mf_M, h16 = mf_up h15 x0 19 1 → n + 2 = n1 ∧ K 0 g14 h16))))) ∧ (¬ mf_len (g x0 9) ≤ x2 → (mf_sh n).1 = 6 ∧ mf_more (mf_rm d n0 n1) n0 n ∧ (∀ j : Nat, g n j = -1) ∧ (∀ j : Nat, h n j = 0) ∧ (∀ v22 : Int, v22 = ((n : Nat) : Int) → n + 7 ≤ n1 ∧ 0 ≤ v22 ∧ mf_MT C l 1 YX6_init [(2, v22)] (n + 1) (n + 7) g h (fun r24 g25 h26 => mf_is (n + 7) (g x0 9) 25 ∧ 0 ≤ x2 ∧ x2 < mf_len (g x0 9) ∧ mf_is (n + 7) v22 6 ∧ (∀ g32 : mf_M, g32 = mf_up g25 (g x0 9) x2 v22 → (∀ v33 : Int, v33 = mf_w32 (x2 + 1) → JX11_init_175 C l d n0 n1 (n + 7) K x0 v33 g32 h26))))))) : JX11_init_175 C l d n0 n1 n K x0 x2 g h := by
  refine mf_iload_n (mf_dat eX11_init_p1 24 rfl) rfl rfl ?_
  refine mf_aload_n (mf_dat eX11_init_p1 25 rfl) rfl rfl ?_
  obtain ⟨ck1, hyp⟩ := hyp
  refine mf_getf (r := (RX11, TX11, 20)) (ci := 11) (k := 9) (t := 2) (v := g x0 9) (mf_dat eX11_init_p1 26 rfl) fl_X11_89 rfl (by decide) rfl rfl ck1 ?_
  obtain ⟨ck2, hyp⟩ := hyp
  refine mf_alen (c := 25) (i := 5) (ty := .object "MarginFolk$State") (v := mf_len _) (mf_dat eX11_init_p1 27 rfl) (by decide) rfl ck2 rfl (mf_len_small _) ?_
  refine mf_icmp_ge (tgt := 203) (mf_dat eX11_init_p1 28 rfl) (by decide) (fun hc => ?_) (fun hc => ?_)
  · replace hyp := hyp.1 hc
    refine mf_aload_n (mf_dat eX11_init_p1 38 rfl) rfl rfl ?_
    refine mf_bipush (v := 6) (mf_dat eX11_init_p1 39 rfl) (by decide) ?_
    obtain ⟨ck3, hyp⟩ := hyp
    obtain ⟨ck4, hyp⟩ := hyp
    obtain ⟨ck5, hyp⟩ := hyp
    obtain ⟨ck6, hyp⟩ := hyp
    refine mf_newa (at_ := .int) (i := 0) (mf_dat eX11_init_p1 40 rfl) ac_20 rfl ck3 rfl (by decide) rfl rfl (by decide) (by intro c; simp) (by decide) ck4 ck5 ck6 ?_
    obtain ⟨ck7, hyp⟩ := hyp
    refine mf_putRF (r := (RX11, TX11, 20)) (ci := 11) (k := 10) (kI := 10) (t := 2) (mf_dat eX11_init_p1 41 rfl) fl_X11_93 rfl rfl (by decide) rfl (by decide) rfl rfl rfl (by decide) (fun h9 => absurd h9 (by decide)) ck7 ?_
    generalize qg8 : mf_up g x0 10 ((n : Nat) : Int) = g8
    replace hyp := hyp _ qg8.symm
    refine mf_aload_n (mf_dat eX11_init_p1 42 rfl) rfl rfl ?_
    refine mf_bipush (v := 57) (mf_dat eX11_init_p1 43 rfl) (by decide) ?_
    obtain ⟨ck9, hyp⟩ := hyp
    obtain ⟨ck10, hyp⟩ := hyp
    obtain ⟨ck11, hyp⟩ := hyp
    obtain ⟨ck12, hyp⟩ := hyp
    refine mf_newa (at_ := .int) (i := 0) (mf_dat eX11_init_p1 44 rfl) ac_20 rfl ck9 rfl (by decide) rfl rfl (by decide) (by intro c; simp) (by decide) ck10 ck11 ck12 ?_
    obtain ⟨ck13, hyp⟩ := hyp
    refine mf_putRF (r := (RX11, TX11, 20)) (ci := 11) (k := 11) (kI := 11) (t := 2) (mf_dat eX11_init_p1 45 rfl) fl_X11_97 rfl rfl (by decide) rfl (by decide) rfl rfl rfl (by decide) (fun h9 => absurd h9 (by decide)) ck13 ?_
    generalize qg14 : mf_up g8 x0 11 ((n + 1 : Nat) : Int) = g14
    replace hyp := hyp _ qg14.symm
    refine mf_aload_n (mf_dat eX11_init_p1 46 rfl) rfl rfl ?_
    refine mf_iconst (v := (-1)) (mf_dat eX11_init_p1 47 rfl) (by decide) ?_
    refine mf_putI (r := (RX11, TX11, 20)) (ci := 11) (k := 18) (kI := 18) (t := 0) (mf_dat eX11_init_p1 48 rfl) fl_X11_100 rfl rfl (by decide) rfl (by decide) rfl (by decide) (fun h9 => absurd h9 (by decide)) ck13 ?_
    generalize qh15 : mf_up h x0 18 (-1) = h15
    replace hyp := hyp _ qh15.symm
    refine mf_aload_n (mf_dat eX11_init_p1 49 rfl) rfl rfl ?_
    refine mf_iconst (v := 1) (mf_dat eX11_init_p1 50 rfl) (by decide) ?_
    refine mf_putI (r := (RX11, TX11, 20)) (ci := 11) (k := 19) (kI := 19) (t := 0) (mf_dat eX11_init_p1 51 rfl) fl_X11_104 rfl rfl (by decide) rfl (by decide) rfl (by decide) (fun h9 => absurd h9 (by decide)) ck13 ?_
    generalize qh16 : mf_up h15 x0 19 1 = h16
    replace hyp := hyp _ qh16.symm
    obtain ⟨ck17, hyp⟩ := hyp
    subst ck17
    exact mf_return (mf_dat eX11_init_p1 52 rfl) rfl hyp
  · replace hyp := hyp.2 hc
    refine mf_aload_n (mf_dat eX11_init_p1 29 rfl) rfl rfl ?_
    refine mf_getf (r := (RX11, TX11, 20)) (ci := 11) (k := 9) (t := 2) (v := g x0 9) (mf_dat eX11_init_p1 30 rfl) fl_X11_89 rfl (by decide) rfl rfl ck1 ?_
    refine mf_iload_n (mf_dat eX11_init_p1 31 rfl) rfl rfl ?_
    obtain ⟨ck18, hyp⟩ := hyp
    obtain ⟨ck19, hyp⟩ := hyp
    obtain ⟨ck20, hyp⟩ := hyp
    obtain ⟨ck21, hyp⟩ := hyp
    refine mf_new (r := (RX6, TX6, 8)) (ci := 6) (mf_dat eX11_init_p1 32 rfl) kl_X11_79 in_X6 ii_X6 rfl (by decide) ck18 ck19 ck20 ck21 ?_
    generalize qv22 : ((n : Nat) : Int) = v22
    replace hyp := hyp _ qv22.symm
    refine mf_dup (mf_dat eX11_init_p1 33 rfl) (by decide) ?_
    obtain ⟨ck23, hyp⟩ := hyp
    obtain ⟨ck27, hyp⟩ := hyp
    refine mf_callIN (Yc := YX6_init) (host := "MarginFolk") (mf_dat eX11_init_p1 34 rfl) (List.mem_of_getElem? (i := 8) rfl) okX6_init im_X6_init rfl rfl rfl rfl (Nat.le_of_ble_eq_true rfl) (mf_rr (Nat.le_trans (by decide) hd) ck23) (by omega) ck27 hyp (fun r24 g25 h26 hyp => ?_)
    obtain ⟨ck28, hyp⟩ := hyp
    obtain ⟨ck29, hyp⟩ := hyp
    obtain ⟨ck30, hyp⟩ := hyp
    obtain ⟨ck31, hyp⟩ := hyp
    refine mf_aast (mf_dat eX11_init_p1 35 rfl) ck28 ck29 ck30 ck31 ?_
    generalize qg32 : mf_up g25 (g x0 9) x2 v22 = g32
    replace hyp := hyp _ qg32.symm
    refine mf_iinc (mf_dat eX11_init_p1 36 rfl) rfl (by decide) (by decide) ?_
    generalize qv33 : mf_w32 (x2 + 1) = v33
    replace hyp := hyp _ qv33.symm
    refine mf_goto (tgt := 175) (mf_dat eX11_init_p1 37 rfl) (by decide) ?_
    exact mf_sub [1, 0] rfl hyp
set_option maxRecDepth 100000 in
set_option maxHeartbeats 4000000 in
theorem mX11_init {C : mf_G} {l : Launch} {d n0 n1 : Nat} {K : mf_Kt} {x0 : Int} {g h : mf_M} (hd : 7 ≤ d) (hyp : 0 ≤ x0 ∧ (mf_sh n0).1 = 10 ∧ mf_more (mf_rm d n0 n1) n0 n0 ∧ (∀ j : Nat, g n0 j = -1) ∧ (∀ j : Nat, h n0 j = 0) ∧ (∀ v6 : Int, v6 = ((n0 : Nat) : Int) → n0 + 2 ≤ n1 ∧ 0 ≤ v6 ∧ mf_MT C l 6 YX10_init [(2, v6)] (n0 + 1) (n0 + 2) g h (fun r8 g9 h10 => (mf_sh (n0 + 2)).1 = 8 ∧ mf_more (mf_rm d n0 n1) n0 (n0 + 2) ∧ (∀ j : Nat, g9 (n0 + 2) j = -1) ∧ (∀ j : Nat, h10 (n0 + 2) j = 0) ∧ (∀ v16 : Int, v16 = ((n0 + 2 : Nat) : Int) → n0 + 4 ≤ n1 ∧ 0 ≤ v16 ∧ mf_MT C l 1 YX8_init [(2, v16)] (n0 + 3) (n0 + 4) g9 h10 (fun r18 g19 h20 => mf_is (n0 + 4) x0 11 ∧ (∀ g23 : mf_M, g23 = mf_up g19 x0 0 v16 → (mf_sh (n0 + 4)).1 = 9 ∧ mf_more (mf_rm d n0 n1) n0 (n0 + 4) ∧ (∀ j : Nat, g23 (n0 + 4) j = -1) ∧ (∀ j : Nat, h20 (n0 + 4) j = 0) ∧ (∀ v28 : Int, v28 = ((n0 + 4 : Nat) : Int) → mf_is (n0 + 5) x0 11 ∧ n0 + 5 ≤ n1 ∧ 0 ≤ v28 ∧ mf_MT C l 1 YX9_init [(2, v28), (2, g23 x0 0), (2, v6)] (n0 + 5) (n0 + 5) g23 h20 (fun r31 g32 h33 => (∀ g35 : mf_M, g35 = mf_up g32 x0 1 v28 → (mf_sh (n0 + 5)).1 = 4 ∧ mf_more (mf_rm d n0 n1) n0 (n0 + 5) ∧ (∀ j : Nat, g35 (n0 + 5) j = -1) ∧ (∀ j : Nat, h33 (n0 + 5) j = 0) ∧ (∀ v40 : Int, v40 = ((n0 + 5 : Nat) : Int) → n0 + 9 ≤ n1 ∧ 0 ≤ v40 ∧ mf_MT C l 1 YX4_init [(2, v40)] (n0 + 6) (n0 + 9) g35 h33 (fun r42 g43 h44 => mf_is (n0 + 9) x0 11 ∧ (∀ g47 : mf_M, g47 = mf_up g43 x0 6 v40 → (mf_sh (n0 + 9)).1 = 7 ∧ mf_more (mf_rm d n0 n1) n0 (n0 + 9) ∧ (∀ j : Nat, g47 (n0 + 9) j = -1) ∧ (∀ j : Nat, h44 (n0 + 9) j = 0) ∧ (∀ v52 : Int, v52 = ((n0 + 9 : Nat) : Int) → mf_is (n0 + 10) x0 11 ∧ n0 + 10 ≤ n1 ∧ 0 ≤ v52 ∧ mf_MT C l 1 YX7_init [(2, v52), (2, g47 x0 1), (2, v6), (2, g47 x0 6)] (n0 + 10) (n0 + 10) g47 h44 (fun r55 g56 h57 => (∀ g59 : mf_M, g59 = mf_up g56 x0 2 v52 → (mf_sh (n0 + 10)).1 = 1 ∧ mf_more (mf_rm d n0 n1) n0 (n0 + 10) ∧ (∀ j : Nat, g59 (n0 + 10) j = -1) ∧ (∀ j : Nat, h57 (n0 + 10) j = 0) ∧ (∀ v64 : Int, v64 = ((n0 + 10 : Nat) : Int) → n0 + 27 ≤ n1 ∧ 0 ≤ v64 ∧ mf_MT C l 2 YX1_init [(2, v64)] (n0 + 11) (n0 + 27) g59 h57 (fun r66 g67 h68 => mf_is (n0 + 27) x0 11 ∧ (∀ g71 : mf_M, g71 = mf_up g67 x0 12 v64 → (mf_sh (n0 + 27)).1 = 1 ∧ mf_more (mf_rm d n0 n1) n0 (n0 + 27) ∧ (∀ j : Nat, g71 (n0 + 27) j = -1) ∧ (∀ j : Nat, h68 (n0 + 27) j = 0) ∧ (∀ v76 : Int, v76 = ((n0 + 27 : Nat) : Int) → n0 + 44 ≤ n1 ∧ 0 ≤ v76 ∧ mf_MT C l 2 YX1_init [(2, v76)] (n0 + 28) (n0 + 44) g71 h68 (fun r78 g79 h80 => mf_is (n0 + 44) x0 11 ∧ (∀ g83 : mf_M, g83 = mf_up g79 x0 13 v76 → (mf_sh (n0 + 44)).1 = 2 ∧ mf_more (mf_rm d n0 n1) n0 (n0 + 44) ∧ (∀ j : Nat, g83 (n0 + 44) j = -1) ∧ (∀ j : Nat, h80 (n0 + 44) j = 0) ∧ (∀ v88 : Int, v88 = ((n0 + 44 : Nat) : Int) → mf_is (n0 + 45) x0 11 ∧ n0 + 45 ≤ n1 ∧ 0 ≤ v88 ∧ mf_MT C l 1 YX2_init [(2, v88), (2, g83 x0 1), (2, v6), (2, g83 x0 2), (2, g83 x0 13)] (n0 + 45) (n0 + 45) g83 h80 (fun r91 g92 h93 => (∀ g95 : mf_M, g95 = mf_up g92 x0 3 v88 → (mf_sh (n0 + 45)).1 = 0 ∧ mf_more (mf_rm d n0 n1) n0 (n0 + 45) ∧ (∀ j : Nat, g95 (n0 + 45) j = -1) ∧ (∀ j : Nat, h93 (n0 + 45) j = 0) ∧ (∀ v100 : Int, v100 = ((n0 + 45 : Nat) : Int) → n0 + 50 ≤ n1 ∧ 0 ≤ v100 ∧ mf_MT C l 2 YX0_init [(2, v100)] (n0 + 46) (n0 + 50) g95 h93 (fun r102 g103 h104 => mf_is (n0 + 50) x0 11 ∧ (∀ g107 : mf_M, g107 = mf_up g103 x0 4 v100 → (mf_sh (n0 + 50)).1 = 5 ∧ mf_more (mf_rm d n0 n1) n0 (n0 + 50) ∧ (∀ j : Nat, g107 (n0 + 50) j = -1) ∧ (∀ j : Nat, h104 (n0 + 50) j = 0) ∧ (∀ v112 : Int, v112 = ((n0 + 50 : Nat) : Int) → mf_is (n0 + 51) x0 11 ∧ n0 + 87 ≤ n1 ∧ 0 ≤ v112 ∧ mf_MT C l 2 YX5_init [(2, v112), (2, g107 x0 4)] (n0 + 51) (n0 + 87) g107 h104 (fun r115 g116 h117 => mf_is (n0 + 87) x0 11 ∧ (∀ g120 : mf_M, g120 = mf_up g116 x0 5 v112 → (mf_sh (n0 + 87)).1 = 6 ∧ mf_more (mf_rm d n0 n1) n0 (n0 + 87) ∧ (∀ j : Nat, g120 (n0 + 87) j = -1) ∧ (∀ j : Nat, h117 (n0 + 87) j = 0) ∧ (∀ v125 : Int, v125 = ((n0 + 87 : Nat) : Int) → n0 + 94 ≤ n1 ∧ 0 ≤ v125 ∧ mf_MT C l 1 YX6_init [(2, v125)] (n0 + 88) (n0 + 94) g120 h117 (fun r127 g128 h129 => mf_is (n0 + 94) x0 11 ∧ (∀ g132 : mf_M, g132 = mf_up g128 x0 7 v125 → (mf_sh (n0 + 94)).1 = 6 ∧ mf_more (mf_rm d n0 n1) n0 (n0 + 94) ∧ (∀ j : Nat, g132 (n0 + 94) j = -1) ∧ (∀ j : Nat, h129 (n0 + 94) j = 0) ∧ (∀ v137 : Int, v137 = ((n0 + 94 : Nat) : Int) → n0 + 101 ≤ n1 ∧ 0 ≤ v137 ∧ mf_MT C l 1 YX6_init [(2, v137)] (n0 + 95) (n0 + 101) g132 h129 (fun r139 g140 h141 => mf_is (n0 + 101) x0 11 ∧ (∀ g144 : mf_M, g144 = mf_up g140 x0 8 v137 → mf_sh (n0 + 101) = (25, 20) ∧ mf_more (mf_rm d n0 n1) n0 (n0 + 101) ∧ (∀ j : Nat, g144 (n0 + 101) j = -1) ∧ (∀ j : Nat, h141 (n0 + 101) j = 0) ∧ mf_is (n0 + 102) x0 11 ∧ (∀ g150 : mf_M, g150 = mf_up g144 x0 9 ((n0 + 101 : Nat) : Int) → JX11_init_175 C l d n0 n1 (n0 + 102) K x0 0 g150 h141))))))))))))))))))))))))))))))))))))) : mf_MT C l d YX11_init [(2, x0)] n0 n1 g h K := by
  refine mf_entry (by decide) (Nat.le_of_ble_eq_true rfl) ?_
  refine mf_aload_n (mf_dat eX11_init_p0 0 rfl) rfl rfl ?_
  obtain ⟨ck1, hyp⟩ := hyp
  refine mf_objInit (mf_dat eX11_init_p0 1 rfl) ml_X11_3 im_obj co_obj (mf_rmf hd) (mf_rml hd (Nat.le_of_ble_eq_true rfl)) ck1 ?_
  obtain ⟨ck2, hyp⟩ := hyp
  obtain ⟨ck3, hyp⟩ := hyp
  obtain ⟨ck4, hyp⟩ := hyp
  obtain ⟨ck5, hyp⟩ := hyp
  refine mf_new (r := (RX10, TX10, 1)) (ci := 10) (mf_dat eX11_init_p0 2 rfl) kl_X11_9 in_X10 ii_X10 rfl (by decide) ck2 ck3 ck4 ck5 ?_
  generalize qv6 : ((n0 : Nat) : Int) = v6
  replace hyp := hyp _ qv6.symm
  refine mf_dup (mf_dat eX11_init_p0 3 rfl) (by decide) ?_
  obtain ⟨ck7, hyp⟩ := hyp
  obtain ⟨ck11, hyp⟩ := hyp
  refine mf_callI (Yc := YX10_init) (mf_dat eX11_init_p0 4 rfl) ml_X11_11 okX10_init im_X10_init rfl rfl rfl rfl (Nat.le_of_ble_eq_true rfl) (mf_rr (Nat.le_trans (by decide) hd) ck7) (by omega) ck11 hyp (fun r8 g9 h10 hyp => ?_)
  refine mf_astore_n (mf_dat eX11_init_p0 5 rfl) rfl (by decide) ?_
  refine mf_aload_n (mf_dat eX11_init_p0 6 rfl) rfl rfl ?_
  obtain ⟨ck12, hyp⟩ := hyp
  obtain ⟨ck13, hyp⟩ := hyp
  obtain ⟨ck14, hyp⟩ := hyp
  obtain ⟨ck15, hyp⟩ := hyp
  refine mf_new (r := (RX8, TX8, 2)) (ci := 8) (mf_dat eX11_init_p0 7 rfl) kl_X11_12 in_X8 ii_X8 rfl (by decide) ck12 ck13 ck14 ck15 ?_
  generalize qv16 : ((n0 + 2 : Nat) : Int) = v16
  replace hyp := hyp _ qv16.symm
  refine mf_dup (mf_dat eX11_init_p0 8 rfl) (by decide) ?_
  obtain ⟨ck17, hyp⟩ := hyp
  obtain ⟨ck21, hyp⟩ := hyp
  refine mf_callIN (Yc := YX8_init) (host := "MarginFolk") (mf_dat eX11_init_p0 9 rfl) (List.mem_of_getElem? (i := 0) rfl) okX8_init im_X8_init rfl rfl rfl rfl (Nat.le_of_ble_eq_true rfl) (mf_rr (Nat.le_trans (by decide) hd) ck17) (by omega) ck21 hyp (fun r18 g19 h20 hyp => ?_)
  obtain ⟨ck22, hyp⟩ := hyp
  refine mf_putRF (r := (RX11, TX11, 20)) (ci := 11) (k := 0) (kI := 0) (t := 2) (mf_dat eX11_init_p0 10 rfl) fl_X11_15 rfl rfl (by decide) rfl (by decide) rfl rfl rfl (by decide) (fun h9 => absurd h9 (by decide)) ck22 ?_
  generalize qg23 : mf_up g19 x0 0 v16 = g23
  replace hyp := hyp _ qg23.symm
  refine mf_aload_n (mf_dat eX11_init_p0 11 rfl) rfl rfl ?_
  obtain ⟨ck24, hyp⟩ := hyp
  obtain ⟨ck25, hyp⟩ := hyp
  obtain ⟨ck26, hyp⟩ := hyp
  obtain ⟨ck27, hyp⟩ := hyp
  refine mf_new (r := (RX9, TX9, 9)) (ci := 9) (mf_dat eX11_init_p0 12 rfl) kl_X11_19 in_X9 ii_X9 rfl (by decide) ck24 ck25 ck26 ck27 ?_
  generalize qv28 : ((n0 + 4 : Nat) : Int) = v28
  replace hyp := hyp _ qv28.symm
  refine mf_dup (mf_dat eX11_init_p0 13 rfl) (by decide) ?_
  refine mf_aload_n (mf_dat eX11_init_p0 14 rfl) rfl rfl ?_
  obtain ⟨ck29, hyp⟩ := hyp
  refine mf_getf (r := (RX11, TX11, 20)) (ci := 11) (k := 0) (t := 2) (v := g23 x0 0) (mf_dat eX11_init_p0 15 rfl) fl_X11_15 rfl (by decide) rfl rfl ck29 ?_
  refine mf_aload_n (mf_dat eX11_init_p0 16 rfl) rfl rfl ?_
  obtain ⟨ck30, hyp⟩ := hyp
  obtain ⟨ck34, hyp⟩ := hyp
  refine mf_callI (Yc := YX9_init) (mf_dat eX11_init_p0 17 rfl) ml_X11_21 okX9_init im_X9_init rfl rfl rfl rfl (Nat.le_of_ble_eq_true rfl) (mf_rr (Nat.le_trans (by decide) hd) ck30) (Nat.le_refl _) ck34 hyp (fun r31 g32 h33 hyp => ?_)
  refine mf_putRF (r := (RX11, TX11, 20)) (ci := 11) (k := 1) (kI := 1) (t := 2) (mf_dat eX11_init_p0 18 rfl) fl_X11_24 rfl rfl (by decide) rfl (by decide) rfl rfl rfl (by decide) (fun h9 => absurd h9 (by decide)) ck29 ?_
  generalize qg35 : mf_up g32 x0 1 v28 = g35
  replace hyp := hyp _ qg35.symm
  refine mf_aload_n (mf_dat eX11_init_p0 19 rfl) rfl rfl ?_
  obtain ⟨ck36, hyp⟩ := hyp
  obtain ⟨ck37, hyp⟩ := hyp
  obtain ⟨ck38, hyp⟩ := hyp
  obtain ⟨ck39, hyp⟩ := hyp
  refine mf_new (r := (RX4, TX4, 5)) (ci := 4) (mf_dat eX11_init_p0 20 rfl) kl_X11_28 in_X4 ii_X4 rfl (by decide) ck36 ck37 ck38 ck39 ?_
  generalize qv40 : ((n0 + 5 : Nat) : Int) = v40
  replace hyp := hyp _ qv40.symm
  refine mf_dup (mf_dat eX11_init_p0 21 rfl) (by decide) ?_
  obtain ⟨ck41, hyp⟩ := hyp
  obtain ⟨ck45, hyp⟩ := hyp
  refine mf_callIN (Yc := YX4_init) (host := "MarginFolk") (mf_dat eX11_init_p0 22 rfl) (List.mem_of_getElem? (i := 1) rfl) okX4_init im_X4_init rfl rfl rfl rfl (Nat.le_of_ble_eq_true rfl) (mf_rr (Nat.le_trans (by decide) hd) ck41) (by omega) ck45 hyp (fun r42 g43 h44 hyp => ?_)
  obtain ⟨ck46, hyp⟩ := hyp
  refine mf_putRF (r := (RX11, TX11, 20)) (ci := 11) (k := 6) (kI := 6) (t := 2) (mf_dat eX11_init_p0 23 rfl) fl_X11_31 rfl rfl (by decide) rfl (by decide) rfl rfl rfl (by decide) (fun h9 => absurd h9 (by decide)) ck46 ?_
  generalize qg47 : mf_up g43 x0 6 v40 = g47
  replace hyp := hyp _ qg47.symm
  refine mf_aload_n (mf_dat eX11_init_p0 24 rfl) rfl rfl ?_
  obtain ⟨ck48, hyp⟩ := hyp
  obtain ⟨ck49, hyp⟩ := hyp
  obtain ⟨ck50, hyp⟩ := hyp
  obtain ⟨ck51, hyp⟩ := hyp
  refine mf_new (r := (RX7, TX7, 4)) (ci := 7) (mf_dat eX11_init_p0 25 rfl) kl_X11_35 in_X7 ii_X7 rfl (by decide) ck48 ck49 ck50 ck51 ?_
  generalize qv52 : ((n0 + 9 : Nat) : Int) = v52
  replace hyp := hyp _ qv52.symm
  refine mf_dup (mf_dat eX11_init_p0 26 rfl) (by decide) ?_
  refine mf_aload_n (mf_dat eX11_init_p0 27 rfl) rfl rfl ?_
  obtain ⟨ck53, hyp⟩ := hyp
  refine mf_getf (r := (RX11, TX11, 20)) (ci := 11) (k := 1) (t := 2) (v := g47 x0 1) (mf_dat eX11_init_p0 28 rfl) fl_X11_24 rfl (by decide) rfl rfl ck53 ?_
  refine mf_aload_n (mf_dat eX11_init_p0 29 rfl) rfl rfl ?_
  refine mf_aload_n (mf_dat eX11_init_p0 30 rfl) rfl rfl ?_
  refine mf_getf (r := (RX11, TX11, 20)) (ci := 11) (k := 6) (t := 2) (v := g47 x0 6) (mf_dat eX11_init_p0 31 rfl) fl_X11_31 rfl (by decide) rfl rfl ck53 ?_
  obtain ⟨ck54, hyp⟩ := hyp
  obtain ⟨ck58, hyp⟩ := hyp
  refine mf_callI (Yc := YX7_init) (mf_dat eX11_init_p0 32 rfl) ml_X11_37 okX7_init im_X7_init rfl rfl rfl rfl (Nat.le_of_ble_eq_true rfl) (mf_rr (Nat.le_trans (by decide) hd) ck54) (Nat.le_refl _) ck58 hyp (fun r55 g56 h57 hyp => ?_)
  refine mf_putRF (r := (RX11, TX11, 20)) (ci := 11) (k := 2) (kI := 2) (t := 2) (mf_dat eX11_init_p0 33 rfl) fl_X11_40 rfl rfl (by decide) rfl (by decide) rfl rfl rfl (by decide) (fun h9 => absurd h9 (by decide)) ck53 ?_
  generalize qg59 : mf_up g56 x0 2 v52 = g59
  replace hyp := hyp _ qg59.symm
  refine mf_aload_n (mf_dat eX11_init_p0 34 rfl) rfl rfl ?_
  obtain ⟨ck60, hyp⟩ := hyp
  obtain ⟨ck61, hyp⟩ := hyp
  obtain ⟨ck62, hyp⟩ := hyp
  obtain ⟨ck63, hyp⟩ := hyp
  refine mf_new (r := (RX1, TX1, 14)) (ci := 1) (mf_dat eX11_init_p0 35 rfl) kl_X11_44 in_X1 ii_X1 rfl (by decide) ck60 ck61 ck62 ck63 ?_
  generalize qv64 : ((n0 + 10 : Nat) : Int) = v64
  replace hyp := hyp _ qv64.symm
  refine mf_dup (mf_dat eX11_init_p0 36 rfl) (by decide) ?_
  obtain ⟨ck65, hyp⟩ := hyp
  obtain ⟨ck69, hyp⟩ := hyp
  refine mf_callIN (Yc := YX1_init) (host := "MarginFolk") (mf_dat eX11_init_p0 37 rfl) (List.mem_of_getElem? (i := 2) rfl) okX1_init im_X1_init rfl rfl rfl rfl (Nat.le_of_ble_eq_true rfl) (mf_rr (Nat.le_trans (by decide) hd) ck65) (by omega) ck69 hyp (fun r66 g67 h68 hyp => ?_)
  obtain ⟨ck70, hyp⟩ := hyp
  refine mf_putR (r := (RX11, TX11, 20)) (ci := 11) (k := 12) (kI := 12) (t := 2) (mf_dat eX11_init_p0 38 rfl) fl_X11_47 rfl rfl (by decide) rfl (by decide) rfl (by decide) (fun h9 => absurd h9 (by decide)) ck70 ?_
  generalize qg71 : mf_up g67 x0 12 v64 = g71
  replace hyp := hyp _ qg71.symm
  refine mf_aload_n (mf_dat eX11_init_p0 39 rfl) rfl rfl ?_
  obtain ⟨ck72, hyp⟩ := hyp
  obtain ⟨ck73, hyp⟩ := hyp
  obtain ⟨ck74, hyp⟩ := hyp
  obtain ⟨ck75, hyp⟩ := hyp
  refine mf_new (r := (RX1, TX1, 14)) (ci := 1) (mf_dat eX11_init_p0 40 rfl) kl_X11_44 in_X1 ii_X1 rfl (by decide) ck72 ck73 ck74 ck75 ?_
  generalize qv76 : ((n0 + 27 : Nat) : Int) = v76
  replace hyp := hyp _ qv76.symm
  refine mf_dup (mf_dat eX11_init_p0 41 rfl) (by decide) ?_
  obtain ⟨ck77, hyp⟩ := hyp
  obtain ⟨ck81, hyp⟩ := hyp
  refine mf_callIN (Yc := YX1_init) (host := "MarginFolk") (mf_dat eX11_init_p0 42 rfl) (List.mem_of_getElem? (i := 2) rfl) okX1_init im_X1_init rfl rfl rfl rfl (Nat.le_of_ble_eq_true rfl) (mf_rr (Nat.le_trans (by decide) hd) ck77) (by omega) ck81 hyp (fun r78 g79 h80 hyp => ?_)
  obtain ⟨ck82, hyp⟩ := hyp
  refine mf_putR (r := (RX11, TX11, 20)) (ci := 11) (k := 13) (kI := 13) (t := 2) (mf_dat eX11_init_p0 43 rfl) fl_X11_51 rfl rfl (by decide) rfl (by decide) rfl (by decide) (fun h9 => absurd h9 (by decide)) ck82 ?_
  generalize qg83 : mf_up g79 x0 13 v76 = g83
  replace hyp := hyp _ qg83.symm
  refine mf_aload_n (mf_dat eX11_init_p0 44 rfl) rfl rfl ?_
  obtain ⟨ck84, hyp⟩ := hyp
  obtain ⟨ck85, hyp⟩ := hyp
  obtain ⟨ck86, hyp⟩ := hyp
  obtain ⟨ck87, hyp⟩ := hyp
  refine mf_new (r := (RX2, TX2, 5)) (ci := 2) (mf_dat eX11_init_p0 45 rfl) kl_X11_54 in_X2 ii_X2 rfl (by decide) ck84 ck85 ck86 ck87 ?_
  generalize qv88 : ((n0 + 44 : Nat) : Int) = v88
  replace hyp := hyp _ qv88.symm
  refine mf_dup (mf_dat eX11_init_p0 46 rfl) (by decide) ?_
  refine mf_aload_n (mf_dat eX11_init_p0 47 rfl) rfl rfl ?_
  obtain ⟨ck89, hyp⟩ := hyp
  refine mf_getf (r := (RX11, TX11, 20)) (ci := 11) (k := 1) (t := 2) (v := g83 x0 1) (mf_dat eX11_init_p0 48 rfl) fl_X11_24 rfl (by decide) rfl rfl ck89 ?_
  refine mf_aload_n (mf_dat eX11_init_p0 49 rfl) rfl rfl ?_
  refine mf_aload_n (mf_dat eX11_init_p0 50 rfl) rfl rfl ?_
  refine mf_getf (r := (RX11, TX11, 20)) (ci := 11) (k := 2) (t := 2) (v := g83 x0 2) (mf_dat eX11_init_p0 51 rfl) fl_X11_40 rfl (by decide) rfl rfl ck89 ?_
  refine mf_aload_n (mf_dat eX11_init_p0 52 rfl) rfl rfl ?_
  refine mf_getf (r := (RX11, TX11, 20)) (ci := 11) (k := 13) (t := 2) (v := g83 x0 13) (mf_dat eX11_init_p0 53 rfl) fl_X11_51 rfl (by decide) rfl rfl ck89 ?_
  obtain ⟨ck90, hyp⟩ := hyp
  obtain ⟨ck94, hyp⟩ := hyp
  refine mf_callI (Yc := YX2_init) (mf_dat eX11_init_p0 54 rfl) ml_X11_56 okX2_init im_X2_init rfl rfl rfl rfl (Nat.le_of_ble_eq_true rfl) (mf_rr (Nat.le_trans (by decide) hd) ck90) (Nat.le_refl _) ck94 hyp (fun r91 g92 h93 hyp => ?_)
  refine mf_putRF (r := (RX11, TX11, 20)) (ci := 11) (k := 3) (kI := 3) (t := 2) (mf_dat eX11_init_p0 55 rfl) fl_X11_59 rfl rfl (by decide) rfl (by decide) rfl rfl rfl (by decide) (fun h9 => absurd h9 (by decide)) ck89 ?_
  generalize qg95 : mf_up g92 x0 3 v88 = g95
  replace hyp := hyp _ qg95.symm
  refine mf_aload_n (mf_dat eX11_init_p0 56 rfl) rfl rfl ?_
  obtain ⟨ck96, hyp⟩ := hyp
  obtain ⟨ck97, hyp⟩ := hyp
  obtain ⟨ck98, hyp⟩ := hyp
  obtain ⟨ck99, hyp⟩ := hyp
  refine mf_new (r := (RX0, TX0, 1)) (ci := 0) (mf_dat eX11_init_p0 57 rfl) kl_X11_63 in_X0 ii_X0 rfl (by decide) ck96 ck97 ck98 ck99 ?_
  generalize qv100 : ((n0 + 45 : Nat) : Int) = v100
  replace hyp := hyp _ qv100.symm
  refine mf_dup (mf_dat eX11_init_p0 58 rfl) (by decide) ?_
  obtain ⟨ck101, hyp⟩ := hyp
  obtain ⟨ck105, hyp⟩ := hyp
  refine mf_callIN (Yc := YX0_init) (host := "MarginFolk") (mf_dat eX11_init_p0 59 rfl) (List.mem_of_getElem? (i := 5) rfl) okX0_init im_X0_init rfl rfl rfl rfl (Nat.le_of_ble_eq_true rfl) (mf_rr (Nat.le_trans (by decide) hd) ck101) (by omega) ck105 hyp (fun r102 g103 h104 hyp => ?_)
  obtain ⟨ck106, hyp⟩ := hyp
  refine mf_putRF (r := (RX11, TX11, 20)) (ci := 11) (k := 4) (kI := 4) (t := 2) (mf_dat eX11_init_p1 0 rfl) fl_X11_66 rfl rfl (by decide) rfl (by decide) rfl rfl rfl (by decide) (fun h9 => absurd h9 (by decide)) ck106 ?_
  generalize qg107 : mf_up g103 x0 4 v100 = g107
  replace hyp := hyp _ qg107.symm
  refine mf_aload_n (mf_dat eX11_init_p1 1 rfl) rfl rfl ?_
  obtain ⟨ck108, hyp⟩ := hyp
  obtain ⟨ck109, hyp⟩ := hyp
  obtain ⟨ck110, hyp⟩ := hyp
  obtain ⟨ck111, hyp⟩ := hyp
  refine mf_new (r := (RX5, TX5, 12)) (ci := 5) (mf_dat eX11_init_p1 2 rfl) kl_X11_70 in_X5 ii_X5 rfl (by decide) ck108 ck109 ck110 ck111 ?_
  generalize qv112 : ((n0 + 50 : Nat) : Int) = v112
  replace hyp := hyp _ qv112.symm
  refine mf_dup (mf_dat eX11_init_p1 3 rfl) (by decide) ?_
  refine mf_aload_n (mf_dat eX11_init_p1 4 rfl) rfl rfl ?_
  obtain ⟨ck113, hyp⟩ := hyp
  refine mf_getf (r := (RX11, TX11, 20)) (ci := 11) (k := 4) (t := 2) (v := g107 x0 4) (mf_dat eX11_init_p1 5 rfl) fl_X11_66 rfl (by decide) rfl rfl ck113 ?_
  obtain ⟨ck114, hyp⟩ := hyp
  obtain ⟨ck118, hyp⟩ := hyp
  refine mf_callI (Yc := YX5_init) (mf_dat eX11_init_p1 6 rfl) ml_X11_72 okX5_init im_X5_init rfl rfl rfl rfl (Nat.le_of_ble_eq_true rfl) (mf_rr (Nat.le_trans (by decide) hd) ck114) (by omega) ck118 hyp (fun r115 g116 h117 hyp => ?_)
  obtain ⟨ck119, hyp⟩ := hyp
  refine mf_putRF (r := (RX11, TX11, 20)) (ci := 11) (k := 5) (kI := 5) (t := 2) (mf_dat eX11_init_p1 7 rfl) fl_X11_75 rfl rfl (by decide) rfl (by decide) rfl rfl rfl (by decide) (fun h9 => absurd h9 (by decide)) ck119 ?_
  generalize qg120 : mf_up g116 x0 5 v112 = g120
  replace hyp := hyp _ qg120.symm
  refine mf_aload_n (mf_dat eX11_init_p1 8 rfl) rfl rfl ?_
  obtain ⟨ck121, hyp⟩ := hyp
  obtain ⟨ck122, hyp⟩ := hyp
  obtain ⟨ck123, hyp⟩ := hyp
  obtain ⟨ck124, hyp⟩ := hyp
  refine mf_new (r := (RX6, TX6, 8)) (ci := 6) (mf_dat eX11_init_p1 9 rfl) kl_X11_79 in_X6 ii_X6 rfl (by decide) ck121 ck122 ck123 ck124 ?_
  generalize qv125 : ((n0 + 87 : Nat) : Int) = v125
  replace hyp := hyp _ qv125.symm
  refine mf_dup (mf_dat eX11_init_p1 10 rfl) (by decide) ?_
  obtain ⟨ck126, hyp⟩ := hyp
  obtain ⟨ck130, hyp⟩ := hyp
  refine mf_callIN (Yc := YX6_init) (host := "MarginFolk") (mf_dat eX11_init_p1 11 rfl) (List.mem_of_getElem? (i := 8) rfl) okX6_init im_X6_init rfl rfl rfl rfl (Nat.le_of_ble_eq_true rfl) (mf_rr (Nat.le_trans (by decide) hd) ck126) (by omega) ck130 hyp (fun r127 g128 h129 hyp => ?_)
  obtain ⟨ck131, hyp⟩ := hyp
  refine mf_putRF (r := (RX11, TX11, 20)) (ci := 11) (k := 7) (kI := 7) (t := 2) (mf_dat eX11_init_p1 12 rfl) fl_X11_82 rfl rfl (by decide) rfl (by decide) rfl rfl rfl (by decide) (fun h9 => absurd h9 (by decide)) ck131 ?_
  generalize qg132 : mf_up g128 x0 7 v125 = g132
  replace hyp := hyp _ qg132.symm
  refine mf_aload_n (mf_dat eX11_init_p1 13 rfl) rfl rfl ?_
  obtain ⟨ck133, hyp⟩ := hyp
  obtain ⟨ck134, hyp⟩ := hyp
  obtain ⟨ck135, hyp⟩ := hyp
  obtain ⟨ck136, hyp⟩ := hyp
  refine mf_new (r := (RX6, TX6, 8)) (ci := 6) (mf_dat eX11_init_p1 14 rfl) kl_X11_79 in_X6 ii_X6 rfl (by decide) ck133 ck134 ck135 ck136 ?_
  generalize qv137 : ((n0 + 94 : Nat) : Int) = v137
  replace hyp := hyp _ qv137.symm
  refine mf_dup (mf_dat eX11_init_p1 15 rfl) (by decide) ?_
  obtain ⟨ck138, hyp⟩ := hyp
  obtain ⟨ck142, hyp⟩ := hyp
  refine mf_callIN (Yc := YX6_init) (host := "MarginFolk") (mf_dat eX11_init_p1 16 rfl) (List.mem_of_getElem? (i := 8) rfl) okX6_init im_X6_init rfl rfl rfl rfl (Nat.le_of_ble_eq_true rfl) (mf_rr (Nat.le_trans (by decide) hd) ck138) (by omega) ck142 hyp (fun r139 g140 h141 hyp => ?_)
  obtain ⟨ck143, hyp⟩ := hyp
  refine mf_putRF (r := (RX11, TX11, 20)) (ci := 11) (k := 8) (kI := 8) (t := 2) (mf_dat eX11_init_p1 17 rfl) fl_X11_86 rfl rfl (by decide) rfl (by decide) rfl rfl rfl (by decide) (fun h9 => absurd h9 (by decide)) ck143 ?_
  generalize qg144 : mf_up g140 x0 8 v137 = g144
  replace hyp := hyp _ qg144.symm
  refine mf_aload_n (mf_dat eX11_init_p1 18 rfl) rfl rfl ?_
  refine mf_bipush (v := 20) (mf_dat eX11_init_p1 19 rfl) (by decide) ?_
  obtain ⟨ck145, hyp⟩ := hyp
  obtain ⟨ck146, hyp⟩ := hyp
  obtain ⟨ck147, hyp⟩ := hyp
  obtain ⟨ck148, hyp⟩ := hyp
  refine mf_anew (mf_dat eX11_init_p1 20 rfl) kl_X11_79 ao_State ck145 rfl (by decide) ck146 ck147 ck148 ?_
  obtain ⟨ck149, hyp⟩ := hyp
  refine mf_putRF (r := (RX11, TX11, 20)) (ci := 11) (k := 9) (kI := 9) (t := 2) (mf_dat eX11_init_p1 21 rfl) fl_X11_89 rfl rfl (by decide) rfl (by decide) rfl rfl rfl (by decide) (fun h9 => absurd h9 (by decide)) ck149 ?_
  generalize qg150 : mf_up g144 x0 9 ((n0 + 101 : Nat) : Int) = g150
  replace hyp := hyp _ qg150.symm
  refine mf_iconst (v := 0) (mf_dat eX11_init_p1 22 rfl) (by decide) ?_
  refine mf_istore_n (mf_dat eX11_init_p1 23 rfl) rfl (by decide) ?_
  exact mf_sub [2, 0] rfl hyp
set_option maxRecDepth 100000 in
set_option maxHeartbeats 4000000 in
theorem mX11_feed {C : mf_G} {l : Launch} {d n : Nat} {K : mf_Kt} {x0 x1 x2 x3 x4 x5 : Int} {g h : mf_M} (hd : 1 ≤ d) (hyp : mf_is n x0 11 ∧ mf_is n (g x0 0) 8 ∧ ((mf_w32 ((h (g x0 0) 1) + 20) ≤ 1600 → mf_MT C l 0 YX8_add [(2, g x0 0), (0, x1)] n n g h (fun r3 g4 h5 => mf_is n (g4 x0 0) 8 ∧ mf_MT C l 0 YX8_add [(2, g4 x0 0), (0, x2)] n n g4 h5 (fun r6 g7 h8 => mf_is n (g7 x0 0) 8 ∧ mf_MT C l 0 YX8_add [(2, g7 x0 0), (0, x3)] n n g7 h8 (fun r10 g11 h12 => mf_is n (g11 x0 0) 8 ∧ mf_MT C l 0 YX8_add [(2, g11 x0 0), (0, x4)] n n g11 h12 (fun r14 g15 h16 => mf_is n (g15 x0 0) 8 ∧ mf_MT C l 0 YX8_add [(2, g15 x0 0), (0, x5)] n n g15 h16 (fun r18 g19 h20 => mf_is n (g19 x0 0) 8 ∧ K (h20 (g19 x0 0) 1) g19 h20)))))) ∧ (¬ mf_w32 ((h (g x0 0) 1) + 20) ≤ 1600 → mf_is n (g x0 10) 20 ∧ 0 < mf_len (g x0 10) ∧ (∀ h25 : mf_M, h25 = mf_up h (g x0 10) 0 (mf_w32 ((h (g x0 10) 0) + 1)) → K (-1) g h25)))) : mf_MT C l d YX11_feed [(2, x0), (0, x1), (0, x2), (0, x3), (0, x4), (0, x5)] n n g h K := by
  refine mf_entry (by decide) (Nat.le_of_ble_eq_true rfl) ?_
  refine mf_aload_n (mf_dat eX11_feed 0 rfl) rfl rfl ?_
  obtain ⟨ck1, hyp⟩ := hyp
  refine mf_getf (r := (RX11, TX11, 20)) (ci := 11) (k := 0) (t := 2) (v := g x0 0) (mf_dat eX11_feed 1 rfl) fl_X11_15 rfl (by decide) rfl rfl ck1 ?_
  obtain ⟨ck2, hyp⟩ := hyp
  refine mf_getf (r := (RX8, TX8, 2)) (ci := 8) (k := 1) (t := 0) (v := h (g x0 0) 1) (mf_dat eX11_feed 2 rfl) fl_X11_107 rfl (by decide) rfl rfl ck2 ?_
  refine mf_bipush (v := 20) (mf_dat eX11_feed 3 rfl) (by decide) ?_
  refine mf_iadd (mf_dat eX11_feed 4 rfl) ?_
  refine mf_sipush (v := 1600) (mf_dat eX11_feed 5 rfl) (by decide) ?_
  refine mf_icmp_le (tgt := 28) (mf_dat eX11_feed 6 rfl) (by decide) (fun hc => ?_) (fun hc => ?_)
  · replace hyp := hyp.1 hc
    refine mf_aload_n (mf_dat eX11_feed 17 rfl) rfl rfl ?_
    refine mf_getf (r := (RX11, TX11, 20)) (ci := 11) (k := 0) (t := 2) (v := g x0 0) (mf_dat eX11_feed 18 rfl) fl_X11_15 rfl (by decide) rfl rfl ck1 ?_
    refine mf_iload_n (mf_dat eX11_feed 19 rfl) rfl rfl ?_
    refine mf_callV (Yc := YX8_add) (r := (RX8, TX8, 2)) (ci := 8) (mf_dat eX11_feed 20 rfl) ml_X11_110 okX8_add im_X8_add sl_X8_add rfl rfl rfl rfl (Nat.le_of_ble_eq_true rfl) (mf_rr (Nat.le_trans (by decide) hd) (Nat.le_refl _)) (Nat.le_refl _) ck2 hyp (fun r3 g4 h5 hyp => ?_)
    refine mf_aload_n (mf_dat eX11_feed 21 rfl) rfl rfl ?_
    refine mf_getf (r := (RX11, TX11, 20)) (ci := 11) (k := 0) (t := 2) (v := g4 x0 0) (mf_dat eX11_feed 22 rfl) fl_X11_15 rfl (by decide) rfl rfl ck1 ?_
    refine mf_iload_n (mf_dat eX11_feed 23 rfl) rfl rfl ?_
    obtain ⟨ck9, hyp⟩ := hyp
    refine mf_callV (Yc := YX8_add) (r := (RX8, TX8, 2)) (ci := 8) (mf_dat eX11_feed 24 rfl) ml_X11_110 okX8_add im_X8_add sl_X8_add rfl rfl rfl rfl (Nat.le_of_ble_eq_true rfl) (mf_rr (Nat.le_trans (by decide) hd) (Nat.le_refl _)) (Nat.le_refl _) ck9 hyp (fun r6 g7 h8 hyp => ?_)
    refine mf_aload_n (mf_dat eX11_feed 25 rfl) rfl rfl ?_
    refine mf_getf (r := (RX11, TX11, 20)) (ci := 11) (k := 0) (t := 2) (v := g7 x0 0) (mf_dat eX11_feed 26 rfl) fl_X11_15 rfl (by decide) rfl rfl ck1 ?_
    refine mf_iload_n (mf_dat eX11_feed 27 rfl) rfl rfl ?_
    obtain ⟨ck13, hyp⟩ := hyp
    refine mf_callV (Yc := YX8_add) (r := (RX8, TX8, 2)) (ci := 8) (mf_dat eX11_feed 28 rfl) ml_X11_110 okX8_add im_X8_add sl_X8_add rfl rfl rfl rfl (Nat.le_of_ble_eq_true rfl) (mf_rr (Nat.le_trans (by decide) hd) (Nat.le_refl _)) (Nat.le_refl _) ck13 hyp (fun r10 g11 h12 hyp => ?_)
    refine mf_aload_n (mf_dat eX11_feed 29 rfl) rfl rfl ?_
    refine mf_getf (r := (RX11, TX11, 20)) (ci := 11) (k := 0) (t := 2) (v := g11 x0 0) (mf_dat eX11_feed 30 rfl) fl_X11_15 rfl (by decide) rfl rfl ck1 ?_
    refine mf_iload (mf_dat eX11_feed 31 rfl) rfl ?_
    obtain ⟨ck17, hyp⟩ := hyp
    refine mf_callV (Yc := YX8_add) (r := (RX8, TX8, 2)) (ci := 8) (mf_dat eX11_feed 32 rfl) ml_X11_110 okX8_add im_X8_add sl_X8_add rfl rfl rfl rfl (Nat.le_of_ble_eq_true rfl) (mf_rr (Nat.le_trans (by decide) hd) (Nat.le_refl _)) (Nat.le_refl _) ck17 hyp (fun r14 g15 h16 hyp => ?_)
    refine mf_aload_n (mf_dat eX11_feed 33 rfl) rfl rfl ?_
    refine mf_getf (r := (RX11, TX11, 20)) (ci := 11) (k := 0) (t := 2) (v := g15 x0 0) (mf_dat eX11_feed 34 rfl) fl_X11_15 rfl (by decide) rfl rfl ck1 ?_
    refine mf_iload (mf_dat eX11_feed 35 rfl) rfl ?_
    obtain ⟨ck21, hyp⟩ := hyp
    refine mf_callV (Yc := YX8_add) (r := (RX8, TX8, 2)) (ci := 8) (mf_dat eX11_feed 36 rfl) ml_X11_110 okX8_add im_X8_add sl_X8_add rfl rfl rfl rfl (Nat.le_of_ble_eq_true rfl) (mf_rr (Nat.le_trans (by decide) hd) (Nat.le_refl _)) (Nat.le_refl _) ck21 hyp (fun r18 g19 h20 hyp => ?_)
    refine mf_aload_n (mf_dat eX11_feed 37 rfl) rfl rfl ?_
    refine mf_getf (r := (RX11, TX11, 20)) (ci := 11) (k := 0) (t := 2) (v := g19 x0 0) (mf_dat eX11_feed 38 rfl) fl_X11_15 rfl (by decide) rfl rfl ck1 ?_
    obtain ⟨ck22, hyp⟩ := hyp
    refine mf_getf (r := (RX8, TX8, 2)) (ci := 8) (k := 1) (t := 0) (v := h20 (g19 x0 0) 1) (mf_dat eX11_feed 39 rfl) fl_X11_107 rfl (by decide) rfl rfl ck22 ?_
    exact mf_ireturn (mf_dat eX11_feed 40 rfl) rfl (Or.inl rfl) hyp
  · replace hyp := hyp.2 hc
    refine mf_aload_n (mf_dat eX11_feed 7 rfl) rfl rfl ?_
    refine mf_getf (r := (RX11, TX11, 20)) (ci := 11) (k := 10) (t := 2) (v := g x0 10) (mf_dat eX11_feed 8 rfl) fl_X11_93 rfl (by decide) rfl rfl ck1 ?_
    refine mf_iconst (v := 0) (mf_dat eX11_feed 9 rfl) (by decide) ?_
    refine mf_dup2 (mf_dat eX11_feed 10 rfl) (by decide) (by decide) ?_
    obtain ⟨ck23, hyp⟩ := hyp
    obtain ⟨ck24, hyp⟩ := hyp
    refine mf_iald (mf_dat eX11_feed 11 rfl) ck23 (by decide) ck24 ?_
    refine mf_iconst (v := 1) (mf_dat eX11_feed 12 rfl) (by decide) ?_
    refine mf_iadd (mf_dat eX11_feed 13 rfl) ?_
    refine mf_iast (mf_dat eX11_feed 14 rfl) ck23 (by decide) ck24 ?_
    generalize qh25 : mf_up h (g x0 10) 0 (mf_w32 ((h (g x0 10) 0) + 1)) = h25
    replace hyp := hyp _ qh25.symm
    refine mf_iconst (v := (-1)) (mf_dat eX11_feed 15 rfl) (by decide) ?_
    exact mf_ireturn (mf_dat eX11_feed 16 rfl) rfl (Or.inl rfl) hyp
set_option maxRecDepth 100000 in
set_option maxHeartbeats 4000000 in
theorem mX11_end {C : mf_G} {l : Launch} {d n : Nat} {K : mf_Kt} {x0 x1 : Int} {g h : mf_M} (hyp : ((x1 < 0 → mf_is n x0 11 ∧ mf_is n (g x0 10) 20 ∧ 0 < mf_len (g x0 10) ∧ (∀ h4 : mf_M, h4 = mf_up h (g x0 10) 0 (mf_w32 ((h (g x0 10) 0) + 1)) → K 0 g h4)) ∧ (¬ x1 < 0 → mf_is n x0 11 ∧ mf_is n (g x0 0) 8 ∧ ((x1 ≤ h (g x0 0) 1 → (∀ h7 : mf_M, h7 = mf_up h (g x0 0) 1 x1 → K 1 g h7)) ∧ (¬ x1 ≤ h (g x0 0) 1 → mf_is n (g x0 10) 20 ∧ 0 < mf_len (g x0 10) ∧ (∀ h10 : mf_M, h10 = mf_up h (g x0 10) 0 (mf_w32 ((h (g x0 10) 0) + 1)) → K 0 g h10)))))) : mf_MT C l d YX11_end [(2, x0), (0, x1)] n n g h K := by
  refine mf_entry (by decide) (Nat.le_of_ble_eq_true rfl) ?_
  refine mf_iload_n (mf_dat eX11_end 0 rfl) rfl rfl ?_
  refine mf_if_lt (tgt := 15) (mf_dat eX11_end 1 rfl) (by decide) (fun hc => ?_) (fun hc => ?_)
  · replace hyp := hyp.1 hc
    refine mf_aload_n (mf_dat eX11_end 7 rfl) rfl rfl ?_
    obtain ⟨ck1, hyp⟩ := hyp
    refine mf_getf (r := (RX11, TX11, 20)) (ci := 11) (k := 10) (t := 2) (v := g x0 10) (mf_dat eX11_end 8 rfl) fl_X11_93 rfl (by decide) rfl rfl ck1 ?_
    refine mf_iconst (v := 0) (mf_dat eX11_end 9 rfl) (by decide) ?_
    refine mf_dup2 (mf_dat eX11_end 10 rfl) (by decide) (by decide) ?_
    obtain ⟨ck2, hyp⟩ := hyp
    obtain ⟨ck3, hyp⟩ := hyp
    refine mf_iald (mf_dat eX11_end 11 rfl) ck2 (by decide) ck3 ?_
    refine mf_iconst (v := 1) (mf_dat eX11_end 12 rfl) (by decide) ?_
    refine mf_iadd (mf_dat eX11_end 13 rfl) ?_
    refine mf_iast (mf_dat eX11_end 14 rfl) ck2 (by decide) ck3 ?_
    generalize qh4 : mf_up h (g x0 10) 0 (mf_w32 ((h (g x0 10) 0) + 1)) = h4
    replace hyp := hyp _ qh4.symm
    refine mf_iconst (v := 0) (mf_dat eX11_end 15 rfl) (by decide) ?_
    exact mf_ireturn (mf_dat eX11_end 16 rfl) rfl (Or.inr ⟨rfl, by decide⟩) hyp
  · replace hyp := hyp.2 hc
    refine mf_iload_n (mf_dat eX11_end 2 rfl) rfl rfl ?_
    refine mf_aload_n (mf_dat eX11_end 3 rfl) rfl rfl ?_
    obtain ⟨ck5, hyp⟩ := hyp
    refine mf_getf (r := (RX11, TX11, 20)) (ci := 11) (k := 0) (t := 2) (v := g x0 0) (mf_dat eX11_end 4 rfl) fl_X11_15 rfl (by decide) rfl rfl ck5 ?_
    obtain ⟨ck6, hyp⟩ := hyp
    refine mf_getf (r := (RX8, TX8, 2)) (ci := 8) (k := 1) (t := 0) (v := h (g x0 0) 1) (mf_dat eX11_end 5 rfl) fl_X11_107 rfl (by decide) rfl rfl ck6 ?_
    refine mf_icmp_le (tgt := 27) (mf_dat eX11_end 6 rfl) (by decide) (fun hc => ?_) (fun hc => ?_)
    · replace hyp := hyp.1 hc
      refine mf_aload_n (mf_dat eX11_end 17 rfl) rfl rfl ?_
      refine mf_getf (r := (RX11, TX11, 20)) (ci := 11) (k := 0) (t := 2) (v := g x0 0) (mf_dat eX11_end 18 rfl) fl_X11_15 rfl (by decide) rfl rfl ck5 ?_
      refine mf_iload_n (mf_dat eX11_end 19 rfl) rfl rfl ?_
      refine mf_putI (r := (RX8, TX8, 2)) (ci := 8) (k := 1) (kI := 1) (t := 0) (mf_dat eX11_end 20 rfl) fl_X11_107 rfl rfl (by decide) rfl (by decide) rfl (by decide) (fun h9 => absurd h9 (by decide)) ck6 ?_
      generalize qh7 : mf_up h (g x0 0) 1 x1 = h7
      replace hyp := hyp _ qh7.symm
      refine mf_iconst (v := 1) (mf_dat eX11_end 21 rfl) (by decide) ?_
      exact mf_ireturn (mf_dat eX11_end 22 rfl) rfl (Or.inr ⟨rfl, by decide⟩) hyp
    · replace hyp := hyp.2 hc
      refine mf_aload_n (mf_dat eX11_end 7 rfl) rfl rfl ?_
      refine mf_getf (r := (RX11, TX11, 20)) (ci := 11) (k := 10) (t := 2) (v := g x0 10) (mf_dat eX11_end 8 rfl) fl_X11_93 rfl (by decide) rfl rfl ck5 ?_
      refine mf_iconst (v := 0) (mf_dat eX11_end 9 rfl) (by decide) ?_
      refine mf_dup2 (mf_dat eX11_end 10 rfl) (by decide) (by decide) ?_
      obtain ⟨ck8, hyp⟩ := hyp
      obtain ⟨ck9, hyp⟩ := hyp
      refine mf_iald (mf_dat eX11_end 11 rfl) ck8 (by decide) ck9 ?_
      refine mf_iconst (v := 1) (mf_dat eX11_end 12 rfl) (by decide) ?_
      refine mf_iadd (mf_dat eX11_end 13 rfl) ?_
      refine mf_iast (mf_dat eX11_end 14 rfl) ck8 (by decide) ck9 ?_
      generalize qh10 : mf_up h (g x0 10) 0 (mf_w32 ((h (g x0 10) 0) + 1)) = h10
      replace hyp := hyp _ qh10.symm
      refine mf_iconst (v := 0) (mf_dat eX11_end 15 rfl) (by decide) ?_
      exact mf_ireturn (mf_dat eX11_end 16 rfl) rfl (Or.inr ⟨rfl, by decide⟩) hyp
set_option maxRecDepth 100000 in
set_option maxHeartbeats 4000000 in
theorem mX11_folio {C : mf_G} {l : Launch} {d n : Nat} {K : mf_Kt} {x0 : Int} {g h : mf_M} (hd : 66 ≤ d) (hyp : mf_is n x0 11 ∧ mf_is n (g x0 3) 2 ∧ mf_MT C l 65 YX2_read [(2, g x0 3), (2, g x0 13)] n n g h (fun r2 g3 h4 => mf_MT C l 0 YX11_takeFault [(2, x0)] n n g3 h4 (fun r6 g7 h8 => ((h8 x0 17 = 0 → (∀ v9 : Int, v9 = g7 x0 12 → (∀ g10 : mf_M, g10 = mf_up g7 x0 12 (g7 x0 13) → (∀ g11 : mf_M, g11 = mf_up g10 x0 13 v9 → mf_is n (g11 x0 12) 1 ∧ mf_is n (g11 x0 7) 6 ∧ mf_MT C l 2 YX6_copyAll [(2, g11 x0 7), (2, g11 (g11 x0 12) 6)] n n g11 h8 (fun r13 g14 h15 => mf_is n (g14 x0 5) 5 ∧ (∀ h18 : mf_M, h18 = mf_up h15 (g14 x0 5) 11 0 → (∀ h19 : mf_M, h19 = mf_up h18 x0 15 0 → mf_is n (g14 x0 12) 1 ∧ K (h19 (g14 x0 12) 7) g14 h19))))))) ∧ (¬ h8 x0 17 = 0 → mf_is n (g7 x0 10) 20 ∧ 1 < mf_len (g7 x0 10) ∧ (∀ h23 : mf_M, h23 = mf_up h8 (g7 x0 10) 1 (mf_w32 ((h8 (g7 x0 10) 1) + 1)) → K (-1) g7 h23)))))) : mf_MT C l d YX11_folio [(2, x0)] n n g h K := by
  refine mf_entry (by decide) (Nat.le_of_ble_eq_true rfl) ?_
  refine mf_aload_n (mf_dat eX11_folio 0 rfl) rfl rfl ?_
  obtain ⟨ck1, hyp⟩ := hyp
  refine mf_getf (r := (RX11, TX11, 20)) (ci := 11) (k := 3) (t := 2) (v := g x0 3) (mf_dat eX11_folio 1 rfl) fl_X11_59 rfl (by decide) rfl rfl ck1 ?_
  refine mf_aload_n (mf_dat eX11_folio 2 rfl) rfl rfl ?_
  refine mf_getf (r := (RX11, TX11, 20)) (ci := 11) (k := 13) (t := 2) (v := g x0 13) (mf_dat eX11_folio 3 rfl) fl_X11_51 rfl (by decide) rfl rfl ck1 ?_
  obtain ⟨ck5, hyp⟩ := hyp
  refine mf_callV (Yc := YX2_read) (r := (RX2, TX2, 5)) (ci := 2) (mf_dat eX11_folio 4 rfl) ml_X11_114 okX2_read im_X2_read sl_X2_read rfl rfl rfl rfl (Nat.le_of_ble_eq_true rfl) (mf_rr (Nat.le_trans (by decide) hd) (Nat.le_refl _)) (Nat.le_refl _) ck5 hyp (fun r2 g3 h4 hyp => ?_)
  refine mf_aload_n (mf_dat eX11_folio 5 rfl) rfl rfl ?_
  refine mf_callV (Yc := YX11_takeFault) (r := (RX11, TX11, 20)) (ci := 11) (mf_dat eX11_folio 6 rfl) ml_X11_118 okX11_takeFault im_X11_takeFault sl_X11_takeFault rfl rfl rfl rfl (Nat.le_of_ble_eq_true rfl) (mf_rr (Nat.le_trans (by decide) hd) (Nat.le_refl _)) (Nat.le_refl _) ck1 hyp (fun r6 g7 h8 hyp => ?_)
  refine mf_aload_n (mf_dat eX11_folio 7 rfl) rfl rfl ?_
  refine mf_getf (r := (RX11, TX11, 20)) (ci := 11) (k := 17) (t := 0) (v := h8 x0 17) (mf_dat eX11_folio 8 rfl) fl_X11_121 rfl (by decide) rfl rfl ck1 ?_
  refine mf_if_eq (tgt := 34) (mf_dat eX11_folio 9 rfl) (by decide) (fun hc => ?_) (fun hc => ?_)
  · replace hyp := hyp.1 hc
    refine mf_aload_n (mf_dat eX11_folio 20 rfl) rfl rfl ?_
    refine mf_getf (r := (RX11, TX11, 20)) (ci := 11) (k := 12) (t := 2) (v := g7 x0 12) (mf_dat eX11_folio 21 rfl) fl_X11_47 rfl (by decide) rfl rfl ck1 ?_
    generalize qv9 : g7 x0 12 = v9
    replace hyp := hyp _ qv9.symm
    refine mf_astore_n (mf_dat eX11_folio 22 rfl) rfl (by decide) ?_
    refine mf_aload_n (mf_dat eX11_folio 23 rfl) rfl rfl ?_
    refine mf_aload_n (mf_dat eX11_folio 24 rfl) rfl rfl ?_
    refine mf_getf (r := (RX11, TX11, 20)) (ci := 11) (k := 13) (t := 2) (v := g7 x0 13) (mf_dat eX11_folio 25 rfl) fl_X11_51 rfl (by decide) rfl rfl ck1 ?_
    refine mf_putR (r := (RX11, TX11, 20)) (ci := 11) (k := 12) (kI := 12) (t := 2) (mf_dat eX11_folio 26 rfl) fl_X11_47 rfl rfl (by decide) rfl (by decide) rfl (by decide) (fun h9 => absurd h9 (by decide)) ck1 ?_
    generalize qg10 : mf_up g7 x0 12 (g7 x0 13) = g10
    replace hyp := hyp _ qg10.symm
    refine mf_aload_n (mf_dat eX11_folio 27 rfl) rfl rfl ?_
    refine mf_aload_n (mf_dat eX11_folio 28 rfl) rfl rfl ?_
    refine mf_putR (r := (RX11, TX11, 20)) (ci := 11) (k := 13) (kI := 13) (t := 2) (mf_dat eX11_folio 29 rfl) fl_X11_51 rfl rfl (by decide) rfl (by decide) rfl (by decide) (fun h9 => absurd h9 (by decide)) ck1 ?_
    generalize qg11 : mf_up g10 x0 13 v9 = g11
    replace hyp := hyp _ qg11.symm
    refine mf_aload_n (mf_dat eX11_folio 30 rfl) rfl rfl ?_
    refine mf_getf (r := (RX11, TX11, 20)) (ci := 11) (k := 7) (t := 2) (v := g11 x0 7) (mf_dat eX11_folio 31 rfl) fl_X11_82 rfl (by decide) rfl rfl ck1 ?_
    refine mf_aload_n (mf_dat eX11_folio 32 rfl) rfl rfl ?_
    refine mf_getf (r := (RX11, TX11, 20)) (ci := 11) (k := 12) (t := 2) (v := g11 x0 12) (mf_dat eX11_folio 33 rfl) fl_X11_47 rfl (by decide) rfl rfl ck1 ?_
    obtain ⟨ck12, hyp⟩ := hyp
    refine mf_getf (r := (RX1, TX1, 14)) (ci := 1) (k := 6) (t := 2) (v := g11 (g11 x0 12) 6) (mf_dat eX11_folio 34 rfl) fl_X11_124 rfl (by decide) rfl rfl ck12 ?_
    obtain ⟨ck16, hyp⟩ := hyp
    refine mf_callV (Yc := YX6_copyAll) (r := (RX6, TX6, 8)) (ci := 6) (mf_dat eX11_folio 35 rfl) ml_X11_127 okX6_copyAll im_X6_copyAll sl_X6_copyAll rfl rfl rfl rfl (Nat.le_of_ble_eq_true rfl) (mf_rr (Nat.le_trans (by decide) hd) (Nat.le_refl _)) (Nat.le_refl _) ck16 hyp (fun r13 g14 h15 hyp => ?_)
    refine mf_aload_n (mf_dat eX11_folio 36 rfl) rfl rfl ?_
    refine mf_getf (r := (RX11, TX11, 20)) (ci := 11) (k := 5) (t := 2) (v := g14 x0 5) (mf_dat eX11_folio 37 rfl) fl_X11_75 rfl (by decide) rfl rfl ck1 ?_
    refine mf_iconst (v := 0) (mf_dat eX11_folio 38 rfl) (by decide) ?_
    obtain ⟨ck17, hyp⟩ := hyp
    refine mf_putI (r := (RX5, TX5, 12)) (ci := 5) (k := 11) (kI := 11) (t := 0) (mf_dat eX11_folio 39 rfl) fl_X11_131 rfl rfl (by decide) rfl (by decide) rfl (by decide) (fun h9 => absurd h9 (by decide)) ck17 ?_
    generalize qh18 : mf_up h15 (g14 x0 5) 11 0 = h18
    replace hyp := hyp _ qh18.symm
    refine mf_aload_n (mf_dat eX11_folio 40 rfl) rfl rfl ?_
    refine mf_iconst (v := 0) (mf_dat eX11_folio 41 rfl) (by decide) ?_
    refine mf_putI (r := (RX11, TX11, 20)) (ci := 11) (k := 15) (kI := 15) (t := 0) (mf_dat eX11_folio 42 rfl) fl_X11_134 rfl rfl (by decide) rfl (by decide) rfl (by decide) (fun h9 => absurd h9 (by decide)) ck1 ?_
    generalize qh19 : mf_up h18 x0 15 0 = h19
    replace hyp := hyp _ qh19.symm
    refine mf_aload_n (mf_dat eX11_folio 43 rfl) rfl rfl ?_
    refine mf_getf (r := (RX11, TX11, 20)) (ci := 11) (k := 12) (t := 2) (v := g14 x0 12) (mf_dat eX11_folio 44 rfl) fl_X11_47 rfl (by decide) rfl rfl ck1 ?_
    obtain ⟨ck20, hyp⟩ := hyp
    refine mf_getf (r := (RX1, TX1, 14)) (ci := 1) (k := 7) (t := 0) (v := h19 (g14 x0 12) 7) (mf_dat eX11_folio 45 rfl) fl_X11_137 rfl (by decide) rfl rfl ck20 ?_
    exact mf_ireturn (mf_dat eX11_folio 46 rfl) rfl (Or.inl rfl) hyp
  · replace hyp := hyp.2 hc
    refine mf_aload_n (mf_dat eX11_folio 10 rfl) rfl rfl ?_
    refine mf_getf (r := (RX11, TX11, 20)) (ci := 11) (k := 10) (t := 2) (v := g7 x0 10) (mf_dat eX11_folio 11 rfl) fl_X11_93 rfl (by decide) rfl rfl ck1 ?_
    refine mf_iconst (v := 1) (mf_dat eX11_folio 12 rfl) (by decide) ?_
    refine mf_dup2 (mf_dat eX11_folio 13 rfl) (by decide) (by decide) ?_
    obtain ⟨ck21, hyp⟩ := hyp
    obtain ⟨ck22, hyp⟩ := hyp
    refine mf_iald (mf_dat eX11_folio 14 rfl) ck21 (by decide) ck22 ?_
    refine mf_iconst (v := 1) (mf_dat eX11_folio 15 rfl) (by decide) ?_
    refine mf_iadd (mf_dat eX11_folio 16 rfl) ?_
    refine mf_iast (mf_dat eX11_folio 17 rfl) ck21 (by decide) ck22 ?_
    generalize qh23 : mf_up h8 (g7 x0 10) 1 (mf_w32 ((h8 (g7 x0 10) 1) + 1)) = h23
    replace hyp := hyp _ qh23.symm
    refine mf_iconst (v := (-1)) (mf_dat eX11_folio 18 rfl) (by decide) ?_
    exact mf_ireturn (mf_dat eX11_folio 19 rfl) rfl (Or.inl rfl) hyp
set_option maxRecDepth 100000 in
set_option maxHeartbeats 4000000 in
theorem mX11_fault {C : mf_G} {l : Launch} {d n : Nat} {K : mf_Kt} {x0 x1 : Int} {g h : mf_M} (hyp : ((¬ x1 = 0 → ((¬ x1 = 1 → K (-1) g h) ∧ (x1 = 1 → mf_is n x0 11 ∧ K (h x0 18) g h))) ∧ (x1 = 0 → mf_is n x0 11 ∧ K (h x0 17) g h))) : mf_MT C l d YX11_fault [(2, x0), (0, x1)] n n g h K := by
  refine mf_entry (by decide) (Nat.le_of_ble_eq_true rfl) ?_
  refine mf_iload_n (mf_dat eX11_fault 0 rfl) rfl rfl ?_
  refine mf_if_ne (tgt := 9) (mf_dat eX11_fault 1 rfl) (by decide) (fun hc => ?_) (fun hc => ?_)
  · replace hyp := hyp.1 hc
    refine mf_iload_n (mf_dat eX11_fault 5 rfl) rfl rfl ?_
    refine mf_iconst (v := 1) (mf_dat eX11_fault 6 rfl) (by decide) ?_
    refine mf_icmp_ne (tgt := 21) (mf_dat eX11_fault 7 rfl) (by decide) (fun hc => ?_) (fun hc => ?_)
    · replace hyp := hyp.1 hc
      refine mf_iconst (v := (-1)) (mf_dat eX11_fault 11 rfl) (by decide) ?_
      exact mf_ireturn (mf_dat eX11_fault 12 rfl) rfl (Or.inl rfl) hyp
    · replace hyp := hyp.2 hc
      refine mf_aload_n (mf_dat eX11_fault 8 rfl) rfl rfl ?_
      obtain ⟨ck1, hyp⟩ := hyp
      refine mf_getf (r := (RX11, TX11, 20)) (ci := 11) (k := 18) (t := 0) (v := h x0 18) (mf_dat eX11_fault 9 rfl) fl_X11_100 rfl (by decide) rfl rfl ck1 ?_
      refine mf_goto (tgt := 22) (mf_dat eX11_fault 10 rfl) (by decide) ?_
      exact mf_ireturn (mf_dat eX11_fault 12 rfl) rfl (Or.inl rfl) hyp
  · replace hyp := hyp.2 hc
    refine mf_aload_n (mf_dat eX11_fault 2 rfl) rfl rfl ?_
    obtain ⟨ck2, hyp⟩ := hyp
    refine mf_getf (r := (RX11, TX11, 20)) (ci := 11) (k := 17) (t := 0) (v := h x0 17) (mf_dat eX11_fault 3 rfl) fl_X11_121 rfl (by decide) rfl rfl ck2 ?_
    exact mf_ireturn (mf_dat eX11_fault 4 rfl) rfl (Or.inl rfl) hyp
set_option maxRecDepth 100000 in
set_option maxHeartbeats 4000000 in
theorem mX11_has {C : mf_G} {l : Launch} {d n : Nat} {K : mf_Kt} {x0 x1 : Int} {g h : mf_M} (hd : 5 ≤ d) (hyp : ((x1 = 0 → mf_is n x0 11 ∧ mf_is n (g x0 12) 1 ∧ K (h (g x0 12) 8) g h) ∧ (x1 = 1 → mf_is n x0 11 ∧ mf_is n (g x0 12) 1 ∧ K (h (g x0 12) 9) g h) ∧ (x1 = 2 → mf_is n x0 11 ∧ mf_is n (g x0 7) 6 ∧ mf_MT C l 1 YX6_countGlosses [(2, g x0 7)] n n g h (fun r6 g7 h8 => K r6 g7 h8)) ∧ (x1 = 3 → mf_is n x0 11 ∧ mf_is n (g x0 12) 1 ∧ K (h (g x0 12) 11) g h) ∧ (x1 = 4 → mf_is n x0 11 ∧ mf_is n (g x0 12) 1 ∧ K (h (g x0 12) 12) g h) ∧ (x1 = 5 → mf_is n x0 11 ∧ mf_is n (g x0 7) 6 ∧ K (h (g x0 7) 7) g h) ∧ (x1 = 6 → mf_is n x0 11 ∧ mf_is n (g x0 7) 6 ∧ mf_is n (g x0 4) 0 ∧ mf_MT C l 4 YX0_openingOf [(2, g x0 4), (2, g x0 12), (0, h (g x0 7) 7)] n n g h (fun r18 g19 h20 => K r18 g19 h20)) ∧ (x1 = 7 → mf_is n x0 11 ∧ mf_MT C l 0 YX11_allPurses [(2, x0)] n n g h (fun r22 g23 h24 => K r22 g23 h24)) ∧ (x1 = 8 → mf_is n x0 11 ∧ mf_is n (g x0 7) 6 ∧ mf_MT C l 1 YX6_countKept [(2, g x0 7)] n n g h (fun r27 g28 h29 => K r27 g28 h29)) ∧ (x1 = 9 → mf_is n x0 11 ∧ mf_is n (g x0 5) 5 ∧ K (h (g x0 5) 11) g h) ∧ (x1 = 10 → mf_is n x0 11 ∧ K (h x0 15) g h) ∧ ((x1 < 0 ∨ 10 < x1) → K (-1) g h))) : mf_MT C l d YX11_has [(2, x0), (0, x1)] n n g h K := by
  refine mf_entry (by decide) (Nat.le_of_ble_eq_true rfl) ?_
  refine mf_iload_n (mf_dat eX11_has 0 rfl) rfl rfl ?_
  refine mf_tsw1 (v := 0) (tgt := 60) (mf_dat eX11_has 1 rfl) (by decide) (by decide) (off := 59) (by decide) (by decide) (fun hc => ?_) (fun hc0 => ?_)
  · replace hyp := hyp.1 hc
    refine mf_aload_n (mf_dat eX11_has 2 rfl) rfl rfl ?_
    obtain ⟨ck1, hyp⟩ := hyp
    refine mf_getf (r := (RX11, TX11, 20)) (ci := 11) (k := 12) (t := 2) (v := g x0 12) (mf_dat eX11_has 3 rfl) fl_X11_47 rfl (by decide) rfl rfl ck1 ?_
    obtain ⟨ck2, hyp⟩ := hyp
    refine mf_getf (r := (RX1, TX1, 14)) (ci := 1) (k := 8) (t := 0) (v := h (g x0 12) 8) (mf_dat eX11_has 4 rfl) fl_X11_140 rfl (by decide) rfl rfl ck2 ?_
    exact mf_ireturn (mf_dat eX11_has 5 rfl) rfl (Or.inl rfl) hyp
  replace hyp := hyp.2
  refine mf_tsw1 (v := 1) (tgt := 68) (mf_dat eX11_has 1 rfl) (by decide) (by decide) (off := 67) (by decide) (by decide) (fun hc => ?_) (fun hc1 => ?_)
  · replace hyp := hyp.1 hc
    refine mf_aload_n (mf_dat eX11_has 6 rfl) rfl rfl ?_
    obtain ⟨ck3, hyp⟩ := hyp
    refine mf_getf (r := (RX11, TX11, 20)) (ci := 11) (k := 12) (t := 2) (v := g x0 12) (mf_dat eX11_has 7 rfl) fl_X11_47 rfl (by decide) rfl rfl ck3 ?_
    obtain ⟨ck4, hyp⟩ := hyp
    refine mf_getf (r := (RX1, TX1, 14)) (ci := 1) (k := 9) (t := 0) (v := h (g x0 12) 9) (mf_dat eX11_has 8 rfl) fl_X11_143 rfl (by decide) rfl rfl ck4 ?_
    exact mf_ireturn (mf_dat eX11_has 9 rfl) rfl (Or.inl rfl) hyp
  replace hyp := hyp.2
  refine mf_tsw1 (v := 2) (tgt := 76) (mf_dat eX11_has 1 rfl) (by decide) (by decide) (off := 75) (by decide) (by decide) (fun hc => ?_) (fun hc2 => ?_)
  · replace hyp := hyp.1 hc
    refine mf_aload_n (mf_dat eX11_has 10 rfl) rfl rfl ?_
    obtain ⟨ck5, hyp⟩ := hyp
    refine mf_getf (r := (RX11, TX11, 20)) (ci := 11) (k := 7) (t := 2) (v := g x0 7) (mf_dat eX11_has 11 rfl) fl_X11_82 rfl (by decide) rfl rfl ck5 ?_
    obtain ⟨ck9, hyp⟩ := hyp
    refine mf_callV (Yc := YX6_countGlosses) (r := (RX6, TX6, 8)) (ci := 6) (mf_dat eX11_has 12 rfl) ml_X11_146 okX6_countGlosses im_X6_countGlosses sl_X6_countGlosses rfl rfl rfl rfl (Nat.le_of_ble_eq_true rfl) (mf_rr (Nat.le_trans (by decide) hd) (Nat.le_refl _)) (Nat.le_refl _) ck9 hyp (fun r6 g7 h8 hyp => ?_)
    exact mf_ireturn (mf_dat eX11_has 13 rfl) rfl (Or.inl rfl) hyp
  replace hyp := hyp.2
  refine mf_tsw1 (v := 3) (tgt := 84) (mf_dat eX11_has 1 rfl) (by decide) (by decide) (off := 83) (by decide) (by decide) (fun hc => ?_) (fun hc3 => ?_)
  · replace hyp := hyp.1 hc
    refine mf_aload_n (mf_dat eX11_has 14 rfl) rfl rfl ?_
    obtain ⟨ck10, hyp⟩ := hyp
    refine mf_getf (r := (RX11, TX11, 20)) (ci := 11) (k := 12) (t := 2) (v := g x0 12) (mf_dat eX11_has 15 rfl) fl_X11_47 rfl (by decide) rfl rfl ck10 ?_
    obtain ⟨ck11, hyp⟩ := hyp
    refine mf_getf (r := (RX1, TX1, 14)) (ci := 1) (k := 11) (t := 0) (v := h (g x0 12) 11) (mf_dat eX11_has 16 rfl) fl_X11_150 rfl (by decide) rfl rfl ck11 ?_
    exact mf_ireturn (mf_dat eX11_has 17 rfl) rfl (Or.inl rfl) hyp
  replace hyp := hyp.2
  refine mf_tsw1 (v := 4) (tgt := 92) (mf_dat eX11_has 1 rfl) (by decide) (by decide) (off := 91) (by decide) (by decide) (fun hc => ?_) (fun hc4 => ?_)
  · replace hyp := hyp.1 hc
    refine mf_aload_n (mf_dat eX11_has 18 rfl) rfl rfl ?_
    obtain ⟨ck12, hyp⟩ := hyp
    refine mf_getf (r := (RX11, TX11, 20)) (ci := 11) (k := 12) (t := 2) (v := g x0 12) (mf_dat eX11_has 19 rfl) fl_X11_47 rfl (by decide) rfl rfl ck12 ?_
    obtain ⟨ck13, hyp⟩ := hyp
    refine mf_getf (r := (RX1, TX1, 14)) (ci := 1) (k := 12) (t := 0) (v := h (g x0 12) 12) (mf_dat eX11_has 20 rfl) fl_X11_153 rfl (by decide) rfl rfl ck13 ?_
    exact mf_ireturn (mf_dat eX11_has 21 rfl) rfl (Or.inl rfl) hyp
  replace hyp := hyp.2
  refine mf_tsw1 (v := 5) (tgt := 100) (mf_dat eX11_has 1 rfl) (by decide) (by decide) (off := 99) (by decide) (by decide) (fun hc => ?_) (fun hc5 => ?_)
  · replace hyp := hyp.1 hc
    refine mf_aload_n (mf_dat eX11_has 22 rfl) rfl rfl ?_
    obtain ⟨ck14, hyp⟩ := hyp
    refine mf_getf (r := (RX11, TX11, 20)) (ci := 11) (k := 7) (t := 2) (v := g x0 7) (mf_dat eX11_has 23 rfl) fl_X11_82 rfl (by decide) rfl rfl ck14 ?_
    obtain ⟨ck15, hyp⟩ := hyp
    refine mf_getf (r := (RX6, TX6, 8)) (ci := 6) (k := 7) (t := 0) (v := h (g x0 7) 7) (mf_dat eX11_has 24 rfl) fl_X11_156 rfl (by decide) rfl rfl ck15 ?_
    exact mf_ireturn (mf_dat eX11_has 25 rfl) rfl (Or.inl rfl) hyp
  replace hyp := hyp.2
  refine mf_tsw1 (v := 6) (tgt := 108) (mf_dat eX11_has 1 rfl) (by decide) (by decide) (off := 107) (by decide) (by decide) (fun hc => ?_) (fun hc6 => ?_)
  · replace hyp := hyp.1 hc
    refine mf_aload_n (mf_dat eX11_has 26 rfl) rfl rfl ?_
    obtain ⟨ck16, hyp⟩ := hyp
    refine mf_getf (r := (RX11, TX11, 20)) (ci := 11) (k := 4) (t := 2) (v := g x0 4) (mf_dat eX11_has 27 rfl) fl_X11_66 rfl (by decide) rfl rfl ck16 ?_
    refine mf_aload_n (mf_dat eX11_has 28 rfl) rfl rfl ?_
    refine mf_getf (r := (RX11, TX11, 20)) (ci := 11) (k := 12) (t := 2) (v := g x0 12) (mf_dat eX11_has 29 rfl) fl_X11_47 rfl (by decide) rfl rfl ck16 ?_
    refine mf_aload_n (mf_dat eX11_has 30 rfl) rfl rfl ?_
    refine mf_getf (r := (RX11, TX11, 20)) (ci := 11) (k := 7) (t := 2) (v := g x0 7) (mf_dat eX11_has 31 rfl) fl_X11_82 rfl (by decide) rfl rfl ck16 ?_
    obtain ⟨ck17, hyp⟩ := hyp
    refine mf_getf (r := (RX6, TX6, 8)) (ci := 6) (k := 7) (t := 0) (v := h (g x0 7) 7) (mf_dat eX11_has 32 rfl) fl_X11_156 rfl (by decide) rfl rfl ck17 ?_
    obtain ⟨ck21, hyp⟩ := hyp
    refine mf_callV (Yc := YX0_openingOf) (r := (RX0, TX0, 1)) (ci := 0) (mf_dat eX11_has 33 rfl) ml_X11_159 okX0_openingOf im_X0_openingOf sl_X0_openingOf rfl rfl rfl rfl (Nat.le_of_ble_eq_true rfl) (mf_rr (Nat.le_trans (by decide) hd) (Nat.le_refl _)) (Nat.le_refl _) ck21 hyp (fun r18 g19 h20 hyp => ?_)
    exact mf_ireturn (mf_dat eX11_has 34 rfl) rfl (Or.inl rfl) hyp
  replace hyp := hyp.2
  refine mf_tsw1 (v := 7) (tgt := 127) (mf_dat eX11_has 1 rfl) (by decide) (by decide) (off := 126) (by decide) (by decide) (fun hc => ?_) (fun hc7 => ?_)
  · replace hyp := hyp.1 hc
    refine mf_aload_n (mf_dat eX11_has 35 rfl) rfl rfl ?_
    obtain ⟨ck25, hyp⟩ := hyp
    refine mf_callV (Yc := YX11_allPurses) (r := (RX11, TX11, 20)) (ci := 11) (mf_dat eX11_has 36 rfl) ml_X11_163 okX11_allPurses im_X11_allPurses sl_X11_allPurses rfl rfl rfl rfl (Nat.le_of_ble_eq_true rfl) (mf_rr (Nat.le_trans (by decide) hd) (Nat.le_refl _)) (Nat.le_refl _) ck25 hyp (fun r22 g23 h24 hyp => ?_)
    exact mf_ireturn (mf_dat eX11_has 37 rfl) rfl (Or.inl rfl) hyp
  replace hyp := hyp.2
  refine mf_tsw1 (v := 8) (tgt := 132) (mf_dat eX11_has 1 rfl) (by decide) (by decide) (off := 131) (by decide) (by decide) (fun hc => ?_) (fun hc8 => ?_)
  · replace hyp := hyp.1 hc
    refine mf_aload_n (mf_dat eX11_has 38 rfl) rfl rfl ?_
    obtain ⟨ck26, hyp⟩ := hyp
    refine mf_getf (r := (RX11, TX11, 20)) (ci := 11) (k := 7) (t := 2) (v := g x0 7) (mf_dat eX11_has 39 rfl) fl_X11_82 rfl (by decide) rfl rfl ck26 ?_
    obtain ⟨ck30, hyp⟩ := hyp
    refine mf_callV (Yc := YX6_countKept) (r := (RX6, TX6, 8)) (ci := 6) (mf_dat eX11_has 40 rfl) ml_X11_166 okX6_countKept im_X6_countKept sl_X6_countKept rfl rfl rfl rfl (Nat.le_of_ble_eq_true rfl) (mf_rr (Nat.le_trans (by decide) hd) (Nat.le_refl _)) (Nat.le_refl _) ck30 hyp (fun r27 g28 h29 hyp => ?_)
    exact mf_ireturn (mf_dat eX11_has 41 rfl) rfl (Or.inl rfl) hyp
  replace hyp := hyp.2
  refine mf_tsw1 (v := 9) (tgt := 140) (mf_dat eX11_has 1 rfl) (by decide) (by decide) (off := 139) (by decide) (by decide) (fun hc => ?_) (fun hc9 => ?_)
  · replace hyp := hyp.1 hc
    refine mf_aload_n (mf_dat eX11_has 42 rfl) rfl rfl ?_
    obtain ⟨ck31, hyp⟩ := hyp
    refine mf_getf (r := (RX11, TX11, 20)) (ci := 11) (k := 5) (t := 2) (v := g x0 5) (mf_dat eX11_has 43 rfl) fl_X11_75 rfl (by decide) rfl rfl ck31 ?_
    obtain ⟨ck32, hyp⟩ := hyp
    refine mf_getf (r := (RX5, TX5, 12)) (ci := 5) (k := 11) (t := 0) (v := h (g x0 5) 11) (mf_dat eX11_has 44 rfl) fl_X11_131 rfl (by decide) rfl rfl ck32 ?_
    exact mf_ireturn (mf_dat eX11_has 45 rfl) rfl (Or.inl rfl) hyp
  replace hyp := hyp.2
  refine mf_tsw1 (v := 10) (tgt := 148) (mf_dat eX11_has 1 rfl) (by decide) (by decide) (off := 147) (by decide) (by decide) (fun hc => ?_) (fun hc10 => ?_)
  · replace hyp := hyp.1 hc
    refine mf_aload_n (mf_dat eX11_has 46 rfl) rfl rfl ?_
    obtain ⟨ck33, hyp⟩ := hyp
    refine mf_getf (r := (RX11, TX11, 20)) (ci := 11) (k := 15) (t := 0) (v := h x0 15) (mf_dat eX11_has 47 rfl) fl_X11_134 rfl (by decide) rfl rfl ck33 ?_
    exact mf_ireturn (mf_dat eX11_has 48 rfl) rfl (Or.inl rfl) hyp
  replace hyp := hyp.2
  refine mf_tswO (tgt := 153) (mf_dat eX11_has 1 rfl) (by omega) (by decide) ?_
  replace hyp := hyp (by omega)
  refine mf_iconst (v := (-1)) (mf_dat eX11_has 49 rfl) (by decide) ?_
  exact mf_ireturn (mf_dat eX11_has 50 rfl) rfl (Or.inl rfl) hyp
set_option maxRecDepth 100000 in
set_option maxHeartbeats 4000000 in
theorem mX11_letter {C : mf_G} {l : Launch} {d n : Nat} {K : mf_Kt} {x0 x1 x2 : Int} {g h : mf_M} (hd : 1 ≤ d) (hyp : mf_is n x0 11 ∧ mf_MT C l 0 YX11_isBeing [(2, x0), (0, x1)] n n g h (fun r1 g2 h3 => ((r1 = 0 → K (-1) g2 h3) ∧ (¬ r1 = 0 → ((x2 < 0 → K (-1) g2 h3) ∧ (¬ x2 < 0 → ((x2 < 6 → mf_is n (g2 x0 12) 1 ∧ mf_is n (g2 (g2 x0 12) 3) 20 ∧ 0 ≤ x1 ∧ x1 < mf_len (g2 (g2 x0 12) 3) ∧ mf_MT C l 0 YX10_letterOf [(0, h3 (g2 (g2 x0 12) 3) x1), (0, x2)] n n g2 h3 (fun r9 g10 h11 => K r9 g10 h11)) ∧ (¬ x2 < 6 → K (-1) g2 h3)))))))) : mf_MT C l d YX11_letter [(2, x0), (0, x1), (0, x2)] n n g h K := by
  refine mf_entry (by decide) (Nat.le_of_ble_eq_true rfl) ?_
  refine mf_aload_n (mf_dat eX11_letter 0 rfl) rfl rfl ?_
  refine mf_iload_n (mf_dat eX11_letter 1 rfl) rfl rfl ?_
  obtain ⟨ck4, hyp⟩ := hyp
  refine mf_callV (Yc := YX11_isBeing) (r := (RX11, TX11, 20)) (ci := 11) (mf_dat eX11_letter 2 rfl) ml_X11_169 okX11_isBeing im_X11_isBeing sl_X11_isBeing rfl rfl rfl rfl (Nat.le_of_ble_eq_true rfl) (mf_rr (Nat.le_trans (by decide) hd) (Nat.le_refl _)) (Nat.le_refl _) ck4 hyp (fun r1 g2 h3 hyp => ?_)
  refine mf_if_eq (tgt := 18) (mf_dat eX11_letter 3 rfl) (by decide) (fun hc => ?_) (fun hc => ?_)
  · replace hyp := hyp.1 hc
    refine mf_iconst (v := (-1)) (mf_dat eX11_letter 9 rfl) (by decide) ?_
    exact mf_ireturn (mf_dat eX11_letter 10 rfl) rfl (Or.inl rfl) hyp
  · replace hyp := hyp.2 hc
    refine mf_iload_n (mf_dat eX11_letter 4 rfl) rfl rfl ?_
    refine mf_if_lt (tgt := 18) (mf_dat eX11_letter 5 rfl) (by decide) (fun hc => ?_) (fun hc => ?_)
    · replace hyp := hyp.1 hc
      refine mf_iconst (v := (-1)) (mf_dat eX11_letter 9 rfl) (by decide) ?_
      exact mf_ireturn (mf_dat eX11_letter 10 rfl) rfl (Or.inl rfl) hyp
    · replace hyp := hyp.2 hc
      refine mf_iload_n (mf_dat eX11_letter 6 rfl) rfl rfl ?_
      refine mf_bipush (v := 6) (mf_dat eX11_letter 7 rfl) (by decide) ?_
      refine mf_icmp_lt (tgt := 20) (mf_dat eX11_letter 8 rfl) (by decide) (fun hc => ?_) (fun hc => ?_)
      · replace hyp := hyp.1 hc
        refine mf_aload_n (mf_dat eX11_letter 11 rfl) rfl rfl ?_
        refine mf_getf (r := (RX11, TX11, 20)) (ci := 11) (k := 12) (t := 2) (v := g2 x0 12) (mf_dat eX11_letter 12 rfl) fl_X11_47 rfl (by decide) rfl rfl ck4 ?_
        obtain ⟨ck5, hyp⟩ := hyp
        refine mf_getf (r := (RX1, TX1, 14)) (ci := 1) (k := 3) (t := 2) (v := g2 (g2 x0 12) 3) (mf_dat eX11_letter 13 rfl) fl_X11_173 rfl (by decide) rfl rfl ck5 ?_
        refine mf_iload_n (mf_dat eX11_letter 14 rfl) rfl rfl ?_
        obtain ⟨ck6, hyp⟩ := hyp
        obtain ⟨ck7, hyp⟩ := hyp
        obtain ⟨ck8, hyp⟩ := hyp
        refine mf_iald (mf_dat eX11_letter 15 rfl) ck6 ck7 ck8 ?_
        refine mf_iload_n (mf_dat eX11_letter 16 rfl) rfl rfl ?_
        refine mf_callS (Yc := YX10_letterOf) (mf_dat eX11_letter 17 rfl) ml_X11_176 okX10_letterOf sm_X10_letterOf rfl rfl (Nat.le_of_ble_eq_true rfl) (mf_rr (Nat.le_trans (by decide) hd) (Nat.le_refl _)) (Nat.le_refl _) hyp (fun r9 g10 h11 hyp => ?_)
        exact mf_ireturn (mf_dat eX11_letter 18 rfl) rfl (Or.inl rfl) hyp
      · replace hyp := hyp.2 hc
        refine mf_iconst (v := (-1)) (mf_dat eX11_letter 9 rfl) (by decide) ?_
        exact mf_ireturn (mf_dat eX11_letter 10 rfl) rfl (Or.inl rfl) hyp
set_option maxRecDepth 100000 in
set_option maxHeartbeats 4000000 in
theorem mX11_being {C : mf_G} {l : Launch} {d n : Nat} {K : mf_Kt} {x0 x1 x2 : Int} {g h : mf_M} (hd : 5 ≤ d) (hyp : mf_is n x0 11 ∧ mf_MT C l 0 YX11_isBeing [(2, x0), (0, x1)] n n g h (fun r1 g2 h3 => ((¬ r1 = 0 → ((x2 = 0 → mf_is n (g2 x0 7) 6 ∧ mf_is n (g2 (g2 x0 7) 1) 20 ∧ 0 ≤ x1 ∧ x1 < mf_len (g2 (g2 x0 7) 1) ∧ K (h3 (g2 (g2 x0 7) 1) x1) g2 h3) ∧ (x2 = 1 → mf_is n (g2 x0 7) 6 ∧ mf_is n (g2 (g2 x0 7) 2) 20 ∧ 0 ≤ x1 ∧ x1 < mf_len (g2 (g2 x0 7) 2) ∧ K (h3 (g2 (g2 x0 7) 2) x1) g2 h3) ∧ (x2 = 2 → mf_is n (g2 x0 12) 1 ∧ mf_is n (g2 (g2 x0 12) 4) 20 ∧ 0 ≤ x1 ∧ x1 < mf_len (g2 (g2 x0 12) 4) ∧ K (h3 (g2 (g2 x0 12) 4) x1) g2 h3) ∧ (x2 = 3 → mf_is n (g2 x0 7) 6 ∧ mf_is n (g2 (g2 x0 7) 3) 20 ∧ 0 ≤ x1 ∧ x1 < mf_len (g2 (g2 x0 7) 3) ∧ K (h3 (g2 (g2 x0 7) 3) x1) g2 h3) ∧ (x2 = 4 → mf_is n (g2 x0 7) 6 ∧ mf_is n (g2 (g2 x0 7) 4) 20 ∧ 0 ≤ x1 ∧ x1 < mf_len (g2 (g2 x0 7) 4) ∧ K (h3 (g2 (g2 x0 7) 4) x1) g2 h3) ∧ (x2 = 5 → mf_is n (g2 x0 7) 6 ∧ mf_is n (g2 x0 4) 0 ∧ mf_MT C l 4 YX0_openingOf [(2, g2 x0 4), (2, g2 x0 12), (0, h3 (g2 x0 7) 7)] n n g2 h3 (fun r26 g27 h28 => mf_is n (g27 x0 7) 6 ∧ mf_is n (g27 (g27 x0 7) 1) 20 ∧ 0 ≤ x1 ∧ x1 < mf_len (g27 (g27 x0 7) 1) ∧ mf_MT C l 0 YX0_liesOpen [(0, r26), (0, h28 (g27 (g27 x0 7) 1) x1)] n n g27 h28 (fun r34 g35 h36 => ((r34 = 0 → K 0 g35 h36) ∧ (¬ r34 = 0 → K 1 g35 h36))))) ∧ ((x2 < 0 ∨ 5 < x2) → K (-1) g2 h3))) ∧ (r1 = 0 → K (-1) g2 h3)))) : mf_MT C l d YX11_being [(2, x0), (0, x1), (0, x2)] n n g h K := by
  refine mf_entry (by decide) (Nat.le_of_ble_eq_true rfl) ?_
  refine mf_aload_n (mf_dat eX11_being 0 rfl) rfl rfl ?_
  refine mf_iload_n (mf_dat eX11_being 1 rfl) rfl rfl ?_
  obtain ⟨ck4, hyp⟩ := hyp
  refine mf_callV (Yc := YX11_isBeing) (r := (RX11, TX11, 20)) (ci := 11) (mf_dat eX11_being 2 rfl) ml_X11_169 okX11_isBeing im_X11_isBeing sl_X11_isBeing rfl rfl rfl rfl (Nat.le_of_ble_eq_true rfl) (mf_rr (Nat.le_trans (by decide) hd) (Nat.le_refl _)) (Nat.le_refl _) ck4 hyp (fun r1 g2 h3 hyp => ?_)
  refine mf_if_ne (tgt := 10) (mf_dat eX11_being 3 rfl) (by decide) (fun hc => ?_) (fun hc => ?_)
  · replace hyp := hyp.1 hc
    refine mf_iload_n (mf_dat eX11_being 6 rfl) rfl rfl ?_
    refine mf_tsw1 (v := 0) (tgt := 48) (mf_dat eX11_being 7 rfl) (by decide) (by decide) (off := 37) (by decide) (by decide) (fun hc => ?_) (fun hc0 => ?_)
    · replace hyp := hyp.1 hc
      refine mf_aload_n (mf_dat eX11_being 8 rfl) rfl rfl ?_
      refine mf_getf (r := (RX11, TX11, 20)) (ci := 11) (k := 7) (t := 2) (v := g2 x0 7) (mf_dat eX11_being 9 rfl) fl_X11_82 rfl (by decide) rfl rfl ck4 ?_
      obtain ⟨ck5, hyp⟩ := hyp
      refine mf_getf (r := (RX6, TX6, 8)) (ci := 6) (k := 1) (t := 2) (v := g2 (g2 x0 7) 1) (mf_dat eX11_being 10 rfl) fl_X11_180 rfl (by decide) rfl rfl ck5 ?_
      refine mf_iload_n (mf_dat eX11_being 11 rfl) rfl rfl ?_
      obtain ⟨ck6, hyp⟩ := hyp
      obtain ⟨ck7, hyp⟩ := hyp
      obtain ⟨ck8, hyp⟩ := hyp
      refine mf_iald (mf_dat eX11_being 12 rfl) ck6 ck7 ck8 ?_
      exact mf_ireturn (mf_dat eX11_being 13 rfl) rfl (Or.inl rfl) hyp
    replace hyp := hyp.2
    refine mf_tsw1 (v := 1) (tgt := 58) (mf_dat eX11_being 7 rfl) (by decide) (by decide) (off := 47) (by decide) (by decide) (fun hc => ?_) (fun hc1 => ?_)
    · replace hyp := hyp.1 hc
      refine mf_aload_n (mf_dat eX11_being 14 rfl) rfl rfl ?_
      refine mf_getf (r := (RX11, TX11, 20)) (ci := 11) (k := 7) (t := 2) (v := g2 x0 7) (mf_dat eX11_being 15 rfl) fl_X11_82 rfl (by decide) rfl rfl ck4 ?_
      obtain ⟨ck9, hyp⟩ := hyp
      refine mf_getf (r := (RX6, TX6, 8)) (ci := 6) (k := 2) (t := 2) (v := g2 (g2 x0 7) 2) (mf_dat eX11_being 16 rfl) fl_X11_183 rfl (by decide) rfl rfl ck9 ?_
      refine mf_iload_n (mf_dat eX11_being 17 rfl) rfl rfl ?_
      obtain ⟨ck10, hyp⟩ := hyp
      obtain ⟨ck11, hyp⟩ := hyp
      obtain ⟨ck12, hyp⟩ := hyp
      refine mf_iald (mf_dat eX11_being 18 rfl) ck10 ck11 ck12 ?_
      exact mf_ireturn (mf_dat eX11_being 19 rfl) rfl (Or.inl rfl) hyp
    replace hyp := hyp.2
    refine mf_tsw1 (v := 2) (tgt := 68) (mf_dat eX11_being 7 rfl) (by decide) (by decide) (off := 57) (by decide) (by decide) (fun hc => ?_) (fun hc2 => ?_)
    · replace hyp := hyp.1 hc
      refine mf_aload_n (mf_dat eX11_being 20 rfl) rfl rfl ?_
      refine mf_getf (r := (RX11, TX11, 20)) (ci := 11) (k := 12) (t := 2) (v := g2 x0 12) (mf_dat eX11_being 21 rfl) fl_X11_47 rfl (by decide) rfl rfl ck4 ?_
      obtain ⟨ck13, hyp⟩ := hyp
      refine mf_getf (r := (RX1, TX1, 14)) (ci := 1) (k := 4) (t := 2) (v := g2 (g2 x0 12) 4) (mf_dat eX11_being 22 rfl) fl_X11_186 rfl (by decide) rfl rfl ck13 ?_
      refine mf_iload_n (mf_dat eX11_being 23 rfl) rfl rfl ?_
      obtain ⟨ck14, hyp⟩ := hyp
      obtain ⟨ck15, hyp⟩ := hyp
      obtain ⟨ck16, hyp⟩ := hyp
      refine mf_iald (mf_dat eX11_being 24 rfl) ck14 ck15 ck16 ?_
      exact mf_ireturn (mf_dat eX11_being 25 rfl) rfl (Or.inl rfl) hyp
    replace hyp := hyp.2
    refine mf_tsw1 (v := 3) (tgt := 78) (mf_dat eX11_being 7 rfl) (by decide) (by decide) (off := 67) (by decide) (by decide) (fun hc => ?_) (fun hc3 => ?_)
    · replace hyp := hyp.1 hc
      refine mf_aload_n (mf_dat eX11_being 26 rfl) rfl rfl ?_
      refine mf_getf (r := (RX11, TX11, 20)) (ci := 11) (k := 7) (t := 2) (v := g2 x0 7) (mf_dat eX11_being 27 rfl) fl_X11_82 rfl (by decide) rfl rfl ck4 ?_
      obtain ⟨ck17, hyp⟩ := hyp
      refine mf_getf (r := (RX6, TX6, 8)) (ci := 6) (k := 3) (t := 2) (v := g2 (g2 x0 7) 3) (mf_dat eX11_being 28 rfl) fl_X11_189 rfl (by decide) rfl rfl ck17 ?_
      refine mf_iload_n (mf_dat eX11_being 29 rfl) rfl rfl ?_
      obtain ⟨ck18, hyp⟩ := hyp
      obtain ⟨ck19, hyp⟩ := hyp
      obtain ⟨ck20, hyp⟩ := hyp
      refine mf_iald (mf_dat eX11_being 30 rfl) ck18 ck19 ck20 ?_
      exact mf_ireturn (mf_dat eX11_being 31 rfl) rfl (Or.inl rfl) hyp
    replace hyp := hyp.2
    refine mf_tsw1 (v := 4) (tgt := 88) (mf_dat eX11_being 7 rfl) (by decide) (by decide) (off := 77) (by decide) (by decide) (fun hc => ?_) (fun hc4 => ?_)
    · replace hyp := hyp.1 hc
      refine mf_aload_n (mf_dat eX11_being 32 rfl) rfl rfl ?_
      refine mf_getf (r := (RX11, TX11, 20)) (ci := 11) (k := 7) (t := 2) (v := g2 x0 7) (mf_dat eX11_being 33 rfl) fl_X11_82 rfl (by decide) rfl rfl ck4 ?_
      obtain ⟨ck21, hyp⟩ := hyp
      refine mf_getf (r := (RX6, TX6, 8)) (ci := 6) (k := 4) (t := 2) (v := g2 (g2 x0 7) 4) (mf_dat eX11_being 34 rfl) fl_X11_192 rfl (by decide) rfl rfl ck21 ?_
      refine mf_iload_n (mf_dat eX11_being 35 rfl) rfl rfl ?_
      obtain ⟨ck22, hyp⟩ := hyp
      obtain ⟨ck23, hyp⟩ := hyp
      obtain ⟨ck24, hyp⟩ := hyp
      refine mf_iald (mf_dat eX11_being 36 rfl) ck22 ck23 ck24 ?_
      exact mf_ireturn (mf_dat eX11_being 37 rfl) rfl (Or.inl rfl) hyp
    replace hyp := hyp.2
    refine mf_tsw1 (v := 5) (tgt := 98) (mf_dat eX11_being 7 rfl) (by decide) (by decide) (off := 87) (by decide) (by decide) (fun hc => ?_) (fun hc5 => ?_)
    · replace hyp := hyp.1 hc
      refine mf_aload_n (mf_dat eX11_being 38 rfl) rfl rfl ?_
      refine mf_getf (r := (RX11, TX11, 20)) (ci := 11) (k := 4) (t := 2) (v := g2 x0 4) (mf_dat eX11_being 39 rfl) fl_X11_66 rfl (by decide) rfl rfl ck4 ?_
      refine mf_aload_n (mf_dat eX11_being 40 rfl) rfl rfl ?_
      refine mf_getf (r := (RX11, TX11, 20)) (ci := 11) (k := 12) (t := 2) (v := g2 x0 12) (mf_dat eX11_being 41 rfl) fl_X11_47 rfl (by decide) rfl rfl ck4 ?_
      refine mf_aload_n (mf_dat eX11_being 42 rfl) rfl rfl ?_
      refine mf_getf (r := (RX11, TX11, 20)) (ci := 11) (k := 7) (t := 2) (v := g2 x0 7) (mf_dat eX11_being 43 rfl) fl_X11_82 rfl (by decide) rfl rfl ck4 ?_
      obtain ⟨ck25, hyp⟩ := hyp
      refine mf_getf (r := (RX6, TX6, 8)) (ci := 6) (k := 7) (t := 0) (v := h3 (g2 x0 7) 7) (mf_dat eX11_being 44 rfl) fl_X11_156 rfl (by decide) rfl rfl ck25 ?_
      obtain ⟨ck29, hyp⟩ := hyp
      refine mf_callV (Yc := YX0_openingOf) (r := (RX0, TX0, 1)) (ci := 0) (mf_dat eX11_being 45 rfl) ml_X11_159 okX0_openingOf im_X0_openingOf sl_X0_openingOf rfl rfl rfl rfl (Nat.le_of_ble_eq_true rfl) (mf_rr (Nat.le_trans (by decide) hd) (Nat.le_refl _)) (Nat.le_refl _) ck29 hyp (fun r26 g27 h28 hyp => ?_)
      refine mf_aload_n (mf_dat eX11_being 46 rfl) rfl rfl ?_
      refine mf_getf (r := (RX11, TX11, 20)) (ci := 11) (k := 7) (t := 2) (v := g27 x0 7) (mf_dat eX11_being 47 rfl) fl_X11_82 rfl (by decide) rfl rfl ck4 ?_
      obtain ⟨ck30, hyp⟩ := hyp
      refine mf_getf (r := (RX6, TX6, 8)) (ci := 6) (k := 1) (t := 2) (v := g27 (g27 x0 7) 1) (mf_dat eX11_being 48 rfl) fl_X11_180 rfl (by decide) rfl rfl ck30 ?_
      refine mf_iload_n (mf_dat eX11_being 49 rfl) rfl rfl ?_
      obtain ⟨ck31, hyp⟩ := hyp
      obtain ⟨ck32, hyp⟩ := hyp
      obtain ⟨ck33, hyp⟩ := hyp
      refine mf_iald (mf_dat eX11_being 50 rfl) ck31 ck32 ck33 ?_
      refine mf_callS (Yc := YX0_liesOpen) (mf_dat eX11_being 51 rfl) ml_X11_195 okX0_liesOpen sm_X0_liesOpen rfl rfl (Nat.le_of_ble_eq_true rfl) (mf_rr (Nat.le_trans (by decide) hd) (Nat.le_refl _)) (Nat.le_refl _) hyp (fun r34 g35 h36 hyp => ?_)
      refine mf_if_eq (tgt := 135) (mf_dat eX11_being 52 rfl) (by decide) (fun hc => ?_) (fun hc => ?_)
      · replace hyp := hyp.1 hc
        refine mf_iconst (v := 0) (mf_dat eX11_being 55 rfl) (by decide) ?_
        exact mf_ireturn (mf_dat eX11_being 56 rfl) rfl (Or.inl rfl) hyp
      · replace hyp := hyp.2 hc
        refine mf_iconst (v := 1) (mf_dat eX11_being 53 rfl) (by decide) ?_
        refine mf_goto (tgt := 136) (mf_dat eX11_being 54 rfl) (by decide) ?_
        exact mf_ireturn (mf_dat eX11_being 56 rfl) rfl (Or.inl rfl) hyp
    replace hyp := hyp.2
    refine mf_tswO (tgt := 137) (mf_dat eX11_being 7 rfl) (by omega) (by decide) ?_
    replace hyp := hyp (by omega)
    refine mf_iconst (v := (-1)) (mf_dat eX11_being 57 rfl) (by decide) ?_
    exact mf_ireturn (mf_dat eX11_being 58 rfl) rfl (Or.inl rfl) hyp
  · replace hyp := hyp.2 hc
    refine mf_iconst (v := (-1)) (mf_dat eX11_being 4 rfl) (by decide) ?_
    exact mf_ireturn (mf_dat eX11_being 5 rfl) rfl (Or.inl rfl) hyp
set_option maxRecDepth 100000 in
set_option maxHeartbeats 4000000 in
theorem mX11_cell {C : mf_G} {l : Launch} {d n : Nat} {K : mf_Kt} {x0 x1 x2 x3 : Int} {g h : mf_M} (hd : 6 ≤ d) (hyp : mf_is n x0 11 ∧ mf_MT C l 0 YX11_isCell [(2, x0), (0, x1), (0, x2)] n n g h (fun r1 g2 h3 => ((¬ r1 = 0 → ((x3 = 0 → mf_is n (g2 x0 7) 6 ∧ mf_MT C l 0 YX6_hasGloss [(2, g2 x0 7), (0, x1), (0, x2)] n n g2 h3 (fun r5 g6 h7 => ((r5 = 0 → K 0 g6 h7) ∧ (¬ r5 = 0 → K 1 g6 h7)))) ∧ (x3 = 1 → mf_is n (g2 x0 12) 1 ∧ mf_is n (g2 x0 7) 6 ∧ mf_MT C l 0 YX6_whoStands [(2, g2 x0 7), (0, x1), (0, x2), (0, h3 (g2 x0 12) 12)] n n g2 h3 (fun r10 g11 h12 => K r10 g11 h12)) ∧ (x3 = 2 → mf_MT C l 5 YX11_leafUpon [(2, x0), (0, x1)] n n g2 h3 (fun r14 g15 h16 => K r14 g15 h16)) ∧ (x3 = 3 → mf_MT C l 5 YX11_leafUpon [(2, x0), (0, x1)] n n g2 h3 (fun r17 g18 h19 => ((¬ r17 = (-1) → mf_is n (g18 x0 12) 1 ∧ mf_MT C l 0 YX1_mirror [(2, g18 x0 12), (0, x2)] n n g18 h19 (fun r20 g21 h22 => K r20 g21 h22)) ∧ (r17 = (-1) → K (-1) g18 h19)))) ∧ ((x3 < 0 ∨ 3 < x3) → K (-1) g2 h3))) ∧ (r1 = 0 → K (-1) g2 h3)))) : mf_MT C l d YX11_cell [(2, x0), (0, x1), (0, x2), (0, x3)] n n g h K := by
  refine mf_entry (by decide) (Nat.le_of_ble_eq_true rfl) ?_
  refine mf_aload_n (mf_dat eX11_cell 0 rfl) rfl rfl ?_
  refine mf_iload_n (mf_dat eX11_cell 1 rfl) rfl rfl ?_
  refine mf_iload_n (mf_dat eX11_cell 2 rfl) rfl rfl ?_
  obtain ⟨ck4, hyp⟩ := hyp
  refine mf_callV (Yc := YX11_isCell) (r := (RX11, TX11, 20)) (ci := 11) (mf_dat eX11_cell 3 rfl) ml_X11_199 okX11_isCell im_X11_isCell sl_X11_isCell rfl rfl rfl rfl (Nat.le_of_ble_eq_true rfl) (mf_rr (Nat.le_trans (by decide) hd) (Nat.le_refl _)) (Nat.le_refl _) ck4 hyp (fun r1 g2 h3 hyp => ?_)
  refine mf_if_ne (tgt := 11) (mf_dat eX11_cell 4 rfl) (by decide) (fun hc => ?_) (fun hc => ?_)
  · replace hyp := hyp.1 hc
    refine mf_iload_n (mf_dat eX11_cell 7 rfl) rfl rfl ?_
    refine mf_tsw1 (v := 0) (tgt := 44) (mf_dat eX11_cell 8 rfl) (by decide) (by decide) (off := 32) (by decide) (by decide) (fun hc => ?_) (fun hc0 => ?_)
    · replace hyp := hyp.1 hc
      refine mf_aload_n (mf_dat eX11_cell 9 rfl) rfl rfl ?_
      refine mf_getf (r := (RX11, TX11, 20)) (ci := 11) (k := 7) (t := 2) (v := g2 x0 7) (mf_dat eX11_cell 10 rfl) fl_X11_82 rfl (by decide) rfl rfl ck4 ?_
      refine mf_iload_n (mf_dat eX11_cell 11 rfl) rfl rfl ?_
      refine mf_iload_n (mf_dat eX11_cell 12 rfl) rfl rfl ?_
      obtain ⟨ck8, hyp⟩ := hyp
      refine mf_callV (Yc := YX6_hasGloss) (r := (RX6, TX6, 8)) (ci := 6) (mf_dat eX11_cell 13 rfl) ml_X11_202 okX6_hasGloss im_X6_hasGloss sl_X6_hasGloss rfl rfl rfl rfl (Nat.le_of_ble_eq_true rfl) (mf_rr (Nat.le_trans (by decide) hd) (Nat.le_refl _)) (Nat.le_refl _) ck8 hyp (fun r5 g6 h7 hyp => ?_)
      refine mf_if_eq (tgt := 60) (mf_dat eX11_cell 14 rfl) (by decide) (fun hc => ?_) (fun hc => ?_)
      · replace hyp := hyp.1 hc
        refine mf_iconst (v := 0) (mf_dat eX11_cell 17 rfl) (by decide) ?_
        exact mf_ireturn (mf_dat eX11_cell 18 rfl) rfl (Or.inl rfl) hyp
      · replace hyp := hyp.2 hc
        refine mf_iconst (v := 1) (mf_dat eX11_cell 15 rfl) (by decide) ?_
        refine mf_goto (tgt := 61) (mf_dat eX11_cell 16 rfl) (by decide) ?_
        exact mf_ireturn (mf_dat eX11_cell 18 rfl) rfl (Or.inl rfl) hyp
    replace hyp := hyp.2
    refine mf_tsw1 (v := 1) (tgt := 62) (mf_dat eX11_cell 8 rfl) (by decide) (by decide) (off := 50) (by decide) (by decide) (fun hc => ?_) (fun hc1 => ?_)
    · replace hyp := hyp.1 hc
      refine mf_aload_n (mf_dat eX11_cell 19 rfl) rfl rfl ?_
      refine mf_getf (r := (RX11, TX11, 20)) (ci := 11) (k := 7) (t := 2) (v := g2 x0 7) (mf_dat eX11_cell 20 rfl) fl_X11_82 rfl (by decide) rfl rfl ck4 ?_
      refine mf_iload_n (mf_dat eX11_cell 21 rfl) rfl rfl ?_
      refine mf_iload_n (mf_dat eX11_cell 22 rfl) rfl rfl ?_
      refine mf_aload_n (mf_dat eX11_cell 23 rfl) rfl rfl ?_
      refine mf_getf (r := (RX11, TX11, 20)) (ci := 11) (k := 12) (t := 2) (v := g2 x0 12) (mf_dat eX11_cell 24 rfl) fl_X11_47 rfl (by decide) rfl rfl ck4 ?_
      obtain ⟨ck9, hyp⟩ := hyp
      refine mf_getf (r := (RX1, TX1, 14)) (ci := 1) (k := 12) (t := 0) (v := h3 (g2 x0 12) 12) (mf_dat eX11_cell 25 rfl) fl_X11_153 rfl (by decide) rfl rfl ck9 ?_
      obtain ⟨ck13, hyp⟩ := hyp
      refine mf_callV (Yc := YX6_whoStands) (r := (RX6, TX6, 8)) (ci := 6) (mf_dat eX11_cell 26 rfl) ml_X11_205 okX6_whoStands im_X6_whoStands sl_X6_whoStands rfl rfl rfl rfl (Nat.le_of_ble_eq_true rfl) (mf_rr (Nat.le_trans (by decide) hd) (Nat.le_refl _)) (Nat.le_refl _) ck13 hyp (fun r10 g11 h12 hyp => ?_)
      exact mf_ireturn (mf_dat eX11_cell 27 rfl) rfl (Or.inl rfl) hyp
    replace hyp := hyp.2
    refine mf_tsw1 (v := 2) (tgt := 79) (mf_dat eX11_cell 8 rfl) (by decide) (by decide) (off := 67) (by decide) (by decide) (fun hc => ?_) (fun hc2 => ?_)
    · replace hyp := hyp.1 hc
      refine mf_aload_n (mf_dat eX11_cell 28 rfl) rfl rfl ?_
      refine mf_iload_n (mf_dat eX11_cell 29 rfl) rfl rfl ?_
      refine mf_callV (Yc := YX11_leafUpon) (r := (RX11, TX11, 20)) (ci := 11) (mf_dat eX11_cell 30 rfl) ml_X11_209 okX11_leafUpon im_X11_leafUpon sl_X11_leafUpon rfl rfl rfl rfl (Nat.le_of_ble_eq_true rfl) (mf_rr (Nat.le_trans (by decide) hd) (Nat.le_refl _)) (Nat.le_refl _) ck4 hyp (fun r14 g15 h16 hyp => ?_)
      exact mf_ireturn (mf_dat eX11_cell 31 rfl) rfl (Or.inl rfl) hyp
    replace hyp := hyp.2
    refine mf_tsw1 (v := 3) (tgt := 85) (mf_dat eX11_cell 8 rfl) (by decide) (by decide) (off := 73) (by decide) (by decide) (fun hc => ?_) (fun hc3 => ?_)
    · replace hyp := hyp.1 hc
      refine mf_aload_n (mf_dat eX11_cell 32 rfl) rfl rfl ?_
      refine mf_iload_n (mf_dat eX11_cell 33 rfl) rfl rfl ?_
      refine mf_callV (Yc := YX11_leafUpon) (r := (RX11, TX11, 20)) (ci := 11) (mf_dat eX11_cell 34 rfl) ml_X11_209 okX11_leafUpon im_X11_leafUpon sl_X11_leafUpon rfl rfl rfl rfl (Nat.le_of_ble_eq_true rfl) (mf_rr (Nat.le_trans (by decide) hd) (Nat.le_refl _)) (Nat.le_refl _) ck4 hyp (fun r17 g18 h19 hyp => ?_)
      refine mf_iconst (v := (-1)) (mf_dat eX11_cell 35 rfl) (by decide) ?_
      refine mf_icmp_ne (tgt := 98) (mf_dat eX11_cell 36 rfl) (by decide) (fun hc => ?_) (fun hc => ?_)
      · replace hyp := hyp.1 hc
        refine mf_aload_n (mf_dat eX11_cell 39 rfl) rfl rfl ?_
        refine mf_getf (r := (RX11, TX11, 20)) (ci := 11) (k := 12) (t := 2) (v := g18 x0 12) (mf_dat eX11_cell 40 rfl) fl_X11_47 rfl (by decide) rfl rfl ck4 ?_
        refine mf_iload_n (mf_dat eX11_cell 41 rfl) rfl rfl ?_
        obtain ⟨ck23, hyp⟩ := hyp
        refine mf_callV (Yc := YX1_mirror) (r := (RX1, TX1, 14)) (ci := 1) (mf_dat eX11_cell 42 rfl) ml_X11_213 okX1_mirror im_X1_mirror sl_X1_mirror rfl rfl rfl rfl (Nat.le_of_ble_eq_true rfl) (mf_rr (Nat.le_trans (by decide) hd) (Nat.le_refl _)) (Nat.le_refl _) ck23 hyp (fun r20 g21 h22 hyp => ?_)
        exact mf_ireturn (mf_dat eX11_cell 43 rfl) rfl (Or.inl rfl) hyp
      · replace hyp := hyp.2 hc
        refine mf_iconst (v := (-1)) (mf_dat eX11_cell 37 rfl) (by decide) ?_
        refine mf_goto (tgt := 106) (mf_dat eX11_cell 38 rfl) (by decide) ?_
        exact mf_ireturn (mf_dat eX11_cell 43 rfl) rfl (Or.inl rfl) hyp
    replace hyp := hyp.2
    refine mf_tswO (tgt := 107) (mf_dat eX11_cell 8 rfl) (by omega) (by decide) ?_
    replace hyp := hyp (by omega)
    refine mf_iconst (v := (-1)) (mf_dat eX11_cell 44 rfl) (by decide) ?_
    exact mf_ireturn (mf_dat eX11_cell 45 rfl) rfl (Or.inl rfl) hyp
  · replace hyp := hyp.2 hc
    refine mf_iconst (v := (-1)) (mf_dat eX11_cell 5 rfl) (by decide) ?_
    exact mf_ireturn (mf_dat eX11_cell 6 rfl) rfl (Or.inl rfl) hyp
set_option maxRecDepth 100000 in
set_option maxHeartbeats 4000000 in
theorem mX11_kept {C : mf_G} {l : Launch} {d n : Nat} {K : mf_Kt} {x0 x1 x2 : Int} {g h : mf_M} (hd : 3 ≤ d) (hyp : ((x1 < 0 → K (-1) g h) ∧ (¬ x1 < 0 → mf_is n x0 11 ∧ mf_is n (g x0 7) 6 ∧ mf_MT C l 1 YX6_countKept [(2, g x0 7)] n n g h (fun r2 g3 h4 => ((x1 < r2 → mf_is n (g3 x0 7) 6 ∧ mf_MT C l 2 YX6_keptAt [(2, g3 x0 7), (0, x1)] n n g3 h4 (fun r6 g7 h8 => ((x2 = 0 → K (mf_w32 (r6.tdiv 64)) g7 h8) ∧ (x2 = 1 → K ((mf_w32 (r6.tdiv 8)).tmod 8) g7 h8) ∧ (x2 = 2 → K (r6.tmod 8) g7 h8) ∧ ((x2 < 0 ∨ 2 < x2) → K (-1) g7 h8)))) ∧ (¬ x1 < r2 → K (-1) g3 h4)))))) : mf_MT C l d YX11_kept [(2, x0), (0, x1), (0, x2)] n n g h K := by
  refine mf_entry (by decide) (Nat.le_of_ble_eq_true rfl) ?_
  refine mf_iload_n (mf_dat eX11_kept 0 rfl) rfl rfl ?_
  refine mf_if_lt (tgt := 15) (mf_dat eX11_kept 1 rfl) (by decide) (fun hc => ?_) (fun hc => ?_)
  · replace hyp := hyp.1 hc
    refine mf_iconst (v := (-1)) (mf_dat eX11_kept 7 rfl) (by decide) ?_
    exact mf_ireturn (mf_dat eX11_kept 8 rfl) rfl (Or.inl rfl) hyp
  · replace hyp := hyp.2 hc
    refine mf_iload_n (mf_dat eX11_kept 2 rfl) rfl rfl ?_
    refine mf_aload_n (mf_dat eX11_kept 3 rfl) rfl rfl ?_
    obtain ⟨ck1, hyp⟩ := hyp
    refine mf_getf (r := (RX11, TX11, 20)) (ci := 11) (k := 7) (t := 2) (v := g x0 7) (mf_dat eX11_kept 4 rfl) fl_X11_82 rfl (by decide) rfl rfl ck1 ?_
    obtain ⟨ck5, hyp⟩ := hyp
    refine mf_callV (Yc := YX6_countKept) (r := (RX6, TX6, 8)) (ci := 6) (mf_dat eX11_kept 5 rfl) ml_X11_166 okX6_countKept im_X6_countKept sl_X6_countKept rfl rfl rfl rfl (Nat.le_of_ble_eq_true rfl) (mf_rr (Nat.le_trans (by decide) hd) (Nat.le_refl _)) (Nat.le_refl _) ck5 hyp (fun r2 g3 h4 hyp => ?_)
    refine mf_icmp_lt (tgt := 17) (mf_dat eX11_kept 6 rfl) (by decide) (fun hc => ?_) (fun hc => ?_)
    · replace hyp := hyp.1 hc
      refine mf_aload_n (mf_dat eX11_kept 9 rfl) rfl rfl ?_
      refine mf_getf (r := (RX11, TX11, 20)) (ci := 11) (k := 7) (t := 2) (v := g3 x0 7) (mf_dat eX11_kept 10 rfl) fl_X11_82 rfl (by decide) rfl rfl ck1 ?_
      refine mf_iload_n (mf_dat eX11_kept 11 rfl) rfl rfl ?_
      obtain ⟨ck9, hyp⟩ := hyp
      refine mf_callV (Yc := YX6_keptAt) (r := (RX6, TX6, 8)) (ci := 6) (mf_dat eX11_kept 12 rfl) ml_X11_216 okX6_keptAt im_X6_keptAt sl_X6_keptAt rfl rfl rfl rfl (Nat.le_of_ble_eq_true rfl) (mf_rr (Nat.le_trans (by decide) hd) (Nat.le_refl _)) (Nat.le_refl _) ck9 hyp (fun r6 g7 h8 hyp => ?_)
      refine mf_istore_n (mf_dat eX11_kept 13 rfl) rfl (by decide) ?_
      refine mf_iload_n (mf_dat eX11_kept 14 rfl) rfl rfl ?_
      refine mf_tsw1 (v := 0) (tgt := 52) (mf_dat eX11_kept 15 rfl) (by decide) (by decide) (off := 25) (by decide) (by decide) (fun hc => ?_) (fun hc0 => ?_)
      · replace hyp := hyp.1 hc
        refine mf_iload_n (mf_dat eX11_kept 16 rfl) rfl rfl ?_
        refine mf_bipush (v := 64) (mf_dat eX11_kept 17 rfl) (by decide) ?_
        refine mf_idiv (mf_dat eX11_kept 18 rfl) (by decide) ?_
        exact mf_ireturn (mf_dat eX11_kept 19 rfl) rfl (Or.inl rfl) hyp
      replace hyp := hyp.2
      refine mf_tsw1 (v := 1) (tgt := 57) (mf_dat eX11_kept 15 rfl) (by decide) (by decide) (off := 30) (by decide) (by decide) (fun hc => ?_) (fun hc1 => ?_)
      · replace hyp := hyp.1 hc
        refine mf_iload_n (mf_dat eX11_kept 20 rfl) rfl rfl ?_
        refine mf_bipush (v := 8) (mf_dat eX11_kept 21 rfl) (by decide) ?_
        refine mf_idiv (mf_dat eX11_kept 22 rfl) (by decide) ?_
        refine mf_bipush (v := 8) (mf_dat eX11_kept 23 rfl) (by decide) ?_
        refine mf_irem (mf_dat eX11_kept 24 rfl) (by decide) ?_
        exact mf_ireturn (mf_dat eX11_kept 25 rfl) rfl (Or.inl rfl) hyp
      replace hyp := hyp.2
      refine mf_tsw1 (v := 2) (tgt := 65) (mf_dat eX11_kept 15 rfl) (by decide) (by decide) (off := 38) (by decide) (by decide) (fun hc => ?_) (fun hc2 => ?_)
      · replace hyp := hyp.1 hc
        refine mf_iload_n (mf_dat eX11_kept 26 rfl) rfl rfl ?_
        refine mf_bipush (v := 8) (mf_dat eX11_kept 27 rfl) (by decide) ?_
        refine mf_irem (mf_dat eX11_kept 28 rfl) (by decide) ?_
        exact mf_ireturn (mf_dat eX11_kept 29 rfl) rfl (Or.inl rfl) hyp
      replace hyp := hyp.2
      refine mf_tswO (tgt := 70) (mf_dat eX11_kept 15 rfl) (by omega) (by decide) ?_
      replace hyp := hyp (by omega)
      refine mf_iconst (v := (-1)) (mf_dat eX11_kept 30 rfl) (by decide) ?_
      exact mf_ireturn (mf_dat eX11_kept 31 rfl) rfl (Or.inl rfl) hyp
    · replace hyp := hyp.2 hc
      refine mf_iconst (v := (-1)) (mf_dat eX11_kept 7 rfl) (by decide) ?_
      exact mf_ireturn (mf_dat eX11_kept 8 rfl) rfl (Or.inl rfl) hyp
set_option maxRecDepth 100000 in
set_option maxHeartbeats 4000000 in
theorem mX11_meets {C : mf_G} {l : Launch} {d n : Nat} {K : mf_Kt} {x0 x1 x2 : Int} {g h : mf_M} (hd : 5 ≤ d) (hyp : mf_is n x0 11 ∧ mf_MT C l 0 YX11_isBeing [(2, x0), (0, x1)] n n g h (fun r1 g2 h3 => ((r1 = 0 → K (-1) g2 h3) ∧ (¬ r1 = 0 → mf_MT C l 0 YX11_isBeing [(2, x0), (0, x2)] n n g2 h3 (fun r5 g6 h7 => ((r5 = 0 → K (-1) g6 h7) ∧ (¬ r5 = 0 → ((¬ x1 = x2 → mf_is n (g6 x0 7) 6 ∧ mf_is n (g6 x0 4) 0 ∧ mf_MT C l 4 YX0_openingOf [(2, g6 x0 4), (2, g6 x0 12), (0, h7 (g6 x0 7) 7)] n n g6 h7 (fun r9 g10 h11 => mf_MT C l 2 YX0_meet [(2, g6 x0 12), (2, g6 x0 7), (0, x1), (0, x2), (0, r9)] n n g10 h11 (fun r13 g14 h15 => ((r13 = 0 → K 0 g14 h15) ∧ (¬ r13 = 0 → K 1 g14 h15))))) ∧ (x1 = x2 → K (-1) g6 h7))))))))) : mf_MT C l d YX11_meets [(2, x0), (0, x1), (0, x2)] n n g h K := by
  refine mf_entry (by decide) (Nat.le_of_ble_eq_true rfl) ?_
  refine mf_aload_n (mf_dat eX11_meets 0 rfl) rfl rfl ?_
  refine mf_iload_n (mf_dat eX11_meets 1 rfl) rfl rfl ?_
  obtain ⟨ck4, hyp⟩ := hyp
  refine mf_callV (Yc := YX11_isBeing) (r := (RX11, TX11, 20)) (ci := 11) (mf_dat eX11_meets 2 rfl) ml_X11_169 okX11_isBeing im_X11_isBeing sl_X11_isBeing rfl rfl rfl rfl (Nat.le_of_ble_eq_true rfl) (mf_rr (Nat.le_trans (by decide) hd) (Nat.le_refl _)) (Nat.le_refl _) ck4 hyp (fun r1 g2 h3 hyp => ?_)
  refine mf_if_eq (tgt := 21) (mf_dat eX11_meets 3 rfl) (by decide) (fun hc => ?_) (fun hc => ?_)
  · replace hyp := hyp.1 hc
    refine mf_iconst (v := (-1)) (mf_dat eX11_meets 11 rfl) (by decide) ?_
    exact mf_ireturn (mf_dat eX11_meets 12 rfl) rfl (Or.inl rfl) hyp
  · replace hyp := hyp.2 hc
    refine mf_aload_n (mf_dat eX11_meets 4 rfl) rfl rfl ?_
    refine mf_iload_n (mf_dat eX11_meets 5 rfl) rfl rfl ?_
    refine mf_callV (Yc := YX11_isBeing) (r := (RX11, TX11, 20)) (ci := 11) (mf_dat eX11_meets 6 rfl) ml_X11_169 okX11_isBeing im_X11_isBeing sl_X11_isBeing rfl rfl rfl rfl (Nat.le_of_ble_eq_true rfl) (mf_rr (Nat.le_trans (by decide) hd) (Nat.le_refl _)) (Nat.le_refl _) ck4 hyp (fun r5 g6 h7 hyp => ?_)
    refine mf_if_eq (tgt := 21) (mf_dat eX11_meets 7 rfl) (by decide) (fun hc => ?_) (fun hc => ?_)
    · replace hyp := hyp.1 hc
      refine mf_iconst (v := (-1)) (mf_dat eX11_meets 11 rfl) (by decide) ?_
      exact mf_ireturn (mf_dat eX11_meets 12 rfl) rfl (Or.inl rfl) hyp
    · replace hyp := hyp.2 hc
      refine mf_iload_n (mf_dat eX11_meets 8 rfl) rfl rfl ?_
      refine mf_iload_n (mf_dat eX11_meets 9 rfl) rfl rfl ?_
      refine mf_icmp_ne (tgt := 23) (mf_dat eX11_meets 10 rfl) (by decide) (fun hc => ?_) (fun hc => ?_)
      · replace hyp := hyp.1 hc
        refine mf_aload_n (mf_dat eX11_meets 13 rfl) rfl rfl ?_
        refine mf_getf (r := (RX11, TX11, 20)) (ci := 11) (k := 12) (t := 2) (v := g6 x0 12) (mf_dat eX11_meets 14 rfl) fl_X11_47 rfl (by decide) rfl rfl ck4 ?_
        refine mf_aload_n (mf_dat eX11_meets 15 rfl) rfl rfl ?_
        refine mf_getf (r := (RX11, TX11, 20)) (ci := 11) (k := 7) (t := 2) (v := g6 x0 7) (mf_dat eX11_meets 16 rfl) fl_X11_82 rfl (by decide) rfl rfl ck4 ?_
        refine mf_iload_n (mf_dat eX11_meets 17 rfl) rfl rfl ?_
        refine mf_iload_n (mf_dat eX11_meets 18 rfl) rfl rfl ?_
        refine mf_aload_n (mf_dat eX11_meets 19 rfl) rfl rfl ?_
        refine mf_getf (r := (RX11, TX11, 20)) (ci := 11) (k := 4) (t := 2) (v := g6 x0 4) (mf_dat eX11_meets 20 rfl) fl_X11_66 rfl (by decide) rfl rfl ck4 ?_
        refine mf_aload_n (mf_dat eX11_meets 21 rfl) rfl rfl ?_
        refine mf_getf (r := (RX11, TX11, 20)) (ci := 11) (k := 12) (t := 2) (v := g6 x0 12) (mf_dat eX11_meets 22 rfl) fl_X11_47 rfl (by decide) rfl rfl ck4 ?_
        refine mf_aload_n (mf_dat eX11_meets 23 rfl) rfl rfl ?_
        refine mf_getf (r := (RX11, TX11, 20)) (ci := 11) (k := 7) (t := 2) (v := g6 x0 7) (mf_dat eX11_meets 24 rfl) fl_X11_82 rfl (by decide) rfl rfl ck4 ?_
        obtain ⟨ck8, hyp⟩ := hyp
        refine mf_getf (r := (RX6, TX6, 8)) (ci := 6) (k := 7) (t := 0) (v := h7 (g6 x0 7) 7) (mf_dat eX11_meets 25 rfl) fl_X11_156 rfl (by decide) rfl rfl ck8 ?_
        obtain ⟨ck12, hyp⟩ := hyp
        refine mf_callV (Yc := YX0_openingOf) (r := (RX0, TX0, 1)) (ci := 0) (mf_dat eX11_meets 26 rfl) ml_X11_159 okX0_openingOf im_X0_openingOf sl_X0_openingOf rfl rfl rfl rfl (Nat.le_of_ble_eq_true rfl) (mf_rr (Nat.le_trans (by decide) hd) (Nat.le_refl _)) (Nat.le_refl _) ck12 hyp (fun r9 g10 h11 hyp => ?_)
        refine mf_callS (Yc := YX0_meet) (mf_dat eX11_meets 27 rfl) ml_X11_219 okX0_meet sm_X0_meet rfl rfl (Nat.le_of_ble_eq_true rfl) (mf_rr (Nat.le_trans (by decide) hd) (Nat.le_refl _)) (Nat.le_refl _) hyp (fun r13 g14 h15 hyp => ?_)
        refine mf_if_eq (tgt := 61) (mf_dat eX11_meets 28 rfl) (by decide) (fun hc => ?_) (fun hc => ?_)
        · replace hyp := hyp.1 hc
          refine mf_iconst (v := 0) (mf_dat eX11_meets 31 rfl) (by decide) ?_
          exact mf_ireturn (mf_dat eX11_meets 32 rfl) rfl (Or.inl rfl) hyp
        · replace hyp := hyp.2 hc
          refine mf_iconst (v := 1) (mf_dat eX11_meets 29 rfl) (by decide) ?_
          refine mf_goto (tgt := 62) (mf_dat eX11_meets 30 rfl) (by decide) ?_
          exact mf_ireturn (mf_dat eX11_meets 32 rfl) rfl (Or.inl rfl) hyp
      · replace hyp := hyp.2 hc
        refine mf_iconst (v := (-1)) (mf_dat eX11_meets 11 rfl) (by decide) ?_
        exact mf_ireturn (mf_dat eX11_meets 12 rfl) rfl (Or.inl rfl) hyp
set_option maxRecDepth 100000 in
set_option maxHeartbeats 4000000 in
theorem mX11_pairs {C : mf_G} {l : Launch} {d n : Nat} {K : mf_Kt} {x0 x1 : Int} {g h : mf_M} (hd : 5 ≤ d) (hyp : mf_is n x0 11 ∧ mf_is n (g x0 12) 1 ∧ ((h (g x0 12) 8 = 0 → K (-1) g h) ∧ (¬ h (g x0 12) 8 = 0 → ((x1 < (-1) → K (-1) g h) ∧ (¬ x1 < (-1) → ((x1 ≤ h (g x0 12) 8 → ((¬ x1 = (-1) → mf_MT C l 3 YX0_countPairs [(2, g x0 12), (2, g x0 7), (0, x1)] n n g h (fun r3 g4 h5 => K r3 g4 h5)) ∧ (x1 = (-1) → mf_is n (g x0 7) 6 ∧ mf_is n (g x0 4) 0 ∧ mf_MT C l 4 YX0_openingOf [(2, g x0 4), (2, g x0 12), (0, h (g x0 7) 7)] n n g h (fun r7 g8 h9 => mf_MT C l 3 YX0_countPairs [(2, g8 x0 12), (2, g8 x0 7), (0, r7)] n n g8 h9 (fun r11 g12 h13 => K r11 g12 h13))))) ∧ (¬ x1 ≤ h (g x0 12) 8 → K (-1) g h))))))) : mf_MT C l d YX11_pairs [(2, x0), (0, x1)] n n g h K := by
  refine mf_entry (by decide) (Nat.le_of_ble_eq_true rfl) ?_
  refine mf_aload_n (mf_dat eX11_pairs 0 rfl) rfl rfl ?_
  obtain ⟨ck1, hyp⟩ := hyp
  refine mf_getf (r := (RX11, TX11, 20)) (ci := 11) (k := 12) (t := 2) (v := g x0 12) (mf_dat eX11_pairs 1 rfl) fl_X11_47 rfl (by decide) rfl rfl ck1 ?_
  obtain ⟨ck2, hyp⟩ := hyp
  refine mf_getf (r := (RX1, TX1, 14)) (ci := 1) (k := 8) (t := 0) (v := h (g x0 12) 8) (mf_dat eX11_pairs 2 rfl) fl_X11_140 rfl (by decide) rfl rfl ck2 ?_
  refine mf_if_eq (tgt := 26) (mf_dat eX11_pairs 3 rfl) (by decide) (fun hc => ?_) (fun hc => ?_)
  · replace hyp := hyp.1 hc
    refine mf_iconst (v := (-1)) (mf_dat eX11_pairs 12 rfl) (by decide) ?_
    exact mf_ireturn (mf_dat eX11_pairs 13 rfl) rfl (Or.inl rfl) hyp
  · replace hyp := hyp.2 hc
    refine mf_iload_n (mf_dat eX11_pairs 4 rfl) rfl rfl ?_
    refine mf_iconst (v := (-1)) (mf_dat eX11_pairs 5 rfl) (by decide) ?_
    refine mf_icmp_lt (tgt := 26) (mf_dat eX11_pairs 6 rfl) (by decide) (fun hc => ?_) (fun hc => ?_)
    · replace hyp := hyp.1 hc
      refine mf_iconst (v := (-1)) (mf_dat eX11_pairs 12 rfl) (by decide) ?_
      exact mf_ireturn (mf_dat eX11_pairs 13 rfl) rfl (Or.inl rfl) hyp
    · replace hyp := hyp.2 hc
      refine mf_iload_n (mf_dat eX11_pairs 7 rfl) rfl rfl ?_
      refine mf_aload_n (mf_dat eX11_pairs 8 rfl) rfl rfl ?_
      refine mf_getf (r := (RX11, TX11, 20)) (ci := 11) (k := 12) (t := 2) (v := g x0 12) (mf_dat eX11_pairs 9 rfl) fl_X11_47 rfl (by decide) rfl rfl ck1 ?_
      refine mf_getf (r := (RX1, TX1, 14)) (ci := 1) (k := 8) (t := 0) (v := h (g x0 12) 8) (mf_dat eX11_pairs 10 rfl) fl_X11_140 rfl (by decide) rfl rfl ck2 ?_
      refine mf_icmp_le (tgt := 28) (mf_dat eX11_pairs 11 rfl) (by decide) (fun hc => ?_) (fun hc => ?_)
      · replace hyp := hyp.1 hc
        refine mf_iload_n (mf_dat eX11_pairs 14 rfl) rfl rfl ?_
        refine mf_iconst (v := (-1)) (mf_dat eX11_pairs 15 rfl) (by decide) ?_
        refine mf_icmp_ne (tgt := 54) (mf_dat eX11_pairs 16 rfl) (by decide) (fun hc => ?_) (fun hc => ?_)
        · replace hyp := hyp.1 hc
          refine mf_iload_n (mf_dat eX11_pairs 26 rfl) rfl rfl ?_
          refine mf_istore_n (mf_dat eX11_pairs 27 rfl) rfl (by decide) ?_
          refine mf_aload_n (mf_dat eX11_pairs 28 rfl) rfl rfl ?_
          refine mf_getf (r := (RX11, TX11, 20)) (ci := 11) (k := 12) (t := 2) (v := g x0 12) (mf_dat eX11_pairs 29 rfl) fl_X11_47 rfl (by decide) rfl rfl ck1 ?_
          refine mf_aload_n (mf_dat eX11_pairs 30 rfl) rfl rfl ?_
          refine mf_getf (r := (RX11, TX11, 20)) (ci := 11) (k := 7) (t := 2) (v := g x0 7) (mf_dat eX11_pairs 31 rfl) fl_X11_82 rfl (by decide) rfl rfl ck1 ?_
          refine mf_iload_n (mf_dat eX11_pairs 32 rfl) rfl rfl ?_
          refine mf_callS (Yc := YX0_countPairs) (mf_dat eX11_pairs 33 rfl) ml_X11_223 okX0_countPairs sm_X0_countPairs rfl rfl (Nat.le_of_ble_eq_true rfl) (mf_rr (Nat.le_trans (by decide) hd) (Nat.le_refl _)) (Nat.le_refl _) hyp (fun r3 g4 h5 hyp => ?_)
          exact mf_ireturn (mf_dat eX11_pairs 34 rfl) rfl (Or.inl rfl) hyp
        · replace hyp := hyp.2 hc
          refine mf_aload_n (mf_dat eX11_pairs 17 rfl) rfl rfl ?_
          refine mf_getf (r := (RX11, TX11, 20)) (ci := 11) (k := 4) (t := 2) (v := g x0 4) (mf_dat eX11_pairs 18 rfl) fl_X11_66 rfl (by decide) rfl rfl ck1 ?_
          refine mf_aload_n (mf_dat eX11_pairs 19 rfl) rfl rfl ?_
          refine mf_getf (r := (RX11, TX11, 20)) (ci := 11) (k := 12) (t := 2) (v := g x0 12) (mf_dat eX11_pairs 20 rfl) fl_X11_47 rfl (by decide) rfl rfl ck1 ?_
          refine mf_aload_n (mf_dat eX11_pairs 21 rfl) rfl rfl ?_
          refine mf_getf (r := (RX11, TX11, 20)) (ci := 11) (k := 7) (t := 2) (v := g x0 7) (mf_dat eX11_pairs 22 rfl) fl_X11_82 rfl (by decide) rfl rfl ck1 ?_
          obtain ⟨ck6, hyp⟩ := hyp
          refine mf_getf (r := (RX6, TX6, 8)) (ci := 6) (k := 7) (t := 0) (v := h (g x0 7) 7) (mf_dat eX11_pairs 23 rfl) fl_X11_156 rfl (by decide) rfl rfl ck6 ?_
          obtain ⟨ck10, hyp⟩ := hyp
          refine mf_callV (Yc := YX0_openingOf) (r := (RX0, TX0, 1)) (ci := 0) (mf_dat eX11_pairs 24 rfl) ml_X11_159 okX0_openingOf im_X0_openingOf sl_X0_openingOf rfl rfl rfl rfl (Nat.le_of_ble_eq_true rfl) (mf_rr (Nat.le_trans (by decide) hd) (Nat.le_refl _)) (Nat.le_refl _) ck10 hyp (fun r7 g8 h9 hyp => ?_)
          refine mf_goto (tgt := 55) (mf_dat eX11_pairs 25 rfl) (by decide) ?_
          refine mf_istore_n (mf_dat eX11_pairs 27 rfl) rfl (by decide) ?_
          refine mf_aload_n (mf_dat eX11_pairs 28 rfl) rfl rfl ?_
          refine mf_getf (r := (RX11, TX11, 20)) (ci := 11) (k := 12) (t := 2) (v := g8 x0 12) (mf_dat eX11_pairs 29 rfl) fl_X11_47 rfl (by decide) rfl rfl ck1 ?_
          refine mf_aload_n (mf_dat eX11_pairs 30 rfl) rfl rfl ?_
          refine mf_getf (r := (RX11, TX11, 20)) (ci := 11) (k := 7) (t := 2) (v := g8 x0 7) (mf_dat eX11_pairs 31 rfl) fl_X11_82 rfl (by decide) rfl rfl ck1 ?_
          refine mf_iload_n (mf_dat eX11_pairs 32 rfl) rfl rfl ?_
          refine mf_callS (Yc := YX0_countPairs) (mf_dat eX11_pairs 33 rfl) ml_X11_223 okX0_countPairs sm_X0_countPairs rfl rfl (Nat.le_of_ble_eq_true rfl) (mf_rr (Nat.le_trans (by decide) hd) (Nat.le_refl _)) (Nat.le_refl _) hyp (fun r11 g12 h13 hyp => ?_)
          exact mf_ireturn (mf_dat eX11_pairs 34 rfl) rfl (Or.inl rfl) hyp
      · replace hyp := hyp.2 hc
        refine mf_iconst (v := (-1)) (mf_dat eX11_pairs 12 rfl) (by decide) ?_
        exact mf_ireturn (mf_dat eX11_pairs 13 rfl) rfl (Or.inl rfl) hyp
set_option maxRecDepth 100000 in
set_option maxHeartbeats 4000000 in
theorem mX11_apart {C : mf_G} {l : Launch} {d n : Nat} {K : mf_Kt} {x0 : Int} {g h : mf_M} (hd : 5 ≤ d) (hyp : mf_is n x0 11 ∧ mf_is n (g x0 12) 1 ∧ ((¬ h (g x0 12) 8 = 0 → mf_is n (g x0 5) 5 ∧ mf_MT C l 4 YX5_findApart [(2, g x0 5), (2, g x0 12), (2, g x0 7)] n n g h (fun r3 g4 h5 => K r3 g4 h5)) ∧ (h (g x0 12) 8 = 0 → K (-1) g h))) : mf_MT C l d YX11_apart [(2, x0)] n n g h K := by
  refine mf_entry (by decide) (Nat.le_of_ble_eq_true rfl) ?_
  refine mf_aload_n (mf_dat eX11_apart 0 rfl) rfl rfl ?_
  obtain ⟨ck1, hyp⟩ := hyp
  refine mf_getf (r := (RX11, TX11, 20)) (ci := 11) (k := 12) (t := 2) (v := g x0 12) (mf_dat eX11_apart 1 rfl) fl_X11_47 rfl (by decide) rfl rfl ck1 ?_
  obtain ⟨ck2, hyp⟩ := hyp
  refine mf_getf (r := (RX1, TX1, 14)) (ci := 1) (k := 8) (t := 0) (v := h (g x0 12) 8) (mf_dat eX11_apart 2 rfl) fl_X11_140 rfl (by decide) rfl rfl ck2 ?_
  refine mf_if_ne (tgt := 14) (mf_dat eX11_apart 3 rfl) (by decide) (fun hc => ?_) (fun hc => ?_)
  · replace hyp := hyp.1 hc
    refine mf_aload_n (mf_dat eX11_apart 6 rfl) rfl rfl ?_
    refine mf_getf (r := (RX11, TX11, 20)) (ci := 11) (k := 5) (t := 2) (v := g x0 5) (mf_dat eX11_apart 7 rfl) fl_X11_75 rfl (by decide) rfl rfl ck1 ?_
    refine mf_aload_n (mf_dat eX11_apart 8 rfl) rfl rfl ?_
    refine mf_getf (r := (RX11, TX11, 20)) (ci := 11) (k := 12) (t := 2) (v := g x0 12) (mf_dat eX11_apart 9 rfl) fl_X11_47 rfl (by decide) rfl rfl ck1 ?_
    refine mf_aload_n (mf_dat eX11_apart 10 rfl) rfl rfl ?_
    refine mf_getf (r := (RX11, TX11, 20)) (ci := 11) (k := 7) (t := 2) (v := g x0 7) (mf_dat eX11_apart 11 rfl) fl_X11_82 rfl (by decide) rfl rfl ck1 ?_
    obtain ⟨ck6, hyp⟩ := hyp
    refine mf_callV (Yc := YX5_findApart) (r := (RX5, TX5, 12)) (ci := 5) (mf_dat eX11_apart 12 rfl) ml_X11_227 okX5_findApart im_X5_findApart sl_X5_findApart rfl rfl rfl rfl (Nat.le_of_ble_eq_true rfl) (mf_rr (Nat.le_trans (by decide) hd) (Nat.le_refl _)) (Nat.le_refl _) ck6 hyp (fun r3 g4 h5 hyp => ?_)
    exact mf_ireturn (mf_dat eX11_apart 13 rfl) rfl (Or.inl rfl) hyp
  · replace hyp := hyp.2 hc
    refine mf_iconst (v := (-1)) (mf_dat eX11_apart 4 rfl) (by decide) ?_
    refine mf_goto (tgt := 29) (mf_dat eX11_apart 5 rfl) (by decide) ?_
    exact mf_ireturn (mf_dat eX11_apart 13 rfl) rfl (Or.inl rfl) hyp
set_option maxRecDepth 100000 in
set_option maxHeartbeats 4000000 in
theorem mX11_reading {C : mf_G} {l : Launch} {d n : Nat} {K : mf_Kt} {x0 x1 x2 : Int} {g h : mf_M} (hd : 68 ≤ d) (hyp : ((x1 < 1 → K (-1) g h) ∧ (¬ x1 < 1 → ((3 < x1 → K (-1) g h) ∧ (¬ 3 < x1 → ((x2 < (-1) → K (-1) g h) ∧ (¬ x2 < (-1) → ((x1 ≤ x2 → K (-1) g h) ∧ (¬ x1 ≤ x2 → mf_is n x0 11 ∧ mf_MT C l 0 YX11_canPass [(2, x0), (0, x1)] n n g h (fun r1 g2 h3 => ((¬ r1 = 0 → mf_is n (g2 x0 5) 5 ∧ mf_MT C l 67 YX5_findReading [(2, g2 x0 5), (2, g2 x0 12), (2, g2 x0 7), (0, x1), (0, x2)] n n g2 h3 (fun r5 g6 h7 => K r5 g6 h7)) ∧ (r1 = 0 → K (-1) g2 h3)))))))))))) : mf_MT C l d YX11_reading [(2, x0), (0, x1), (0, x2)] n n g h K := by
  refine mf_entry (by decide) (Nat.le_of_ble_eq_true rfl) ?_
  refine mf_iload_n (mf_dat eX11_reading 0 rfl) rfl rfl ?_
  refine mf_iconst (v := 1) (mf_dat eX11_reading 1 rfl) (by decide) ?_
  refine mf_icmp_lt (tgt := 28) (mf_dat eX11_reading 2 rfl) (by decide) (fun hc => ?_) (fun hc => ?_)
  · replace hyp := hyp.1 hc
    refine mf_iconst (v := (-1)) (mf_dat eX11_reading 16 rfl) (by decide) ?_
    exact mf_ireturn (mf_dat eX11_reading 17 rfl) rfl (Or.inl rfl) hyp
  · replace hyp := hyp.2 hc
    refine mf_iload_n (mf_dat eX11_reading 3 rfl) rfl rfl ?_
    refine mf_iconst (v := 3) (mf_dat eX11_reading 4 rfl) (by decide) ?_
    refine mf_icmp_gt (tgt := 28) (mf_dat eX11_reading 5 rfl) (by decide) (fun hc => ?_) (fun hc => ?_)
    · replace hyp := hyp.1 hc
      refine mf_iconst (v := (-1)) (mf_dat eX11_reading 16 rfl) (by decide) ?_
      exact mf_ireturn (mf_dat eX11_reading 17 rfl) rfl (Or.inl rfl) hyp
    · replace hyp := hyp.2 hc
      refine mf_iload_n (mf_dat eX11_reading 6 rfl) rfl rfl ?_
      refine mf_iconst (v := (-1)) (mf_dat eX11_reading 7 rfl) (by decide) ?_
      refine mf_icmp_lt (tgt := 28) (mf_dat eX11_reading 8 rfl) (by decide) (fun hc => ?_) (fun hc => ?_)
      · replace hyp := hyp.1 hc
        refine mf_iconst (v := (-1)) (mf_dat eX11_reading 16 rfl) (by decide) ?_
        exact mf_ireturn (mf_dat eX11_reading 17 rfl) rfl (Or.inl rfl) hyp
      · replace hyp := hyp.2 hc
        refine mf_iload_n (mf_dat eX11_reading 9 rfl) rfl rfl ?_
        refine mf_iload_n (mf_dat eX11_reading 10 rfl) rfl rfl ?_
        refine mf_icmp_ge (tgt := 28) (mf_dat eX11_reading 11 rfl) (by decide) (fun hc => ?_) (fun hc => ?_)
        · replace hyp := hyp.1 hc
          refine mf_iconst (v := (-1)) (mf_dat eX11_reading 16 rfl) (by decide) ?_
          exact mf_ireturn (mf_dat eX11_reading 17 rfl) rfl (Or.inl rfl) hyp
        · replace hyp := hyp.2 hc
          refine mf_aload_n (mf_dat eX11_reading 12 rfl) rfl rfl ?_
          refine mf_iload_n (mf_dat eX11_reading 13 rfl) rfl rfl ?_
          obtain ⟨ck4, hyp⟩ := hyp
          refine mf_callV (Yc := YX11_canPass) (r := (RX11, TX11, 20)) (ci := 11) (mf_dat eX11_reading 14 rfl) ml_X11_231 okX11_canPass im_X11_canPass sl_X11_canPass rfl rfl rfl rfl (Nat.le_of_ble_eq_true rfl) (mf_rr (Nat.le_trans (by decide) hd) (Nat.le_refl _)) (Nat.le_refl _) ck4 hyp (fun r1 g2 h3 hyp => ?_)
          refine mf_if_ne (tgt := 30) (mf_dat eX11_reading 15 rfl) (by decide) (fun hc => ?_) (fun hc => ?_)
          · replace hyp := hyp.1 hc
            refine mf_aload_n (mf_dat eX11_reading 18 rfl) rfl rfl ?_
            refine mf_getf (r := (RX11, TX11, 20)) (ci := 11) (k := 5) (t := 2) (v := g2 x0 5) (mf_dat eX11_reading 19 rfl) fl_X11_75 rfl (by decide) rfl rfl ck4 ?_
            refine mf_aload_n (mf_dat eX11_reading 20 rfl) rfl rfl ?_
            refine mf_getf (r := (RX11, TX11, 20)) (ci := 11) (k := 12) (t := 2) (v := g2 x0 12) (mf_dat eX11_reading 21 rfl) fl_X11_47 rfl (by decide) rfl rfl ck4 ?_
            refine mf_aload_n (mf_dat eX11_reading 22 rfl) rfl rfl ?_
            refine mf_getf (r := (RX11, TX11, 20)) (ci := 11) (k := 7) (t := 2) (v := g2 x0 7) (mf_dat eX11_reading 23 rfl) fl_X11_82 rfl (by decide) rfl rfl ck4 ?_
            refine mf_iload_n (mf_dat eX11_reading 24 rfl) rfl rfl ?_
            refine mf_iload_n (mf_dat eX11_reading 25 rfl) rfl rfl ?_
            obtain ⟨ck8, hyp⟩ := hyp
            refine mf_callV (Yc := YX5_findReading) (r := (RX5, TX5, 12)) (ci := 5) (mf_dat eX11_reading 26 rfl) ml_X11_234 okX5_findReading im_X5_findReading sl_X5_findReading rfl rfl rfl rfl (Nat.le_of_ble_eq_true rfl) (mf_rr (Nat.le_trans (by decide) hd) (Nat.le_refl _)) (Nat.le_refl _) ck8 hyp (fun r5 g6 h7 hyp => ?_)
            exact mf_ireturn (mf_dat eX11_reading 27 rfl) rfl (Or.inl rfl) hyp
          · replace hyp := hyp.2 hc
            refine mf_iconst (v := (-1)) (mf_dat eX11_reading 16 rfl) (by decide) ?_
            exact mf_ireturn (mf_dat eX11_reading 17 rfl) rfl (Or.inl rfl) hyp
set_option maxRecDepth 100000 in
set_option maxHeartbeats 4000000 in
theorem mX11_later {C : mf_G} {l : Launch} {d n : Nat} {K : mf_Kt} {x0 x1 x2 x3 : Int} {g h : mf_M} (hd : 7 ≤ d) (hyp : mf_is n x0 11 ∧ mf_MT C l 0 YX11_isBeing [(2, x0), (0, x1)] n n g h (fun r1 g2 h3 => ((r1 = 0 → K (-1) g2 h3) ∧ (¬ r1 = 0 → ((x2 < 0 → K (-1) g2 h3) ∧ (¬ x2 < 0 → ((60 < x2 → K (-1) g2 h3) ∧ (¬ 60 < x2 → mf_MT C l 0 YX11_canPass [(2, x0), (0, x2)] n n g2 h3 (fun r5 g6 h7 => ((¬ r5 = 0 → ((x3 < 0 → K (-1) g6 h7) ∧ (¬ x3 < 0 → ((x3 ≤ 2 → mf_is n (g6 x0 5) 5 ∧ mf_MT C l 6 YX5_lookAhead [(2, g6 x0 5), (2, g6 x0 12), (2, g6 x0 7), (0, x2)] n n g6 h7 (fun r8 g9 h10 => ((¬ x3 = 0 → ((¬ x3 = 1 → mf_is n r8 6 ∧ mf_is n (g9 r8 4) 20 ∧ 0 ≤ x1 ∧ x1 < mf_len (g9 r8 4) ∧ K (h10 (g9 r8 4) x1) g9 h10) ∧ (x3 = 1 → mf_is n r8 6 ∧ mf_is n (g9 r8 3) 20 ∧ 0 ≤ x1 ∧ x1 < mf_len (g9 r8 3) ∧ K (h10 (g9 r8 3) x1) g9 h10))) ∧ (x3 = 0 → mf_is n r8 6 ∧ mf_is n (g9 r8 2) 20 ∧ 0 ≤ x1 ∧ x1 < mf_len (g9 r8 2) ∧ K (h10 (g9 r8 2) x1) g9 h10)))) ∧ (¬ x3 ≤ 2 → K (-1) g6 h7))))) ∧ (r5 = 0 → K (-1) g6 h7))))))))))) : mf_MT C l d YX11_later [(2, x0), (0, x1), (0, x2), (0, x3)] n n g h K := by
  refine mf_entry (by decide) (Nat.le_of_ble_eq_true rfl) ?_
  refine mf_aload_n (mf_dat eX11_later 0 rfl) rfl rfl ?_
  refine mf_iload_n (mf_dat eX11_later 1 rfl) rfl rfl ?_
  obtain ⟨ck4, hyp⟩ := hyp
  refine mf_callV (Yc := YX11_isBeing) (r := (RX11, TX11, 20)) (ci := 11) (mf_dat eX11_later 2 rfl) ml_X11_169 okX11_isBeing im_X11_isBeing sl_X11_isBeing rfl rfl rfl rfl (Nat.le_of_ble_eq_true rfl) (mf_rr (Nat.le_trans (by decide) hd) (Nat.le_refl _)) (Nat.le_refl _) ck4 hyp (fun r1 g2 h3 hyp => ?_)
  refine mf_if_eq (tgt := 26) (mf_dat eX11_later 3 rfl) (by decide) (fun hc => ?_) (fun hc => ?_)
  · replace hyp := hyp.1 hc
    refine mf_iconst (v := (-1)) (mf_dat eX11_later 13 rfl) (by decide) ?_
    exact mf_ireturn (mf_dat eX11_later 14 rfl) rfl (Or.inl rfl) hyp
  · replace hyp := hyp.2 hc
    refine mf_iload_n (mf_dat eX11_later 4 rfl) rfl rfl ?_
    refine mf_if_lt (tgt := 26) (mf_dat eX11_later 5 rfl) (by decide) (fun hc => ?_) (fun hc => ?_)
    · replace hyp := hyp.1 hc
      refine mf_iconst (v := (-1)) (mf_dat eX11_later 13 rfl) (by decide) ?_
      exact mf_ireturn (mf_dat eX11_later 14 rfl) rfl (Or.inl rfl) hyp
    · replace hyp := hyp.2 hc
      refine mf_iload_n (mf_dat eX11_later 6 rfl) rfl rfl ?_
      refine mf_bipush (v := 60) (mf_dat eX11_later 7 rfl) (by decide) ?_
      refine mf_icmp_gt (tgt := 26) (mf_dat eX11_later 8 rfl) (by decide) (fun hc => ?_) (fun hc => ?_)
      · replace hyp := hyp.1 hc
        refine mf_iconst (v := (-1)) (mf_dat eX11_later 13 rfl) (by decide) ?_
        exact mf_ireturn (mf_dat eX11_later 14 rfl) rfl (Or.inl rfl) hyp
      · replace hyp := hyp.2 hc
        refine mf_aload_n (mf_dat eX11_later 9 rfl) rfl rfl ?_
        refine mf_iload_n (mf_dat eX11_later 10 rfl) rfl rfl ?_
        refine mf_callV (Yc := YX11_canPass) (r := (RX11, TX11, 20)) (ci := 11) (mf_dat eX11_later 11 rfl) ml_X11_231 okX11_canPass im_X11_canPass sl_X11_canPass rfl rfl rfl rfl (Nat.le_of_ble_eq_true rfl) (mf_rr (Nat.le_trans (by decide) hd) (Nat.le_refl _)) (Nat.le_refl _) ck4 hyp (fun r5 g6 h7 hyp => ?_)
        refine mf_if_ne (tgt := 28) (mf_dat eX11_later 12 rfl) (by decide) (fun hc => ?_) (fun hc => ?_)
        · replace hyp := hyp.1 hc
          refine mf_iload_n (mf_dat eX11_later 15 rfl) rfl rfl ?_
          refine mf_if_lt (tgt := 37) (mf_dat eX11_later 16 rfl) (by decide) (fun hc => ?_) (fun hc => ?_)
          · replace hyp := hyp.1 hc
            refine mf_iconst (v := (-1)) (mf_dat eX11_later 20 rfl) (by decide) ?_
            exact mf_ireturn (mf_dat eX11_later 21 rfl) rfl (Or.inl rfl) hyp
          · replace hyp := hyp.2 hc
            refine mf_iload_n (mf_dat eX11_later 17 rfl) rfl rfl ?_
            refine mf_iconst (v := 2) (mf_dat eX11_later 18 rfl) (by decide) ?_
            refine mf_icmp_le (tgt := 39) (mf_dat eX11_later 19 rfl) (by decide) (fun hc => ?_) (fun hc => ?_)
            · replace hyp := hyp.1 hc
              refine mf_aload_n (mf_dat eX11_later 22 rfl) rfl rfl ?_
              refine mf_getf (r := (RX11, TX11, 20)) (ci := 11) (k := 5) (t := 2) (v := g6 x0 5) (mf_dat eX11_later 23 rfl) fl_X11_75 rfl (by decide) rfl rfl ck4 ?_
              refine mf_aload_n (mf_dat eX11_later 24 rfl) rfl rfl ?_
              refine mf_getf (r := (RX11, TX11, 20)) (ci := 11) (k := 12) (t := 2) (v := g6 x0 12) (mf_dat eX11_later 25 rfl) fl_X11_47 rfl (by decide) rfl rfl ck4 ?_
              refine mf_aload_n (mf_dat eX11_later 26 rfl) rfl rfl ?_
              refine mf_getf (r := (RX11, TX11, 20)) (ci := 11) (k := 7) (t := 2) (v := g6 x0 7) (mf_dat eX11_later 27 rfl) fl_X11_82 rfl (by decide) rfl rfl ck4 ?_
              refine mf_iload_n (mf_dat eX11_later 28 rfl) rfl rfl ?_
              obtain ⟨ck11, hyp⟩ := hyp
              refine mf_callV (Yc := YX5_lookAhead) (r := (RX5, TX5, 12)) (ci := 5) (mf_dat eX11_later 29 rfl) ml_X11_238 okX5_lookAhead im_X5_lookAhead sl_X5_lookAhead rfl rfl rfl rfl (Nat.le_of_ble_eq_true rfl) (mf_rr (Nat.le_trans (by decide) hd) (Nat.le_refl _)) (Nat.le_refl _) ck11 hyp (fun r8 g9 h10 hyp => ?_)
              refine mf_astore (mf_dat eX11_later 30 rfl) (by decide) ?_
              refine mf_iload_n (mf_dat eX11_later 31 rfl) rfl rfl ?_
              refine mf_if_ne (tgt := 69) (mf_dat eX11_later 32 rfl) (by decide) (fun hc => ?_) (fun hc => ?_)
              · replace hyp := hyp.1 hc
                refine mf_iload_n (mf_dat eX11_later 38 rfl) rfl rfl ?_
                refine mf_iconst (v := 1) (mf_dat eX11_later 39 rfl) (by decide) ?_
                refine mf_icmp_ne (tgt := 84) (mf_dat eX11_later 40 rfl) (by decide) (fun hc => ?_) (fun hc => ?_)
                · replace hyp := hyp.1 hc
                  refine mf_aload (mf_dat eX11_later 46 rfl) rfl ?_
                  obtain ⟨ck12, hyp⟩ := hyp
                  refine mf_getf (r := (RX6, TX6, 8)) (ci := 6) (k := 4) (t := 2) (v := g9 r8 4) (mf_dat eX11_later 47 rfl) fl_X11_192 rfl (by decide) rfl rfl ck12 ?_
                  refine mf_iload_n (mf_dat eX11_later 48 rfl) rfl rfl ?_
                  obtain ⟨ck13, hyp⟩ := hyp
                  obtain ⟨ck14, hyp⟩ := hyp
                  obtain ⟨ck15, hyp⟩ := hyp
                  refine mf_iald (mf_dat eX11_later 49 rfl) ck13 ck14 ck15 ?_
                  exact mf_ireturn (mf_dat eX11_later 50 rfl) rfl (Or.inl rfl) hyp
                · replace hyp := hyp.2 hc
                  refine mf_aload (mf_dat eX11_later 41 rfl) rfl ?_
                  obtain ⟨ck16, hyp⟩ := hyp
                  refine mf_getf (r := (RX6, TX6, 8)) (ci := 6) (k := 3) (t := 2) (v := g9 r8 3) (mf_dat eX11_later 42 rfl) fl_X11_189 rfl (by decide) rfl rfl ck16 ?_
                  refine mf_iload_n (mf_dat eX11_later 43 rfl) rfl rfl ?_
                  obtain ⟨ck17, hyp⟩ := hyp
                  obtain ⟨ck18, hyp⟩ := hyp
                  obtain ⟨ck19, hyp⟩ := hyp
                  refine mf_iald (mf_dat eX11_later 44 rfl) ck17 ck18 ck19 ?_
                  refine mf_goto (tgt := 91) (mf_dat eX11_later 45 rfl) (by decide) ?_
                  exact mf_ireturn (mf_dat eX11_later 50 rfl) rfl (Or.inl rfl) hyp
              · replace hyp := hyp.2 hc
                refine mf_aload (mf_dat eX11_later 33 rfl) rfl ?_
                obtain ⟨ck20, hyp⟩ := hyp
                refine mf_getf (r := (RX6, TX6, 8)) (ci := 6) (k := 2) (t := 2) (v := g9 r8 2) (mf_dat eX11_later 34 rfl) fl_X11_183 rfl (by decide) rfl rfl ck20 ?_
                refine mf_iload_n (mf_dat eX11_later 35 rfl) rfl rfl ?_
                obtain ⟨ck21, hyp⟩ := hyp
                obtain ⟨ck22, hyp⟩ := hyp
                obtain ⟨ck23, hyp⟩ := hyp
                refine mf_iald (mf_dat eX11_later 36 rfl) ck21 ck22 ck23 ?_
                exact mf_ireturn (mf_dat eX11_later 37 rfl) rfl (Or.inl rfl) hyp
            · replace hyp := hyp.2 hc
              refine mf_iconst (v := (-1)) (mf_dat eX11_later 20 rfl) (by decide) ?_
              exact mf_ireturn (mf_dat eX11_later 21 rfl) rfl (Or.inl rfl) hyp
        · replace hyp := hyp.2 hc
          refine mf_iconst (v := (-1)) (mf_dat eX11_later 13 rfl) (by decide) ?_
          exact mf_ireturn (mf_dat eX11_later 14 rfl) rfl (Or.inl rfl) hyp
set_option maxRecDepth 100000 in
set_option maxHeartbeats 4000000 in
theorem mX11_opening {C : mf_G} {l : Launch} {d n : Nat} {K : mf_Kt} {x0 x1 : Int} {g h : mf_M} (hd : 5 ≤ d) (hyp : ((x1 < 0 → K (-1) g h) ∧ (¬ x1 < 0 → ((60 < x1 → K (-1) g h) ∧ (¬ 60 < x1 → mf_is n x0 11 ∧ mf_MT C l 0 YX11_canPass [(2, x0), (0, x1)] n n g h (fun r1 g2 h3 => ((¬ r1 = 0 → mf_is n (g2 x0 7) 6 ∧ mf_is n (g2 x0 4) 0 ∧ mf_MT C l 4 YX0_openingOf [(2, g2 x0 4), (2, g2 x0 12), (0, mf_w32 ((h3 (g2 x0 7) 7) + x1))] n n g2 h3 (fun r6 g7 h8 => K r6 g7 h8)) ∧ (r1 = 0 → K (-1) g2 h3)))))))) : mf_MT C l d YX11_opening [(2, x0), (0, x1)] n n g h K := by
  refine mf_entry (by decide) (Nat.le_of_ble_eq_true rfl) ?_
  refine mf_iload_n (mf_dat eX11_opening 0 rfl) rfl rfl ?_
  refine mf_if_lt (tgt := 18) (mf_dat eX11_opening 1 rfl) (by decide) (fun hc => ?_) (fun hc => ?_)
  · replace hyp := hyp.1 hc
    refine mf_iconst (v := (-1)) (mf_dat eX11_opening 9 rfl) (by decide) ?_
    exact mf_ireturn (mf_dat eX11_opening 10 rfl) rfl (Or.inl rfl) hyp
  · replace hyp := hyp.2 hc
    refine mf_iload_n (mf_dat eX11_opening 2 rfl) rfl rfl ?_
    refine mf_bipush (v := 60) (mf_dat eX11_opening 3 rfl) (by decide) ?_
    refine mf_icmp_gt (tgt := 18) (mf_dat eX11_opening 4 rfl) (by decide) (fun hc => ?_) (fun hc => ?_)
    · replace hyp := hyp.1 hc
      refine mf_iconst (v := (-1)) (mf_dat eX11_opening 9 rfl) (by decide) ?_
      exact mf_ireturn (mf_dat eX11_opening 10 rfl) rfl (Or.inl rfl) hyp
    · replace hyp := hyp.2 hc
      refine mf_aload_n (mf_dat eX11_opening 5 rfl) rfl rfl ?_
      refine mf_iload_n (mf_dat eX11_opening 6 rfl) rfl rfl ?_
      obtain ⟨ck4, hyp⟩ := hyp
      refine mf_callV (Yc := YX11_canPass) (r := (RX11, TX11, 20)) (ci := 11) (mf_dat eX11_opening 7 rfl) ml_X11_231 okX11_canPass im_X11_canPass sl_X11_canPass rfl rfl rfl rfl (Nat.le_of_ble_eq_true rfl) (mf_rr (Nat.le_trans (by decide) hd) (Nat.le_refl _)) (Nat.le_refl _) ck4 hyp (fun r1 g2 h3 hyp => ?_)
      refine mf_if_ne (tgt := 20) (mf_dat eX11_opening 8 rfl) (by decide) (fun hc => ?_) (fun hc => ?_)
      · replace hyp := hyp.1 hc
        refine mf_aload_n (mf_dat eX11_opening 11 rfl) rfl rfl ?_
        refine mf_getf (r := (RX11, TX11, 20)) (ci := 11) (k := 4) (t := 2) (v := g2 x0 4) (mf_dat eX11_opening 12 rfl) fl_X11_66 rfl (by decide) rfl rfl ck4 ?_
        refine mf_aload_n (mf_dat eX11_opening 13 rfl) rfl rfl ?_
        refine mf_getf (r := (RX11, TX11, 20)) (ci := 11) (k := 12) (t := 2) (v := g2 x0 12) (mf_dat eX11_opening 14 rfl) fl_X11_47 rfl (by decide) rfl rfl ck4 ?_
        refine mf_aload_n (mf_dat eX11_opening 15 rfl) rfl rfl ?_
        refine mf_getf (r := (RX11, TX11, 20)) (ci := 11) (k := 7) (t := 2) (v := g2 x0 7) (mf_dat eX11_opening 16 rfl) fl_X11_82 rfl (by decide) rfl rfl ck4 ?_
        obtain ⟨ck5, hyp⟩ := hyp
        refine mf_getf (r := (RX6, TX6, 8)) (ci := 6) (k := 7) (t := 0) (v := h3 (g2 x0 7) 7) (mf_dat eX11_opening 17 rfl) fl_X11_156 rfl (by decide) rfl rfl ck5 ?_
        refine mf_iload_n (mf_dat eX11_opening 18 rfl) rfl rfl ?_
        refine mf_iadd (mf_dat eX11_opening 19 rfl) ?_
        obtain ⟨ck9, hyp⟩ := hyp
        refine mf_callV (Yc := YX0_openingOf) (r := (RX0, TX0, 1)) (ci := 0) (mf_dat eX11_opening 20 rfl) ml_X11_159 okX0_openingOf im_X0_openingOf sl_X0_openingOf rfl rfl rfl rfl (Nat.le_of_ble_eq_true rfl) (mf_rr (Nat.le_trans (by decide) hd) (Nat.le_refl _)) (Nat.le_refl _) ck9 hyp (fun r6 g7 h8 hyp => ?_)
        exact mf_ireturn (mf_dat eX11_opening 21 rfl) rfl (Or.inl rfl) hyp
      · replace hyp := hyp.2 hc
        refine mf_iconst (v := (-1)) (mf_dat eX11_opening 9 rfl) (by decide) ?_
        exact mf_ireturn (mf_dat eX11_opening 10 rfl) rfl (Or.inl rfl) hyp
set_option maxRecDepth 100000 in
set_option maxHeartbeats 4000000 in
theorem mX11_way {C : mf_G} {l : Launch} {d n : Nat} {K : mf_Kt} {x0 x1 x2 x3 : Int} {g h : mf_M} (hd : 6 ≤ d) (hyp : mf_is n x0 11 ∧ mf_MT C l 0 YX11_isBeing [(2, x0), (0, x1)] n n g h (fun r1 g2 h3 => ((r1 = 0 → K (-1) g2 h3) ∧ (¬ r1 = 0 → mf_MT C l 0 YX11_isCell [(2, x0), (0, x2), (0, x3)] n n g2 h3 (fun r5 g6 h7 => ((¬ r5 = 0 → mf_is n (g6 x0 5) 5 ∧ mf_MT C l 5 YX5_findWay [(2, g6 x0 5), (2, g6 x0 12), (2, g6 x0 7), (0, x1), (0, x2), (0, x3)] n n g6 h7 (fun r8 g9 h10 => K r8 g9 h10)) ∧ (r5 = 0 → K (-1) g6 h7))))))) : mf_MT C l d YX11_way [(2, x0), (0, x1), (0, x2), (0, x3)] n n g h K := by
  refine mf_entry (by decide) (Nat.le_of_ble_eq_true rfl) ?_
  refine mf_aload_n (mf_dat eX11_way 0 rfl) rfl rfl ?_
  refine mf_iload_n (mf_dat eX11_way 1 rfl) rfl rfl ?_
  obtain ⟨ck4, hyp⟩ := hyp
  refine mf_callV (Yc := YX11_isBeing) (r := (RX11, TX11, 20)) (ci := 11) (mf_dat eX11_way 2 rfl) ml_X11_169 okX11_isBeing im_X11_isBeing sl_X11_isBeing rfl rfl rfl rfl (Nat.le_of_ble_eq_true rfl) (mf_rr (Nat.le_trans (by decide) hd) (Nat.le_refl _)) (Nat.le_refl _) ck4 hyp (fun r1 g2 h3 hyp => ?_)
  refine mf_if_eq (tgt := 17) (mf_dat eX11_way 3 rfl) (by decide) (fun hc => ?_) (fun hc => ?_)
  · replace hyp := hyp.1 hc
    refine mf_iconst (v := (-1)) (mf_dat eX11_way 9 rfl) (by decide) ?_
    exact mf_ireturn (mf_dat eX11_way 10 rfl) rfl (Or.inl rfl) hyp
  · replace hyp := hyp.2 hc
    refine mf_aload_n (mf_dat eX11_way 4 rfl) rfl rfl ?_
    refine mf_iload_n (mf_dat eX11_way 5 rfl) rfl rfl ?_
    refine mf_iload_n (mf_dat eX11_way 6 rfl) rfl rfl ?_
    refine mf_callV (Yc := YX11_isCell) (r := (RX11, TX11, 20)) (ci := 11) (mf_dat eX11_way 7 rfl) ml_X11_199 okX11_isCell im_X11_isCell sl_X11_isCell rfl rfl rfl rfl (Nat.le_of_ble_eq_true rfl) (mf_rr (Nat.le_trans (by decide) hd) (Nat.le_refl _)) (Nat.le_refl _) ck4 hyp (fun r5 g6 h7 hyp => ?_)
    refine mf_if_ne (tgt := 19) (mf_dat eX11_way 8 rfl) (by decide) (fun hc => ?_) (fun hc => ?_)
    · replace hyp := hyp.1 hc
      refine mf_aload_n (mf_dat eX11_way 11 rfl) rfl rfl ?_
      refine mf_getf (r := (RX11, TX11, 20)) (ci := 11) (k := 5) (t := 2) (v := g6 x0 5) (mf_dat eX11_way 12 rfl) fl_X11_75 rfl (by decide) rfl rfl ck4 ?_
      refine mf_aload_n (mf_dat eX11_way 13 rfl) rfl rfl ?_
      refine mf_getf (r := (RX11, TX11, 20)) (ci := 11) (k := 12) (t := 2) (v := g6 x0 12) (mf_dat eX11_way 14 rfl) fl_X11_47 rfl (by decide) rfl rfl ck4 ?_
      refine mf_aload_n (mf_dat eX11_way 15 rfl) rfl rfl ?_
      refine mf_getf (r := (RX11, TX11, 20)) (ci := 11) (k := 7) (t := 2) (v := g6 x0 7) (mf_dat eX11_way 16 rfl) fl_X11_82 rfl (by decide) rfl rfl ck4 ?_
      refine mf_iload_n (mf_dat eX11_way 17 rfl) rfl rfl ?_
      refine mf_iload_n (mf_dat eX11_way 18 rfl) rfl rfl ?_
      refine mf_iload_n (mf_dat eX11_way 19 rfl) rfl rfl ?_
      obtain ⟨ck11, hyp⟩ := hyp
      refine mf_callV (Yc := YX5_findWay) (r := (RX5, TX5, 12)) (ci := 5) (mf_dat eX11_way 20 rfl) ml_X11_242 okX5_findWay im_X5_findWay sl_X5_findWay rfl rfl rfl rfl (Nat.le_of_ble_eq_true rfl) (mf_rr (Nat.le_trans (by decide) hd) (Nat.le_refl _)) (Nat.le_refl _) ck11 hyp (fun r8 g9 h10 hyp => ?_)
      exact mf_ireturn (mf_dat eX11_way 21 rfl) rfl (Or.inl rfl) hyp
    · replace hyp := hyp.2 hc
      refine mf_iconst (v := (-1)) (mf_dat eX11_way 9 rfl) (by decide) ?_
      exact mf_ireturn (mf_dat eX11_way 10 rfl) rfl (Or.inl rfl) hyp
set_option maxRecDepth 100000 in
set_option maxHeartbeats 4000000 in
theorem mX11_see {C : mf_G} {l : Launch} {d n : Nat} {K : mf_Kt} {x0 : Int} {g h : mf_M} (hd : 2 ≤ d) (hyp : mf_is n x0 11 ∧ mf_is n (g x0 5) 5 ∧ mf_MT C l 1 YX5_takeSeen [(2, g x0 5), (2, g x0 12), (2, g x0 0)] n n g h (fun r2 g3 h4 => mf_is n (g3 x0 0) 8 ∧ (∀ h7 : mf_M, h7 = mf_up h4 (g3 x0 0) 1 0 → ((¬ r2 = 0 → mf_is n (g3 x0 5) 5 ∧ K (h7 (g3 x0 5) 11) g3 h7) ∧ (r2 = 0 → mf_is n (g3 x0 10) 20 ∧ 1 < mf_len (g3 x0 10) ∧ (∀ h11 : mf_M, h11 = mf_up h7 (g3 x0 10) 1 (mf_w32 ((h7 (g3 x0 10) 1) + 1)) → K (-1) g3 h11)))))) : mf_MT C l d YX11_see [(2, x0)] n n g h K := by
  refine mf_entry (by decide) (Nat.le_of_ble_eq_true rfl) ?_
  refine mf_aload_n (mf_dat eX11_see 0 rfl) rfl rfl ?_
  obtain ⟨ck1, hyp⟩ := hyp
  refine mf_getf (r := (RX11, TX11, 20)) (ci := 11) (k := 5) (t := 2) (v := g x0 5) (mf_dat eX11_see 1 rfl) fl_X11_75 rfl (by decide) rfl rfl ck1 ?_
  refine mf_aload_n (mf_dat eX11_see 2 rfl) rfl rfl ?_
  refine mf_getf (r := (RX11, TX11, 20)) (ci := 11) (k := 12) (t := 2) (v := g x0 12) (mf_dat eX11_see 3 rfl) fl_X11_47 rfl (by decide) rfl rfl ck1 ?_
  refine mf_aload_n (mf_dat eX11_see 4 rfl) rfl rfl ?_
  refine mf_getf (r := (RX11, TX11, 20)) (ci := 11) (k := 0) (t := 2) (v := g x0 0) (mf_dat eX11_see 5 rfl) fl_X11_15 rfl (by decide) rfl rfl ck1 ?_
  obtain ⟨ck5, hyp⟩ := hyp
  refine mf_callV (Yc := YX5_takeSeen) (r := (RX5, TX5, 12)) (ci := 5) (mf_dat eX11_see 6 rfl) ml_X11_246 okX5_takeSeen im_X5_takeSeen sl_X5_takeSeen rfl rfl rfl rfl (Nat.le_of_ble_eq_true rfl) (mf_rr (Nat.le_trans (by decide) hd) (Nat.le_refl _)) (Nat.le_refl _) ck5 hyp (fun r2 g3 h4 hyp => ?_)
  refine mf_istore_n (mf_dat eX11_see 7 rfl) rfl (by decide) ?_
  refine mf_aload_n (mf_dat eX11_see 8 rfl) rfl rfl ?_
  refine mf_getf (r := (RX11, TX11, 20)) (ci := 11) (k := 0) (t := 2) (v := g3 x0 0) (mf_dat eX11_see 9 rfl) fl_X11_15 rfl (by decide) rfl rfl ck1 ?_
  refine mf_iconst (v := 0) (mf_dat eX11_see 10 rfl) (by decide) ?_
  obtain ⟨ck6, hyp⟩ := hyp
  refine mf_putI (r := (RX8, TX8, 2)) (ci := 8) (k := 1) (kI := 1) (t := 0) (mf_dat eX11_see 11 rfl) fl_X11_107 rfl rfl (by decide) rfl (by decide) rfl (by decide) (fun h9 => absurd h9 (by decide)) ck6 ?_
  generalize qh7 : mf_up h4 (g3 x0 0) 1 0 = h7
  replace hyp := hyp _ qh7.symm
  refine mf_iload_n (mf_dat eX11_see 12 rfl) rfl rfl ?_
  refine mf_if_ne (tgt := 40) (mf_dat eX11_see 13 rfl) (by decide) (fun hc => ?_) (fun hc => ?_)
  · replace hyp := hyp.1 hc
    refine mf_aload_n (mf_dat eX11_see 24 rfl) rfl rfl ?_
    refine mf_getf (r := (RX11, TX11, 20)) (ci := 11) (k := 5) (t := 2) (v := g3 x0 5) (mf_dat eX11_see 25 rfl) fl_X11_75 rfl (by decide) rfl rfl ck1 ?_
    obtain ⟨ck8, hyp⟩ := hyp
    refine mf_getf (r := (RX5, TX5, 12)) (ci := 5) (k := 11) (t := 0) (v := h7 (g3 x0 5) 11) (mf_dat eX11_see 26 rfl) fl_X11_131 rfl (by decide) rfl rfl ck8 ?_
    exact mf_ireturn (mf_dat eX11_see 27 rfl) rfl (Or.inl rfl) hyp
  · replace hyp := hyp.2 hc
    refine mf_aload_n (mf_dat eX11_see 14 rfl) rfl rfl ?_
    refine mf_getf (r := (RX11, TX11, 20)) (ci := 11) (k := 10) (t := 2) (v := g3 x0 10) (mf_dat eX11_see 15 rfl) fl_X11_93 rfl (by decide) rfl rfl ck1 ?_
    refine mf_iconst (v := 1) (mf_dat eX11_see 16 rfl) (by decide) ?_
    refine mf_dup2 (mf_dat eX11_see 17 rfl) (by decide) (by decide) ?_
    obtain ⟨ck9, hyp⟩ := hyp
    obtain ⟨ck10, hyp⟩ := hyp
    refine mf_iald (mf_dat eX11_see 18 rfl) ck9 (by decide) ck10 ?_
    refine mf_iconst (v := 1) (mf_dat eX11_see 19 rfl) (by decide) ?_
    refine mf_iadd (mf_dat eX11_see 20 rfl) ?_
    refine mf_iast (mf_dat eX11_see 21 rfl) ck9 (by decide) ck10 ?_
    generalize qh11 : mf_up h7 (g3 x0 10) 1 (mf_w32 ((h7 (g3 x0 10) 1) + 1)) = h11
    replace hyp := hyp _ qh11.symm
    refine mf_iconst (v := (-1)) (mf_dat eX11_see 22 rfl) (by decide) ?_
    exact mf_ireturn (mf_dat eX11_see 23 rfl) rfl (Or.inl rfl) hyp
set_option maxRecDepth 100000 in
set_option maxHeartbeats 4000000 in
theorem mX11_lay {C : mf_G} {l : Launch} {d n : Nat} {K : mf_Kt} {x0 x1 : Int} {g h : mf_M} (hd : 7 ≤ d) (hyp : mf_is n x0 11 ∧ mf_MT C l 0 YX11_canPass [(2, x0), (0, 1)] n n g h (fun r1 g2 h3 => ((r1 = 0 → K (-1) g2 h3) ∧ (¬ r1 = 0 → ((x1 < 0 → K (-1) g2 h3) ∧ (¬ x1 < 0 → ((x1 ≤ 1 → mf_is n (g2 x0 5) 5 ∧ mf_MT C l 6 YX5_findOpenings [(2, g2 x0 5), (2, g2 x0 12), (2, g2 x0 7)] n n g2 h3 (fun r5 g6 h7 => ((¬ x1 = 0 → K r5 g6 h7) ∧ (x1 = 0 → mf_MT C l 0 YJ6_bitCount_0f7a4 [(0, r5)] n n g6 h7 (fun r9 g10 h11 => K r9 g10 h11))))) ∧ (¬ x1 ≤ 1 → K (-1) g2 h3)))))))) : mf_MT C l d YX11_lay [(2, x0), (0, x1)] n n g h K := by
  refine mf_entry (by decide) (Nat.le_of_ble_eq_true rfl) ?_
  refine mf_aload_n (mf_dat eX11_lay 0 rfl) rfl rfl ?_
  refine mf_iconst (v := 1) (mf_dat eX11_lay 1 rfl) (by decide) ?_
  obtain ⟨ck4, hyp⟩ := hyp
  refine mf_callV (Yc := YX11_canPass) (r := (RX11, TX11, 20)) (ci := 11) (mf_dat eX11_lay 2 rfl) ml_X11_231 okX11_canPass im_X11_canPass sl_X11_canPass rfl rfl rfl rfl (Nat.le_of_ble_eq_true rfl) (mf_rr (Nat.le_trans (by decide) hd) (Nat.le_refl _)) (Nat.le_refl _) ck4 hyp (fun r1 g2 h3 hyp => ?_)
  refine mf_if_eq (tgt := 17) (mf_dat eX11_lay 3 rfl) (by decide) (fun hc => ?_) (fun hc => ?_)
  · replace hyp := hyp.1 hc
    refine mf_iconst (v := (-1)) (mf_dat eX11_lay 9 rfl) (by decide) ?_
    exact mf_ireturn (mf_dat eX11_lay 10 rfl) rfl (Or.inl rfl) hyp
  · replace hyp := hyp.2 hc
    refine mf_iload_n (mf_dat eX11_lay 4 rfl) rfl rfl ?_
    refine mf_if_lt (tgt := 17) (mf_dat eX11_lay 5 rfl) (by decide) (fun hc => ?_) (fun hc => ?_)
    · replace hyp := hyp.1 hc
      refine mf_iconst (v := (-1)) (mf_dat eX11_lay 9 rfl) (by decide) ?_
      exact mf_ireturn (mf_dat eX11_lay 10 rfl) rfl (Or.inl rfl) hyp
    · replace hyp := hyp.2 hc
      refine mf_iload_n (mf_dat eX11_lay 6 rfl) rfl rfl ?_
      refine mf_iconst (v := 1) (mf_dat eX11_lay 7 rfl) (by decide) ?_
      refine mf_icmp_le (tgt := 19) (mf_dat eX11_lay 8 rfl) (by decide) (fun hc => ?_) (fun hc => ?_)
      · replace hyp := hyp.1 hc
        refine mf_aload_n (mf_dat eX11_lay 11 rfl) rfl rfl ?_
        refine mf_getf (r := (RX11, TX11, 20)) (ci := 11) (k := 5) (t := 2) (v := g2 x0 5) (mf_dat eX11_lay 12 rfl) fl_X11_75 rfl (by decide) rfl rfl ck4 ?_
        refine mf_aload_n (mf_dat eX11_lay 13 rfl) rfl rfl ?_
        refine mf_getf (r := (RX11, TX11, 20)) (ci := 11) (k := 12) (t := 2) (v := g2 x0 12) (mf_dat eX11_lay 14 rfl) fl_X11_47 rfl (by decide) rfl rfl ck4 ?_
        refine mf_aload_n (mf_dat eX11_lay 15 rfl) rfl rfl ?_
        refine mf_getf (r := (RX11, TX11, 20)) (ci := 11) (k := 7) (t := 2) (v := g2 x0 7) (mf_dat eX11_lay 16 rfl) fl_X11_82 rfl (by decide) rfl rfl ck4 ?_
        obtain ⟨ck8, hyp⟩ := hyp
        refine mf_callV (Yc := YX5_findOpenings) (r := (RX5, TX5, 12)) (ci := 5) (mf_dat eX11_lay 17 rfl) ml_X11_250 okX5_findOpenings im_X5_findOpenings sl_X5_findOpenings rfl rfl rfl rfl (Nat.le_of_ble_eq_true rfl) (mf_rr (Nat.le_trans (by decide) hd) (Nat.le_refl _)) (Nat.le_refl _) ck8 hyp (fun r5 g6 h7 hyp => ?_)
        refine mf_istore_n (mf_dat eX11_lay 18 rfl) rfl (by decide) ?_
        refine mf_iload_n (mf_dat eX11_lay 19 rfl) rfl rfl ?_
        refine mf_if_ne (tgt := 46) (mf_dat eX11_lay 20 rfl) (by decide) (fun hc => ?_) (fun hc => ?_)
        · replace hyp := hyp.1 hc
          refine mf_iload_n (mf_dat eX11_lay 24 rfl) rfl rfl ?_
          exact mf_ireturn (mf_dat eX11_lay 25 rfl) rfl (Or.inl rfl) hyp
        · replace hyp := hyp.2 hc
          refine mf_iload_n (mf_dat eX11_lay 21 rfl) rfl rfl ?_
          refine mf_callS (Yc := YJ6_bitCount_0f7a4) (mf_dat eX11_lay 22 rfl) ml_X11_253 okJ6_bitCount_0f7a4 sm_J6_bitCount_0f7a4 rfl rfl (Nat.le_of_ble_eq_true rfl) (mf_rr (Nat.le_trans (by decide) hd) (Nat.le_refl _)) (Nat.le_refl _) hyp (fun r9 g10 h11 hyp => ?_)
          refine mf_goto (tgt := 47) (mf_dat eX11_lay 23 rfl) (by decide) ?_
          exact mf_ireturn (mf_dat eX11_lay 25 rfl) rfl (Or.inl rfl) hyp
      · replace hyp := hyp.2 hc
        refine mf_iconst (v := (-1)) (mf_dat eX11_lay 9 rfl) (by decide) ?_
        exact mf_ireturn (mf_dat eX11_lay 10 rfl) rfl (Or.inl rfl) hyp
set_option maxRecDepth 100000 in
set_option maxHeartbeats 4000000 in
theorem mX11_after {C : mf_G} {l : Launch} {d n : Nat} {K : mf_Kt} {x0 x1 : Int} {g h : mf_M} (hd : 8 ≤ d) (hyp : mf_is n x0 11 ∧ mf_MT C l 0 YX11_canPass [(2, x0), (0, 1)] n n g h (fun r1 g2 h3 => ((r1 = 0 → K (-1) g2 h3) ∧ (¬ r1 = 0 → ((x1 < 0 → K (-1) g2 h3) ∧ (¬ x1 < 0 → ((x1 ≤ 1 → mf_is n (g2 x0 5) 5 ∧ mf_MT C l 7 YX5_askAfter [(2, g2 x0 5), (2, g2 x0 12), (2, g2 x0 7), (0, x1)] n n g2 h3 (fun r5 g6 h7 => K r5 g6 h7)) ∧ (¬ x1 ≤ 1 → K (-1) g2 h3)))))))) : mf_MT C l d YX11_after [(2, x0), (0, x1)] n n g h K := by
  refine mf_entry (by decide) (Nat.le_of_ble_eq_true rfl) ?_
  refine mf_aload_n (mf_dat eX11_after 0 rfl) rfl rfl ?_
  refine mf_iconst (v := 1) (mf_dat eX11_after 1 rfl) (by decide) ?_
  obtain ⟨ck4, hyp⟩ := hyp
  refine mf_callV (Yc := YX11_canPass) (r := (RX11, TX11, 20)) (ci := 11) (mf_dat eX11_after 2 rfl) ml_X11_231 okX11_canPass im_X11_canPass sl_X11_canPass rfl rfl rfl rfl (Nat.le_of_ble_eq_true rfl) (mf_rr (Nat.le_trans (by decide) hd) (Nat.le_refl _)) (Nat.le_refl _) ck4 hyp (fun r1 g2 h3 hyp => ?_)
  refine mf_if_eq (tgt := 17) (mf_dat eX11_after 3 rfl) (by decide) (fun hc => ?_) (fun hc => ?_)
  · replace hyp := hyp.1 hc
    refine mf_iconst (v := (-1)) (mf_dat eX11_after 9 rfl) (by decide) ?_
    exact mf_ireturn (mf_dat eX11_after 10 rfl) rfl (Or.inl rfl) hyp
  · replace hyp := hyp.2 hc
    refine mf_iload_n (mf_dat eX11_after 4 rfl) rfl rfl ?_
    refine mf_if_lt (tgt := 17) (mf_dat eX11_after 5 rfl) (by decide) (fun hc => ?_) (fun hc => ?_)
    · replace hyp := hyp.1 hc
      refine mf_iconst (v := (-1)) (mf_dat eX11_after 9 rfl) (by decide) ?_
      exact mf_ireturn (mf_dat eX11_after 10 rfl) rfl (Or.inl rfl) hyp
    · replace hyp := hyp.2 hc
      refine mf_iload_n (mf_dat eX11_after 6 rfl) rfl rfl ?_
      refine mf_iconst (v := 1) (mf_dat eX11_after 7 rfl) (by decide) ?_
      refine mf_icmp_le (tgt := 19) (mf_dat eX11_after 8 rfl) (by decide) (fun hc => ?_) (fun hc => ?_)
      · replace hyp := hyp.1 hc
        refine mf_aload_n (mf_dat eX11_after 11 rfl) rfl rfl ?_
        refine mf_getf (r := (RX11, TX11, 20)) (ci := 11) (k := 5) (t := 2) (v := g2 x0 5) (mf_dat eX11_after 12 rfl) fl_X11_75 rfl (by decide) rfl rfl ck4 ?_
        refine mf_aload_n (mf_dat eX11_after 13 rfl) rfl rfl ?_
        refine mf_getf (r := (RX11, TX11, 20)) (ci := 11) (k := 12) (t := 2) (v := g2 x0 12) (mf_dat eX11_after 14 rfl) fl_X11_47 rfl (by decide) rfl rfl ck4 ?_
        refine mf_aload_n (mf_dat eX11_after 15 rfl) rfl rfl ?_
        refine mf_getf (r := (RX11, TX11, 20)) (ci := 11) (k := 7) (t := 2) (v := g2 x0 7) (mf_dat eX11_after 16 rfl) fl_X11_82 rfl (by decide) rfl rfl ck4 ?_
        refine mf_iload_n (mf_dat eX11_after 17 rfl) rfl rfl ?_
        obtain ⟨ck8, hyp⟩ := hyp
        refine mf_callV (Yc := YX5_askAfter) (r := (RX5, TX5, 12)) (ci := 5) (mf_dat eX11_after 18 rfl) ml_X11_258 okX5_askAfter im_X5_askAfter sl_X5_askAfter rfl rfl rfl rfl (Nat.le_of_ble_eq_true rfl) (mf_rr (Nat.le_trans (by decide) hd) (Nat.le_refl _)) (Nat.le_refl _) ck8 hyp (fun r5 g6 h7 hyp => ?_)
        exact mf_ireturn (mf_dat eX11_after 19 rfl) rfl (Or.inl rfl) hyp
      · replace hyp := hyp.2 hc
        refine mf_iconst (v := (-1)) (mf_dat eX11_after 9 rfl) (by decide) ?_
        exact mf_ireturn (mf_dat eX11_after 10 rfl) rfl (Or.inl rfl) hyp
set_option maxRecDepth 100000 in
set_option maxHeartbeats 4000000 in
theorem mX11_trim {C : mf_G} {l : Launch} {d n : Nat} {K : mf_Kt} {x0 x1 x2 : Int} {g h : mf_M} (hd : 3 ≤ d) (hyp : ((x2 < 1 → K (-1) g h) ∧ (¬ x2 < 1 → mf_is n x0 11 ∧ mf_is n (g x0 12) 1 ∧ ((h (g x0 12) 9 ≤ x2 → K (-1) g h) ∧ (¬ h (g x0 12) 9 ≤ x2 → mf_MT C l 0 YX11_isCell [(2, x0), (0, x1), (0, 0)] n n g h (fun r3 g4 h5 => ((¬ r3 = 0 → mf_is n (g4 x0 5) 5 ∧ mf_MT C l 2 YX5_findTrim [(2, g4 x0 5), (2, g4 x0 12), (2, g4 x0 7), (0, x1), (0, x2)] n n g4 h5 (fun r6 g7 h8 => K r6 g7 h8)) ∧ (r3 = 0 → K (-1) g4 h5)))))))) : mf_MT C l d YX11_trim [(2, x0), (0, x1), (0, x2)] n n g h K := by
  refine mf_entry (by decide) (Nat.le_of_ble_eq_true rfl) ?_
  refine mf_iload_n (mf_dat eX11_trim 0 rfl) rfl rfl ?_
  refine mf_iconst (v := 1) (mf_dat eX11_trim 1 rfl) (by decide) ?_
  refine mf_icmp_lt (tgt := 25) (mf_dat eX11_trim 2 rfl) (by decide) (fun hc => ?_) (fun hc => ?_)
  · replace hyp := hyp.1 hc
    refine mf_iconst (v := (-1)) (mf_dat eX11_trim 13 rfl) (by decide) ?_
    exact mf_ireturn (mf_dat eX11_trim 14 rfl) rfl (Or.inl rfl) hyp
  · replace hyp := hyp.2 hc
    refine mf_iload_n (mf_dat eX11_trim 3 rfl) rfl rfl ?_
    refine mf_aload_n (mf_dat eX11_trim 4 rfl) rfl rfl ?_
    obtain ⟨ck1, hyp⟩ := hyp
    refine mf_getf (r := (RX11, TX11, 20)) (ci := 11) (k := 12) (t := 2) (v := g x0 12) (mf_dat eX11_trim 5 rfl) fl_X11_47 rfl (by decide) rfl rfl ck1 ?_
    obtain ⟨ck2, hyp⟩ := hyp
    refine mf_getf (r := (RX1, TX1, 14)) (ci := 1) (k := 9) (t := 0) (v := h (g x0 12) 9) (mf_dat eX11_trim 6 rfl) fl_X11_143 rfl (by decide) rfl rfl ck2 ?_
    refine mf_icmp_ge (tgt := 25) (mf_dat eX11_trim 7 rfl) (by decide) (fun hc => ?_) (fun hc => ?_)
    · replace hyp := hyp.1 hc
      refine mf_iconst (v := (-1)) (mf_dat eX11_trim 13 rfl) (by decide) ?_
      exact mf_ireturn (mf_dat eX11_trim 14 rfl) rfl (Or.inl rfl) hyp
    · replace hyp := hyp.2 hc
      refine mf_aload_n (mf_dat eX11_trim 8 rfl) rfl rfl ?_
      refine mf_iload_n (mf_dat eX11_trim 9 rfl) rfl rfl ?_
      refine mf_iconst (v := 0) (mf_dat eX11_trim 10 rfl) (by decide) ?_
      refine mf_callV (Yc := YX11_isCell) (r := (RX11, TX11, 20)) (ci := 11) (mf_dat eX11_trim 11 rfl) ml_X11_199 okX11_isCell im_X11_isCell sl_X11_isCell rfl rfl rfl rfl (Nat.le_of_ble_eq_true rfl) (mf_rr (Nat.le_trans (by decide) hd) (Nat.le_refl _)) (Nat.le_refl _) ck1 hyp (fun r3 g4 h5 hyp => ?_)
      refine mf_if_ne (tgt := 27) (mf_dat eX11_trim 12 rfl) (by decide) (fun hc => ?_) (fun hc => ?_)
      · replace hyp := hyp.1 hc
        refine mf_aload_n (mf_dat eX11_trim 15 rfl) rfl rfl ?_
        refine mf_getf (r := (RX11, TX11, 20)) (ci := 11) (k := 5) (t := 2) (v := g4 x0 5) (mf_dat eX11_trim 16 rfl) fl_X11_75 rfl (by decide) rfl rfl ck1 ?_
        refine mf_aload_n (mf_dat eX11_trim 17 rfl) rfl rfl ?_
        refine mf_getf (r := (RX11, TX11, 20)) (ci := 11) (k := 12) (t := 2) (v := g4 x0 12) (mf_dat eX11_trim 18 rfl) fl_X11_47 rfl (by decide) rfl rfl ck1 ?_
        refine mf_aload_n (mf_dat eX11_trim 19 rfl) rfl rfl ?_
        refine mf_getf (r := (RX11, TX11, 20)) (ci := 11) (k := 7) (t := 2) (v := g4 x0 7) (mf_dat eX11_trim 20 rfl) fl_X11_82 rfl (by decide) rfl rfl ck1 ?_
        refine mf_iload_n (mf_dat eX11_trim 21 rfl) rfl rfl ?_
        refine mf_iload_n (mf_dat eX11_trim 22 rfl) rfl rfl ?_
        obtain ⟨ck9, hyp⟩ := hyp
        refine mf_callV (Yc := YX5_findTrim) (r := (RX5, TX5, 12)) (ci := 5) (mf_dat eX11_trim 23 rfl) ml_X11_261 okX5_findTrim im_X5_findTrim sl_X5_findTrim rfl rfl rfl rfl (Nat.le_of_ble_eq_true rfl) (mf_rr (Nat.le_trans (by decide) hd) (Nat.le_refl _)) (Nat.le_refl _) ck9 hyp (fun r6 g7 h8 hyp => ?_)
        exact mf_ireturn (mf_dat eX11_trim 24 rfl) rfl (Or.inl rfl) hyp
      · replace hyp := hyp.2 hc
        refine mf_iconst (v := (-1)) (mf_dat eX11_trim 13 rfl) (by decide) ?_
        exact mf_ireturn (mf_dat eX11_trim 14 rfl) rfl (Or.inl rfl) hyp
set_option maxRecDepth 100000 in
set_option maxHeartbeats 4000000 in
theorem mX11_go {C : mf_G} {l : Launch} {d n : Nat} {K : mf_Kt} {x0 x1 x2 x3 : Int} {g h : mf_M} (hd : 4 ≤ d) (hyp : mf_is n x0 11 ∧ mf_MT C l 0 YX11_isBeing [(2, x0), (0, x1)] n n g h (fun r1 g2 h3 => ((r1 = 0 → mf_is n (g2 x0 10) 20 ∧ 2 < mf_len (g2 x0 10) ∧ (∀ h7 : mf_M, h7 = mf_up h3 (g2 x0 10) 2 (mf_w32 ((h3 (g2 x0 10) 2) + 1)) → K 0 g2 h7)) ∧ (¬ r1 = 0 → mf_MT C l 0 YX11_isCell [(2, x0), (0, x2), (0, x3)] n n g2 h3 (fun r8 g9 h10 => ((r8 = 0 → mf_is n (g9 x0 10) 20 ∧ 2 < mf_len (g9 x0 10) ∧ (∀ h13 : mf_M, h13 = mf_up h10 (g9 x0 10) 2 (mf_w32 ((h10 (g9 x0 10) 2) + 1)) → K 0 g9 h13)) ∧ (¬ r8 = 0 → mf_is n (g9 x0 12) 1 ∧ mf_is n (g9 x0 7) 6 ∧ mf_MT C l 1 YX6_isFree [(2, g9 x0 7), (0, x2), (0, x3), (0, h10 (g9 x0 12) 12)] n n g9 h10 (fun r15 g16 h17 => ((¬ r15 = 0 → mf_MT C l 3 YX11_saveAct [(2, x0)] n n g16 h17 (fun r19 g20 h21 => mf_is n (g20 x0 7) 6 ∧ mf_is n (g20 (g20 x0 7) 1) 20 ∧ 0 ≤ x1 ∧ x1 < mf_len (g20 (g20 x0 7) 1) ∧ (∀ h26 : mf_M, h26 = mf_up h21 (g20 (g20 x0 7) 1) x1 x2 → mf_is n (g20 (g20 x0 7) 2) 20 ∧ x1 < mf_len (g20 (g20 x0 7) 2) ∧ (∀ h29 : mf_M, h29 = mf_up h26 (g20 (g20 x0 7) 2) x1 x3 → K 1 g20 h29)))) ∧ (r15 = 0 → mf_is n (g16 x0 10) 20 ∧ 2 < mf_len (g16 x0 10) ∧ (∀ h32 : mf_M, h32 = mf_up h17 (g16 x0 10) 2 (mf_w32 ((h17 (g16 x0 10) 2) + 1)) → K 0 g16 h32))))))))))) : mf_MT C l d YX11_go [(2, x0), (0, x1), (0, x2), (0, x3)] n n g h K := by
  refine mf_entry (by decide) (Nat.le_of_ble_eq_true rfl) ?_
  refine mf_aload_n (mf_dat eX11_go 0 rfl) rfl rfl ?_
  refine mf_iload_n (mf_dat eX11_go 1 rfl) rfl rfl ?_
  obtain ⟨ck4, hyp⟩ := hyp
  refine mf_callV (Yc := YX11_isBeing) (r := (RX11, TX11, 20)) (ci := 11) (mf_dat eX11_go 2 rfl) ml_X11_169 okX11_isBeing im_X11_isBeing sl_X11_isBeing rfl rfl rfl rfl (Nat.le_of_ble_eq_true rfl) (mf_rr (Nat.le_trans (by decide) hd) (Nat.le_refl _)) (Nat.le_refl _) ck4 hyp (fun r1 g2 h3 hyp => ?_)
  refine mf_if_eq (tgt := 36) (mf_dat eX11_go 3 rfl) (by decide) (fun hc => ?_) (fun hc => ?_)
  · replace hyp := hyp.1 hc
    refine mf_aload_n (mf_dat eX11_go 18 rfl) rfl rfl ?_
    refine mf_getf (r := (RX11, TX11, 20)) (ci := 11) (k := 10) (t := 2) (v := g2 x0 10) (mf_dat eX11_go 19 rfl) fl_X11_93 rfl (by decide) rfl rfl ck4 ?_
    refine mf_iconst (v := 2) (mf_dat eX11_go 20 rfl) (by decide) ?_
    refine mf_dup2 (mf_dat eX11_go 21 rfl) (by decide) (by decide) ?_
    obtain ⟨ck5, hyp⟩ := hyp
    obtain ⟨ck6, hyp⟩ := hyp
    refine mf_iald (mf_dat eX11_go 22 rfl) ck5 (by decide) ck6 ?_
    refine mf_iconst (v := 1) (mf_dat eX11_go 23 rfl) (by decide) ?_
    refine mf_iadd (mf_dat eX11_go 24 rfl) ?_
    refine mf_iast (mf_dat eX11_go 25 rfl) ck5 (by decide) ck6 ?_
    generalize qh7 : mf_up h3 (g2 x0 10) 2 (mf_w32 ((h3 (g2 x0 10) 2) + 1)) = h7
    replace hyp := hyp _ qh7.symm
    refine mf_iconst (v := 0) (mf_dat eX11_go 26 rfl) (by decide) ?_
    exact mf_ireturn (mf_dat eX11_go 27 rfl) rfl (Or.inr ⟨rfl, by decide⟩) hyp
  · replace hyp := hyp.2 hc
    refine mf_aload_n (mf_dat eX11_go 4 rfl) rfl rfl ?_
    refine mf_iload_n (mf_dat eX11_go 5 rfl) rfl rfl ?_
    refine mf_iload_n (mf_dat eX11_go 6 rfl) rfl rfl ?_
    refine mf_callV (Yc := YX11_isCell) (r := (RX11, TX11, 20)) (ci := 11) (mf_dat eX11_go 7 rfl) ml_X11_199 okX11_isCell im_X11_isCell sl_X11_isCell rfl rfl rfl rfl (Nat.le_of_ble_eq_true rfl) (mf_rr (Nat.le_trans (by decide) hd) (Nat.le_refl _)) (Nat.le_refl _) ck4 hyp (fun r8 g9 h10 hyp => ?_)
    refine mf_if_eq (tgt := 36) (mf_dat eX11_go 8 rfl) (by decide) (fun hc => ?_) (fun hc => ?_)
    · replace hyp := hyp.1 hc
      refine mf_aload_n (mf_dat eX11_go 18 rfl) rfl rfl ?_
      refine mf_getf (r := (RX11, TX11, 20)) (ci := 11) (k := 10) (t := 2) (v := g9 x0 10) (mf_dat eX11_go 19 rfl) fl_X11_93 rfl (by decide) rfl rfl ck4 ?_
      refine mf_iconst (v := 2) (mf_dat eX11_go 20 rfl) (by decide) ?_
      refine mf_dup2 (mf_dat eX11_go 21 rfl) (by decide) (by decide) ?_
      obtain ⟨ck11, hyp⟩ := hyp
      obtain ⟨ck12, hyp⟩ := hyp
      refine mf_iald (mf_dat eX11_go 22 rfl) ck11 (by decide) ck12 ?_
      refine mf_iconst (v := 1) (mf_dat eX11_go 23 rfl) (by decide) ?_
      refine mf_iadd (mf_dat eX11_go 24 rfl) ?_
      refine mf_iast (mf_dat eX11_go 25 rfl) ck11 (by decide) ck12 ?_
      generalize qh13 : mf_up h10 (g9 x0 10) 2 (mf_w32 ((h10 (g9 x0 10) 2) + 1)) = h13
      replace hyp := hyp _ qh13.symm
      refine mf_iconst (v := 0) (mf_dat eX11_go 26 rfl) (by decide) ?_
      exact mf_ireturn (mf_dat eX11_go 27 rfl) rfl (Or.inr ⟨rfl, by decide⟩) hyp
    · replace hyp := hyp.2 hc
      refine mf_aload_n (mf_dat eX11_go 9 rfl) rfl rfl ?_
      refine mf_getf (r := (RX11, TX11, 20)) (ci := 11) (k := 7) (t := 2) (v := g9 x0 7) (mf_dat eX11_go 10 rfl) fl_X11_82 rfl (by decide) rfl rfl ck4 ?_
      refine mf_iload_n (mf_dat eX11_go 11 rfl) rfl rfl ?_
      refine mf_iload_n (mf_dat eX11_go 12 rfl) rfl rfl ?_
      refine mf_aload_n (mf_dat eX11_go 13 rfl) rfl rfl ?_
      refine mf_getf (r := (RX11, TX11, 20)) (ci := 11) (k := 12) (t := 2) (v := g9 x0 12) (mf_dat eX11_go 14 rfl) fl_X11_47 rfl (by decide) rfl rfl ck4 ?_
      obtain ⟨ck14, hyp⟩ := hyp
      refine mf_getf (r := (RX1, TX1, 14)) (ci := 1) (k := 12) (t := 0) (v := h10 (g9 x0 12) 12) (mf_dat eX11_go 15 rfl) fl_X11_153 rfl (by decide) rfl rfl ck14 ?_
      obtain ⟨ck18, hyp⟩ := hyp
      refine mf_callV (Yc := YX6_isFree) (r := (RX6, TX6, 8)) (ci := 6) (mf_dat eX11_go 16 rfl) ml_X11_264 okX6_isFree im_X6_isFree sl_X6_isFree rfl rfl rfl rfl (Nat.le_of_ble_eq_true rfl) (mf_rr (Nat.le_trans (by decide) hd) (Nat.le_refl _)) (Nat.le_refl _) ck18 hyp (fun r15 g16 h17 hyp => ?_)
      refine mf_if_ne (tgt := 48) (mf_dat eX11_go 17 rfl) (by decide) (fun hc => ?_) (fun hc => ?_)
      · replace hyp := hyp.1 hc
        refine mf_aload_n (mf_dat eX11_go 28 rfl) rfl rfl ?_
        refine mf_callV (Yc := YX11_saveAct) (r := (RX11, TX11, 20)) (ci := 11) (mf_dat eX11_go 29 rfl) ml_X11_268 okX11_saveAct im_X11_saveAct sl_X11_saveAct rfl rfl rfl rfl (Nat.le_of_ble_eq_true rfl) (mf_rr (Nat.le_trans (by decide) hd) (Nat.le_refl _)) (Nat.le_refl _) ck4 hyp (fun r19 g20 h21 hyp => ?_)
        refine mf_aload_n (mf_dat eX11_go 30 rfl) rfl rfl ?_
        refine mf_getf (r := (RX11, TX11, 20)) (ci := 11) (k := 7) (t := 2) (v := g20 x0 7) (mf_dat eX11_go 31 rfl) fl_X11_82 rfl (by decide) rfl rfl ck4 ?_
        obtain ⟨ck22, hyp⟩ := hyp
        refine mf_getf (r := (RX6, TX6, 8)) (ci := 6) (k := 1) (t := 2) (v := g20 (g20 x0 7) 1) (mf_dat eX11_go 32 rfl) fl_X11_180 rfl (by decide) rfl rfl ck22 ?_
        refine mf_iload_n (mf_dat eX11_go 33 rfl) rfl rfl ?_
        refine mf_iload_n (mf_dat eX11_go 34 rfl) rfl rfl ?_
        obtain ⟨ck23, hyp⟩ := hyp
        obtain ⟨ck24, hyp⟩ := hyp
        obtain ⟨ck25, hyp⟩ := hyp
        refine mf_iast (mf_dat eX11_go 35 rfl) ck23 ck24 ck25 ?_
        generalize qh26 : mf_up h21 (g20 (g20 x0 7) 1) x1 x2 = h26
        replace hyp := hyp _ qh26.symm
        refine mf_aload_n (mf_dat eX11_go 36 rfl) rfl rfl ?_
        refine mf_getf (r := (RX11, TX11, 20)) (ci := 11) (k := 7) (t := 2) (v := g20 x0 7) (mf_dat eX11_go 37 rfl) fl_X11_82 rfl (by decide) rfl rfl ck4 ?_
        refine mf_getf (r := (RX6, TX6, 8)) (ci := 6) (k := 2) (t := 2) (v := g20 (g20 x0 7) 2) (mf_dat eX11_go 38 rfl) fl_X11_183 rfl (by decide) rfl rfl ck22 ?_
        refine mf_iload_n (mf_dat eX11_go 39 rfl) rfl rfl ?_
        refine mf_iload_n (mf_dat eX11_go 40 rfl) rfl rfl ?_
        obtain ⟨ck27, hyp⟩ := hyp
        obtain ⟨ck28, hyp⟩ := hyp
        refine mf_iast (mf_dat eX11_go 41 rfl) ck27 ck24 ck28 ?_
        generalize qh29 : mf_up h26 (g20 (g20 x0 7) 2) x1 x3 = h29
        replace hyp := hyp _ qh29.symm
        refine mf_iconst (v := 1) (mf_dat eX11_go 42 rfl) (by decide) ?_
        exact mf_ireturn (mf_dat eX11_go 43 rfl) rfl (Or.inr ⟨rfl, by decide⟩) hyp
      · replace hyp := hyp.2 hc
        refine mf_aload_n (mf_dat eX11_go 18 rfl) rfl rfl ?_
        refine mf_getf (r := (RX11, TX11, 20)) (ci := 11) (k := 10) (t := 2) (v := g16 x0 10) (mf_dat eX11_go 19 rfl) fl_X11_93 rfl (by decide) rfl rfl ck4 ?_
        refine mf_iconst (v := 2) (mf_dat eX11_go 20 rfl) (by decide) ?_
        refine mf_dup2 (mf_dat eX11_go 21 rfl) (by decide) (by decide) ?_
        obtain ⟨ck30, hyp⟩ := hyp
        obtain ⟨ck31, hyp⟩ := hyp
        refine mf_iald (mf_dat eX11_go 22 rfl) ck30 (by decide) ck31 ?_
        refine mf_iconst (v := 1) (mf_dat eX11_go 23 rfl) (by decide) ?_
        refine mf_iadd (mf_dat eX11_go 24 rfl) ?_
        refine mf_iast (mf_dat eX11_go 25 rfl) ck30 (by decide) ck31 ?_
        generalize qh32 : mf_up h17 (g16 x0 10) 2 (mf_w32 ((h17 (g16 x0 10) 2) + 1)) = h32
        replace hyp := hyp _ qh32.symm
        refine mf_iconst (v := 0) (mf_dat eX11_go 26 rfl) (by decide) ?_
        exact mf_ireturn (mf_dat eX11_go 27 rfl) rfl (Or.inr ⟨rfl, by decide⟩) hyp
abbrev JX11_gloss_65 (C : mf_G) (l : Launch) (d n : Nat) (K : mf_Kt) (x0 x1 x2 x3 s0 : Int) (g h : mf_M) : Prop := mf_AW C l YX11_gloss (mf_rm d n n) n (mf_Zm C YX11_gloss n n K) (fun _ _ => True) 65 [(0, (2, x0)), (1, (0, x1)), (2, (0, x2)), (3, (0, x3))] [(0, s0)] n g h
abbrev JX11_gloss_90 (C : mf_G) (l : Launch) (d n : Nat) (K : mf_Kt) (x0 x1 x2 x3 x4 : Int) (g h : mf_M) : Prop := mf_AW C l YX11_gloss (mf_rm d n n) n (mf_Zm C YX11_gloss n n K) (fun _ _ => True) 90 [(0, (2, x0)), (1, (0, x1)), (2, (0, x2)), (3, (0, x3)), (4, (0, x4))] [] n g h
set_option maxRecDepth 100000 in
set_option maxHeartbeats 4000000 in
theorem bX11_gloss_65 {C : mf_G} {l : Launch} {d n : Nat} {K : mf_Kt} {x0 x1 x2 x3 s0 : Int} {g h : mf_M} (hyp : ((x3 = (-1) → JX11_gloss_90 C l d n K x0 x1 x2 x3 s0 g h) ∧ (¬ x3 = (-1) → ((¬ s0 = (-1) → JX11_gloss_90 C l d n K x0 x1 x2 x3 s0 g h) ∧ (s0 = (-1) → mf_is n x0 11 ∧ mf_is n (g x0 10) 20 ∧ 2 < mf_len (g x0 10) ∧ (∀ h4 : mf_M, h4 = mf_up h (g x0 10) 2 (mf_w32 ((h (g x0 10) 2) + 1)) → K (-1) g h4)))))) : JX11_gloss_65 C l d n K x0 x1 x2 x3 s0 g h := by
  refine mf_istore (mf_dat eX11_gloss_p0 39 rfl) (by decide) ?_
  refine mf_iload_n (mf_dat eX11_gloss_p0 40 rfl) rfl rfl ?_
  refine mf_iconst (v := (-1)) (mf_dat eX11_gloss_p0 41 rfl) (by decide) ?_
  refine mf_icmp_eq (tgt := 90) (mf_dat eX11_gloss_p0 42 rfl) (by decide) (fun hc => ?_) (fun hc => ?_)
  · replace hyp := hyp.1 hc
    exact mf_sub [1, 2, 3, 4, 0] rfl hyp
  · replace hyp := hyp.2 hc
    refine mf_iload (mf_dat eX11_gloss_p0 43 rfl) rfl ?_
    refine mf_iconst (v := (-1)) (mf_dat eX11_gloss_p0 44 rfl) (by decide) ?_
    refine mf_icmp_ne (tgt := 90) (mf_dat eX11_gloss_p0 45 rfl) (by decide) (fun hc => ?_) (fun hc => ?_)
    · replace hyp := hyp.1 hc
      exact mf_sub [1, 2, 3, 4, 0] rfl hyp
    · replace hyp := hyp.2 hc
      refine mf_aload_n (mf_dat eX11_gloss_p0 46 rfl) rfl rfl ?_
      obtain ⟨ck1, hyp⟩ := hyp
      refine mf_getf (r := (RX11, TX11, 20)) (ci := 11) (k := 10) (t := 2) (v := g x0 10) (mf_dat eX11_gloss_p0 47 rfl) fl_X11_93 rfl (by decide) rfl rfl ck1 ?_
      refine mf_iconst (v := 2) (mf_dat eX11_gloss_p0 48 rfl) (by decide) ?_
      refine mf_dup2 (mf_dat eX11_gloss_p0 49 rfl) (by decide) (by decide) ?_
      obtain ⟨ck2, hyp⟩ := hyp
      obtain ⟨ck3, hyp⟩ := hyp
      refine mf_iald (mf_dat eX11_gloss_p0 50 rfl) ck2 (by decide) ck3 ?_
      refine mf_iconst (v := 1) (mf_dat eX11_gloss_p0 51 rfl) (by decide) ?_
      refine mf_iadd (mf_dat eX11_gloss_p0 52 rfl) ?_
      refine mf_iast (mf_dat eX11_gloss_p0 53 rfl) ck2 (by decide) ck3 ?_
      generalize qh4 : mf_up h (g x0 10) 2 (mf_w32 ((h (g x0 10) 2) + 1)) = h4
      replace hyp := hyp _ qh4.symm
      refine mf_iconst (v := (-1)) (mf_dat eX11_gloss_p0 54 rfl) (by decide) ?_
      exact mf_ireturn (mf_dat eX11_gloss_p0 55 rfl) rfl (Or.inl rfl) hyp
set_option maxRecDepth 100000 in
set_option maxHeartbeats 4000000 in
theorem bX11_gloss_90 {C : mf_G} {l : Launch} {d n : Nat} {K : mf_Kt} {x0 x1 x2 x3 x4 : Int} {g h : mf_M} (hd : 4 ≤ d) (hyp : mf_is n x0 11 ∧ mf_MT C l 3 YX11_saveAct [(2, x0)] n n g h (fun r1 g2 h3 => mf_is n (g2 x0 7) 6 ∧ mf_MT C l 0 YX6_writeGloss [(2, g2 x0 7), (0, x1), (0, x2)] n n g2 h3 (fun r5 g6 h7 => ((¬ x3 = (-1) → mf_is n (g6 x0 7) 6 ∧ mf_is n (g6 (g6 x0 7) 2) 20 ∧ 0 ≤ x3 ∧ x3 < mf_len (g6 (g6 x0 7) 2) ∧ (∀ h13 : mf_M, h13 = mf_up h7 (g6 (g6 x0 7) 2) x3 x4 → K x4 g6 h13)) ∧ (x3 = (-1) → K 100 g6 h7))))) : JX11_gloss_90 C l d n K x0 x1 x2 x3 x4 g h := by
  refine mf_aload_n (mf_dat eX11_gloss_p0 56 rfl) rfl rfl ?_
  obtain ⟨ck4, hyp⟩ := hyp
  refine mf_callV (Yc := YX11_saveAct) (r := (RX11, TX11, 20)) (ci := 11) (mf_dat eX11_gloss_p0 57 rfl) ml_X11_268 okX11_saveAct im_X11_saveAct sl_X11_saveAct rfl rfl rfl rfl (Nat.le_of_ble_eq_true rfl) (mf_rr (Nat.le_trans (by decide) hd) (Nat.le_refl _)) (Nat.le_refl _) ck4 hyp (fun r1 g2 h3 hyp => ?_)
  refine mf_aload_n (mf_dat eX11_gloss_p0 58 rfl) rfl rfl ?_
  refine mf_getf (r := (RX11, TX11, 20)) (ci := 11) (k := 7) (t := 2) (v := g2 x0 7) (mf_dat eX11_gloss_p0 59 rfl) fl_X11_82 rfl (by decide) rfl rfl ck4 ?_
  refine mf_iload_n (mf_dat eX11_gloss_p1 0 rfl) rfl rfl ?_
  refine mf_iload_n (mf_dat eX11_gloss_p1 1 rfl) rfl rfl ?_
  obtain ⟨ck8, hyp⟩ := hyp
  refine mf_callV (Yc := YX6_writeGloss) (r := (RX6, TX6, 8)) (ci := 6) (mf_dat eX11_gloss_p1 2 rfl) ml_X11_274 okX6_writeGloss im_X6_writeGloss sl_X6_writeGloss rfl rfl rfl rfl (Nat.le_of_ble_eq_true rfl) (mf_rr (Nat.le_trans (by decide) hd) (Nat.le_refl _)) (Nat.le_refl _) ck8 hyp (fun r5 g6 h7 hyp => ?_)
  refine mf_iload_n (mf_dat eX11_gloss_p1 3 rfl) rfl rfl ?_
  refine mf_iconst (v := (-1)) (mf_dat eX11_gloss_p1 4 rfl) (by decide) ?_
  refine mf_icmp_ne (tgt := 111) (mf_dat eX11_gloss_p1 5 rfl) (by decide) (fun hc => ?_) (fun hc => ?_)
  · replace hyp := hyp.1 hc
    refine mf_aload_n (mf_dat eX11_gloss_p1 8 rfl) rfl rfl ?_
    refine mf_getf (r := (RX11, TX11, 20)) (ci := 11) (k := 7) (t := 2) (v := g6 x0 7) (mf_dat eX11_gloss_p1 9 rfl) fl_X11_82 rfl (by decide) rfl rfl ck4 ?_
    obtain ⟨ck9, hyp⟩ := hyp
    refine mf_getf (r := (RX6, TX6, 8)) (ci := 6) (k := 2) (t := 2) (v := g6 (g6 x0 7) 2) (mf_dat eX11_gloss_p1 10 rfl) fl_X11_183 rfl (by decide) rfl rfl ck9 ?_
    refine mf_iload_n (mf_dat eX11_gloss_p1 11 rfl) rfl rfl ?_
    refine mf_iload (mf_dat eX11_gloss_p1 12 rfl) rfl ?_
    obtain ⟨ck10, hyp⟩ := hyp
    obtain ⟨ck11, hyp⟩ := hyp
    obtain ⟨ck12, hyp⟩ := hyp
    refine mf_iast (mf_dat eX11_gloss_p1 13 rfl) ck10 ck11 ck12 ?_
    generalize qh13 : mf_up h7 (g6 (g6 x0 7) 2) x3 x4 = h13
    replace hyp := hyp _ qh13.symm
    refine mf_iload (mf_dat eX11_gloss_p1 14 rfl) rfl ?_
    exact mf_ireturn (mf_dat eX11_gloss_p1 15 rfl) rfl (Or.inl rfl) hyp
  · replace hyp := hyp.2 hc
    refine mf_bipush (v := 100) (mf_dat eX11_gloss_p1 6 rfl) (by decide) ?_
    exact mf_ireturn (mf_dat eX11_gloss_p1 7 rfl) rfl (Or.inl rfl) hyp
set_option maxRecDepth 100000 in
set_option maxHeartbeats 4000000 in
theorem mX11_gloss {C : mf_G} {l : Launch} {d n : Nat} {K : mf_Kt} {x0 x1 x2 : Int} {g h : mf_M} (hd : 3 ≤ d) (hyp : mf_is n x0 11 ∧ mf_MT C l 0 YX11_isCell [(2, x0), (0, x1), (0, x2)] n n g h (fun r1 g2 h3 => ((r1 = 0 → mf_is n (g2 x0 10) 20 ∧ 2 < mf_len (g2 x0 10) ∧ (∀ h7 : mf_M, h7 = mf_up h3 (g2 x0 10) 2 (mf_w32 ((h3 (g2 x0 10) 2) + 1)) → K (-1) g2 h7)) ∧ (¬ r1 = 0 → mf_is n (g2 x0 7) 6 ∧ mf_MT C l 0 YX6_hasGloss [(2, g2 x0 7), (0, x1), (0, x2)] n n g2 h3 (fun r8 g9 h10 => ((r8 = 0 → mf_is n (g9 x0 12) 1 ∧ mf_is n (g9 x0 7) 6 ∧ mf_MT C l 0 YX6_whoStands [(2, g9 x0 7), (0, x1), (0, x2), (0, h10 (g9 x0 12) 12)] n n g9 h10 (fun r13 g14 h15 => ((¬ r13 = (-1) → mf_MT C l 2 YX11_findRefuge [(2, x0), (0, x1), (0, x2)] n n g14 h15 (fun r17 g18 h19 => JX11_gloss_65 C l d n K x0 x1 x2 r13 r17 g18 h19)) ∧ (r13 = (-1) → JX11_gloss_65 C l d n K x0 x1 x2 r13 (-1) g14 h15)))) ∧ (¬ r8 = 0 → mf_is n (g9 x0 10) 20 ∧ 2 < mf_len (g9 x0 10) ∧ (∀ h22 : mf_M, h22 = mf_up h10 (g9 x0 10) 2 (mf_w32 ((h10 (g9 x0 10) 2) + 1)) → K (-1) g9 h22)))))))) : mf_MT C l d YX11_gloss [(2, x0), (0, x1), (0, x2)] n n g h K := by
  refine mf_entry (by decide) (Nat.le_of_ble_eq_true rfl) ?_
  refine mf_aload_n (mf_dat eX11_gloss_p0 0 rfl) rfl rfl ?_
  refine mf_iload_n (mf_dat eX11_gloss_p0 1 rfl) rfl rfl ?_
  refine mf_iload_n (mf_dat eX11_gloss_p0 2 rfl) rfl rfl ?_
  obtain ⟨ck4, hyp⟩ := hyp
  refine mf_callV (Yc := YX11_isCell) (r := (RX11, TX11, 20)) (ci := 11) (mf_dat eX11_gloss_p0 3 rfl) ml_X11_199 okX11_isCell im_X11_isCell sl_X11_isCell rfl rfl rfl rfl (Nat.le_of_ble_eq_true rfl) (mf_rr (Nat.le_trans (by decide) hd) (Nat.le_refl _)) (Nat.le_refl _) ck4 hyp (fun r1 g2 h3 hyp => ?_)
  refine mf_if_eq (tgt := 21) (mf_dat eX11_gloss_p0 4 rfl) (by decide) (fun hc => ?_) (fun hc => ?_)
  · replace hyp := hyp.1 hc
    refine mf_aload_n (mf_dat eX11_gloss_p0 11 rfl) rfl rfl ?_
    refine mf_getf (r := (RX11, TX11, 20)) (ci := 11) (k := 10) (t := 2) (v := g2 x0 10) (mf_dat eX11_gloss_p0 12 rfl) fl_X11_93 rfl (by decide) rfl rfl ck4 ?_
    refine mf_iconst (v := 2) (mf_dat eX11_gloss_p0 13 rfl) (by decide) ?_
    refine mf_dup2 (mf_dat eX11_gloss_p0 14 rfl) (by decide) (by decide) ?_
    obtain ⟨ck5, hyp⟩ := hyp
    obtain ⟨ck6, hyp⟩ := hyp
    refine mf_iald (mf_dat eX11_gloss_p0 15 rfl) ck5 (by decide) ck6 ?_
    refine mf_iconst (v := 1) (mf_dat eX11_gloss_p0 16 rfl) (by decide) ?_
    refine mf_iadd (mf_dat eX11_gloss_p0 17 rfl) ?_
    refine mf_iast (mf_dat eX11_gloss_p0 18 rfl) ck5 (by decide) ck6 ?_
    generalize qh7 : mf_up h3 (g2 x0 10) 2 (mf_w32 ((h3 (g2 x0 10) 2) + 1)) = h7
    replace hyp := hyp _ qh7.symm
    refine mf_iconst (v := (-1)) (mf_dat eX11_gloss_p0 19 rfl) (by decide) ?_
    exact mf_ireturn (mf_dat eX11_gloss_p0 20 rfl) rfl (Or.inl rfl) hyp
  · replace hyp := hyp.2 hc
    refine mf_aload_n (mf_dat eX11_gloss_p0 5 rfl) rfl rfl ?_
    refine mf_getf (r := (RX11, TX11, 20)) (ci := 11) (k := 7) (t := 2) (v := g2 x0 7) (mf_dat eX11_gloss_p0 6 rfl) fl_X11_82 rfl (by decide) rfl rfl ck4 ?_
    refine mf_iload_n (mf_dat eX11_gloss_p0 7 rfl) rfl rfl ?_
    refine mf_iload_n (mf_dat eX11_gloss_p0 8 rfl) rfl rfl ?_
    obtain ⟨ck11, hyp⟩ := hyp
    refine mf_callV (Yc := YX6_hasGloss) (r := (RX6, TX6, 8)) (ci := 6) (mf_dat eX11_gloss_p0 9 rfl) ml_X11_202 okX6_hasGloss im_X6_hasGloss sl_X6_hasGloss rfl rfl rfl rfl (Nat.le_of_ble_eq_true rfl) (mf_rr (Nat.le_trans (by decide) hd) (Nat.le_refl _)) (Nat.le_refl _) ck11 hyp (fun r8 g9 h10 hyp => ?_)
    refine mf_if_eq (tgt := 33) (mf_dat eX11_gloss_p0 10 rfl) (by decide) (fun hc => ?_) (fun hc => ?_)
    · replace hyp := hyp.1 hc
      refine mf_aload_n (mf_dat eX11_gloss_p0 21 rfl) rfl rfl ?_
      refine mf_getf (r := (RX11, TX11, 20)) (ci := 11) (k := 7) (t := 2) (v := g9 x0 7) (mf_dat eX11_gloss_p0 22 rfl) fl_X11_82 rfl (by decide) rfl rfl ck4 ?_
      refine mf_iload_n (mf_dat eX11_gloss_p0 23 rfl) rfl rfl ?_
      refine mf_iload_n (mf_dat eX11_gloss_p0 24 rfl) rfl rfl ?_
      refine mf_aload_n (mf_dat eX11_gloss_p0 25 rfl) rfl rfl ?_
      refine mf_getf (r := (RX11, TX11, 20)) (ci := 11) (k := 12) (t := 2) (v := g9 x0 12) (mf_dat eX11_gloss_p0 26 rfl) fl_X11_47 rfl (by decide) rfl rfl ck4 ?_
      obtain ⟨ck12, hyp⟩ := hyp
      refine mf_getf (r := (RX1, TX1, 14)) (ci := 1) (k := 12) (t := 0) (v := h10 (g9 x0 12) 12) (mf_dat eX11_gloss_p0 27 rfl) fl_X11_153 rfl (by decide) rfl rfl ck12 ?_
      obtain ⟨ck16, hyp⟩ := hyp
      refine mf_callV (Yc := YX6_whoStands) (r := (RX6, TX6, 8)) (ci := 6) (mf_dat eX11_gloss_p0 28 rfl) ml_X11_205 okX6_whoStands im_X6_whoStands sl_X6_whoStands rfl rfl rfl rfl (Nat.le_of_ble_eq_true rfl) (mf_rr (Nat.le_trans (by decide) hd) (Nat.le_refl _)) (Nat.le_refl _) ck16 hyp (fun r13 g14 h15 hyp => ?_)
      refine mf_istore_n (mf_dat eX11_gloss_p0 29 rfl) rfl (by decide) ?_
      refine mf_iload_n (mf_dat eX11_gloss_p0 30 rfl) rfl rfl ?_
      refine mf_iconst (v := (-1)) (mf_dat eX11_gloss_p0 31 rfl) (by decide) ?_
      refine mf_icmp_ne (tgt := 59) (mf_dat eX11_gloss_p0 32 rfl) (by decide) (fun hc => ?_) (fun hc => ?_)
      · replace hyp := hyp.1 hc
        refine mf_aload_n (mf_dat eX11_gloss_p0 35 rfl) rfl rfl ?_
        refine mf_iload_n (mf_dat eX11_gloss_p0 36 rfl) rfl rfl ?_
        refine mf_iload_n (mf_dat eX11_gloss_p0 37 rfl) rfl rfl ?_
        refine mf_callV (Yc := YX11_findRefuge) (r := (RX11, TX11, 20)) (ci := 11) (mf_dat eX11_gloss_p0 38 rfl) ml_X11_271 okX11_findRefuge im_X11_findRefuge sl_X11_findRefuge rfl rfl rfl rfl (Nat.le_of_ble_eq_true rfl) (mf_rr (Nat.le_trans (by decide) hd) (Nat.le_refl _)) (Nat.le_refl _) ck4 hyp (fun r17 g18 h19 hyp => ?_)
        exact mf_sub [1, 2, 3, 0] rfl hyp
      · replace hyp := hyp.2 hc
        refine mf_iconst (v := (-1)) (mf_dat eX11_gloss_p0 33 rfl) (by decide) ?_
        refine mf_goto (tgt := 65) (mf_dat eX11_gloss_p0 34 rfl) (by decide) ?_
        exact mf_sub [1, 2, 3, 0] rfl hyp
    · replace hyp := hyp.2 hc
      refine mf_aload_n (mf_dat eX11_gloss_p0 11 rfl) rfl rfl ?_
      refine mf_getf (r := (RX11, TX11, 20)) (ci := 11) (k := 10) (t := 2) (v := g9 x0 10) (mf_dat eX11_gloss_p0 12 rfl) fl_X11_93 rfl (by decide) rfl rfl ck4 ?_
      refine mf_iconst (v := 2) (mf_dat eX11_gloss_p0 13 rfl) (by decide) ?_
      refine mf_dup2 (mf_dat eX11_gloss_p0 14 rfl) (by decide) (by decide) ?_
      obtain ⟨ck20, hyp⟩ := hyp
      obtain ⟨ck21, hyp⟩ := hyp
      refine mf_iald (mf_dat eX11_gloss_p0 15 rfl) ck20 (by decide) ck21 ?_
      refine mf_iconst (v := 1) (mf_dat eX11_gloss_p0 16 rfl) (by decide) ?_
      refine mf_iadd (mf_dat eX11_gloss_p0 17 rfl) ?_
      refine mf_iast (mf_dat eX11_gloss_p0 18 rfl) ck20 (by decide) ck21 ?_
      generalize qh22 : mf_up h10 (g9 x0 10) 2 (mf_w32 ((h10 (g9 x0 10) 2) + 1)) = h22
      replace hyp := hyp _ qh22.symm
      refine mf_iconst (v := (-1)) (mf_dat eX11_gloss_p0 19 rfl) (by decide) ?_
      exact mf_ireturn (mf_dat eX11_gloss_p0 20 rfl) rfl (Or.inl rfl) hyp
abbrev JX11_days_39 (C : mf_G) (l : Launch) (d n : Nat) (K : mf_Kt) (x0 x1 x2 x3 : Int) (g h : mf_M) : Prop := mf_AW C l YX11_days (mf_rm d n n) n (mf_Zm C YX11_days n n K) (fun _ _ => True) 39 [(0, (2, x0)), (1, (0, x1)), (2, (0, x2)), (3, (0, x3))] [] n g h
set_option maxRecDepth 100000 in
set_option maxHeartbeats 4000000 in
theorem bX11_days_39 {C : mf_G} {l : Launch} {d n : Nat} {K : mf_Kt} {x0 x1 x2 x3 : Int} {g h : mf_M} (hd : 6 ≤ d) (hyp : ((x1 ≤ x3 → K x2 g h) ∧ (¬ x1 ≤ x3 → mf_is n x0 11 ∧ mf_is n (g x0 7) 6 ∧ mf_is n (g x0 4) 0 ∧ mf_MT C l 4 YX0_openingOf [(2, g x0 4), (2, g x0 12), (0, h (g x0 7) 7)] n n g h (fun r3 g4 h5 => mf_MT C l 5 YX0_passDay [(2, g x0 4), (2, g x0 12), (2, g x0 7), (0, r3)] n n g4 h5 (fun r7 g8 h9 => (∀ v10 : Int, v10 = mf_w32 (x2 + r7) → (∀ v11 : Int, v11 = mf_w32 (x3 + 1) → JX11_days_39 C l d n K x0 x1 v10 v11 g8 h9))))))) : JX11_days_39 C l d n K x0 x1 x2 x3 g h := by
  refine mf_iload_n (mf_dat eX11_days 26 rfl) rfl rfl ?_
  refine mf_iload_n (mf_dat eX11_days 27 rfl) rfl rfl ?_
  refine mf_icmp_ge (tgt := 86) (mf_dat eX11_days 28 rfl) (by decide) (fun hc => ?_) (fun hc => ?_)
  · replace hyp := hyp.1 hc
    refine mf_iload_n (mf_dat eX11_days 49 rfl) rfl rfl ?_
    exact mf_ireturn (mf_dat eX11_days 50 rfl) rfl (Or.inl rfl) hyp
  · replace hyp := hyp.2 hc
    refine mf_iload_n (mf_dat eX11_days 29 rfl) rfl rfl ?_
    refine mf_aload_n (mf_dat eX11_days 30 rfl) rfl rfl ?_
    obtain ⟨ck1, hyp⟩ := hyp
    refine mf_getf (r := (RX11, TX11, 20)) (ci := 11) (k := 4) (t := 2) (v := g x0 4) (mf_dat eX11_days 31 rfl) fl_X11_66 rfl (by decide) rfl rfl ck1 ?_
    refine mf_aload_n (mf_dat eX11_days 32 rfl) rfl rfl ?_
    refine mf_getf (r := (RX11, TX11, 20)) (ci := 11) (k := 12) (t := 2) (v := g x0 12) (mf_dat eX11_days 33 rfl) fl_X11_47 rfl (by decide) rfl rfl ck1 ?_
    refine mf_aload_n (mf_dat eX11_days 34 rfl) rfl rfl ?_
    refine mf_getf (r := (RX11, TX11, 20)) (ci := 11) (k := 7) (t := 2) (v := g x0 7) (mf_dat eX11_days 35 rfl) fl_X11_82 rfl (by decide) rfl rfl ck1 ?_
    refine mf_aload_n (mf_dat eX11_days 36 rfl) rfl rfl ?_
    refine mf_getf (r := (RX11, TX11, 20)) (ci := 11) (k := 4) (t := 2) (v := g x0 4) (mf_dat eX11_days 37 rfl) fl_X11_66 rfl (by decide) rfl rfl ck1 ?_
    refine mf_aload_n (mf_dat eX11_days 38 rfl) rfl rfl ?_
    refine mf_getf (r := (RX11, TX11, 20)) (ci := 11) (k := 12) (t := 2) (v := g x0 12) (mf_dat eX11_days 39 rfl) fl_X11_47 rfl (by decide) rfl rfl ck1 ?_
    refine mf_aload_n (mf_dat eX11_days 40 rfl) rfl rfl ?_
    refine mf_getf (r := (RX11, TX11, 20)) (ci := 11) (k := 7) (t := 2) (v := g x0 7) (mf_dat eX11_days 41 rfl) fl_X11_82 rfl (by decide) rfl rfl ck1 ?_
    obtain ⟨ck2, hyp⟩ := hyp
    refine mf_getf (r := (RX6, TX6, 8)) (ci := 6) (k := 7) (t := 0) (v := h (g x0 7) 7) (mf_dat eX11_days 42 rfl) fl_X11_156 rfl (by decide) rfl rfl ck2 ?_
    obtain ⟨ck6, hyp⟩ := hyp
    refine mf_callV (Yc := YX0_openingOf) (r := (RX0, TX0, 1)) (ci := 0) (mf_dat eX11_days 43 rfl) ml_X11_159 okX0_openingOf im_X0_openingOf sl_X0_openingOf rfl rfl rfl rfl (Nat.le_of_ble_eq_true rfl) (mf_rr (Nat.le_trans (by decide) hd) (Nat.le_refl _)) (Nat.le_refl _) ck6 hyp (fun r3 g4 h5 hyp => ?_)
    refine mf_callV (Yc := YX0_passDay) (r := (RX0, TX0, 1)) (ci := 0) (mf_dat eX11_days 44 rfl) ml_X11_278 okX0_passDay im_X0_passDay sl_X0_passDay rfl rfl rfl rfl (Nat.le_of_ble_eq_true rfl) (mf_rr (Nat.le_trans (by decide) hd) (Nat.le_refl _)) (Nat.le_refl _) ck6 hyp (fun r7 g8 h9 hyp => ?_)
    refine mf_iadd (mf_dat eX11_days 45 rfl) ?_
    generalize qv10 : mf_w32 (x2 + r7) = v10
    replace hyp := hyp _ qv10.symm
    refine mf_istore_n (mf_dat eX11_days 46 rfl) rfl (by decide) ?_
    refine mf_iinc (mf_dat eX11_days 47 rfl) rfl (by decide) (by decide) ?_
    generalize qv11 : mf_w32 (x3 + 1) = v11
    replace hyp := hyp _ qv11.symm
    refine mf_goto (tgt := 39) (mf_dat eX11_days 48 rfl) (by decide) ?_
    exact mf_sub [2, 3, 1, 0] rfl hyp
set_option maxRecDepth 100000 in
set_option maxHeartbeats 4000000 in
theorem mX11_days {C : mf_G} {l : Launch} {d n : Nat} {K : mf_Kt} {x0 x1 : Int} {g h : mf_M} (hd : 4 ≤ d) (hyp : ((x1 < 1 → mf_is n x0 11 ∧ mf_is n (g x0 10) 20 ∧ 3 < mf_len (g x0 10) ∧ (∀ h4 : mf_M, h4 = mf_up h (g x0 10) 3 (mf_w32 ((h (g x0 10) 3) + 1)) → K (-1) g h4)) ∧ (¬ x1 < 1 → ((100 < x1 → mf_is n x0 11 ∧ mf_is n (g x0 10) 20 ∧ 3 < mf_len (g x0 10) ∧ (∀ h8 : mf_M, h8 = mf_up h (g x0 10) 3 (mf_w32 ((h (g x0 10) 3) + 1)) → K (-1) g h8)) ∧ (¬ 100 < x1 → mf_is n x0 11 ∧ mf_MT C l 0 YX11_canPass [(2, x0), (0, x1)] n n g h (fun r9 g10 h11 => ((¬ r9 = 0 → mf_MT C l 3 YX11_saveAct [(2, x0)] n n g10 h11 (fun r13 g14 h15 => JX11_days_39 C l d n K x0 x1 0 0 g14 h15)) ∧ (r9 = 0 → mf_is n (g10 x0 10) 20 ∧ 3 < mf_len (g10 x0 10) ∧ (∀ h18 : mf_M, h18 = mf_up h11 (g10 x0 10) 3 (mf_w32 ((h11 (g10 x0 10) 3) + 1)) → K (-1) g10 h18))))))))) : mf_MT C l d YX11_days [(2, x0), (0, x1)] n n g h K := by
  refine mf_entry (by decide) (Nat.le_of_ble_eq_true rfl) ?_
  refine mf_iload_n (mf_dat eX11_days 0 rfl) rfl rfl ?_
  refine mf_iconst (v := 1) (mf_dat eX11_days 1 rfl) (by decide) ?_
  refine mf_icmp_lt (tgt := 19) (mf_dat eX11_days 2 rfl) (by decide) (fun hc => ?_) (fun hc => ?_)
  · replace hyp := hyp.1 hc
    refine mf_aload_n (mf_dat eX11_days 10 rfl) rfl rfl ?_
    obtain ⟨ck1, hyp⟩ := hyp
    refine mf_getf (r := (RX11, TX11, 20)) (ci := 11) (k := 10) (t := 2) (v := g x0 10) (mf_dat eX11_days 11 rfl) fl_X11_93 rfl (by decide) rfl rfl ck1 ?_
    refine mf_iconst (v := 3) (mf_dat eX11_days 12 rfl) (by decide) ?_
    refine mf_dup2 (mf_dat eX11_days 13 rfl) (by decide) (by decide) ?_
    obtain ⟨ck2, hyp⟩ := hyp
    obtain ⟨ck3, hyp⟩ := hyp
    refine mf_iald (mf_dat eX11_days 14 rfl) ck2 (by decide) ck3 ?_
    refine mf_iconst (v := 1) (mf_dat eX11_days 15 rfl) (by decide) ?_
    refine mf_iadd (mf_dat eX11_days 16 rfl) ?_
    refine mf_iast (mf_dat eX11_days 17 rfl) ck2 (by decide) ck3 ?_
    generalize qh4 : mf_up h (g x0 10) 3 (mf_w32 ((h (g x0 10) 3) + 1)) = h4
    replace hyp := hyp _ qh4.symm
    refine mf_iconst (v := (-1)) (mf_dat eX11_days 18 rfl) (by decide) ?_
    exact mf_ireturn (mf_dat eX11_days 19 rfl) rfl (Or.inl rfl) hyp
  · replace hyp := hyp.2 hc
    refine mf_iload_n (mf_dat eX11_days 3 rfl) rfl rfl ?_
    refine mf_bipush (v := 100) (mf_dat eX11_days 4 rfl) (by decide) ?_
    refine mf_icmp_gt (tgt := 19) (mf_dat eX11_days 5 rfl) (by decide) (fun hc => ?_) (fun hc => ?_)
    · replace hyp := hyp.1 hc
      refine mf_aload_n (mf_dat eX11_days 10 rfl) rfl rfl ?_
      obtain ⟨ck5, hyp⟩ := hyp
      refine mf_getf (r := (RX11, TX11, 20)) (ci := 11) (k := 10) (t := 2) (v := g x0 10) (mf_dat eX11_days 11 rfl) fl_X11_93 rfl (by decide) rfl rfl ck5 ?_
      refine mf_iconst (v := 3) (mf_dat eX11_days 12 rfl) (by decide) ?_
      refine mf_dup2 (mf_dat eX11_days 13 rfl) (by decide) (by decide) ?_
      obtain ⟨ck6, hyp⟩ := hyp
      obtain ⟨ck7, hyp⟩ := hyp
      refine mf_iald (mf_dat eX11_days 14 rfl) ck6 (by decide) ck7 ?_
      refine mf_iconst (v := 1) (mf_dat eX11_days 15 rfl) (by decide) ?_
      refine mf_iadd (mf_dat eX11_days 16 rfl) ?_
      refine mf_iast (mf_dat eX11_days 17 rfl) ck6 (by decide) ck7 ?_
      generalize qh8 : mf_up h (g x0 10) 3 (mf_w32 ((h (g x0 10) 3) + 1)) = h8
      replace hyp := hyp _ qh8.symm
      refine mf_iconst (v := (-1)) (mf_dat eX11_days 18 rfl) (by decide) ?_
      exact mf_ireturn (mf_dat eX11_days 19 rfl) rfl (Or.inl rfl) hyp
    · replace hyp := hyp.2 hc
      refine mf_aload_n (mf_dat eX11_days 6 rfl) rfl rfl ?_
      refine mf_iload_n (mf_dat eX11_days 7 rfl) rfl rfl ?_
      obtain ⟨ck12, hyp⟩ := hyp
      refine mf_callV (Yc := YX11_canPass) (r := (RX11, TX11, 20)) (ci := 11) (mf_dat eX11_days 8 rfl) ml_X11_231 okX11_canPass im_X11_canPass sl_X11_canPass rfl rfl rfl rfl (Nat.le_of_ble_eq_true rfl) (mf_rr (Nat.le_trans (by decide) hd) (Nat.le_refl _)) (Nat.le_refl _) ck12 hyp (fun r9 g10 h11 hyp => ?_)
      refine mf_if_ne (tgt := 31) (mf_dat eX11_days 9 rfl) (by decide) (fun hc => ?_) (fun hc => ?_)
      · replace hyp := hyp.1 hc
        refine mf_aload_n (mf_dat eX11_days 20 rfl) rfl rfl ?_
        refine mf_callV (Yc := YX11_saveAct) (r := (RX11, TX11, 20)) (ci := 11) (mf_dat eX11_days 21 rfl) ml_X11_268 okX11_saveAct im_X11_saveAct sl_X11_saveAct rfl rfl rfl rfl (Nat.le_of_ble_eq_true rfl) (mf_rr (Nat.le_trans (by decide) hd) (Nat.le_refl _)) (Nat.le_refl _) ck12 hyp (fun r13 g14 h15 hyp => ?_)
        refine mf_iconst (v := 0) (mf_dat eX11_days 22 rfl) (by decide) ?_
        refine mf_istore_n (mf_dat eX11_days 23 rfl) rfl (by decide) ?_
        refine mf_iconst (v := 0) (mf_dat eX11_days 24 rfl) (by decide) ?_
        refine mf_istore_n (mf_dat eX11_days 25 rfl) rfl (by decide) ?_
        exact mf_sub [2, 3, 1, 0] rfl hyp
      · replace hyp := hyp.2 hc
        refine mf_aload_n (mf_dat eX11_days 10 rfl) rfl rfl ?_
        refine mf_getf (r := (RX11, TX11, 20)) (ci := 11) (k := 10) (t := 2) (v := g10 x0 10) (mf_dat eX11_days 11 rfl) fl_X11_93 rfl (by decide) rfl rfl ck12 ?_
        refine mf_iconst (v := 3) (mf_dat eX11_days 12 rfl) (by decide) ?_
        refine mf_dup2 (mf_dat eX11_days 13 rfl) (by decide) (by decide) ?_
        obtain ⟨ck16, hyp⟩ := hyp
        obtain ⟨ck17, hyp⟩ := hyp
        refine mf_iald (mf_dat eX11_days 14 rfl) ck16 (by decide) ck17 ?_
        refine mf_iconst (v := 1) (mf_dat eX11_days 15 rfl) (by decide) ?_
        refine mf_iadd (mf_dat eX11_days 16 rfl) ?_
        refine mf_iast (mf_dat eX11_days 17 rfl) ck16 (by decide) ck17 ?_
        generalize qh18 : mf_up h11 (g10 x0 10) 3 (mf_w32 ((h11 (g10 x0 10) 3) + 1)) = h18
        replace hyp := hyp _ qh18.symm
        refine mf_iconst (v := (-1)) (mf_dat eX11_days 18 rfl) (by decide) ?_
        exact mf_ireturn (mf_dat eX11_days 19 rfl) rfl (Or.inl rfl) hyp
abbrev JX11_chance_39 (C : mf_G) (l : Launch) (d n : Nat) (K : mf_Kt) (x0 x1 x2 x3 : Int) (g h : mf_M) : Prop := mf_AW C l YX11_chance (mf_rm d n n) n (mf_Zm C YX11_chance n n K) (fun _ _ => True) 39 [(0, (2, x0)), (1, (0, x1)), (2, (0, x2)), (3, (0, x3))] [] n g h
abbrev JX11_chance_100 (C : mf_G) (l : Launch) (d n : Nat) (K : mf_Kt) (x0 x1 x2 x3 : Int) (g h : mf_M) : Prop := mf_AW C l YX11_chance (mf_rm d n n) n (mf_Zm C YX11_chance n n K) (fun _ _ => True) 100 [(0, (2, x0)), (1, (0, x1)), (2, (0, x2)), (3, (0, x3))] [] n g h
set_option maxRecDepth 100000 in
set_option maxHeartbeats 4000000 in
theorem bX11_chance_39 {C : mf_G} {l : Launch} {d n : Nat} {K : mf_Kt} {x0 x1 x2 x3 : Int} {g h : mf_M} (hd : 1 ≤ d) (hyp : ((x1 ≤ x3 → K x2 g h) ∧ (¬ x1 ≤ x3 → mf_is n x0 11 ∧ mf_MT C l 0 YX11_draw [(2, x0), (0, 100)] n n g h (fun r1 g2 h3 => mf_is n (g2 x0 12) 1 ∧ ((h3 (g2 x0 12) 13 ≤ r1 → JX11_chance_100 C l d n K x0 x1 x2 x3 g2 h3) ∧ (¬ h3 (g2 x0 12) 13 ≤ r1 → ((h3 (g2 x0 12) 12 ≤ 0 → JX11_chance_100 C l d n K x0 x1 x2 x3 g2 h3) ∧ (¬ h3 (g2 x0 12) 12 ≤ 0 → mf_MT C l 0 YX11_draw [(2, x0), (0, h3 (g2 x0 12) 12)] n n g2 h3 (fun r6 g7 h8 => mf_is n (g7 x0 7) 6 ∧ mf_is n (g7 (g7 x0 7) 3) 20 ∧ 0 ≤ r6 ∧ r6 < mf_len (g7 (g7 x0 7) 3) ∧ (∀ h13 : mf_M, h13 = mf_up h8 (g7 (g7 x0 7) 3) r6 (mf_w32 ((h8 (g7 (g7 x0 7) 3) r6).tdiv 2)) → (∀ v14 : Int, v14 = mf_w32 (x2 + 1) → JX11_chance_100 C l d n K x0 x1 v14 x3 g7 h13))))))))))) : JX11_chance_39 C l d n K x0 x1 x2 x3 g h := by
  refine mf_iload_n (mf_dat eX11_chance_p0 26 rfl) rfl rfl ?_
  refine mf_iload_n (mf_dat eX11_chance_p0 27 rfl) rfl rfl ?_
  refine mf_icmp_ge (tgt := 140) (mf_dat eX11_chance_p0 28 rfl) (by decide) (fun hc => ?_) (fun hc => ?_)
  · replace hyp := hyp.1 hc
    refine mf_iload_n (mf_dat eX11_chance_p1 14 rfl) rfl rfl ?_
    exact mf_ireturn (mf_dat eX11_chance_p1 15 rfl) rfl (Or.inl rfl) hyp
  · replace hyp := hyp.2 hc
    refine mf_aload_n (mf_dat eX11_chance_p0 29 rfl) rfl rfl ?_
    refine mf_bipush (v := 100) (mf_dat eX11_chance_p0 30 rfl) (by decide) ?_
    obtain ⟨ck4, hyp⟩ := hyp
    refine mf_callV (Yc := YX11_draw) (r := (RX11, TX11, 20)) (ci := 11) (mf_dat eX11_chance_p0 31 rfl) ml_X11_281 okX11_draw im_X11_draw sl_X11_draw rfl rfl rfl rfl (Nat.le_of_ble_eq_true rfl) (mf_rr (Nat.le_trans (by decide) hd) (Nat.le_refl _)) (Nat.le_refl _) ck4 hyp (fun r1 g2 h3 hyp => ?_)
    refine mf_aload_n (mf_dat eX11_chance_p0 32 rfl) rfl rfl ?_
    refine mf_getf (r := (RX11, TX11, 20)) (ci := 11) (k := 12) (t := 2) (v := g2 x0 12) (mf_dat eX11_chance_p0 33 rfl) fl_X11_47 rfl (by decide) rfl rfl ck4 ?_
    obtain ⟨ck5, hyp⟩ := hyp
    refine mf_getf (r := (RX1, TX1, 14)) (ci := 1) (k := 13) (t := 0) (v := h3 (g2 x0 12) 13) (mf_dat eX11_chance_p0 34 rfl) fl_X11_284 rfl (by decide) rfl rfl ck5 ?_
    refine mf_icmp_ge (tgt := 100) (mf_dat eX11_chance_p0 35 rfl) (by decide) (fun hc => ?_) (fun hc => ?_)
    · replace hyp := hyp.1 hc
      exact mf_sub [0, 1, 2, 3] rfl hyp
    · replace hyp := hyp.2 hc
      refine mf_aload_n (mf_dat eX11_chance_p0 36 rfl) rfl rfl ?_
      refine mf_getf (r := (RX11, TX11, 20)) (ci := 11) (k := 12) (t := 2) (v := g2 x0 12) (mf_dat eX11_chance_p0 37 rfl) fl_X11_47 rfl (by decide) rfl rfl ck4 ?_
      refine mf_getf (r := (RX1, TX1, 14)) (ci := 1) (k := 12) (t := 0) (v := h3 (g2 x0 12) 12) (mf_dat eX11_chance_p0 38 rfl) fl_X11_153 rfl (by decide) rfl rfl ck5 ?_
      refine mf_if_le (tgt := 100) (mf_dat eX11_chance_p0 39 rfl) (by decide) (fun hc => ?_) (fun hc => ?_)
      · replace hyp := hyp.1 hc
        exact mf_sub [0, 1, 2, 3] rfl hyp
      · replace hyp := hyp.2 hc
        refine mf_aload_n (mf_dat eX11_chance_p0 40 rfl) rfl rfl ?_
        refine mf_aload_n (mf_dat eX11_chance_p0 41 rfl) rfl rfl ?_
        refine mf_getf (r := (RX11, TX11, 20)) (ci := 11) (k := 12) (t := 2) (v := g2 x0 12) (mf_dat eX11_chance_p0 42 rfl) fl_X11_47 rfl (by decide) rfl rfl ck4 ?_
        refine mf_getf (r := (RX1, TX1, 14)) (ci := 1) (k := 12) (t := 0) (v := h3 (g2 x0 12) 12) (mf_dat eX11_chance_p0 43 rfl) fl_X11_153 rfl (by decide) rfl rfl ck5 ?_
        refine mf_callV (Yc := YX11_draw) (r := (RX11, TX11, 20)) (ci := 11) (mf_dat eX11_chance_p0 44 rfl) ml_X11_281 okX11_draw im_X11_draw sl_X11_draw rfl rfl rfl rfl (Nat.le_of_ble_eq_true rfl) (mf_rr (Nat.le_trans (by decide) hd) (Nat.le_refl _)) (Nat.le_refl _) ck4 hyp (fun r6 g7 h8 hyp => ?_)
        refine mf_istore (mf_dat eX11_chance_p0 45 rfl) (by decide) ?_
        refine mf_aload_n (mf_dat eX11_chance_p0 46 rfl) rfl rfl ?_
        refine mf_getf (r := (RX11, TX11, 20)) (ci := 11) (k := 7) (t := 2) (v := g7 x0 7) (mf_dat eX11_chance_p0 47 rfl) fl_X11_82 rfl (by decide) rfl rfl ck4 ?_
        obtain ⟨ck9, hyp⟩ := hyp
        refine mf_getf (r := (RX6, TX6, 8)) (ci := 6) (k := 3) (t := 2) (v := g7 (g7 x0 7) 3) (mf_dat eX11_chance_p0 48 rfl) fl_X11_189 rfl (by decide) rfl rfl ck9 ?_
        refine mf_iload (mf_dat eX11_chance_p0 49 rfl) rfl ?_
        refine mf_dup2 (mf_dat eX11_chance_p0 50 rfl) (by decide) (by decide) ?_
        obtain ⟨ck10, hyp⟩ := hyp
        obtain ⟨ck11, hyp⟩ := hyp
        obtain ⟨ck12, hyp⟩ := hyp
        refine mf_iald (mf_dat eX11_chance_p0 51 rfl) ck10 ck11 ck12 ?_
        refine mf_iconst (v := 2) (mf_dat eX11_chance_p0 52 rfl) (by decide) ?_
        refine mf_idiv (mf_dat eX11_chance_p0 53 rfl) (by decide) ?_
        refine mf_iast (mf_dat eX11_chance_p0 54 rfl) ck10 ck11 ck12 ?_
        generalize qh13 : mf_up h8 (g7 (g7 x0 7) 3) r6 (mf_w32 ((h8 (g7 (g7 x0 7) 3) r6).tdiv 2)) = h13
        replace hyp := hyp _ qh13.symm
        refine mf_iinc (mf_dat eX11_chance_p0 55 rfl) rfl (by decide) (by decide) ?_
        generalize qv14 : mf_w32 (x2 + 1) = v14
        replace hyp := hyp _ qv14.symm
        exact mf_sub [2, 3, 0, 4] rfl hyp
set_option maxRecDepth 100000 in
set_option maxHeartbeats 4000000 in
theorem bX11_chance_100 {C : mf_G} {l : Launch} {d n : Nat} {K : mf_Kt} {x0 x1 x2 x3 : Int} {g h : mf_M} (hd : 6 ≤ d) (hyp : mf_is n x0 11 ∧ mf_is n (g x0 7) 6 ∧ mf_is n (g x0 4) 0 ∧ mf_MT C l 4 YX0_openingOf [(2, g x0 4), (2, g x0 12), (0, h (g x0 7) 7)] n n g h (fun r3 g4 h5 => mf_MT C l 5 YX0_passDay [(2, g x0 4), (2, g x0 12), (2, g x0 7), (0, r3)] n n g4 h5 (fun r7 g8 h9 => (∀ v10 : Int, v10 = mf_w32 (x3 + 1) → JX11_chance_39 C l d n K x0 x1 x2 v10 g8 h9)))) : JX11_chance_100 C l d n K x0 x1 x2 x3 g h := by
  refine mf_aload_n (mf_dat eX11_chance_p0 56 rfl) rfl rfl ?_
  obtain ⟨ck1, hyp⟩ := hyp
  refine mf_getf (r := (RX11, TX11, 20)) (ci := 11) (k := 4) (t := 2) (v := g x0 4) (mf_dat eX11_chance_p0 57 rfl) fl_X11_66 rfl (by decide) rfl rfl ck1 ?_
  refine mf_aload_n (mf_dat eX11_chance_p0 58 rfl) rfl rfl ?_
  refine mf_getf (r := (RX11, TX11, 20)) (ci := 11) (k := 12) (t := 2) (v := g x0 12) (mf_dat eX11_chance_p0 59 rfl) fl_X11_47 rfl (by decide) rfl rfl ck1 ?_
  refine mf_aload_n (mf_dat eX11_chance_p1 0 rfl) rfl rfl ?_
  refine mf_getf (r := (RX11, TX11, 20)) (ci := 11) (k := 7) (t := 2) (v := g x0 7) (mf_dat eX11_chance_p1 1 rfl) fl_X11_82 rfl (by decide) rfl rfl ck1 ?_
  refine mf_aload_n (mf_dat eX11_chance_p1 2 rfl) rfl rfl ?_
  refine mf_getf (r := (RX11, TX11, 20)) (ci := 11) (k := 4) (t := 2) (v := g x0 4) (mf_dat eX11_chance_p1 3 rfl) fl_X11_66 rfl (by decide) rfl rfl ck1 ?_
  refine mf_aload_n (mf_dat eX11_chance_p1 4 rfl) rfl rfl ?_
  refine mf_getf (r := (RX11, TX11, 20)) (ci := 11) (k := 12) (t := 2) (v := g x0 12) (mf_dat eX11_chance_p1 5 rfl) fl_X11_47 rfl (by decide) rfl rfl ck1 ?_
  refine mf_aload_n (mf_dat eX11_chance_p1 6 rfl) rfl rfl ?_
  refine mf_getf (r := (RX11, TX11, 20)) (ci := 11) (k := 7) (t := 2) (v := g x0 7) (mf_dat eX11_chance_p1 7 rfl) fl_X11_82 rfl (by decide) rfl rfl ck1 ?_
  obtain ⟨ck2, hyp⟩ := hyp
  refine mf_getf (r := (RX6, TX6, 8)) (ci := 6) (k := 7) (t := 0) (v := h (g x0 7) 7) (mf_dat eX11_chance_p1 8 rfl) fl_X11_156 rfl (by decide) rfl rfl ck2 ?_
  obtain ⟨ck6, hyp⟩ := hyp
  refine mf_callV (Yc := YX0_openingOf) (r := (RX0, TX0, 1)) (ci := 0) (mf_dat eX11_chance_p1 9 rfl) ml_X11_159 okX0_openingOf im_X0_openingOf sl_X0_openingOf rfl rfl rfl rfl (Nat.le_of_ble_eq_true rfl) (mf_rr (Nat.le_trans (by decide) hd) (Nat.le_refl _)) (Nat.le_refl _) ck6 hyp (fun r3 g4 h5 hyp => ?_)
  refine mf_callV (Yc := YX0_passDay) (r := (RX0, TX0, 1)) (ci := 0) (mf_dat eX11_chance_p1 10 rfl) ml_X11_278 okX0_passDay im_X0_passDay sl_X0_passDay rfl rfl rfl rfl (Nat.le_of_ble_eq_true rfl) (mf_rr (Nat.le_trans (by decide) hd) (Nat.le_refl _)) (Nat.le_refl _) ck6 hyp (fun r7 g8 h9 hyp => ?_)
  refine mf_pop (mf_dat eX11_chance_p1 11 rfl) (by decide) ?_
  refine mf_iinc (mf_dat eX11_chance_p1 12 rfl) rfl (by decide) (by decide) ?_
  generalize qv10 : mf_w32 (x3 + 1) = v10
  replace hyp := hyp _ qv10.symm
  refine mf_goto (tgt := 39) (mf_dat eX11_chance_p1 13 rfl) (by decide) ?_
  exact mf_sub [1, 2, 3, 0] rfl hyp
set_option maxRecDepth 100000 in
set_option maxHeartbeats 4000000 in
theorem mX11_chance {C : mf_G} {l : Launch} {d n : Nat} {K : mf_Kt} {x0 x1 : Int} {g h : mf_M} (hd : 4 ≤ d) (hyp : ((x1 < 1 → mf_is n x0 11 ∧ mf_is n (g x0 10) 20 ∧ 3 < mf_len (g x0 10) ∧ (∀ h4 : mf_M, h4 = mf_up h (g x0 10) 3 (mf_w32 ((h (g x0 10) 3) + 1)) → K (-1) g h4)) ∧ (¬ x1 < 1 → ((100 < x1 → mf_is n x0 11 ∧ mf_is n (g x0 10) 20 ∧ 3 < mf_len (g x0 10) ∧ (∀ h8 : mf_M, h8 = mf_up h (g x0 10) 3 (mf_w32 ((h (g x0 10) 3) + 1)) → K (-1) g h8)) ∧ (¬ 100 < x1 → mf_is n x0 11 ∧ mf_MT C l 0 YX11_canPass [(2, x0), (0, x1)] n n g h (fun r9 g10 h11 => ((¬ r9 = 0 → mf_MT C l 3 YX11_saveAct [(2, x0)] n n g10 h11 (fun r13 g14 h15 => JX11_chance_39 C l d n K x0 x1 0 0 g14 h15)) ∧ (r9 = 0 → mf_is n (g10 x0 10) 20 ∧ 3 < mf_len (g10 x0 10) ∧ (∀ h18 : mf_M, h18 = mf_up h11 (g10 x0 10) 3 (mf_w32 ((h11 (g10 x0 10) 3) + 1)) → K (-1) g10 h18))))))))) : mf_MT C l d YX11_chance [(2, x0), (0, x1)] n n g h K := by
  refine mf_entry (by decide) (Nat.le_of_ble_eq_true rfl) ?_
  refine mf_iload_n (mf_dat eX11_chance_p0 0 rfl) rfl rfl ?_
  refine mf_iconst (v := 1) (mf_dat eX11_chance_p0 1 rfl) (by decide) ?_
  refine mf_icmp_lt (tgt := 19) (mf_dat eX11_chance_p0 2 rfl) (by decide) (fun hc => ?_) (fun hc => ?_)
  · replace hyp := hyp.1 hc
    refine mf_aload_n (mf_dat eX11_chance_p0 10 rfl) rfl rfl ?_
    obtain ⟨ck1, hyp⟩ := hyp
    refine mf_getf (r := (RX11, TX11, 20)) (ci := 11) (k := 10) (t := 2) (v := g x0 10) (mf_dat eX11_chance_p0 11 rfl) fl_X11_93 rfl (by decide) rfl rfl ck1 ?_
    refine mf_iconst (v := 3) (mf_dat eX11_chance_p0 12 rfl) (by decide) ?_
    refine mf_dup2 (mf_dat eX11_chance_p0 13 rfl) (by decide) (by decide) ?_
    obtain ⟨ck2, hyp⟩ := hyp
    obtain ⟨ck3, hyp⟩ := hyp
    refine mf_iald (mf_dat eX11_chance_p0 14 rfl) ck2 (by decide) ck3 ?_
    refine mf_iconst (v := 1) (mf_dat eX11_chance_p0 15 rfl) (by decide) ?_
    refine mf_iadd (mf_dat eX11_chance_p0 16 rfl) ?_
    refine mf_iast (mf_dat eX11_chance_p0 17 rfl) ck2 (by decide) ck3 ?_
    generalize qh4 : mf_up h (g x0 10) 3 (mf_w32 ((h (g x0 10) 3) + 1)) = h4
    replace hyp := hyp _ qh4.symm
    refine mf_iconst (v := (-1)) (mf_dat eX11_chance_p0 18 rfl) (by decide) ?_
    exact mf_ireturn (mf_dat eX11_chance_p0 19 rfl) rfl (Or.inl rfl) hyp
  · replace hyp := hyp.2 hc
    refine mf_iload_n (mf_dat eX11_chance_p0 3 rfl) rfl rfl ?_
    refine mf_bipush (v := 100) (mf_dat eX11_chance_p0 4 rfl) (by decide) ?_
    refine mf_icmp_gt (tgt := 19) (mf_dat eX11_chance_p0 5 rfl) (by decide) (fun hc => ?_) (fun hc => ?_)
    · replace hyp := hyp.1 hc
      refine mf_aload_n (mf_dat eX11_chance_p0 10 rfl) rfl rfl ?_
      obtain ⟨ck5, hyp⟩ := hyp
      refine mf_getf (r := (RX11, TX11, 20)) (ci := 11) (k := 10) (t := 2) (v := g x0 10) (mf_dat eX11_chance_p0 11 rfl) fl_X11_93 rfl (by decide) rfl rfl ck5 ?_
      refine mf_iconst (v := 3) (mf_dat eX11_chance_p0 12 rfl) (by decide) ?_
      refine mf_dup2 (mf_dat eX11_chance_p0 13 rfl) (by decide) (by decide) ?_
      obtain ⟨ck6, hyp⟩ := hyp
      obtain ⟨ck7, hyp⟩ := hyp
      refine mf_iald (mf_dat eX11_chance_p0 14 rfl) ck6 (by decide) ck7 ?_
      refine mf_iconst (v := 1) (mf_dat eX11_chance_p0 15 rfl) (by decide) ?_
      refine mf_iadd (mf_dat eX11_chance_p0 16 rfl) ?_
      refine mf_iast (mf_dat eX11_chance_p0 17 rfl) ck6 (by decide) ck7 ?_
      generalize qh8 : mf_up h (g x0 10) 3 (mf_w32 ((h (g x0 10) 3) + 1)) = h8
      replace hyp := hyp _ qh8.symm
      refine mf_iconst (v := (-1)) (mf_dat eX11_chance_p0 18 rfl) (by decide) ?_
      exact mf_ireturn (mf_dat eX11_chance_p0 19 rfl) rfl (Or.inl rfl) hyp
    · replace hyp := hyp.2 hc
      refine mf_aload_n (mf_dat eX11_chance_p0 6 rfl) rfl rfl ?_
      refine mf_iload_n (mf_dat eX11_chance_p0 7 rfl) rfl rfl ?_
      obtain ⟨ck12, hyp⟩ := hyp
      refine mf_callV (Yc := YX11_canPass) (r := (RX11, TX11, 20)) (ci := 11) (mf_dat eX11_chance_p0 8 rfl) ml_X11_231 okX11_canPass im_X11_canPass sl_X11_canPass rfl rfl rfl rfl (Nat.le_of_ble_eq_true rfl) (mf_rr (Nat.le_trans (by decide) hd) (Nat.le_refl _)) (Nat.le_refl _) ck12 hyp (fun r9 g10 h11 hyp => ?_)
      refine mf_if_ne (tgt := 31) (mf_dat eX11_chance_p0 9 rfl) (by decide) (fun hc => ?_) (fun hc => ?_)
      · replace hyp := hyp.1 hc
        refine mf_aload_n (mf_dat eX11_chance_p0 20 rfl) rfl rfl ?_
        refine mf_callV (Yc := YX11_saveAct) (r := (RX11, TX11, 20)) (ci := 11) (mf_dat eX11_chance_p0 21 rfl) ml_X11_268 okX11_saveAct im_X11_saveAct sl_X11_saveAct rfl rfl rfl rfl (Nat.le_of_ble_eq_true rfl) (mf_rr (Nat.le_trans (by decide) hd) (Nat.le_refl _)) (Nat.le_refl _) ck12 hyp (fun r13 g14 h15 hyp => ?_)
        refine mf_iconst (v := 0) (mf_dat eX11_chance_p0 22 rfl) (by decide) ?_
        refine mf_istore_n (mf_dat eX11_chance_p0 23 rfl) rfl (by decide) ?_
        refine mf_iconst (v := 0) (mf_dat eX11_chance_p0 24 rfl) (by decide) ?_
        refine mf_istore_n (mf_dat eX11_chance_p0 25 rfl) rfl (by decide) ?_
        exact mf_sub [2, 3, 1, 0] rfl hyp
      · replace hyp := hyp.2 hc
        refine mf_aload_n (mf_dat eX11_chance_p0 10 rfl) rfl rfl ?_
        refine mf_getf (r := (RX11, TX11, 20)) (ci := 11) (k := 10) (t := 2) (v := g10 x0 10) (mf_dat eX11_chance_p0 11 rfl) fl_X11_93 rfl (by decide) rfl rfl ck12 ?_
        refine mf_iconst (v := 3) (mf_dat eX11_chance_p0 12 rfl) (by decide) ?_
        refine mf_dup2 (mf_dat eX11_chance_p0 13 rfl) (by decide) (by decide) ?_
        obtain ⟨ck16, hyp⟩ := hyp
        obtain ⟨ck17, hyp⟩ := hyp
        refine mf_iald (mf_dat eX11_chance_p0 14 rfl) ck16 (by decide) ck17 ?_
        refine mf_iconst (v := 1) (mf_dat eX11_chance_p0 15 rfl) (by decide) ?_
        refine mf_iadd (mf_dat eX11_chance_p0 16 rfl) ?_
        refine mf_iast (mf_dat eX11_chance_p0 17 rfl) ck16 (by decide) ck17 ?_
        generalize qh18 : mf_up h11 (g10 x0 10) 3 (mf_w32 ((h11 (g10 x0 10) 3) + 1)) = h18
        replace hyp := hyp _ qh18.symm
        refine mf_iconst (v := (-1)) (mf_dat eX11_chance_p0 18 rfl) (by decide) ?_
        exact mf_ireturn (mf_dat eX11_chance_p0 19 rfl) rfl (Or.inl rfl) hyp
set_option maxRecDepth 100000 in
set_option maxHeartbeats 4000000 in
theorem mX11_undo {C : mf_G} {l : Launch} {d n : Nat} {K : mf_Kt} {x0 : Int} {g h : mf_M} (hd : 3 ≤ d) (hyp : mf_is n x0 11 ∧ ((¬ h x0 15 = 0 → (∀ h2 : mf_M, h2 = mf_up h x0 15 (mf_w32 ((h x0 15) - 1)) → (∀ h3 : mf_M, h3 = mf_up h2 x0 16 ((mf_w32 ((mf_w32 ((h2 x0 16) + 20)) - 1)).tmod 20) → mf_is n (g x0 9) 25 ∧ 0 ≤ h3 x0 16 ∧ h3 x0 16 < mf_len (g x0 9) ∧ mf_is n (g x0 7) 6 ∧ mf_MT C l 2 YX6_copyAll [(2, g x0 7), (2, g (g x0 9) (h3 x0 16))] n n g h3 (fun r7 g8 h9 => K 1 g8 h9)))) ∧ (h x0 15 = 0 → mf_is n (g x0 10) 20 ∧ 4 < mf_len (g x0 10) ∧ (∀ h13 : mf_M, h13 = mf_up h (g x0 10) 4 (mf_w32 ((h (g x0 10) 4) + 1)) → K 0 g h13)))) : mf_MT C l d YX11_undo [(2, x0)] n n g h K := by
  refine mf_entry (by decide) (Nat.le_of_ble_eq_true rfl) ?_
  refine mf_aload_n (mf_dat eX11_undo 0 rfl) rfl rfl ?_
  obtain ⟨ck1, hyp⟩ := hyp
  refine mf_getf (r := (RX11, TX11, 20)) (ci := 11) (k := 15) (t := 0) (v := h x0 15) (mf_dat eX11_undo 1 rfl) fl_X11_134 rfl (by decide) rfl rfl ck1 ?_
  refine mf_if_ne (tgt := 19) (mf_dat eX11_undo 2 rfl) (by decide) (fun hc => ?_) (fun hc => ?_)
  · replace hyp := hyp.1 hc
    refine mf_aload_n (mf_dat eX11_undo 13 rfl) rfl rfl ?_
    refine mf_dup (mf_dat eX11_undo 14 rfl) (by decide) ?_
    refine mf_getf (r := (RX11, TX11, 20)) (ci := 11) (k := 15) (t := 0) (v := h x0 15) (mf_dat eX11_undo 15 rfl) fl_X11_134 rfl (by decide) rfl rfl ck1 ?_
    refine mf_iconst (v := 1) (mf_dat eX11_undo 16 rfl) (by decide) ?_
    refine mf_isub (mf_dat eX11_undo 17 rfl) ?_
    refine mf_putI (r := (RX11, TX11, 20)) (ci := 11) (k := 15) (kI := 15) (t := 0) (mf_dat eX11_undo 18 rfl) fl_X11_134 rfl rfl (by decide) rfl (by decide) rfl (by decide) (fun h9 => absurd h9 (by decide)) ck1 ?_
    generalize qh2 : mf_up h x0 15 (mf_w32 ((h x0 15) - 1)) = h2
    replace hyp := hyp _ qh2.symm
    refine mf_aload_n (mf_dat eX11_undo 19 rfl) rfl rfl ?_
    refine mf_aload_n (mf_dat eX11_undo 20 rfl) rfl rfl ?_
    refine mf_getf (r := (RX11, TX11, 20)) (ci := 11) (k := 16) (t := 0) (v := h2 x0 16) (mf_dat eX11_undo 21 rfl) fl_X11_287 rfl (by decide) rfl rfl ck1 ?_
    refine mf_bipush (v := 20) (mf_dat eX11_undo 22 rfl) (by decide) ?_
    refine mf_iadd (mf_dat eX11_undo 23 rfl) ?_
    refine mf_iconst (v := 1) (mf_dat eX11_undo 24 rfl) (by decide) ?_
    refine mf_isub (mf_dat eX11_undo 25 rfl) ?_
    refine mf_bipush (v := 20) (mf_dat eX11_undo 26 rfl) (by decide) ?_
    refine mf_irem (mf_dat eX11_undo 27 rfl) (by decide) ?_
    refine mf_putI (r := (RX11, TX11, 20)) (ci := 11) (k := 16) (kI := 16) (t := 0) (mf_dat eX11_undo 28 rfl) fl_X11_287 rfl rfl (by decide) rfl (by decide) rfl (by decide) (fun h9 => absurd h9 (by decide)) ck1 ?_
    generalize qh3 : mf_up h2 x0 16 ((mf_w32 ((mf_w32 ((h2 x0 16) + 20)) - 1)).tmod 20) = h3
    replace hyp := hyp _ qh3.symm
    refine mf_aload_n (mf_dat eX11_undo 29 rfl) rfl rfl ?_
    refine mf_getf (r := (RX11, TX11, 20)) (ci := 11) (k := 7) (t := 2) (v := g x0 7) (mf_dat eX11_undo 30 rfl) fl_X11_82 rfl (by decide) rfl rfl ck1 ?_
    refine mf_aload_n (mf_dat eX11_undo 31 rfl) rfl rfl ?_
    refine mf_getf (r := (RX11, TX11, 20)) (ci := 11) (k := 9) (t := 2) (v := g x0 9) (mf_dat eX11_undo 32 rfl) fl_X11_89 rfl (by decide) rfl rfl ck1 ?_
    refine mf_aload_n (mf_dat eX11_undo 33 rfl) rfl rfl ?_
    refine mf_getf (r := (RX11, TX11, 20)) (ci := 11) (k := 16) (t := 0) (v := h3 x0 16) (mf_dat eX11_undo 34 rfl) fl_X11_287 rfl (by decide) rfl rfl ck1 ?_
    obtain ⟨ck4, hyp⟩ := hyp
    obtain ⟨ck5, hyp⟩ := hyp
    obtain ⟨ck6, hyp⟩ := hyp
    refine mf_aald (mf_dat eX11_undo 35 rfl) ck4 ck5 ck6 ?_
    obtain ⟨ck10, hyp⟩ := hyp
    refine mf_callV (Yc := YX6_copyAll) (r := (RX6, TX6, 8)) (ci := 6) (mf_dat eX11_undo 36 rfl) ml_X11_127 okX6_copyAll im_X6_copyAll sl_X6_copyAll rfl rfl rfl rfl (Nat.le_of_ble_eq_true rfl) (mf_rr (Nat.le_trans (by decide) hd) (Nat.le_refl _)) (Nat.le_refl _) ck10 hyp (fun r7 g8 h9 hyp => ?_)
    refine mf_iconst (v := 1) (mf_dat eX11_undo 37 rfl) (by decide) ?_
    exact mf_ireturn (mf_dat eX11_undo 38 rfl) rfl (Or.inr ⟨rfl, by decide⟩) hyp
  · replace hyp := hyp.2 hc
    refine mf_aload_n (mf_dat eX11_undo 3 rfl) rfl rfl ?_
    refine mf_getf (r := (RX11, TX11, 20)) (ci := 11) (k := 10) (t := 2) (v := g x0 10) (mf_dat eX11_undo 4 rfl) fl_X11_93 rfl (by decide) rfl rfl ck1 ?_
    refine mf_iconst (v := 4) (mf_dat eX11_undo 5 rfl) (by decide) ?_
    refine mf_dup2 (mf_dat eX11_undo 6 rfl) (by decide) (by decide) ?_
    obtain ⟨ck11, hyp⟩ := hyp
    obtain ⟨ck12, hyp⟩ := hyp
    refine mf_iald (mf_dat eX11_undo 7 rfl) ck11 (by decide) ck12 ?_
    refine mf_iconst (v := 1) (mf_dat eX11_undo 8 rfl) (by decide) ?_
    refine mf_iadd (mf_dat eX11_undo 9 rfl) ?_
    refine mf_iast (mf_dat eX11_undo 10 rfl) ck11 (by decide) ck12 ?_
    generalize qh13 : mf_up h (g x0 10) 4 (mf_w32 ((h (g x0 10) 4) + 1)) = h13
    replace hyp := hyp _ qh13.symm
    refine mf_iconst (v := 0) (mf_dat eX11_undo 11 rfl) (by decide) ?_
    exact mf_ireturn (mf_dat eX11_undo 12 rfl) rfl (Or.inr ⟨rfl, by decide⟩) hyp
