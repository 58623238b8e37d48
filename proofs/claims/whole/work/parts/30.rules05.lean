abbrev JX12_isBeingTold_87 (C : mf_G) (l : Launch) (d n : Nat) (K : mf_Kt) (x0 x3 x4 : Int) (g h : mf_M) : Prop := mf_AW C l YX12_isBeingTold (mf_rm d n n) n (mf_Zm C YX12_isBeingTold n n K) (fun _ _ => True) 87 [(0, (2, x0)), (3, (0, x3)), (4, (0, x4))] [] n g h
set_option maxRecDepth 100000 in
set_option maxHeartbeats 4000000 in
theorem bX12_isBeingTold_87 {C : mf_G} {l : Launch} {d n : Nat} {K : mf_Kt} {x0 x3 x4 : Int} {g h : mf_M} (hyp : ((x3 ≤ x4 → K 1 g h) ∧ (¬ x3 ≤ x4 → mf_is n x0 12 ∧ mf_is n (g x0 0) 20 ∧ 0 ≤ x4 ∧ x4 < mf_len (g x0 0) ∧ 0 ≤ x3 ∧ x3 < mf_len (g x0 0) ∧ ((¬ h (g x0 0) x4 = h (g x0 0) x3 → (∀ v7 : Int, v7 = mf_w32 (x4 + 6) → JX12_isBeingTold_87 C l d n K x0 x3 v7 g h)) ∧ (h (g x0 0) x4 = h (g x0 0) x3 → 0 ≤ mf_w32 (x4 + 1) ∧ mf_w32 (x4 + 1) < mf_len (g x0 0) ∧ 0 ≤ mf_w32 (x3 + 1) ∧ mf_w32 (x3 + 1) < mf_len (g x0 0) ∧ ((¬ h (g x0 0) (mf_w32 (x4 + 1)) = h (g x0 0) (mf_w32 (x3 + 1)) → (∀ v12 : Int, v12 = mf_w32 (x4 + 6) → JX12_isBeingTold_87 C l d n K x0 x3 v12 g h)) ∧ (h (g x0 0) (mf_w32 (x4 + 1)) = h (g x0 0) (mf_w32 (x3 + 1)) → K 0 g h))))))) : JX12_isBeingTold_87 C l d n K x0 x3 x4 g h := by
  refine mf_iload (mf_dat eX12_isBeingTold_p0 57 rfl) rfl ?_
  refine mf_iload_n (mf_dat eX12_isBeingTold_p0 58 rfl) rfl rfl ?_
  refine mf_icmp_ge (tgt := 137) (mf_dat eX12_isBeingTold_p0 59 rfl) (by decide) (fun hc => ?_) (fun hc => ?_)
  · replace hyp := hyp.1 hc
    refine mf_iconst (v := 1) (mf_dat eX12_isBeingTold_p1 26 rfl) (by decide) ?_
    exact mf_ireturn (mf_dat eX12_isBeingTold_p1 27 rfl) rfl (Or.inr ⟨rfl, by decide⟩) hyp
  · replace hyp := hyp.2 hc
    refine mf_aload_n (mf_dat eX12_isBeingTold_p1 0 rfl) rfl rfl ?_
    obtain ⟨ck1, hyp⟩ := hyp
    refine mf_getf (r := (RX12, TX12, 106)) (ci := 12) (k := 0) (t := 2) (v := g x0 0) (mf_dat eX12_isBeingTold_p1 1 rfl) fl_X12_7 rfl (by decide) rfl rfl ck1 ?_
    refine mf_iload (mf_dat eX12_isBeingTold_p1 2 rfl) rfl ?_
    obtain ⟨ck2, hyp⟩ := hyp
    obtain ⟨ck3, hyp⟩ := hyp
    obtain ⟨ck4, hyp⟩ := hyp
    refine mf_iald (mf_dat eX12_isBeingTold_p1 3 rfl) ck2 ck3 ck4 ?_
    refine mf_aload_n (mf_dat eX12_isBeingTold_p1 4 rfl) rfl rfl ?_
    refine mf_getf (r := (RX12, TX12, 106)) (ci := 12) (k := 0) (t := 2) (v := g x0 0) (mf_dat eX12_isBeingTold_p1 5 rfl) fl_X12_7 rfl (by decide) rfl rfl ck1 ?_
    refine mf_iload_n (mf_dat eX12_isBeingTold_p1 6 rfl) rfl rfl ?_
    obtain ⟨ck5, hyp⟩ := hyp
    obtain ⟨ck6, hyp⟩ := hyp
    refine mf_iald (mf_dat eX12_isBeingTold_p1 7 rfl) ck2 ck5 ck6 ?_
    refine mf_icmp_ne (tgt := 131) (mf_dat eX12_isBeingTold_p1 8 rfl) (by decide) (fun hc => ?_) (fun hc => ?_)
    · replace hyp := hyp.1 hc
      refine mf_iinc (mf_dat eX12_isBeingTold_p1 24 rfl) rfl (by decide) (by decide) ?_
      generalize qv7 : mf_w32 (x4 + 6) = v7
      replace hyp := hyp _ qv7.symm
      refine mf_goto (tgt := 87) (mf_dat eX12_isBeingTold_p1 25 rfl) (by decide) ?_
      exact mf_sub [1, 2, 0] rfl hyp
    · replace hyp := hyp.2 hc
      refine mf_aload_n (mf_dat eX12_isBeingTold_p1 9 rfl) rfl rfl ?_
      refine mf_getf (r := (RX12, TX12, 106)) (ci := 12) (k := 0) (t := 2) (v := g x0 0) (mf_dat eX12_isBeingTold_p1 10 rfl) fl_X12_7 rfl (by decide) rfl rfl ck1 ?_
      refine mf_iload (mf_dat eX12_isBeingTold_p1 11 rfl) rfl ?_
      refine mf_iconst (v := 1) (mf_dat eX12_isBeingTold_p1 12 rfl) (by decide) ?_
      refine mf_iadd (mf_dat eX12_isBeingTold_p1 13 rfl) ?_
      obtain ⟨ck8, hyp⟩ := hyp
      obtain ⟨ck9, hyp⟩ := hyp
      refine mf_iald (mf_dat eX12_isBeingTold_p1 14 rfl) ck2 ck8 ck9 ?_
      refine mf_aload_n (mf_dat eX12_isBeingTold_p1 15 rfl) rfl rfl ?_
      refine mf_getf (r := (RX12, TX12, 106)) (ci := 12) (k := 0) (t := 2) (v := g x0 0) (mf_dat eX12_isBeingTold_p1 16 rfl) fl_X12_7 rfl (by decide) rfl rfl ck1 ?_
      refine mf_iload_n (mf_dat eX12_isBeingTold_p1 17 rfl) rfl rfl ?_
      refine mf_iconst (v := 1) (mf_dat eX12_isBeingTold_p1 18 rfl) (by decide) ?_
      refine mf_iadd (mf_dat eX12_isBeingTold_p1 19 rfl) ?_
      obtain ⟨ck10, hyp⟩ := hyp
      obtain ⟨ck11, hyp⟩ := hyp
      refine mf_iald (mf_dat eX12_isBeingTold_p1 20 rfl) ck2 ck10 ck11 ?_
      refine mf_icmp_ne (tgt := 131) (mf_dat eX12_isBeingTold_p1 21 rfl) (by decide) (fun hc => ?_) (fun hc => ?_)
      · replace hyp := hyp.1 hc
        refine mf_iinc (mf_dat eX12_isBeingTold_p1 24 rfl) rfl (by decide) (by decide) ?_
        generalize qv12 : mf_w32 (x4 + 6) = v12
        replace hyp := hyp _ qv12.symm
        refine mf_goto (tgt := 87) (mf_dat eX12_isBeingTold_p1 25 rfl) (by decide) ?_
        exact mf_sub [1, 2, 0] rfl hyp
      · replace hyp := hyp.2 hc
        refine mf_iconst (v := 0) (mf_dat eX12_isBeingTold_p1 22 rfl) (by decide) ?_
        exact mf_ireturn (mf_dat eX12_isBeingTold_p1 23 rfl) rfl (Or.inr ⟨rfl, by decide⟩) hyp
set_option maxRecDepth 100000 in
set_option maxHeartbeats 4000000 in
theorem mX12_isBeingTold {C : mf_G} {l : Launch} {d n : Nat} {K : mf_Kt} {x0 x1 x2 : Int} {g h : mf_M} (hd : 2 ≤ d) (hyp : (∀ v1 : Int, v1 = mf_w32 (x1 + (mf_w32 (6 * x2))) → mf_is n x0 12 ∧ mf_is n (g x0 0) 20 ∧ 0 ≤ v1 ∧ v1 < mf_len (g x0 0) ∧ 0 ≤ mf_w32 (v1 + 1) ∧ mf_w32 (v1 + 1) < mf_len (g x0 0) ∧ mf_MT C l 1 YX12_isCell [(2, x0), (0, h (g x0 0) v1), (0, h (g x0 0) (mf_w32 (v1 + 1)))] n n g h (fun r8 g9 h10 => ((r8 = 0 → K 0 g9 h10) ∧ (¬ r8 = 0 → mf_is n (g9 x0 0) 20 ∧ v1 < mf_len (g9 x0 0) ∧ 0 ≤ mf_w32 (2 + (h10 (g9 x0 0) v1)) ∧ mf_w32 (2 + (h10 (g9 x0 0) v1)) < mf_len (g9 x0 0) ∧ mf_w32 (v1 + 1) < mf_len (g9 x0 0) ∧ ((mf_and (mf_shr (h10 (g9 x0 0) (mf_w32 (2 + (h10 (g9 x0 0) v1)))) (h10 (g9 x0 0) (mf_w32 (v1 + 1)))) 1 = 1 → K 0 g9 h10) ∧ (¬ mf_and (mf_shr (h10 (g9 x0 0) (mf_w32 (2 + (h10 (g9 x0 0) v1)))) (h10 (g9 x0 0) (mf_w32 (v1 + 1)))) 1 = 1 → mf_MT C l 0 YX12_twoAt [(2, x0), (0, mf_w32 (v1 + 2))] n n g9 h10 (fun r16 g17 h18 => ((9999 < r16 → K 0 g17 h18) ∧ (¬ 9999 < r16 → mf_MT C l 0 YX12_twoAt [(2, x0), (0, mf_w32 (v1 + 4))] n n g17 h18 (fun r19 g20 h21 => ((r19 ≤ 9999 → JX12_isBeingTold_87 C l d n K x0 v1 x1 g20 h21) ∧ (¬ r19 ≤ 9999 → K 0 g20 h21))))))))))))) : mf_MT C l d YX12_isBeingTold [(2, x0), (0, x1), (0, x2)] n n g h K := by
  refine mf_entry (by decide) (Nat.le_of_ble_eq_true rfl) ?_
  refine mf_iload_n (mf_dat eX12_isBeingTold_p0 0 rfl) rfl rfl ?_
  refine mf_bipush (v := 6) (mf_dat eX12_isBeingTold_p0 1 rfl) (by decide) ?_
  refine mf_iload_n (mf_dat eX12_isBeingTold_p0 2 rfl) rfl rfl ?_
  refine mf_imul (mf_dat eX12_isBeingTold_p0 3 rfl) ?_
  refine mf_iadd (mf_dat eX12_isBeingTold_p0 4 rfl) ?_
  generalize qv1 : mf_w32 (x1 + (mf_w32 (6 * x2))) = v1
  replace hyp := hyp _ qv1.symm
  refine mf_istore_n (mf_dat eX12_isBeingTold_p0 5 rfl) rfl (by decide) ?_
  refine mf_aload_n (mf_dat eX12_isBeingTold_p0 6 rfl) rfl rfl ?_
  refine mf_aload_n (mf_dat eX12_isBeingTold_p0 7 rfl) rfl rfl ?_
  obtain ⟨ck2, hyp⟩ := hyp
  refine mf_getf (r := (RX12, TX12, 106)) (ci := 12) (k := 0) (t := 2) (v := g x0 0) (mf_dat eX12_isBeingTold_p0 8 rfl) fl_X12_7 rfl (by decide) rfl rfl ck2 ?_
  refine mf_iload_n (mf_dat eX12_isBeingTold_p0 9 rfl) rfl rfl ?_
  obtain ⟨ck3, hyp⟩ := hyp
  obtain ⟨ck4, hyp⟩ := hyp
  obtain ⟨ck5, hyp⟩ := hyp
  refine mf_iald (mf_dat eX12_isBeingTold_p0 10 rfl) ck3 ck4 ck5 ?_
  refine mf_aload_n (mf_dat eX12_isBeingTold_p0 11 rfl) rfl rfl ?_
  refine mf_getf (r := (RX12, TX12, 106)) (ci := 12) (k := 0) (t := 2) (v := g x0 0) (mf_dat eX12_isBeingTold_p0 12 rfl) fl_X12_7 rfl (by decide) rfl rfl ck2 ?_
  refine mf_iload_n (mf_dat eX12_isBeingTold_p0 13 rfl) rfl rfl ?_
  refine mf_iconst (v := 1) (mf_dat eX12_isBeingTold_p0 14 rfl) (by decide) ?_
  refine mf_iadd (mf_dat eX12_isBeingTold_p0 15 rfl) ?_
  obtain ⟨ck6, hyp⟩ := hyp
  obtain ⟨ck7, hyp⟩ := hyp
  refine mf_iald (mf_dat eX12_isBeingTold_p0 16 rfl) ck3 ck6 ck7 ?_
  refine mf_callV (Yc := YX12_isCell) (r := (RX12, TX12, 106)) (ci := 12) (mf_dat eX12_isBeingTold_p0 17 rfl) ml_X12_507 okX12_isCell im_X12_isCell sl_X12_isCell rfl rfl rfl rfl (Nat.le_of_ble_eq_true rfl) (mf_rr (Nat.le_trans (by decide) hd) (Nat.le_refl _)) (Nat.le_refl _) ck2 hyp (fun r8 g9 h10 hyp => ?_)
  refine mf_if_eq (tgt := 82) (mf_dat eX12_isBeingTold_p0 18 rfl) (by decide) (fun hc => ?_) (fun hc => ?_)
  · replace hyp := hyp.1 hc
    refine mf_iconst (v := 0) (mf_dat eX12_isBeingTold_p0 53 rfl) (by decide) ?_
    exact mf_ireturn (mf_dat eX12_isBeingTold_p0 54 rfl) rfl (Or.inr ⟨rfl, by decide⟩) hyp
  · replace hyp := hyp.2 hc
    refine mf_aload_n (mf_dat eX12_isBeingTold_p0 19 rfl) rfl rfl ?_
    refine mf_getf (r := (RX12, TX12, 106)) (ci := 12) (k := 0) (t := 2) (v := g9 x0 0) (mf_dat eX12_isBeingTold_p0 20 rfl) fl_X12_7 rfl (by decide) rfl rfl ck2 ?_
    refine mf_iconst (v := 2) (mf_dat eX12_isBeingTold_p0 21 rfl) (by decide) ?_
    refine mf_aload_n (mf_dat eX12_isBeingTold_p0 22 rfl) rfl rfl ?_
    refine mf_getf (r := (RX12, TX12, 106)) (ci := 12) (k := 0) (t := 2) (v := g9 x0 0) (mf_dat eX12_isBeingTold_p0 23 rfl) fl_X12_7 rfl (by decide) rfl rfl ck2 ?_
    refine mf_iload_n (mf_dat eX12_isBeingTold_p0 24 rfl) rfl rfl ?_
    obtain ⟨ck11, hyp⟩ := hyp
    obtain ⟨ck12, hyp⟩ := hyp
    refine mf_iald (mf_dat eX12_isBeingTold_p0 25 rfl) ck11 ck4 ck12 ?_
    refine mf_iadd (mf_dat eX12_isBeingTold_p0 26 rfl) ?_
    obtain ⟨ck13, hyp⟩ := hyp
    obtain ⟨ck14, hyp⟩ := hyp
    refine mf_iald (mf_dat eX12_isBeingTold_p0 27 rfl) ck11 ck13 ck14 ?_
    refine mf_aload_n (mf_dat eX12_isBeingTold_p0 28 rfl) rfl rfl ?_
    refine mf_getf (r := (RX12, TX12, 106)) (ci := 12) (k := 0) (t := 2) (v := g9 x0 0) (mf_dat eX12_isBeingTold_p0 29 rfl) fl_X12_7 rfl (by decide) rfl rfl ck2 ?_
    refine mf_iload_n (mf_dat eX12_isBeingTold_p0 30 rfl) rfl rfl ?_
    refine mf_iconst (v := 1) (mf_dat eX12_isBeingTold_p0 31 rfl) (by decide) ?_
    refine mf_iadd (mf_dat eX12_isBeingTold_p0 32 rfl) ?_
    obtain ⟨ck15, hyp⟩ := hyp
    refine mf_iald (mf_dat eX12_isBeingTold_p0 33 rfl) ck11 ck6 ck15 ?_
    refine mf_ishr (mf_dat eX12_isBeingTold_p0 34 rfl) ?_
    refine mf_iconst (v := 1) (mf_dat eX12_isBeingTold_p0 35 rfl) (by decide) ?_
    refine mf_iand (mf_dat eX12_isBeingTold_p0 36 rfl) ?_
    refine mf_iconst (v := 1) (mf_dat eX12_isBeingTold_p0 37 rfl) (by decide) ?_
    refine mf_icmp_eq (tgt := 82) (mf_dat eX12_isBeingTold_p0 38 rfl) (by decide) (fun hc => ?_) (fun hc => ?_)
    · replace hyp := hyp.1 hc
      refine mf_iconst (v := 0) (mf_dat eX12_isBeingTold_p0 53 rfl) (by decide) ?_
      exact mf_ireturn (mf_dat eX12_isBeingTold_p0 54 rfl) rfl (Or.inr ⟨rfl, by decide⟩) hyp
    · replace hyp := hyp.2 hc
      refine mf_aload_n (mf_dat eX12_isBeingTold_p0 39 rfl) rfl rfl ?_
      refine mf_iload_n (mf_dat eX12_isBeingTold_p0 40 rfl) rfl rfl ?_
      refine mf_iconst (v := 2) (mf_dat eX12_isBeingTold_p0 41 rfl) (by decide) ?_
      refine mf_iadd (mf_dat eX12_isBeingTold_p0 42 rfl) ?_
      refine mf_callV (Yc := YX12_twoAt) (r := (RX12, TX12, 106)) (ci := 12) (mf_dat eX12_isBeingTold_p0 43 rfl) ml_X12_680 okX12_twoAt im_X12_twoAt sl_X12_twoAt rfl rfl rfl rfl (Nat.le_of_ble_eq_true rfl) (mf_rr (Nat.le_trans (by decide) hd) (Nat.le_refl _)) (Nat.le_refl _) ck2 hyp (fun r16 g17 h18 hyp => ?_)
      refine mf_sipush (v := 9999) (mf_dat eX12_isBeingTold_p0 44 rfl) (by decide) ?_
      refine mf_icmp_gt (tgt := 82) (mf_dat eX12_isBeingTold_p0 45 rfl) (by decide) (fun hc => ?_) (fun hc => ?_)
      · replace hyp := hyp.1 hc
        refine mf_iconst (v := 0) (mf_dat eX12_isBeingTold_p0 53 rfl) (by decide) ?_
        exact mf_ireturn (mf_dat eX12_isBeingTold_p0 54 rfl) rfl (Or.inr ⟨rfl, by decide⟩) hyp
      · replace hyp := hyp.2 hc
        refine mf_aload_n (mf_dat eX12_isBeingTold_p0 46 rfl) rfl rfl ?_
        refine mf_iload_n (mf_dat eX12_isBeingTold_p0 47 rfl) rfl rfl ?_
        refine mf_iconst (v := 4) (mf_dat eX12_isBeingTold_p0 48 rfl) (by decide) ?_
        refine mf_iadd (mf_dat eX12_isBeingTold_p0 49 rfl) ?_
        refine mf_callV (Yc := YX12_twoAt) (r := (RX12, TX12, 106)) (ci := 12) (mf_dat eX12_isBeingTold_p0 50 rfl) ml_X12_680 okX12_twoAt im_X12_twoAt sl_X12_twoAt rfl rfl rfl rfl (Nat.le_of_ble_eq_true rfl) (mf_rr (Nat.le_trans (by decide) hd) (Nat.le_refl _)) (Nat.le_refl _) ck2 hyp (fun r19 g20 h21 hyp => ?_)
        refine mf_sipush (v := 9999) (mf_dat eX12_isBeingTold_p0 51 rfl) (by decide) ?_
        refine mf_icmp_le (tgt := 84) (mf_dat eX12_isBeingTold_p0 52 rfl) (by decide) (fun hc => ?_) (fun hc => ?_)
        · replace hyp := hyp.1 hc
          refine mf_iload_n (mf_dat eX12_isBeingTold_p0 55 rfl) rfl rfl ?_
          refine mf_istore (mf_dat eX12_isBeingTold_p0 56 rfl) (by decide) ?_
          exact mf_sub [2, 1, 0] rfl hyp
        · replace hyp := hyp.2 hc
          refine mf_iconst (v := 0) (mf_dat eX12_isBeingTold_p0 53 rfl) (by decide) ?_
          exact mf_ireturn (mf_dat eX12_isBeingTold_p0 54 rfl) rfl (Or.inr ⟨rfl, by decide⟩) hyp
abbrev JX12_isImage_65 (C : mf_G) (l : Launch) (d n : Nat) (K : mf_Kt) (x0 x2 x3 : Int) (g h : mf_M) : Prop := mf_AW C l YX12_isImage (mf_rm d n n) n (mf_Zm C YX12_isImage n n K) (fun _ _ => True) 65 [(0, (2, x0)), (2, (0, x2)), (3, (0, x3))] [] n g h
abbrev JX12_isImage_97 (C : mf_G) (l : Launch) (d n : Nat) (K : mf_Kt) (x0 x2 x3 : Int) (g h : mf_M) : Prop := mf_AW C l YX12_isImage (mf_rm d n n) n (mf_Zm C YX12_isImage n n K) (fun _ _ => True) 97 [(0, (2, x0)), (2, (0, x2)), (3, (0, x3))] [] n g h
set_option maxRecDepth 100000 in
set_option maxHeartbeats 4000000 in
theorem bX12_isImage_65 {C : mf_G} {l : Launch} {d n : Nat} {K : mf_Kt} {x0 x2 x3 : Int} {g h : mf_M} (hyp : ((x2 ≤ x3 → JX12_isImage_97 C l d n K x0 x2 0 g h) ∧ (¬ x2 ≤ x3 → mf_is n x0 12 ∧ mf_is n (g x0 0) 20 ∧ 0 ≤ x3 ∧ x3 < mf_len (g x0 0) ∧ mf_is n (g x0 40) 20 ∧ 3 < mf_len (g x0 40) ∧ ((h (g x0 0) x3 < mf_shl 1 (h (g x0 40) 3) → (∀ v7 : Int, v7 = mf_w32 (x3 + 1) → JX12_isImage_65 C l d n K x0 x2 v7 g h)) ∧ (¬ h (g x0 0) x3 < mf_shl 1 (h (g x0 40) 3) → K 0 g h))))) : JX12_isImage_65 C l d n K x0 x2 x3 g h := by
  refine mf_iload_n (mf_dat eX12_isImage_p0 40 rfl) rfl rfl ?_
  refine mf_iload_n (mf_dat eX12_isImage_p0 41 rfl) rfl rfl ?_
  refine mf_icmp_ge (tgt := 95) (mf_dat eX12_isImage_p0 42 rfl) (by decide) (fun hc => ?_) (fun hc => ?_)
  · replace hyp := hyp.1 hc
    refine mf_iconst (v := 0) (mf_dat eX12_isImage_p0 58 rfl) (by decide) ?_
    refine mf_istore_n (mf_dat eX12_isImage_p0 59 rfl) rfl (by decide) ?_
    exact mf_sub [1, 2, 0] rfl hyp
  · replace hyp := hyp.2 hc
    refine mf_aload_n (mf_dat eX12_isImage_p0 43 rfl) rfl rfl ?_
    obtain ⟨ck1, hyp⟩ := hyp
    refine mf_getf (r := (RX12, TX12, 106)) (ci := 12) (k := 0) (t := 2) (v := g x0 0) (mf_dat eX12_isImage_p0 44 rfl) fl_X12_7 rfl (by decide) rfl rfl ck1 ?_
    refine mf_iload_n (mf_dat eX12_isImage_p0 45 rfl) rfl rfl ?_
    obtain ⟨ck2, hyp⟩ := hyp
    obtain ⟨ck3, hyp⟩ := hyp
    obtain ⟨ck4, hyp⟩ := hyp
    refine mf_iald (mf_dat eX12_isImage_p0 46 rfl) ck2 ck3 ck4 ?_
    refine mf_iconst (v := 1) (mf_dat eX12_isImage_p0 47 rfl) (by decide) ?_
    refine mf_aload_n (mf_dat eX12_isImage_p0 48 rfl) rfl rfl ?_
    refine mf_getf (r := (RX12, TX12, 106)) (ci := 12) (k := 40) (t := 2) (v := g x0 40) (mf_dat eX12_isImage_p0 49 rfl) fl_X12_105 rfl (by decide) rfl rfl ck1 ?_
    refine mf_iconst (v := 3) (mf_dat eX12_isImage_p0 50 rfl) (by decide) ?_
    obtain ⟨ck5, hyp⟩ := hyp
    obtain ⟨ck6, hyp⟩ := hyp
    refine mf_iald (mf_dat eX12_isImage_p0 51 rfl) ck5 (by decide) ck6 ?_
    refine mf_ishl (mf_dat eX12_isImage_p0 52 rfl) ?_
    refine mf_icmp_lt (tgt := 89) (mf_dat eX12_isImage_p0 53 rfl) (by decide) (fun hc => ?_) (fun hc => ?_)
    · replace hyp := hyp.1 hc
      refine mf_iinc (mf_dat eX12_isImage_p0 56 rfl) rfl (by decide) (by decide) ?_
      generalize qv7 : mf_w32 (x3 + 1) = v7
      replace hyp := hyp _ qv7.symm
      refine mf_goto (tgt := 65) (mf_dat eX12_isImage_p0 57 rfl) (by decide) ?_
      exact mf_sub [1, 2, 0] rfl hyp
    · replace hyp := hyp.2 hc
      refine mf_iconst (v := 0) (mf_dat eX12_isImage_p0 54 rfl) (by decide) ?_
      exact mf_ireturn (mf_dat eX12_isImage_p0 55 rfl) rfl (Or.inr ⟨rfl, by decide⟩) hyp
set_option maxRecDepth 100000 in
set_option maxHeartbeats 4000000 in
theorem bX12_isImage_97 {C : mf_G} {l : Launch} {d n : Nat} {K : mf_Kt} {x0 x2 x3 : Int} {g h : mf_M} (hd : 3 ≤ d) (hyp : mf_is n x0 12 ∧ mf_MT C l 0 YX12_beingMany [(2, x0)] n n g h (fun r1 g2 h3 => ((r1 ≤ x3 → K 1 g2 h3) ∧ (¬ r1 ≤ x3 → mf_MT C l 2 YX12_isBeingTold [(2, x0), (0, x2), (0, x3)] n n g2 h3 (fun r5 g6 h7 => ((¬ r5 = 0 → (∀ v8 : Int, v8 = mf_w32 (x3 + 1) → JX12_isImage_97 C l d n K x0 x2 v8 g6 h7)) ∧ (r5 = 0 → K 0 g6 h7))))))) : JX12_isImage_97 C l d n K x0 x2 x3 g h := by
  refine mf_iload_n (mf_dat eX12_isImage_p1 0 rfl) rfl rfl ?_
  refine mf_aload_n (mf_dat eX12_isImage_p1 1 rfl) rfl rfl ?_
  obtain ⟨ck4, hyp⟩ := hyp
  refine mf_callV (Yc := YX12_beingMany) (r := (RX12, TX12, 106)) (ci := 12) (mf_dat eX12_isImage_p1 2 rfl) ml_X12_402 okX12_beingMany im_X12_beingMany sl_X12_beingMany rfl rfl rfl rfl (Nat.le_of_ble_eq_true rfl) (mf_rr (Nat.le_trans (by decide) hd) (Nat.le_refl _)) (Nat.le_refl _) ck4 hyp (fun r1 g2 h3 hyp => ?_)
  refine mf_icmp_ge (tgt := 122) (mf_dat eX12_isImage_p1 3 rfl) (by decide) (fun hc => ?_) (fun hc => ?_)
  · replace hyp := hyp.1 hc
    refine mf_iconst (v := 1) (mf_dat eX12_isImage_p1 13 rfl) (by decide) ?_
    exact mf_ireturn (mf_dat eX12_isImage_p1 14 rfl) rfl (Or.inr ⟨rfl, by decide⟩) hyp
  · replace hyp := hyp.2 hc
    refine mf_aload_n (mf_dat eX12_isImage_p1 4 rfl) rfl rfl ?_
    refine mf_iload_n (mf_dat eX12_isImage_p1 5 rfl) rfl rfl ?_
    refine mf_iload_n (mf_dat eX12_isImage_p1 6 rfl) rfl rfl ?_
    refine mf_callV (Yc := YX12_isBeingTold) (r := (RX12, TX12, 106)) (ci := 12) (mf_dat eX12_isImage_p1 7 rfl) ml_X12_683 okX12_isBeingTold im_X12_isBeingTold sl_X12_isBeingTold rfl rfl rfl rfl (Nat.le_of_ble_eq_true rfl) (mf_rr (Nat.le_trans (by decide) hd) (Nat.le_refl _)) (Nat.le_refl _) ck4 hyp (fun r5 g6 h7 hyp => ?_)
    refine mf_if_ne (tgt := 116) (mf_dat eX12_isImage_p1 8 rfl) (by decide) (fun hc => ?_) (fun hc => ?_)
    · replace hyp := hyp.1 hc
      refine mf_iinc (mf_dat eX12_isImage_p1 11 rfl) rfl (by decide) (by decide) ?_
      generalize qv8 : mf_w32 (x3 + 1) = v8
      replace hyp := hyp _ qv8.symm
      refine mf_goto (tgt := 97) (mf_dat eX12_isImage_p1 12 rfl) (by decide) ?_
      exact mf_sub [1, 2, 0] rfl hyp
    · replace hyp := hyp.2 hc
      refine mf_iconst (v := 0) (mf_dat eX12_isImage_p1 9 rfl) (by decide) ?_
      exact mf_ireturn (mf_dat eX12_isImage_p1 10 rfl) rfl (Or.inr ⟨rfl, by decide⟩) hyp
set_option maxRecDepth 100000 in
set_option maxHeartbeats 4000000 in
theorem mX12_isImage {C : mf_G} {l : Launch} {d n : Nat} {K : mf_Kt} {x0 x1 : Int} {g h : mf_M} (hd : 1 ≤ d) (hyp : mf_is n x0 12 ∧ mf_MT C l 0 YX12_leaves [(2, x0)] n n g h (fun r1 g2 h3 => (∀ v5 : Int, v5 = mf_w32 (2 + r1) → ((h3 x0 54 = 0 → K 0 g2 h3) ∧ (¬ h3 x0 54 = 0 → mf_MT C l 0 YX12_beingMany [(2, x0)] n n g2 h3 (fun r6 g7 h8 => ((¬ x1 = mf_w32 ((mf_w32 (v5 + (mf_w32 (6 * r6)))) + 1) → K 0 g7 h8) ∧ (x1 = mf_w32 ((mf_w32 (v5 + (mf_w32 (6 * r6)))) + 1) → mf_is n (g7 x0 0) 20 ∧ 0 ≤ mf_w32 (x1 - 1) ∧ mf_w32 (x1 - 1) < mf_len (g7 x0 0) ∧ mf_MT C l 0 YX12_checked [(2, g7 x0 0), (0, mf_w32 (x1 - 1))] n n g7 h8 (fun r12 g13 h14 => ((¬ h8 (g7 x0 0) (mf_w32 (x1 - 1)) = r12 → K 0 g13 h14) ∧ (h8 (g7 x0 0) (mf_w32 (x1 - 1)) = r12 → mf_MT C l 0 YX12_twoAt [(2, x0), (0, 0)] n n g13 h14 (fun r15 g16 h17 => ((r15 ≤ 999 → JX12_isImage_65 C l d n K x0 v5 2 g16 h17) ∧ (¬ r15 ≤ 999 → K 0 g16 h17)))))))))))))) : mf_MT C l d YX12_isImage [(2, x0), (0, x1)] n n g h K := by
  refine mf_entry (by decide) (Nat.le_of_ble_eq_true rfl) ?_
  refine mf_iconst (v := 2) (mf_dat eX12_isImage_p0 0 rfl) (by decide) ?_
  refine mf_aload_n (mf_dat eX12_isImage_p0 1 rfl) rfl rfl ?_
  obtain ⟨ck4, hyp⟩ := hyp
  refine mf_callV (Yc := YX12_leaves) (r := (RX12, TX12, 106)) (ci := 12) (mf_dat eX12_isImage_p0 2 rfl) ml_X12_405 okX12_leaves im_X12_leaves sl_X12_leaves rfl rfl rfl rfl (Nat.le_of_ble_eq_true rfl) (mf_rr (Nat.le_trans (by decide) hd) (Nat.le_refl _)) (Nat.le_refl _) ck4 hyp (fun r1 g2 h3 hyp => ?_)
  refine mf_iadd (mf_dat eX12_isImage_p0 3 rfl) ?_
  generalize qv5 : mf_w32 (2 + r1) = v5
  replace hyp := hyp _ qv5.symm
  refine mf_istore_n (mf_dat eX12_isImage_p0 4 rfl) rfl (by decide) ?_
  refine mf_aload_n (mf_dat eX12_isImage_p0 5 rfl) rfl rfl ?_
  refine mf_getf (r := (RX12, TX12, 106)) (ci := 12) (k := 54) (t := 0) (v := h3 x0 54) (mf_dat eX12_isImage_p0 6 rfl) fl_X12_389 rfl (by decide) rfl rfl ck4 ?_
  refine mf_if_eq (tgt := 61) (mf_dat eX12_isImage_p0 7 rfl) (by decide) (fun hc => ?_) (fun hc => ?_)
  · replace hyp := hyp.1 hc
    refine mf_iconst (v := 0) (mf_dat eX12_isImage_p0 36 rfl) (by decide) ?_
    exact mf_ireturn (mf_dat eX12_isImage_p0 37 rfl) rfl (Or.inr ⟨rfl, by decide⟩) hyp
  · replace hyp := hyp.2 hc
    refine mf_iload_n (mf_dat eX12_isImage_p0 8 rfl) rfl rfl ?_
    refine mf_iload_n (mf_dat eX12_isImage_p0 9 rfl) rfl rfl ?_
    refine mf_bipush (v := 6) (mf_dat eX12_isImage_p0 10 rfl) (by decide) ?_
    refine mf_aload_n (mf_dat eX12_isImage_p0 11 rfl) rfl rfl ?_
    refine mf_callV (Yc := YX12_beingMany) (r := (RX12, TX12, 106)) (ci := 12) (mf_dat eX12_isImage_p0 12 rfl) ml_X12_402 okX12_beingMany im_X12_beingMany sl_X12_beingMany rfl rfl rfl rfl (Nat.le_of_ble_eq_true rfl) (mf_rr (Nat.le_trans (by decide) hd) (Nat.le_refl _)) (Nat.le_refl _) ck4 hyp (fun r6 g7 h8 hyp => ?_)
    refine mf_imul (mf_dat eX12_isImage_p0 13 rfl) ?_
    refine mf_iadd (mf_dat eX12_isImage_p0 14 rfl) ?_
    refine mf_iconst (v := 1) (mf_dat eX12_isImage_p0 15 rfl) (by decide) ?_
    refine mf_iadd (mf_dat eX12_isImage_p0 16 rfl) ?_
    refine mf_icmp_ne (tgt := 61) (mf_dat eX12_isImage_p0 17 rfl) (by decide) (fun hc => ?_) (fun hc => ?_)
    · replace hyp := hyp.1 hc
      refine mf_iconst (v := 0) (mf_dat eX12_isImage_p0 36 rfl) (by decide) ?_
      exact mf_ireturn (mf_dat eX12_isImage_p0 37 rfl) rfl (Or.inr ⟨rfl, by decide⟩) hyp
    · replace hyp := hyp.2 hc
      refine mf_aload_n (mf_dat eX12_isImage_p0 18 rfl) rfl rfl ?_
      refine mf_getf (r := (RX12, TX12, 106)) (ci := 12) (k := 0) (t := 2) (v := g7 x0 0) (mf_dat eX12_isImage_p0 19 rfl) fl_X12_7 rfl (by decide) rfl rfl ck4 ?_
      refine mf_iload_n (mf_dat eX12_isImage_p0 20 rfl) rfl rfl ?_
      refine mf_iconst (v := 1) (mf_dat eX12_isImage_p0 21 rfl) (by decide) ?_
      refine mf_isub (mf_dat eX12_isImage_p0 22 rfl) ?_
      obtain ⟨ck9, hyp⟩ := hyp
      obtain ⟨ck10, hyp⟩ := hyp
      obtain ⟨ck11, hyp⟩ := hyp
      refine mf_iald (mf_dat eX12_isImage_p0 23 rfl) ck9 ck10 ck11 ?_
      refine mf_aload_n (mf_dat eX12_isImage_p0 24 rfl) rfl rfl ?_
      refine mf_getf (r := (RX12, TX12, 106)) (ci := 12) (k := 0) (t := 2) (v := g7 x0 0) (mf_dat eX12_isImage_p0 25 rfl) fl_X12_7 rfl (by decide) rfl rfl ck4 ?_
      refine mf_iload_n (mf_dat eX12_isImage_p0 26 rfl) rfl rfl ?_
      refine mf_iconst (v := 1) (mf_dat eX12_isImage_p0 27 rfl) (by decide) ?_
      refine mf_isub (mf_dat eX12_isImage_p0 28 rfl) ?_
      refine mf_callS (Yc := YX12_checked) (mf_dat eX12_isImage_p0 29 rfl) ml_X12_676 okX12_checked sm_X12_checked rfl rfl (Nat.le_of_ble_eq_true rfl) (mf_rr (Nat.le_trans (by decide) hd) (Nat.le_refl _)) (Nat.le_refl _) hyp (fun r12 g13 h14 hyp => ?_)
      refine mf_icmp_ne (tgt := 61) (mf_dat eX12_isImage_p0 30 rfl) (by decide) (fun hc => ?_) (fun hc => ?_)
      · replace hyp := hyp.1 hc
        refine mf_iconst (v := 0) (mf_dat eX12_isImage_p0 36 rfl) (by decide) ?_
        exact mf_ireturn (mf_dat eX12_isImage_p0 37 rfl) rfl (Or.inr ⟨rfl, by decide⟩) hyp
      · replace hyp := hyp.2 hc
        refine mf_aload_n (mf_dat eX12_isImage_p0 31 rfl) rfl rfl ?_
        refine mf_iconst (v := 0) (mf_dat eX12_isImage_p0 32 rfl) (by decide) ?_
        refine mf_callV (Yc := YX12_twoAt) (r := (RX12, TX12, 106)) (ci := 12) (mf_dat eX12_isImage_p0 33 rfl) ml_X12_680 okX12_twoAt im_X12_twoAt sl_X12_twoAt rfl rfl rfl rfl (Nat.le_of_ble_eq_true rfl) (mf_rr (Nat.le_trans (by decide) hd) (Nat.le_refl _)) (Nat.le_refl _) ck4 hyp (fun r15 g16 h17 hyp => ?_)
        refine mf_sipush (v := 999) (mf_dat eX12_isImage_p0 34 rfl) (by decide) ?_
        refine mf_icmp_le (tgt := 63) (mf_dat eX12_isImage_p0 35 rfl) (by decide) (fun hc => ?_) (fun hc => ?_)
        · replace hyp := hyp.1 hc
          refine mf_iconst (v := 2) (mf_dat eX12_isImage_p0 38 rfl) (by decide) ?_
          refine mf_istore_n (mf_dat eX12_isImage_p0 39 rfl) rfl (by decide) ?_
          exact mf_sub [2, 1, 0] rfl hyp
        · replace hyp := hyp.2 hc
          refine mf_iconst (v := 0) (mf_dat eX12_isImage_p0 36 rfl) (by decide) ?_
          exact mf_ireturn (mf_dat eX12_isImage_p0 37 rfl) rfl (Or.inr ⟨rfl, by decide⟩) hyp
abbrev JX12_on_43 (C : mf_G) (l : Launch) (d n : Nat) (K : mf_Kt) (x0 x2 : Int) (g h : mf_M) : Prop := mf_AW C l YX12_on (mf_rm d n n) n (mf_Zm C YX12_on n n K) (fun _ _ => True) 43 [(0, (2, x0)), (2, (0, x2))] [] n g h
abbrev JX12_on_75 (C : mf_G) (l : Launch) (d n : Nat) (K : mf_Kt) (x0 x2 : Int) (g h : mf_M) : Prop := mf_AW C l YX12_on (mf_rm d n n) n (mf_Zm C YX12_on n n K) (fun _ _ => True) 75 [(0, (2, x0)), (2, (0, x2))] [] n g h
set_option maxRecDepth 100000 in
set_option maxHeartbeats 4000000 in
theorem bX12_on_43 {C : mf_G} {l : Launch} {d n : Nat} {K : mf_Kt} {x0 x2 : Int} {g h : mf_M} (hd : 1 ≤ d) (hyp : mf_is n x0 12 ∧ mf_MT C l 0 YX12_leaves [(2, x0)] n n g h (fun r1 g2 h3 => ((r1 ≤ x2 → JX12_on_75 C l d n K x0 0 g2 h3) ∧ (¬ r1 ≤ x2 → mf_is n (g2 x0 0) 20 ∧ 0 ≤ mf_w32 (2 + x2) ∧ mf_w32 (2 + x2) < mf_len (g2 x0 0) ∧ mf_is n (g2 x0 56) 20 ∧ 0 ≤ mf_w32 (1 + x2) ∧ mf_w32 (1 + x2) < mf_len (g2 x0 56) ∧ (∀ h11 : mf_M, h11 = mf_up h3 (g2 x0 56) (mf_w32 (1 + x2)) (h3 (g2 x0 0) (mf_w32 (2 + x2))) → (∀ v12 : Int, v12 = mf_w32 (x2 + 1) → JX12_on_43 C l d n K x0 v12 g2 h11)))))) : JX12_on_43 C l d n K x0 x2 g h := by
  refine mf_iload_n (mf_dat eX12_on_p0 29 rfl) rfl rfl ?_
  refine mf_aload_n (mf_dat eX12_on_p0 30 rfl) rfl rfl ?_
  obtain ⟨ck4, hyp⟩ := hyp
  refine mf_callV (Yc := YX12_leaves) (r := (RX12, TX12, 106)) (ci := 12) (mf_dat eX12_on_p0 31 rfl) ml_X12_405 okX12_leaves im_X12_leaves sl_X12_leaves rfl rfl rfl rfl (Nat.le_of_ble_eq_true rfl) (mf_rr (Nat.le_trans (by decide) hd) (Nat.le_refl _)) (Nat.le_refl _) ck4 hyp (fun r1 g2 h3 hyp => ?_)
  refine mf_icmp_ge (tgt := 73) (mf_dat eX12_on_p0 32 rfl) (by decide) (fun hc => ?_) (fun hc => ?_)
  · replace hyp := hyp.1 hc
    refine mf_iconst (v := 0) (mf_dat eX12_on_p0 47 rfl) (by decide) ?_
    refine mf_istore_n (mf_dat eX12_on_p0 48 rfl) rfl (by decide) ?_
    exact mf_sub [1, 0] rfl hyp
  · replace hyp := hyp.2 hc
    refine mf_aload_n (mf_dat eX12_on_p0 33 rfl) rfl rfl ?_
    refine mf_getf (r := (RX12, TX12, 106)) (ci := 12) (k := 56) (t := 2) (v := g2 x0 56) (mf_dat eX12_on_p0 34 rfl) fl_X12_136 rfl (by decide) rfl rfl ck4 ?_
    refine mf_iconst (v := 1) (mf_dat eX12_on_p0 35 rfl) (by decide) ?_
    refine mf_iload_n (mf_dat eX12_on_p0 36 rfl) rfl rfl ?_
    refine mf_iadd (mf_dat eX12_on_p0 37 rfl) ?_
    refine mf_aload_n (mf_dat eX12_on_p0 38 rfl) rfl rfl ?_
    refine mf_getf (r := (RX12, TX12, 106)) (ci := 12) (k := 0) (t := 2) (v := g2 x0 0) (mf_dat eX12_on_p0 39 rfl) fl_X12_7 rfl (by decide) rfl rfl ck4 ?_
    refine mf_iconst (v := 2) (mf_dat eX12_on_p0 40 rfl) (by decide) ?_
    refine mf_iload_n (mf_dat eX12_on_p0 41 rfl) rfl rfl ?_
    refine mf_iadd (mf_dat eX12_on_p0 42 rfl) ?_
    obtain ⟨ck5, hyp⟩ := hyp
    obtain ⟨ck6, hyp⟩ := hyp
    obtain ⟨ck7, hyp⟩ := hyp
    refine mf_iald (mf_dat eX12_on_p0 43 rfl) ck5 ck6 ck7 ?_
    obtain ⟨ck8, hyp⟩ := hyp
    obtain ⟨ck9, hyp⟩ := hyp
    obtain ⟨ck10, hyp⟩ := hyp
    refine mf_iast (mf_dat eX12_on_p0 44 rfl) ck8 ck9 ck10 ?_
    generalize qh11 : mf_up h3 (g2 x0 56) (mf_w32 (1 + x2)) (h3 (g2 x0 0) (mf_w32 (2 + x2))) = h11
    replace hyp := hyp _ qh11.symm
    refine mf_iinc (mf_dat eX12_on_p0 45 rfl) rfl (by decide) (by decide) ?_
    generalize qv12 : mf_w32 (x2 + 1) = v12
    replace hyp := hyp _ qv12.symm
    refine mf_goto (tgt := 43) (mf_dat eX12_on_p0 46 rfl) (by decide) ?_
    exact mf_sub [1, 0] rfl hyp
set_option maxRecDepth 100000 in
set_option maxHeartbeats 4000000 in
theorem bX12_on_75 {C : mf_G} {l : Launch} {d n : Nat} {K : mf_Kt} {x0 x2 : Int} {g h : mf_M} (hd : 1 ≤ d) (hyp : mf_is n x0 12 ∧ mf_MT C l 0 YX12_beingMany [(2, x0)] n n g h (fun r1 g2 h3 => ((r1 ≤ x2 → mf_is n (g2 x0 56) 20 ∧ 39 < mf_len (g2 x0 56) ∧ (∀ h7 : mf_M, h7 = mf_up h3 (g2 x0 56) 39 0 → (∀ h8 : mf_M, h8 = mf_up h7 x0 69 0 → K 1 g2 h8))) ∧ (¬ r1 ≤ x2 → mf_MT C l 0 YX12_leaves [(2, x0)] n n g2 h3 (fun r9 g10 h11 => (∀ v12 : Int, v12 = mf_w32 ((mf_w32 (2 + r9)) + (mf_w32 (6 * x2))) → mf_is n (g10 x0 0) 20 ∧ 0 ≤ v12 ∧ v12 < mf_len (g10 x0 0) ∧ mf_is n (g10 x0 56) 20 ∧ 0 ≤ mf_w32 (7 + (mf_w32 (4 * x2))) ∧ mf_w32 (7 + (mf_w32 (4 * x2))) < mf_len (g10 x0 56) ∧ (∀ h19 : mf_M, h19 = mf_up h11 (g10 x0 56) (mf_w32 (7 + (mf_w32 (4 * x2)))) (h11 (g10 x0 0) v12) → 0 ≤ mf_w32 (v12 + 1) ∧ mf_w32 (v12 + 1) < mf_len (g10 x0 0) ∧ 0 ≤ mf_w32 ((mf_w32 (7 + (mf_w32 (4 * x2)))) + 1) ∧ mf_w32 ((mf_w32 (7 + (mf_w32 (4 * x2)))) + 1) < mf_len (g10 x0 56) ∧ (∀ h24 : mf_M, h24 = mf_up h19 (g10 x0 56) (mf_w32 ((mf_w32 (7 + (mf_w32 (4 * x2)))) + 1)) (h19 (g10 x0 0) (mf_w32 (v12 + 1))) → mf_MT C l 0 YX12_twoAt [(2, x0), (0, mf_w32 (v12 + 2))] n n g10 h24 (fun r25 g26 h27 => 0 ≤ mf_w32 ((mf_w32 (7 + (mf_w32 (4 * x2)))) + 2) ∧ mf_w32 ((mf_w32 (7 + (mf_w32 (4 * x2)))) + 2) < mf_len (g10 x0 56) ∧ (∀ h30 : mf_M, h30 = mf_up h27 (g10 x0 56) (mf_w32 ((mf_w32 (7 + (mf_w32 (4 * x2)))) + 2)) r25 → mf_MT C l 0 YX12_twoAt [(2, x0), (0, mf_w32 (v12 + 4))] n n g26 h30 (fun r31 g32 h33 => mf_is n (g26 x0 56) 20 ∧ 0 ≤ mf_w32 ((mf_w32 (7 + (mf_w32 (4 * x2)))) + 3) ∧ mf_w32 ((mf_w32 (7 + (mf_w32 (4 * x2)))) + 3) < mf_len (g26 x0 56) ∧ (∀ h37 : mf_M, h37 = mf_up h33 (g26 x0 56) (mf_w32 ((mf_w32 (7 + (mf_w32 (4 * x2)))) + 3)) r31 → (∀ v38 : Int, v38 = mf_w32 (x2 + 1) → JX12_on_75 C l d n K x0 v38 g32 h37))))))))))))) : JX12_on_75 C l d n K x0 x2 g h := by
  refine mf_iload_n (mf_dat eX12_on_p0 49 rfl) rfl rfl ?_
  refine mf_aload_n (mf_dat eX12_on_p0 50 rfl) rfl rfl ?_
  obtain ⟨ck4, hyp⟩ := hyp
  refine mf_callV (Yc := YX12_beingMany) (r := (RX12, TX12, 106)) (ci := 12) (mf_dat eX12_on_p0 51 rfl) ml_X12_402 okX12_beingMany im_X12_beingMany sl_X12_beingMany rfl rfl rfl rfl (Nat.le_of_ble_eq_true rfl) (mf_rr (Nat.le_trans (by decide) hd) (Nat.le_refl _)) (Nat.le_refl _) ck4 hyp (fun r1 g2 h3 hyp => ?_)
  refine mf_icmp_ge (tgt := 179) (mf_dat eX12_on_p0 52 rfl) (by decide) (fun hc => ?_) (fun hc => ?_)
  · replace hyp := hyp.1 hc
    refine mf_aload_n (mf_dat eX12_on_p2 2 rfl) rfl rfl ?_
    refine mf_getf (r := (RX12, TX12, 106)) (ci := 12) (k := 56) (t := 2) (v := g2 x0 56) (mf_dat eX12_on_p2 3 rfl) fl_X12_136 rfl (by decide) rfl rfl ck4 ?_
    refine mf_bipush (v := 39) (mf_dat eX12_on_p2 4 rfl) (by decide) ?_
    refine mf_iconst (v := 0) (mf_dat eX12_on_p2 5 rfl) (by decide) ?_
    obtain ⟨ck5, hyp⟩ := hyp
    obtain ⟨ck6, hyp⟩ := hyp
    refine mf_iast (mf_dat eX12_on_p2 6 rfl) ck5 (by decide) ck6 ?_
    generalize qh7 : mf_up h3 (g2 x0 56) 39 0 = h7
    replace hyp := hyp _ qh7.symm
    refine mf_aload_n (mf_dat eX12_on_p2 7 rfl) rfl rfl ?_
    refine mf_iconst (v := 0) (mf_dat eX12_on_p2 8 rfl) (by decide) ?_
    refine mf_putI (r := (RX12, TX12, 106)) (ci := 12) (k := 69) (kI := 69) (t := 0) (mf_dat eX12_on_p2 9 rfl) fl_X12_396 rfl rfl (by decide) rfl (by decide) rfl (by decide) (fun h9 => absurd h9 (by decide)) ck4 ?_
    generalize qh8 : mf_up h7 x0 69 0 = h8
    replace hyp := hyp _ qh8.symm
    refine mf_iconst (v := 1) (mf_dat eX12_on_p2 10 rfl) (by decide) ?_
    exact mf_ireturn (mf_dat eX12_on_p2 11 rfl) rfl (Or.inr ⟨rfl, by decide⟩) hyp
  · replace hyp := hyp.2 hc
    refine mf_iconst (v := 2) (mf_dat eX12_on_p0 53 rfl) (by decide) ?_
    refine mf_aload_n (mf_dat eX12_on_p0 54 rfl) rfl rfl ?_
    refine mf_callV (Yc := YX12_leaves) (r := (RX12, TX12, 106)) (ci := 12) (mf_dat eX12_on_p0 55 rfl) ml_X12_405 okX12_leaves im_X12_leaves sl_X12_leaves rfl rfl rfl rfl (Nat.le_of_ble_eq_true rfl) (mf_rr (Nat.le_trans (by decide) hd) (Nat.le_refl _)) (Nat.le_refl _) ck4 hyp (fun r9 g10 h11 hyp => ?_)
    refine mf_iadd (mf_dat eX12_on_p0 56 rfl) ?_
    refine mf_bipush (v := 6) (mf_dat eX12_on_p0 57 rfl) (by decide) ?_
    refine mf_iload_n (mf_dat eX12_on_p0 58 rfl) rfl rfl ?_
    refine mf_imul (mf_dat eX12_on_p0 59 rfl) ?_
    refine mf_iadd (mf_dat eX12_on_p1 0 rfl) ?_
    generalize qv12 : mf_w32 ((mf_w32 (2 + r9)) + (mf_w32 (6 * x2))) = v12
    replace hyp := hyp _ qv12.symm
    refine mf_istore_n (mf_dat eX12_on_p1 1 rfl) rfl (by decide) ?_
    refine mf_aload_n (mf_dat eX12_on_p1 2 rfl) rfl rfl ?_
    refine mf_getf (r := (RX12, TX12, 106)) (ci := 12) (k := 56) (t := 2) (v := g10 x0 56) (mf_dat eX12_on_p1 3 rfl) fl_X12_136 rfl (by decide) rfl rfl ck4 ?_
    refine mf_bipush (v := 7) (mf_dat eX12_on_p1 4 rfl) (by decide) ?_
    refine mf_iconst (v := 4) (mf_dat eX12_on_p1 5 rfl) (by decide) ?_
    refine mf_iload_n (mf_dat eX12_on_p1 6 rfl) rfl rfl ?_
    refine mf_imul (mf_dat eX12_on_p1 7 rfl) ?_
    refine mf_iadd (mf_dat eX12_on_p1 8 rfl) ?_
    refine mf_aload_n (mf_dat eX12_on_p1 9 rfl) rfl rfl ?_
    refine mf_getf (r := (RX12, TX12, 106)) (ci := 12) (k := 0) (t := 2) (v := g10 x0 0) (mf_dat eX12_on_p1 10 rfl) fl_X12_7 rfl (by decide) rfl rfl ck4 ?_
    refine mf_iload_n (mf_dat eX12_on_p1 11 rfl) rfl rfl ?_
    obtain ⟨ck13, hyp⟩ := hyp
    obtain ⟨ck14, hyp⟩ := hyp
    obtain ⟨ck15, hyp⟩ := hyp
    refine mf_iald (mf_dat eX12_on_p1 12 rfl) ck13 ck14 ck15 ?_
    obtain ⟨ck16, hyp⟩ := hyp
    obtain ⟨ck17, hyp⟩ := hyp
    obtain ⟨ck18, hyp⟩ := hyp
    refine mf_iast (mf_dat eX12_on_p1 13 rfl) ck16 ck17 ck18 ?_
    generalize qh19 : mf_up h11 (g10 x0 56) (mf_w32 (7 + (mf_w32 (4 * x2)))) (h11 (g10 x0 0) v12) = h19
    replace hyp := hyp _ qh19.symm
    refine mf_aload_n (mf_dat eX12_on_p1 14 rfl) rfl rfl ?_
    refine mf_getf (r := (RX12, TX12, 106)) (ci := 12) (k := 56) (t := 2) (v := g10 x0 56) (mf_dat eX12_on_p1 15 rfl) fl_X12_136 rfl (by decide) rfl rfl ck4 ?_
    refine mf_bipush (v := 7) (mf_dat eX12_on_p1 16 rfl) (by decide) ?_
    refine mf_iconst (v := 4) (mf_dat eX12_on_p1 17 rfl) (by decide) ?_
    refine mf_iload_n (mf_dat eX12_on_p1 18 rfl) rfl rfl ?_
    refine mf_imul (mf_dat eX12_on_p1 19 rfl) ?_
    refine mf_iadd (mf_dat eX12_on_p1 20 rfl) ?_
    refine mf_iconst (v := 1) (mf_dat eX12_on_p1 21 rfl) (by decide) ?_
    refine mf_iadd (mf_dat eX12_on_p1 22 rfl) ?_
    refine mf_aload_n (mf_dat eX12_on_p1 23 rfl) rfl rfl ?_
    refine mf_getf (r := (RX12, TX12, 106)) (ci := 12) (k := 0) (t := 2) (v := g10 x0 0) (mf_dat eX12_on_p1 24 rfl) fl_X12_7 rfl (by decide) rfl rfl ck4 ?_
    refine mf_iload_n (mf_dat eX12_on_p1 25 rfl) rfl rfl ?_
    refine mf_iconst (v := 1) (mf_dat eX12_on_p1 26 rfl) (by decide) ?_
    refine mf_iadd (mf_dat eX12_on_p1 27 rfl) ?_
    obtain ⟨ck20, hyp⟩ := hyp
    obtain ⟨ck21, hyp⟩ := hyp
    refine mf_iald (mf_dat eX12_on_p1 28 rfl) ck13 ck20 ck21 ?_
    obtain ⟨ck22, hyp⟩ := hyp
    obtain ⟨ck23, hyp⟩ := hyp
    refine mf_iast (mf_dat eX12_on_p1 29 rfl) ck16 ck22 ck23 ?_
    generalize qh24 : mf_up h19 (g10 x0 56) (mf_w32 ((mf_w32 (7 + (mf_w32 (4 * x2)))) + 1)) (h19 (g10 x0 0) (mf_w32 (v12 + 1))) = h24
    replace hyp := hyp _ qh24.symm
    refine mf_aload_n (mf_dat eX12_on_p1 30 rfl) rfl rfl ?_
    refine mf_getf (r := (RX12, TX12, 106)) (ci := 12) (k := 56) (t := 2) (v := g10 x0 56) (mf_dat eX12_on_p1 31 rfl) fl_X12_136 rfl (by decide) rfl rfl ck4 ?_
    refine mf_bipush (v := 7) (mf_dat eX12_on_p1 32 rfl) (by decide) ?_
    refine mf_iconst (v := 4) (mf_dat eX12_on_p1 33 rfl) (by decide) ?_
    refine mf_iload_n (mf_dat eX12_on_p1 34 rfl) rfl rfl ?_
    refine mf_imul (mf_dat eX12_on_p1 35 rfl) ?_
    refine mf_iadd (mf_dat eX12_on_p1 36 rfl) ?_
    refine mf_iconst (v := 2) (mf_dat eX12_on_p1 37 rfl) (by decide) ?_
    refine mf_iadd (mf_dat eX12_on_p1 38 rfl) ?_
    refine mf_aload_n (mf_dat eX12_on_p1 39 rfl) rfl rfl ?_
    refine mf_iload_n (mf_dat eX12_on_p1 40 rfl) rfl rfl ?_
    refine mf_iconst (v := 2) (mf_dat eX12_on_p1 41 rfl) (by decide) ?_
    refine mf_iadd (mf_dat eX12_on_p1 42 rfl) ?_
    refine mf_callV (Yc := YX12_twoAt) (r := (RX12, TX12, 106)) (ci := 12) (mf_dat eX12_on_p1 43 rfl) ml_X12_680 okX12_twoAt im_X12_twoAt sl_X12_twoAt rfl rfl rfl rfl (Nat.le_of_ble_eq_true rfl) (mf_rr (Nat.le_trans (by decide) hd) (Nat.le_refl _)) (Nat.le_refl _) ck4 hyp (fun r25 g26 h27 hyp => ?_)
    obtain ⟨ck28, hyp⟩ := hyp
    obtain ⟨ck29, hyp⟩ := hyp
    refine mf_iast (mf_dat eX12_on_p1 44 rfl) ck16 ck28 ck29 ?_
    generalize qh30 : mf_up h27 (g10 x0 56) (mf_w32 ((mf_w32 (7 + (mf_w32 (4 * x2)))) + 2)) r25 = h30
    replace hyp := hyp _ qh30.symm
    refine mf_aload_n (mf_dat eX12_on_p1 45 rfl) rfl rfl ?_
    refine mf_getf (r := (RX12, TX12, 106)) (ci := 12) (k := 56) (t := 2) (v := g26 x0 56) (mf_dat eX12_on_p1 46 rfl) fl_X12_136 rfl (by decide) rfl rfl ck4 ?_
    refine mf_bipush (v := 7) (mf_dat eX12_on_p1 47 rfl) (by decide) ?_
    refine mf_iconst (v := 4) (mf_dat eX12_on_p1 48 rfl) (by decide) ?_
    refine mf_iload_n (mf_dat eX12_on_p1 49 rfl) rfl rfl ?_
    refine mf_imul (mf_dat eX12_on_p1 50 rfl) ?_
    refine mf_iadd (mf_dat eX12_on_p1 51 rfl) ?_
    refine mf_iconst (v := 3) (mf_dat eX12_on_p1 52 rfl) (by decide) ?_
    refine mf_iadd (mf_dat eX12_on_p1 53 rfl) ?_
    refine mf_aload_n (mf_dat eX12_on_p1 54 rfl) rfl rfl ?_
    refine mf_iload_n (mf_dat eX12_on_p1 55 rfl) rfl rfl ?_
    refine mf_iconst (v := 4) (mf_dat eX12_on_p1 56 rfl) (by decide) ?_
    refine mf_iadd (mf_dat eX12_on_p1 57 rfl) ?_
    refine mf_callV (Yc := YX12_twoAt) (r := (RX12, TX12, 106)) (ci := 12) (mf_dat eX12_on_p1 58 rfl) ml_X12_680 okX12_twoAt im_X12_twoAt sl_X12_twoAt rfl rfl rfl rfl (Nat.le_of_ble_eq_true rfl) (mf_rr (Nat.le_trans (by decide) hd) (Nat.le_refl _)) (Nat.le_refl _) ck4 hyp (fun r31 g32 h33 hyp => ?_)
    obtain ⟨ck34, hyp⟩ := hyp
    obtain ⟨ck35, hyp⟩ := hyp
    obtain ⟨ck36, hyp⟩ := hyp
    refine mf_iast (mf_dat eX12_on_p1 59 rfl) ck34 ck35 ck36 ?_
    generalize qh37 : mf_up h33 (g26 x0 56) (mf_w32 ((mf_w32 (7 + (mf_w32 (4 * x2)))) + 3)) r31 = h37
    replace hyp := hyp _ qh37.symm
    refine mf_iinc (mf_dat eX12_on_p2 0 rfl) rfl (by decide) (by decide) ?_
    generalize qv38 : mf_w32 (x2 + 1) = v38
    replace hyp := hyp _ qv38.symm
    refine mf_goto (tgt := 75) (mf_dat eX12_on_p2 1 rfl) (by decide) ?_
    exact mf_sub [2, 0] rfl hyp
set_option maxRecDepth 100000 in
set_option maxHeartbeats 4000000 in
theorem mX12_on {C : mf_G} {l : Launch} {d n : Nat} {K : mf_Kt} {x0 : Int} {g h : mf_M} (hd : 4 ≤ d) (hyp : mf_is n x0 12 ∧ (∀ v2 : Int, v2 = h x0 1 → (∀ h3 : mf_M, h3 = mf_up h x0 1 0 → mf_MT C l 3 YX12_isImage [(2, x0), (0, v2)] n n g h3 (fun r4 g5 h6 => ((¬ r4 = 0 → mf_MT C l 0 YX12_twoAt [(2, x0), (0, 0)] n n g5 h6 (fun r7 g8 h9 => mf_is n (g5 x0 56) 20 ∧ 0 < mf_len (g5 x0 56) ∧ (∀ h12 : mf_M, h12 = mf_up h9 (g5 x0 56) 0 r7 → JX12_on_43 C l d n K x0 0 g8 h12))) ∧ (r4 = 0 → mf_is n (g5 x0 9) 20 ∧ 5 < mf_len (g5 x0 9) ∧ (∀ h15 : mf_M, h15 = mf_up h6 (g5 x0 9) 5 (mf_w32 ((h6 (g5 x0 9) 5) + 1)) → K 0 g5 h15))))))) : mf_MT C l d YX12_on [(2, x0)] n n g h K := by
  refine mf_entry (by decide) (Nat.le_of_ble_eq_true rfl) ?_
  refine mf_aload_n (mf_dat eX12_on_p0 0 rfl) rfl rfl ?_
  obtain ⟨ck1, hyp⟩ := hyp
  refine mf_getf (r := (RX12, TX12, 106)) (ci := 12) (k := 1) (t := 0) (v := h x0 1) (mf_dat eX12_on_p0 1 rfl) fl_X12_240 rfl (by decide) rfl rfl ck1 ?_
  generalize qv2 : h x0 1 = v2
  replace hyp := hyp _ qv2.symm
  refine mf_istore_n (mf_dat eX12_on_p0 2 rfl) rfl (by decide) ?_
  refine mf_aload_n (mf_dat eX12_on_p0 3 rfl) rfl rfl ?_
  refine mf_iconst (v := 0) (mf_dat eX12_on_p0 4 rfl) (by decide) ?_
  refine mf_putI (r := (RX12, TX12, 106)) (ci := 12) (k := 1) (kI := 1) (t := 0) (mf_dat eX12_on_p0 5 rfl) fl_X12_240 rfl rfl (by decide) rfl (by decide) rfl (by decide) (fun h9 => absurd h9 (by decide)) ck1 ?_
  generalize qh3 : mf_up h x0 1 0 = h3
  replace hyp := hyp _ qh3.symm
  refine mf_aload_n (mf_dat eX12_on_p0 6 rfl) rfl rfl ?_
  refine mf_iload_n (mf_dat eX12_on_p0 7 rfl) rfl rfl ?_
  refine mf_callV (Yc := YX12_isImage) (r := (RX12, TX12, 106)) (ci := 12) (mf_dat eX12_on_p0 8 rfl) ml_X12_686 okX12_isImage im_X12_isImage sl_X12_isImage rfl rfl rfl rfl (Nat.le_of_ble_eq_true rfl) (mf_rr (Nat.le_trans (by decide) hd) (Nat.le_refl _)) (Nat.le_refl _) ck1 hyp (fun r4 g5 h6 hyp => ?_)
  refine mf_if_ne (tgt := 30) (mf_dat eX12_on_p0 9 rfl) (by decide) (fun hc => ?_) (fun hc => ?_)
  · replace hyp := hyp.1 hc
    refine mf_aload_n (mf_dat eX12_on_p0 20 rfl) rfl rfl ?_
    refine mf_getf (r := (RX12, TX12, 106)) (ci := 12) (k := 56) (t := 2) (v := g5 x0 56) (mf_dat eX12_on_p0 21 rfl) fl_X12_136 rfl (by decide) rfl rfl ck1 ?_
    refine mf_iconst (v := 0) (mf_dat eX12_on_p0 22 rfl) (by decide) ?_
    refine mf_aload_n (mf_dat eX12_on_p0 23 rfl) rfl rfl ?_
    refine mf_iconst (v := 0) (mf_dat eX12_on_p0 24 rfl) (by decide) ?_
    refine mf_callV (Yc := YX12_twoAt) (r := (RX12, TX12, 106)) (ci := 12) (mf_dat eX12_on_p0 25 rfl) ml_X12_680 okX12_twoAt im_X12_twoAt sl_X12_twoAt rfl rfl rfl rfl (Nat.le_of_ble_eq_true rfl) (mf_rr (Nat.le_trans (by decide) hd) (Nat.le_refl _)) (Nat.le_refl _) ck1 hyp (fun r7 g8 h9 hyp => ?_)
    obtain ⟨ck10, hyp⟩ := hyp
    obtain ⟨ck11, hyp⟩ := hyp
    refine mf_iast (mf_dat eX12_on_p0 26 rfl) ck10 (by decide) ck11 ?_
    generalize qh12 : mf_up h9 (g5 x0 56) 0 r7 = h12
    replace hyp := hyp _ qh12.symm
    refine mf_iconst (v := 0) (mf_dat eX12_on_p0 27 rfl) (by decide) ?_
    refine mf_istore_n (mf_dat eX12_on_p0 28 rfl) rfl (by decide) ?_
    exact mf_sub [2, 0] rfl hyp
  · replace hyp := hyp.2 hc
    refine mf_aload_n (mf_dat eX12_on_p0 10 rfl) rfl rfl ?_
    refine mf_getf (r := (RX12, TX12, 106)) (ci := 12) (k := 9) (t := 2) (v := g5 x0 9) (mf_dat eX12_on_p0 11 rfl) fl_X12_17 rfl (by decide) rfl rfl ck1 ?_
    refine mf_iconst (v := 5) (mf_dat eX12_on_p0 12 rfl) (by decide) ?_
    refine mf_dup2 (mf_dat eX12_on_p0 13 rfl) (by decide) (by decide) ?_
    obtain ⟨ck13, hyp⟩ := hyp
    obtain ⟨ck14, hyp⟩ := hyp
    refine mf_iald (mf_dat eX12_on_p0 14 rfl) ck13 (by decide) ck14 ?_
    refine mf_iconst (v := 1) (mf_dat eX12_on_p0 15 rfl) (by decide) ?_
    refine mf_iadd (mf_dat eX12_on_p0 16 rfl) ?_
    refine mf_iast (mf_dat eX12_on_p0 17 rfl) ck13 (by decide) ck14 ?_
    generalize qh15 : mf_up h6 (g5 x0 9) 5 (mf_w32 ((h6 (g5 x0 9) 5) + 1)) = h15
    replace hyp := hyp _ qh15.symm
    refine mf_iconst (v := 0) (mf_dat eX12_on_p0 18 rfl) (by decide) ?_
    exact mf_ireturn (mf_dat eX12_on_p0 19 rfl) rfl (Or.inr ⟨rfl, by decide⟩) hyp
set_option maxRecDepth 100000 in
set_option maxHeartbeats 4000000 in
theorem mX12_status {C : mf_G} {l : Launch} {d n : Nat} {K : mf_Kt} {x0 x1 : Int} {g h : mf_M} (hd : 1 ≤ d) (hyp : mf_MT C l 0 YX12_isIn [(1, x1), (1, 0), (1, 5)] n n g h (fun r1 g2 h3 => ((r1 = 0 → K (-1) g2 h3) ∧ (¬ r1 = 0 → mf_is n x0 12 ∧ mf_is n (g2 x0 9) 20 ∧ 0 ≤ x1 ∧ x1 < mf_len (g2 x0 9) ∧ K (h3 (g2 x0 9) x1) g2 h3)))) : mf_MT C l d YX12_status [(2, x0), (0, x1)] n n g h K := by
  refine mf_entry (by decide) (Nat.le_of_ble_eq_true rfl) ?_
  refine mf_iload_n (mf_dat eX12_status 0 rfl) rfl rfl ?_
  refine mf_i2l (mf_dat eX12_status 1 rfl) ?_
  refine mf_lconst (v := 0) (mf_dat eX12_status 2 rfl) (by decide) ?_
  refine mf_ldc2 (v := 5) cl_X12_505 (mf_dat eX12_status 3 rfl) (by decide) ?_
  refine mf_callS (Yc := YX12_isIn) (mf_dat eX12_status 4 rfl) ml_X12_286 okX12_isIn sm_X12_isIn rfl rfl (Nat.le_of_ble_eq_true rfl) (mf_rr (Nat.le_trans (by decide) hd) (Nat.le_refl _)) (Nat.le_refl _) hyp (fun r1 g2 h3 hyp => ?_)
  refine mf_if_eq (tgt := 21) (mf_dat eX12_status 5 rfl) (by decide) (fun hc => ?_) (fun hc => ?_)
  · replace hyp := hyp.1 hc
    refine mf_iconst (v := (-1)) (mf_dat eX12_status 11 rfl) (by decide) ?_
    exact mf_ireturn (mf_dat eX12_status 12 rfl) rfl (Or.inl rfl) hyp
  · replace hyp := hyp.2 hc
    refine mf_aload_n (mf_dat eX12_status 6 rfl) rfl rfl ?_
    obtain ⟨ck4, hyp⟩ := hyp
    refine mf_getf (r := (RX12, TX12, 106)) (ci := 12) (k := 9) (t := 2) (v := g2 x0 9) (mf_dat eX12_status 7 rfl) fl_X12_17 rfl (by decide) rfl rfl ck4 ?_
    refine mf_iload_n (mf_dat eX12_status 8 rfl) rfl rfl ?_
    obtain ⟨ck5, hyp⟩ := hyp
    obtain ⟨ck6, hyp⟩ := hyp
    obtain ⟨ck7, hyp⟩ := hyp
    refine mf_iald (mf_dat eX12_status 9 rfl) ck5 ck6 ck7 ?_
    refine mf_goto (tgt := 22) (mf_dat eX12_status 10 rfl) (by decide) ?_
    exact mf_ireturn (mf_dat eX12_status 12 rfl) rfl (Or.inl rfl) hyp
set_option maxRecDepth 100000 in
set_option maxHeartbeats 4000000 in
theorem mJ6_bitCount_0f7a4 {C : mf_G} {l : Launch} {d n : Nat} {K : mf_Kt} {x0 : Int} {g h : mf_M} (hyp : (∀ v1 : Int, v1 = mf_w32 (x0 - (mf_and (mf_ushr x0 1) 1431655765)) → (∀ v2 : Int, v2 = mf_w32 ((mf_and v1 858993459) + (mf_and (mf_ushr v1 2) 858993459)) → (∀ v3 : Int, v3 = mf_and (mf_w32 (v2 + (mf_ushr v2 4))) 252645135 → (∀ v4 : Int, v4 = mf_w32 (v3 + (mf_ushr v3 8)) → (∀ v5 : Int, v5 = mf_w32 (v4 + (mf_ushr v4 16)) → K (mf_and v5 63) g h)))))) : mf_MT C l d YJ6_bitCount_0f7a4 [(0, x0)] n n g h K := by
  refine mf_entry (by decide) (Nat.le_of_ble_eq_true rfl) ?_
  refine mf_iload_n (mf_dat eJ6_bitCount_0f7a4 0 rfl) rfl rfl ?_
  refine mf_iload_n (mf_dat eJ6_bitCount_0f7a4 1 rfl) rfl rfl ?_
  refine mf_iconst (v := 1) (mf_dat eJ6_bitCount_0f7a4 2 rfl) (by decide) ?_
  refine mf_iushr (mf_dat eJ6_bitCount_0f7a4 3 rfl) ?_
  refine mf_ldcw (v := 1431655765) cl_J6_265 (mf_dat eJ6_bitCount_0f7a4 4 rfl) (by decide) ?_
  refine mf_iand (mf_dat eJ6_bitCount_0f7a4 5 rfl) ?_
  refine mf_isub (mf_dat eJ6_bitCount_0f7a4 6 rfl) ?_
  generalize qv1 : mf_w32 (x0 - (mf_and (mf_ushr x0 1) 1431655765)) = v1
  replace hyp := hyp _ qv1.symm
  refine mf_istore_n (mf_dat eJ6_bitCount_0f7a4 7 rfl) rfl (by decide) ?_
  refine mf_iload_n (mf_dat eJ6_bitCount_0f7a4 8 rfl) rfl rfl ?_
  refine mf_ldcw (v := 858993459) cl_J6_266 (mf_dat eJ6_bitCount_0f7a4 9 rfl) (by decide) ?_
  refine mf_iand (mf_dat eJ6_bitCount_0f7a4 10 rfl) ?_
  refine mf_iload_n (mf_dat eJ6_bitCount_0f7a4 11 rfl) rfl rfl ?_
  refine mf_iconst (v := 2) (mf_dat eJ6_bitCount_0f7a4 12 rfl) (by decide) ?_
  refine mf_iushr (mf_dat eJ6_bitCount_0f7a4 13 rfl) ?_
  refine mf_ldcw (v := 858993459) cl_J6_266 (mf_dat eJ6_bitCount_0f7a4 14 rfl) (by decide) ?_
  refine mf_iand (mf_dat eJ6_bitCount_0f7a4 15 rfl) ?_
  refine mf_iadd (mf_dat eJ6_bitCount_0f7a4 16 rfl) ?_
  generalize qv2 : mf_w32 ((mf_and v1 858993459) + (mf_and (mf_ushr v1 2) 858993459)) = v2
  replace hyp := hyp _ qv2.symm
  refine mf_istore_n (mf_dat eJ6_bitCount_0f7a4 17 rfl) rfl (by decide) ?_
  refine mf_iload_n (mf_dat eJ6_bitCount_0f7a4 18 rfl) rfl rfl ?_
  refine mf_iload_n (mf_dat eJ6_bitCount_0f7a4 19 rfl) rfl rfl ?_
  refine mf_iconst (v := 4) (mf_dat eJ6_bitCount_0f7a4 20 rfl) (by decide) ?_
  refine mf_iushr (mf_dat eJ6_bitCount_0f7a4 21 rfl) ?_
  refine mf_iadd (mf_dat eJ6_bitCount_0f7a4 22 rfl) ?_
  refine mf_ldcw (v := 252645135) cl_J6_267 (mf_dat eJ6_bitCount_0f7a4 23 rfl) (by decide) ?_
  refine mf_iand (mf_dat eJ6_bitCount_0f7a4 24 rfl) ?_
  generalize qv3 : mf_and (mf_w32 (v2 + (mf_ushr v2 4))) 252645135 = v3
  replace hyp := hyp _ qv3.symm
  refine mf_istore_n (mf_dat eJ6_bitCount_0f7a4 25 rfl) rfl (by decide) ?_
  refine mf_iload_n (mf_dat eJ6_bitCount_0f7a4 26 rfl) rfl rfl ?_
  refine mf_iload_n (mf_dat eJ6_bitCount_0f7a4 27 rfl) rfl rfl ?_
  refine mf_bipush (v := 8) (mf_dat eJ6_bitCount_0f7a4 28 rfl) (by decide) ?_
  refine mf_iushr (mf_dat eJ6_bitCount_0f7a4 29 rfl) ?_
  refine mf_iadd (mf_dat eJ6_bitCount_0f7a4 30 rfl) ?_
  generalize qv4 : mf_w32 (v3 + (mf_ushr v3 8)) = v4
  replace hyp := hyp _ qv4.symm
  refine mf_istore_n (mf_dat eJ6_bitCount_0f7a4 31 rfl) rfl (by decide) ?_
  refine mf_iload_n (mf_dat eJ6_bitCount_0f7a4 32 rfl) rfl rfl ?_
  refine mf_iload_n (mf_dat eJ6_bitCount_0f7a4 33 rfl) rfl rfl ?_
  refine mf_bipush (v := 16) (mf_dat eJ6_bitCount_0f7a4 34 rfl) (by decide) ?_
  refine mf_iushr (mf_dat eJ6_bitCount_0f7a4 35 rfl) ?_
  refine mf_iadd (mf_dat eJ6_bitCount_0f7a4 36 rfl) ?_
  generalize qv5 : mf_w32 (v4 + (mf_ushr v4 16)) = v5
  replace hyp := hyp _ qv5.symm
  refine mf_istore_n (mf_dat eJ6_bitCount_0f7a4 37 rfl) rfl (by decide) ?_
  refine mf_iload_n (mf_dat eJ6_bitCount_0f7a4 38 rfl) rfl rfl ?_
  refine mf_bipush (v := 63) (mf_dat eJ6_bitCount_0f7a4 39 rfl) (by decide) ?_
  refine mf_iand (mf_dat eJ6_bitCount_0f7a4 40 rfl) ?_
  exact mf_ireturn (mf_dat eJ6_bitCount_0f7a4 41 rfl) rfl (Or.inl rfl) hyp
set_option maxRecDepth 100000 in
set_option maxHeartbeats 4000000 in
theorem mJ9_floorDiv_7cf53 {C : mf_G} {l : Launch} {d n : Nat} {K : mf_Kt} {x0 x1 : Int} {g h : mf_M} (hyp : ¬ x1 = 0 ∧ (∀ v2 : Int, v2 = mf_w32 (x0.tdiv x1) → ((0 ≤ mf_xor x0 x1 → K v2 g h) ∧ (¬ 0 ≤ mf_xor x0 x1 → ((mf_w32 (v2 * x1) = x0 → K v2 g h) ∧ (¬ mf_w32 (v2 * x1) = x0 → K (mf_w32 (v2 - 1)) g h)))))) : mf_MT C l d YJ9_floorDiv_7cf53 [(0, x0), (0, x1)] n n g h K := by
  refine mf_entry (by decide) (Nat.le_of_ble_eq_true rfl) ?_
  refine mf_iload_n (mf_dat eJ9_floorDiv_7cf53 0 rfl) rfl rfl ?_
  refine mf_iload_n (mf_dat eJ9_floorDiv_7cf53 1 rfl) rfl rfl ?_
  obtain ⟨ck1, hyp⟩ := hyp
  refine mf_idiv (mf_dat eJ9_floorDiv_7cf53 2 rfl) ck1 ?_
  generalize qv2 : mf_w32 (x0.tdiv x1) = v2
  replace hyp := hyp _ qv2.symm
  refine mf_istore_n (mf_dat eJ9_floorDiv_7cf53 3 rfl) rfl (by decide) ?_
  refine mf_iload_n (mf_dat eJ9_floorDiv_7cf53 4 rfl) rfl rfl ?_
  refine mf_iload_n (mf_dat eJ9_floorDiv_7cf53 5 rfl) rfl rfl ?_
  refine mf_ixor (mf_dat eJ9_floorDiv_7cf53 6 rfl) ?_
  refine mf_if_ge (tgt := 21) (mf_dat eJ9_floorDiv_7cf53 7 rfl) (by decide) (fun hc => ?_) (fun hc => ?_)
  · replace hyp := hyp.1 hc
    refine mf_iload_n (mf_dat eJ9_floorDiv_7cf53 17 rfl) rfl rfl ?_
    exact mf_ireturn (mf_dat eJ9_floorDiv_7cf53 18 rfl) rfl (Or.inl rfl) hyp
  · replace hyp := hyp.2 hc
    refine mf_iload_n (mf_dat eJ9_floorDiv_7cf53 8 rfl) rfl rfl ?_
    refine mf_iload_n (mf_dat eJ9_floorDiv_7cf53 9 rfl) rfl rfl ?_
    refine mf_imul (mf_dat eJ9_floorDiv_7cf53 10 rfl) ?_
    refine mf_iload_n (mf_dat eJ9_floorDiv_7cf53 11 rfl) rfl rfl ?_
    refine mf_icmp_eq (tgt := 21) (mf_dat eJ9_floorDiv_7cf53 12 rfl) (by decide) (fun hc => ?_) (fun hc => ?_)
    · replace hyp := hyp.1 hc
      refine mf_iload_n (mf_dat eJ9_floorDiv_7cf53 17 rfl) rfl rfl ?_
      exact mf_ireturn (mf_dat eJ9_floorDiv_7cf53 18 rfl) rfl (Or.inl rfl) hyp
    · replace hyp := hyp.2 hc
      refine mf_iload_n (mf_dat eJ9_floorDiv_7cf53 13 rfl) rfl rfl ?_
      refine mf_iconst (v := 1) (mf_dat eJ9_floorDiv_7cf53 14 rfl) (by decide) ?_
      refine mf_isub (mf_dat eJ9_floorDiv_7cf53 15 rfl) ?_
      exact mf_ireturn (mf_dat eJ9_floorDiv_7cf53 16 rfl) rfl (Or.inl rfl) hyp
set_option maxRecDepth 100000 in
set_option maxHeartbeats 4000000 in
theorem mJ9_floorMod_7cf53 {C : mf_G} {l : Launch} {d n : Nat} {K : mf_Kt} {x0 x1 : Int} {g h : mf_M} (hyp : ¬ x1 = 0 ∧ (∀ v2 : Int, v2 = x0.tmod x1 → ((0 ≤ mf_xor x0 x1 → K v2 g h) ∧ (¬ 0 ≤ mf_xor x0 x1 → ((v2 = 0 → K v2 g h) ∧ (¬ v2 = 0 → K (mf_w32 (v2 + x1)) g h)))))) : mf_MT C l d YJ9_floorMod_7cf53 [(0, x0), (0, x1)] n n g h K := by
  refine mf_entry (by decide) (Nat.le_of_ble_eq_true rfl) ?_
  refine mf_iload_n (mf_dat eJ9_floorMod_7cf53 0 rfl) rfl rfl ?_
  refine mf_iload_n (mf_dat eJ9_floorMod_7cf53 1 rfl) rfl rfl ?_
  obtain ⟨ck1, hyp⟩ := hyp
  refine mf_irem (mf_dat eJ9_floorMod_7cf53 2 rfl) ck1 ?_
  generalize qv2 : x0.tmod x1 = v2
  replace hyp := hyp _ qv2.symm
  refine mf_istore_n (mf_dat eJ9_floorMod_7cf53 3 rfl) rfl (by decide) ?_
  refine mf_iload_n (mf_dat eJ9_floorMod_7cf53 4 rfl) rfl rfl ?_
  refine mf_iload_n (mf_dat eJ9_floorMod_7cf53 5 rfl) rfl rfl ?_
  refine mf_ixor (mf_dat eJ9_floorMod_7cf53 6 rfl) ?_
  refine mf_if_ge (tgt := 18) (mf_dat eJ9_floorMod_7cf53 7 rfl) (by decide) (fun hc => ?_) (fun hc => ?_)
  · replace hyp := hyp.1 hc
    refine mf_iload_n (mf_dat eJ9_floorMod_7cf53 14 rfl) rfl rfl ?_
    exact mf_ireturn (mf_dat eJ9_floorMod_7cf53 15 rfl) rfl (Or.inl rfl) hyp
  · replace hyp := hyp.2 hc
    refine mf_iload_n (mf_dat eJ9_floorMod_7cf53 8 rfl) rfl rfl ?_
    refine mf_if_eq (tgt := 18) (mf_dat eJ9_floorMod_7cf53 9 rfl) (by decide) (fun hc => ?_) (fun hc => ?_)
    · replace hyp := hyp.1 hc
      refine mf_iload_n (mf_dat eJ9_floorMod_7cf53 14 rfl) rfl rfl ?_
      exact mf_ireturn (mf_dat eJ9_floorMod_7cf53 15 rfl) rfl (Or.inl rfl) hyp
    · replace hyp := hyp.2 hc
      refine mf_iload_n (mf_dat eJ9_floorMod_7cf53 10 rfl) rfl rfl ?_
      refine mf_iload_n (mf_dat eJ9_floorMod_7cf53 11 rfl) rfl rfl ?_
      refine mf_iadd (mf_dat eJ9_floorMod_7cf53 12 rfl) ?_
      exact mf_ireturn (mf_dat eJ9_floorMod_7cf53 13 rfl) rfl (Or.inl rfl) hyp
set_option maxRecDepth 100000 in
set_option maxHeartbeats 4000000 in
theorem mJ9_abs_0f7a4 {C : mf_G} {l : Launch} {d n : Nat} {K : mf_Kt} {x0 : Int} {g h : mf_M} (hyp : ((0 ≤ x0 → K x0 g h) ∧ (¬ 0 ≤ x0 → K (mf_w32 (-x0)) g h))) : mf_MT C l d YJ9_abs_0f7a4 [(0, x0)] n n g h K := by
  refine mf_entry (by decide) (Nat.le_of_ble_eq_true rfl) ?_
  refine mf_iload_n (mf_dat eJ9_abs_0f7a4 0 rfl) rfl rfl ?_
  refine mf_if_ge (tgt := 9) (mf_dat eJ9_abs_0f7a4 1 rfl) (by decide) (fun hc => ?_) (fun hc => ?_)
  · replace hyp := hyp.1 hc
    refine mf_iload_n (mf_dat eJ9_abs_0f7a4 5 rfl) rfl rfl ?_
    exact mf_ireturn (mf_dat eJ9_abs_0f7a4 6 rfl) rfl (Or.inl rfl) hyp
  · replace hyp := hyp.2 hc
    refine mf_iload_n (mf_dat eJ9_abs_0f7a4 2 rfl) rfl rfl ?_
    refine mf_ineg (mf_dat eJ9_abs_0f7a4 3 rfl) ?_
    refine mf_goto (tgt := 10) (mf_dat eJ9_abs_0f7a4 4 rfl) (by decide) ?_
    exact mf_ireturn (mf_dat eJ9_abs_0f7a4 6 rfl) rfl (Or.inl rfl) hyp
set_option maxRecDepth 100000 in
set_option maxHeartbeats 4000000 in
theorem mJ9_max_7cf53 {C : mf_G} {l : Launch} {d n : Nat} {K : mf_Kt} {x0 x1 : Int} {g h : mf_M} (hyp : ((x0 < x1 → K x1 g h) ∧ (¬ x0 < x1 → K x0 g h))) : mf_MT C l d YJ9_max_7cf53 [(0, x0), (0, x1)] n n g h K := by
  refine mf_entry (by decide) (Nat.le_of_ble_eq_true rfl) ?_
  refine mf_iload_n (mf_dat eJ9_max_7cf53 0 rfl) rfl rfl ?_
  refine mf_iload_n (mf_dat eJ9_max_7cf53 1 rfl) rfl rfl ?_
  refine mf_icmp_lt (tgt := 9) (mf_dat eJ9_max_7cf53 2 rfl) (by decide) (fun hc => ?_) (fun hc => ?_)
  · replace hyp := hyp.1 hc
    refine mf_iload_n (mf_dat eJ9_max_7cf53 5 rfl) rfl rfl ?_
    exact mf_ireturn (mf_dat eJ9_max_7cf53 6 rfl) rfl (Or.inl rfl) hyp
  · replace hyp := hyp.2 hc
    refine mf_iload_n (mf_dat eJ9_max_7cf53 3 rfl) rfl rfl ?_
    refine mf_goto (tgt := 10) (mf_dat eJ9_max_7cf53 4 rfl) (by decide) ?_
    exact mf_ireturn (mf_dat eJ9_max_7cf53 6 rfl) rfl (Or.inl rfl) hyp
set_option maxRecDepth 100000 in
set_option maxHeartbeats 4000000 in
theorem mJ9_max_f86c9 {C : mf_G} {l : Launch} {d n : Nat} {K : mf_Kt} {x0 x2 : Int} {g h : mf_M} (hyp : ((x0 < x2 → K x2 g h) ∧ (¬ x0 < x2 → K x0 g h))) : mf_MT C l d YJ9_max_f86c9 [(1, x0), (1, x2)] n n g h K := by
  refine mf_entry (by decide) (Nat.le_of_ble_eq_true rfl) ?_
  refine mf_lload_n (mf_dat eJ9_max_f86c9 0 rfl) rfl rfl ?_
  refine mf_lload_n (mf_dat eJ9_max_f86c9 1 rfl) rfl rfl ?_
  refine mf_lcmp_lt (tgt := 10) (mf_dat eJ9_max_f86c9 2 rfl) (mf_dat eJ9_max_f86c9 3 rfl) (by decide) (fun hc => ?_) (fun hc => ?_)
  · replace hyp := hyp.1 hc
    refine mf_lload_n (mf_dat eJ9_max_f86c9 6 rfl) rfl rfl ?_
    exact mf_lreturn (mf_dat eJ9_max_f86c9 7 rfl) rfl hyp
  · replace hyp := hyp.2 hc
    refine mf_lload_n (mf_dat eJ9_max_f86c9 4 rfl) rfl rfl ?_
    refine mf_goto (tgt := 11) (mf_dat eJ9_max_f86c9 5 rfl) (by decide) ?_
    exact mf_lreturn (mf_dat eJ9_max_f86c9 7 rfl) rfl hyp
set_option maxRecDepth 100000 in
set_option maxHeartbeats 4000000 in
theorem mJ9_min_7cf53 {C : mf_G} {l : Launch} {d n : Nat} {K : mf_Kt} {x0 x1 : Int} {g h : mf_M} (hyp : ((x1 < x0 → K x1 g h) ∧ (¬ x1 < x0 → K x0 g h))) : mf_MT C l d YJ9_min_7cf53 [(0, x0), (0, x1)] n n g h K := by
  refine mf_entry (by decide) (Nat.le_of_ble_eq_true rfl) ?_
  refine mf_iload_n (mf_dat eJ9_min_7cf53 0 rfl) rfl rfl ?_
  refine mf_iload_n (mf_dat eJ9_min_7cf53 1 rfl) rfl rfl ?_
  refine mf_icmp_gt (tgt := 9) (mf_dat eJ9_min_7cf53 2 rfl) (by decide) (fun hc => ?_) (fun hc => ?_)
  · replace hyp := hyp.1 hc
    refine mf_iload_n (mf_dat eJ9_min_7cf53 5 rfl) rfl rfl ?_
    exact mf_ireturn (mf_dat eJ9_min_7cf53 6 rfl) rfl (Or.inl rfl) hyp
  · replace hyp := hyp.2 hc
    refine mf_iload_n (mf_dat eJ9_min_7cf53 3 rfl) rfl rfl ?_
    refine mf_goto (tgt := 10) (mf_dat eJ9_min_7cf53 4 rfl) (by decide) ?_
    exact mf_ireturn (mf_dat eJ9_min_7cf53 6 rfl) rfl (Or.inl rfl) hyp
set_option maxRecDepth 100000 in
set_option maxHeartbeats 4000000 in
theorem mJ9_min_f86c9 {C : mf_G} {l : Launch} {d n : Nat} {K : mf_Kt} {x0 x2 : Int} {g h : mf_M} (hyp : ((x2 < x0 → K x2 g h) ∧ (¬ x2 < x0 → K x0 g h))) : mf_MT C l d YJ9_min_f86c9 [(1, x0), (1, x2)] n n g h K := by
  refine mf_entry (by decide) (Nat.le_of_ble_eq_true rfl) ?_
  refine mf_lload_n (mf_dat eJ9_min_f86c9 0 rfl) rfl rfl ?_
  refine mf_lload_n (mf_dat eJ9_min_f86c9 1 rfl) rfl rfl ?_
  refine mf_lcmp_gt (tgt := 10) (mf_dat eJ9_min_f86c9 2 rfl) (mf_dat eJ9_min_f86c9 3 rfl) (by decide) (fun hc => ?_) (fun hc => ?_)
  · replace hyp := hyp.1 hc
    refine mf_lload_n (mf_dat eJ9_min_f86c9 6 rfl) rfl rfl ?_
    exact mf_lreturn (mf_dat eJ9_min_f86c9 7 rfl) rfl hyp
  · replace hyp := hyp.2 hc
    refine mf_lload_n (mf_dat eJ9_min_f86c9 4 rfl) rfl rfl ?_
    refine mf_goto (tgt := 11) (mf_dat eJ9_min_f86c9 5 rfl) (by decide) ?_
    exact mf_lreturn (mf_dat eJ9_min_f86c9 7 rfl) rfl hyp
set_option maxRecDepth 100000 in
set_option maxHeartbeats 4000000 in
theorem mJ0_length_8abf5 {C : mf_G} {l : Launch} {d n : Nat} {K : mf_Kt} {x0 : Int} {g h : mf_M} (hd : 1 ≤ d) (hyp : mf_MT C l 0 YJ0_coder_7d493 [(2, x0)] n n g h (fun r1 g2 h3 => K (mf_shr 174 r1) g2 h3)) : mf_MT C l d YJ0_length_8abf5 [(2, x0)] n n g h K := by
  refine mf_entry (by decide) (Nat.le_of_ble_eq_true rfl) ?_
  refine mf_aload_n (mf_dat eJ0_length_8abf5 0 rfl) rfl rfl ?_
  refine mf_getV (mf_dat eJ0_length_8abf5 1 rfl) fl_J0_9 ?_
  refine mf_alenT (mf_dat eJ0_length_8abf5 2 rfl) ?_
  rw [mf_llen]
  refine mf_aload_n (mf_dat eJ0_length_8abf5 3 rfl) rfl rfl ?_
  refine mf_callVT (Yc := YJ0_coder_7d493) (mf_dat eJ0_length_8abf5 4 rfl) ml_J0_335 okJ0_coder_7d493 im_J0_coder_7d493 sl_J0_coder_7d493 rfl rfl rfl (Nat.le_of_ble_eq_true rfl) (mf_rr (Nat.le_trans (by decide) hd) (Nat.le_refl _)) (Nat.le_refl _) hyp (fun r1 g2 h3 hyp => ?_)
  refine mf_ishr (mf_dat eJ0_length_8abf5 5 rfl) ?_
  exact mf_ireturn (mf_dat eJ0_length_8abf5 6 rfl) rfl (Or.inl rfl) hyp
set_option maxRecDepth 100000 in
set_option maxHeartbeats 4000000 in
theorem mJ0_charAt_5068e {C : mf_G} {l : Launch} {d n : Nat} {K : mf_Kt} {x0 x1 : Int} {g h : mf_M} (hd : 4 ≤ d) (hyp : mf_MT C l 0 YJ0_isLatin1_aae02 [(2, x0)] n n g h (fun r1 g2 h3 => ((r1 = 0 → mf_MT C l 3 YJ2_charAt_3b067 [(2, (-4)), (0, x1)] n n g2 h3 (fun r4 g5 h6 => 0 ≤ r4 ∧ r4 < 128 ∧ K r4 g5 h6)) ∧ (¬ r1 = 0 → mf_MT C l 2 YJ1_charAt_3b067 [(2, (-4)), (0, x1)] n n g2 h3 (fun r9 g10 h11 => 0 ≤ r9 ∧ r9 < 128 ∧ K r9 g10 h11))))) : mf_MT C l d YJ0_charAt_5068e [(2, x0), (0, x1)] n n g h K := by
  refine mf_entry (by decide) (Nat.le_of_ble_eq_true rfl) ?_
  refine mf_aload_n (mf_dat eJ0_charAt_5068e 0 rfl) rfl rfl ?_
  refine mf_callVT (Yc := YJ0_isLatin1_aae02) (mf_dat eJ0_charAt_5068e 1 rfl) ml_J0_492 okJ0_isLatin1_aae02 im_J0_isLatin1_aae02 sl_J0_isLatin1_aae02 rfl rfl rfl (Nat.le_of_ble_eq_true rfl) (mf_rr (Nat.le_trans (by decide) hd) (Nat.le_refl _)) (Nat.le_refl _) hyp (fun r1 g2 h3 hyp => ?_)
  refine mf_if_eq (tgt := 16) (mf_dat eJ0_charAt_5068e 2 rfl) (by decide) (fun hc => ?_) (fun hc => ?_)
  · replace hyp := hyp.1 hc
    refine mf_aload_n (mf_dat eJ0_charAt_5068e 8 rfl) rfl rfl ?_
    refine mf_getV (mf_dat eJ0_charAt_5068e 9 rfl) fl_J0_9 ?_
    refine mf_iload_n (mf_dat eJ0_charAt_5068e 10 rfl) rfl rfl ?_
    refine mf_callS (Yc := YJ2_charAt_3b067) (mf_dat eJ0_charAt_5068e 11 rfl) ml_J0_498 okJ2_charAt_3b067 sm_J2_charAt_3b067 rfl rfl (Nat.le_of_ble_eq_true rfl) (mf_rr (Nat.le_trans (by decide) hd) (Nat.le_refl _)) (Nat.le_refl _) hyp (fun r4 g5 h6 hyp => ?_)
    obtain ⟨ck7, hyp⟩ := hyp
    obtain ⟨ck8, hyp⟩ := hyp
    exact mf_creturn (mf_dat eJ0_charAt_5068e 12 rfl) rfl (Or.inl rfl) ck7 ck8 hyp
  · replace hyp := hyp.2 hc
    refine mf_aload_n (mf_dat eJ0_charAt_5068e 3 rfl) rfl rfl ?_
    refine mf_getV (mf_dat eJ0_charAt_5068e 4 rfl) fl_J0_9 ?_
    refine mf_iload_n (mf_dat eJ0_charAt_5068e 5 rfl) rfl rfl ?_
    refine mf_callS (Yc := YJ1_charAt_3b067) (mf_dat eJ0_charAt_5068e 6 rfl) ml_J0_495 okJ1_charAt_3b067 sm_J1_charAt_3b067 rfl rfl (Nat.le_of_ble_eq_true rfl) (mf_rr (Nat.le_trans (by decide) hd) (Nat.le_refl _)) (Nat.le_refl _) hyp (fun r9 g10 h11 hyp => ?_)
    obtain ⟨ck12, hyp⟩ := hyp
    obtain ⟨ck13, hyp⟩ := hyp
    exact mf_creturn (mf_dat eJ0_charAt_5068e 7 rfl) rfl (Or.inl rfl) ck12 ck13 hyp
set_option maxRecDepth 100000 in
set_option maxHeartbeats 4000000 in
theorem mJ0_coder_7d493 {C : mf_G} {l : Launch} {d n : Nat} {K : mf_Kt} {x0 : Int} {g h : mf_M} (hyp : ((1 = 0 → K 1 g h) ∧ (¬ 1 = 0 → K 0 g h))) : mf_MT C l d YJ0_coder_7d493 [(2, x0)] n n g h K := by
  refine mf_entry (by decide) (Nat.le_of_ble_eq_true rfl) ?_
  refine mf_getsC (mf_dat eJ0_coder_7d493 0 rfl) fl_J0_38 ?_
  refine mf_if_eq (tgt := 13) (mf_dat eJ0_coder_7d493 1 rfl) (by decide) (fun hc => ?_) (fun hc => ?_)
  · replace hyp := hyp.1 hc
    refine mf_iconst (v := 1) (mf_dat eJ0_coder_7d493 5 rfl) (by decide) ?_
    exact mf_creturn (mf_dat eJ0_coder_7d493 6 rfl) rfl (Or.inr rfl) (by decide) (by decide) hyp
  · replace hyp := hyp.2 hc
    refine mf_aload_n (mf_dat eJ0_coder_7d493 2 rfl) rfl rfl ?_
    refine mf_getCo (mf_dat eJ0_coder_7d493 3 rfl) fl_J0_15 ?_
    refine mf_goto (tgt := 14) (mf_dat eJ0_coder_7d493 4 rfl) (by decide) ?_
    exact mf_creturn (mf_dat eJ0_coder_7d493 6 rfl) rfl (Or.inr rfl) (by decide) (by decide) hyp
set_option maxRecDepth 100000 in
set_option maxHeartbeats 4000000 in
theorem mJ0_isLatin1_aae02 {C : mf_G} {l : Launch} {d n : Nat} {K : mf_Kt} {x0 : Int} {g h : mf_M} (hyp : ((1 = 0 → K 0 g h) ∧ (¬ 1 = 0 → ((¬ 0 = 0 → K 0 g h) ∧ (0 = 0 → K 1 g h))))) : mf_MT C l d YJ0_isLatin1_aae02 [(2, x0)] n n g h K := by
  refine mf_entry (by decide) (Nat.le_of_ble_eq_true rfl) ?_
  refine mf_getsC (mf_dat eJ0_isLatin1_aae02 0 rfl) fl_J0_38 ?_
  refine mf_if_eq (tgt := 17) (mf_dat eJ0_isLatin1_aae02 1 rfl) (by decide) (fun hc => ?_) (fun hc => ?_)
  · replace hyp := hyp.1 hc
    refine mf_iconst (v := 0) (mf_dat eJ0_isLatin1_aae02 7 rfl) (by decide) ?_
    exact mf_ireturn (mf_dat eJ0_isLatin1_aae02 8 rfl) rfl (Or.inr ⟨rfl, by decide⟩) hyp
  · replace hyp := hyp.2 hc
    refine mf_aload_n (mf_dat eJ0_isLatin1_aae02 2 rfl) rfl rfl ?_
    refine mf_getCo (mf_dat eJ0_isLatin1_aae02 3 rfl) fl_J0_15 ?_
    refine mf_if_ne (tgt := 17) (mf_dat eJ0_isLatin1_aae02 4 rfl) (by decide) (fun hc => ?_) (fun hc => ?_)
    · replace hyp := hyp.1 hc
      refine mf_iconst (v := 0) (mf_dat eJ0_isLatin1_aae02 7 rfl) (by decide) ?_
      exact mf_ireturn (mf_dat eJ0_isLatin1_aae02 8 rfl) rfl (Or.inr ⟨rfl, by decide⟩) hyp
    · replace hyp := hyp.2 hc
      refine mf_iconst (v := 1) (mf_dat eJ0_isLatin1_aae02 5 rfl) (by decide) ?_
      refine mf_goto (tgt := 18) (mf_dat eJ0_isLatin1_aae02 6 rfl) (by decide) ?_
      exact mf_ireturn (mf_dat eJ0_isLatin1_aae02 8 rfl) rfl (Or.inr ⟨rfl, by decide⟩) hyp
set_option maxRecDepth 100000 in
set_option maxHeartbeats 4000000 in
theorem mJ0_checkIndex_df160 {C : mf_G} {l : Launch} {d n : Nat} {K : mf_Kt} {x0 x1 : Int} {g h : mf_M} (hd : 1 ≤ d) (hyp : mf_MT C l 0 YJ3_checkIndex_8e157 [(0, x0), (0, x1), (2, (-5))] n n g h (fun r1 g2 h3 => K 0 g2 h3)) : mf_MT C l d YJ0_checkIndex_df160 [(0, x0), (0, x1)] n n g h K := by
  refine mf_entry (by decide) (Nat.le_of_ble_eq_true rfl) ?_
  refine mf_iload_n (mf_dat eJ0_checkIndex_df160 0 rfl) rfl rfl ?_
  refine mf_iload_n (mf_dat eJ0_checkIndex_df160 1 rfl) rfl rfl ?_
  refine mf_getsF (mf_dat eJ0_checkIndex_df160 2 rfl) fl_J0_1053 ?_
  refine mf_callS (Yc := YJ3_checkIndex_8e157) (mf_dat eJ0_checkIndex_df160 3 rfl) ml_J0_1059 okJ3_checkIndex_8e157 sm_J3_checkIndex_8e157 rfl rfl (Nat.le_of_ble_eq_true rfl) (mf_rr (Nat.le_trans (by decide) hd) (Nat.le_refl _)) (Nat.le_refl _) hyp (fun r1 g2 h3 hyp => ?_)
  refine mf_pop (mf_dat eJ0_checkIndex_df160 4 rfl) (by decide) ?_
  exact mf_return (mf_dat eJ0_checkIndex_df160 5 rfl) rfl hyp
set_option maxRecDepth 100000 in
set_option maxHeartbeats 4000000 in
theorem mJ1_charAt_3b067 {C : mf_G} {l : Launch} {d n : Nat} {K : mf_Kt} {x0 x1 : Int} {g h : mf_M} (hd : 2 ≤ d) (hyp : mf_is n x0 21 ∧ mf_MT C l 1 YJ0_checkIndex_df160 [(0, x1), (0, mf_len x0)] n n g h (fun r2 g3 h4 => 0 ≤ x1 ∧ x1 < mf_len x0 ∧ 0 ≤ mf_and (h4 x0 x1) 255 ∧ mf_and (h4 x0 x1) 255 < 128 ∧ K (mf_and (h4 x0 x1) 255) g3 h4)) : mf_MT C l d YJ1_charAt_3b067 [(2, x0), (0, x1)] n n g h K := by
  refine mf_entry (by decide) (Nat.le_of_ble_eq_true rfl) ?_
  refine mf_iload_n (mf_dat eJ1_charAt_3b067 0 rfl) rfl rfl ?_
  refine mf_aload_n (mf_dat eJ1_charAt_3b067 1 rfl) rfl rfl ?_
  obtain ⟨ck1, hyp⟩ := hyp
  refine mf_alen (c := 21) (i := 1) (ty := .byte) (v := mf_len _) (mf_dat eJ1_charAt_3b067 2 rfl) (by decide) rfl ck1 rfl (mf_len_small _) ?_
  refine mf_callS (Yc := YJ0_checkIndex_df160) (mf_dat eJ1_charAt_3b067 3 rfl) ml_J1_9 okJ0_checkIndex_df160 sm_J0_checkIndex_df160 rfl rfl (Nat.le_of_ble_eq_true rfl) (mf_rr (Nat.le_trans (by decide) hd) (Nat.le_refl _)) (Nat.le_refl _) hyp (fun r2 g3 h4 hyp => ?_)
  refine mf_aload_n (mf_dat eJ1_charAt_3b067 4 rfl) rfl rfl ?_
  refine mf_iload_n (mf_dat eJ1_charAt_3b067 5 rfl) rfl rfl ?_
  obtain ⟨ck5, hyp⟩ := hyp
  obtain ⟨ck6, hyp⟩ := hyp
  refine mf_bald (mf_dat eJ1_charAt_3b067 6 rfl) ck1 ck5 ck6 ?_
  refine mf_sipush (v := 255) (mf_dat eJ1_charAt_3b067 7 rfl) (by decide) ?_
  refine mf_iand (mf_dat eJ1_charAt_3b067 8 rfl) ?_
  obtain ⟨ck7, hyp⟩ := hyp
  obtain ⟨ck8, hyp⟩ := hyp
  refine mf_i2c (mf_dat eJ1_charAt_3b067 9 rfl) ck7 ck8 ?_
  exact mf_creturn (mf_dat eJ1_charAt_3b067 10 rfl) rfl (Or.inl rfl) ck7 ck8 hyp
set_option maxRecDepth 100000 in
set_option maxHeartbeats 4000000 in
theorem mJ3_checkIndex_8e157 {C : mf_G} {l : Launch} {d n : Nat} {K : mf_Kt} {x0 x1 x2 : Int} {g h : mf_M} (hyp : ((x0 < 0 → False) ∧ (¬ x0 < 0 → ((x0 < x1 → K x0 g h) ∧ (¬ x0 < x1 → False))))) : mf_MT C l d YJ3_checkIndex_8e157 [(0, x0), (0, x1), (2, x2)] n n g h K := by
  refine mf_entry (by decide) (Nat.le_of_ble_eq_true rfl) ?_
  refine mf_iload_n (mf_dat eJ3_checkIndex_8e157 0 rfl) rfl rfl ?_
  refine mf_if_lt (tgt := 9) (mf_dat eJ3_checkIndex_8e157 1 rfl) (by decide) (fun hc => ?_) (fun hc => ?_)
  · replace hyp := hyp.1 hc
    refine mf_aload_n (mf_dat eJ3_checkIndex_8e157 5 rfl) rfl rfl ?_
    refine mf_iload_n (mf_dat eJ3_checkIndex_8e157 6 rfl) rfl rfl ?_
    refine mf_iload_n (mf_dat eJ3_checkIndex_8e157 7 rfl) rfl rfl ?_
    exact hyp.elim
  · replace hyp := hyp.2 hc
    refine mf_iload_n (mf_dat eJ3_checkIndex_8e157 2 rfl) rfl rfl ?_
    refine mf_iload_n (mf_dat eJ3_checkIndex_8e157 3 rfl) rfl rfl ?_
    refine mf_icmp_lt (tgt := 16) (mf_dat eJ3_checkIndex_8e157 4 rfl) (by decide) (fun hc => ?_) (fun hc => ?_)
    · replace hyp := hyp.1 hc
      refine mf_iload_n (mf_dat eJ3_checkIndex_8e157 10 rfl) rfl rfl ?_
      exact mf_ireturn (mf_dat eJ3_checkIndex_8e157 11 rfl) rfl (Or.inl rfl) hyp
    · replace hyp := hyp.2 hc
      refine mf_aload_n (mf_dat eJ3_checkIndex_8e157 5 rfl) rfl rfl ?_
      refine mf_iload_n (mf_dat eJ3_checkIndex_8e157 6 rfl) rfl rfl ?_
      refine mf_iload_n (mf_dat eJ3_checkIndex_8e157 7 rfl) rfl rfl ?_
      exact hyp.elim
