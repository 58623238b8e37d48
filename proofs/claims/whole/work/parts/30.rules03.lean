set_option maxRecDepth 100000 in
set_option maxHeartbeats 4000000 in
theorem mX12_cellTold {C : mf_G} {l : Launch} {d n : Nat} {K : mf_Kt} {x0 x1 : Int} {g h : mf_M} (hd : 2 ≤ d) (hyp : mf_is n x0 12 ∧ mf_is n (g x0 40) 20 ∧ 1 < mf_len (g x0 40) ∧ mf_MT C l 1 YX12_number [(2, x0), (0, 0), (0, mf_w32 ((h (g x0 40) 1) - 1))] n n g h (fun r4 g5 h6 => ((¬ h6 x0 5 = 0 → ((¬ h6 x0 5 = 0 → K 0 g5 h6) ∧ (h6 x0 5 = 0 → K r4 g5 h6))) ∧ (h6 x0 5 = 0 → mf_is n (g5 x0 43) 20 ∧ 0 ≤ x1 ∧ x1 < mf_len (g5 x0 43) ∧ ((mf_and (mf_shr (h6 (g5 x0 43) x1) r4) 1 = 1 → mf_MT C l 0 YX12_fail [(2, x0), (0, 2), (0, h6 x0 10)] n n g5 h6 (fun r10 g11 h12 => ((¬ h12 x0 5 = 0 → K 0 g11 h12) ∧ (h12 x0 5 = 0 → K r4 g11 h12)))) ∧ (¬ mf_and (mf_shr (h6 (g5 x0 43) x1) r4) 1 = 1 → mf_MT C l 0 YX12_standsTold [(2, x0), (0, x1), (0, r4)] n n g5 h6 (fun r13 g14 h15 => ((r13 = 0 → ((¬ h15 x0 5 = 0 → K 0 g14 h15) ∧ (h15 x0 5 = 0 → K r4 g14 h15))) ∧ (¬ r13 = 0 → mf_MT C l 0 YX12_fail [(2, x0), (0, 2), (0, h15 x0 10)] n n g14 h15 (fun r16 g17 h18 => ((¬ h18 x0 5 = 0 → K 0 g17 h18) ∧ (h18 x0 5 = 0 → K r4 g17 h18)))))))))))) : mf_MT C l d YX12_cellTold [(2, x0), (0, x1)] n n g h K := by
  refine mf_entry (by decide) (Nat.le_of_ble_eq_true rfl) ?_
  refine mf_aload_n (mf_dat eX12_cellTold 0 rfl) rfl rfl ?_
  refine mf_iconst (v := 0) (mf_dat eX12_cellTold 1 rfl) (by decide) ?_
  refine mf_aload_n (mf_dat eX12_cellTold 2 rfl) rfl rfl ?_
  obtain ⟨ck1, hyp⟩ := hyp
  refine mf_getf (r := (RX12, TX12, 106)) (ci := 12) (k := 40) (t := 2) (v := g x0 40) (mf_dat eX12_cellTold 3 rfl) fl_X12_105 rfl (by decide) rfl rfl ck1 ?_
  refine mf_iconst (v := 1) (mf_dat eX12_cellTold 4 rfl) (by decide) ?_
  obtain ⟨ck2, hyp⟩ := hyp
  obtain ⟨ck3, hyp⟩ := hyp
  refine mf_iald (mf_dat eX12_cellTold 5 rfl) ck2 (by decide) ck3 ?_
  refine mf_iconst (v := 1) (mf_dat eX12_cellTold 6 rfl) (by decide) ?_
  refine mf_isub (mf_dat eX12_cellTold 7 rfl) ?_
  refine mf_callV (Yc := YX12_number) (r := (RX12, TX12, 106)) (ci := 12) (mf_dat eX12_cellTold 8 rfl) ml_X12_308 okX12_number im_X12_number sl_X12_number rfl rfl rfl rfl (Nat.le_of_ble_eq_true rfl) (mf_rr (Nat.le_trans (by decide) hd) (Nat.le_refl _)) (Nat.le_refl _) ck1 hyp (fun r4 g5 h6 hyp => ?_)
  refine mf_istore_n (mf_dat eX12_cellTold 9 rfl) rfl (by decide) ?_
  refine mf_aload_n (mf_dat eX12_cellTold 10 rfl) rfl rfl ?_
  refine mf_getf (r := (RX12, TX12, 106)) (ci := 12) (k := 5) (t := 0) (v := h6 x0 5) (mf_dat eX12_cellTold 11 rfl) fl_X12_243 rfl (by decide) rfl rfl ck1 ?_
  refine mf_if_ne (tgt := 53) (mf_dat eX12_cellTold 12 rfl) (by decide) (fun hc => ?_) (fun hc => ?_)
  · replace hyp := hyp.1 hc
    refine mf_aload_n (mf_dat eX12_cellTold 33 rfl) rfl rfl ?_
    refine mf_getf (r := (RX12, TX12, 106)) (ci := 12) (k := 5) (t := 0) (v := h6 x0 5) (mf_dat eX12_cellTold 34 rfl) fl_X12_243 rfl (by decide) rfl rfl ck1 ?_
    refine mf_if_ne (tgt := 64) (mf_dat eX12_cellTold 35 rfl) (by decide) (fun hc => ?_) (fun hc => ?_)
    · replace hyp := hyp.1 hc
      refine mf_iconst (v := 0) (mf_dat eX12_cellTold 38 rfl) (by decide) ?_
      exact mf_ireturn (mf_dat eX12_cellTold 39 rfl) rfl (Or.inl rfl) hyp
    · replace hyp := hyp.2 hc
      refine mf_iload_n (mf_dat eX12_cellTold 36 rfl) rfl rfl ?_
      refine mf_goto (tgt := 65) (mf_dat eX12_cellTold 37 rfl) (by decide) ?_
      exact mf_ireturn (mf_dat eX12_cellTold 39 rfl) rfl (Or.inl rfl) hyp
  · replace hyp := hyp.2 hc
    refine mf_aload_n (mf_dat eX12_cellTold 13 rfl) rfl rfl ?_
    refine mf_getf (r := (RX12, TX12, 106)) (ci := 12) (k := 43) (t := 2) (v := g5 x0 43) (mf_dat eX12_cellTold 14 rfl) fl_X12_115 rfl (by decide) rfl rfl ck1 ?_
    refine mf_iload_n (mf_dat eX12_cellTold 15 rfl) rfl rfl ?_
    obtain ⟨ck7, hyp⟩ := hyp
    obtain ⟨ck8, hyp⟩ := hyp
    obtain ⟨ck9, hyp⟩ := hyp
    refine mf_iald (mf_dat eX12_cellTold 16 rfl) ck7 ck8 ck9 ?_
    refine mf_iload_n (mf_dat eX12_cellTold 17 rfl) rfl rfl ?_
    refine mf_ishr (mf_dat eX12_cellTold 18 rfl) ?_
    refine mf_iconst (v := 1) (mf_dat eX12_cellTold 19 rfl) (by decide) ?_
    refine mf_iand (mf_dat eX12_cellTold 20 rfl) ?_
    refine mf_iconst (v := 1) (mf_dat eX12_cellTold 21 rfl) (by decide) ?_
    refine mf_icmp_eq (tgt := 44) (mf_dat eX12_cellTold 22 rfl) (by decide) (fun hc => ?_) (fun hc => ?_)
    · replace hyp := hyp.1 hc
      refine mf_aload_n (mf_dat eX12_cellTold 28 rfl) rfl rfl ?_
      refine mf_iconst (v := 2) (mf_dat eX12_cellTold 29 rfl) (by decide) ?_
      refine mf_aload_n (mf_dat eX12_cellTold 30 rfl) rfl rfl ?_
      refine mf_getf (r := (RX12, TX12, 106)) (ci := 12) (k := 10) (t := 0) (v := h6 x0 10) (mf_dat eX12_cellTold 31 rfl) fl_X12_283 rfl (by decide) rfl rfl ck1 ?_
      refine mf_callV (Yc := YX12_fail) (r := (RX12, TX12, 106)) (ci := 12) (mf_dat eX12_cellTold 32 rfl) ml_X12_273 okX12_fail im_X12_fail sl_X12_fail rfl rfl rfl rfl (Nat.le_of_ble_eq_true rfl) (mf_rr (Nat.le_trans (by decide) hd) (Nat.le_refl _)) (Nat.le_refl _) ck1 hyp (fun r10 g11 h12 hyp => ?_)
      refine mf_aload_n (mf_dat eX12_cellTold 33 rfl) rfl rfl ?_
      refine mf_getf (r := (RX12, TX12, 106)) (ci := 12) (k := 5) (t := 0) (v := h12 x0 5) (mf_dat eX12_cellTold 34 rfl) fl_X12_243 rfl (by decide) rfl rfl ck1 ?_
      refine mf_if_ne (tgt := 64) (mf_dat eX12_cellTold 35 rfl) (by decide) (fun hc => ?_) (fun hc => ?_)
      · replace hyp := hyp.1 hc
        refine mf_iconst (v := 0) (mf_dat eX12_cellTold 38 rfl) (by decide) ?_
        exact mf_ireturn (mf_dat eX12_cellTold 39 rfl) rfl (Or.inl rfl) hyp
      · replace hyp := hyp.2 hc
        refine mf_iload_n (mf_dat eX12_cellTold 36 rfl) rfl rfl ?_
        refine mf_goto (tgt := 65) (mf_dat eX12_cellTold 37 rfl) (by decide) ?_
        exact mf_ireturn (mf_dat eX12_cellTold 39 rfl) rfl (Or.inl rfl) hyp
    · replace hyp := hyp.2 hc
      refine mf_aload_n (mf_dat eX12_cellTold 23 rfl) rfl rfl ?_
      refine mf_iload_n (mf_dat eX12_cellTold 24 rfl) rfl rfl ?_
      refine mf_iload_n (mf_dat eX12_cellTold 25 rfl) rfl rfl ?_
      refine mf_callV (Yc := YX12_standsTold) (r := (RX12, TX12, 106)) (ci := 12) (mf_dat eX12_cellTold 26 rfl) ml_X12_316 okX12_standsTold im_X12_standsTold sl_X12_standsTold rfl rfl rfl rfl (Nat.le_of_ble_eq_true rfl) (mf_rr (Nat.le_trans (by decide) hd) (Nat.le_refl _)) (Nat.le_refl _) ck1 hyp (fun r13 g14 h15 hyp => ?_)
      refine mf_if_eq (tgt := 53) (mf_dat eX12_cellTold 27 rfl) (by decide) (fun hc => ?_) (fun hc => ?_)
      · replace hyp := hyp.1 hc
        refine mf_aload_n (mf_dat eX12_cellTold 33 rfl) rfl rfl ?_
        refine mf_getf (r := (RX12, TX12, 106)) (ci := 12) (k := 5) (t := 0) (v := h15 x0 5) (mf_dat eX12_cellTold 34 rfl) fl_X12_243 rfl (by decide) rfl rfl ck1 ?_
        refine mf_if_ne (tgt := 64) (mf_dat eX12_cellTold 35 rfl) (by decide) (fun hc => ?_) (fun hc => ?_)
        · replace hyp := hyp.1 hc
          refine mf_iconst (v := 0) (mf_dat eX12_cellTold 38 rfl) (by decide) ?_
          exact mf_ireturn (mf_dat eX12_cellTold 39 rfl) rfl (Or.inl rfl) hyp
        · replace hyp := hyp.2 hc
          refine mf_iload_n (mf_dat eX12_cellTold 36 rfl) rfl rfl ?_
          refine mf_goto (tgt := 65) (mf_dat eX12_cellTold 37 rfl) (by decide) ?_
          exact mf_ireturn (mf_dat eX12_cellTold 39 rfl) rfl (Or.inl rfl) hyp
      · replace hyp := hyp.2 hc
        refine mf_aload_n (mf_dat eX12_cellTold 28 rfl) rfl rfl ?_
        refine mf_iconst (v := 2) (mf_dat eX12_cellTold 29 rfl) (by decide) ?_
        refine mf_aload_n (mf_dat eX12_cellTold 30 rfl) rfl rfl ?_
        refine mf_getf (r := (RX12, TX12, 106)) (ci := 12) (k := 10) (t := 0) (v := h15 x0 10) (mf_dat eX12_cellTold 31 rfl) fl_X12_283 rfl (by decide) rfl rfl ck1 ?_
        refine mf_callV (Yc := YX12_fail) (r := (RX12, TX12, 106)) (ci := 12) (mf_dat eX12_cellTold 32 rfl) ml_X12_273 okX12_fail im_X12_fail sl_X12_fail rfl rfl rfl rfl (Nat.le_of_ble_eq_true rfl) (mf_rr (Nat.le_trans (by decide) hd) (Nat.le_refl _)) (Nat.le_refl _) ck1 hyp (fun r16 g17 h18 hyp => ?_)
        refine mf_aload_n (mf_dat eX12_cellTold 33 rfl) rfl rfl ?_
        refine mf_getf (r := (RX12, TX12, 106)) (ci := 12) (k := 5) (t := 0) (v := h18 x0 5) (mf_dat eX12_cellTold 34 rfl) fl_X12_243 rfl (by decide) rfl rfl ck1 ?_
        refine mf_if_ne (tgt := 64) (mf_dat eX12_cellTold 35 rfl) (by decide) (fun hc => ?_) (fun hc => ?_)
        · replace hyp := hyp.1 hc
          refine mf_iconst (v := 0) (mf_dat eX12_cellTold 38 rfl) (by decide) ?_
          exact mf_ireturn (mf_dat eX12_cellTold 39 rfl) rfl (Or.inl rfl) hyp
        · replace hyp := hyp.2 hc
          refine mf_iload_n (mf_dat eX12_cellTold 36 rfl) rfl rfl ?_
          refine mf_goto (tgt := 65) (mf_dat eX12_cellTold 37 rfl) (by decide) ?_
          exact mf_ireturn (mf_dat eX12_cellTold 39 rfl) rfl (Or.inl rfl) hyp
set_option maxRecDepth 100000 in
set_option maxHeartbeats 4000000 in
theorem mX12_glossTold {C : mf_G} {l : Launch} {d n : Nat} {K : mf_Kt} {x0 x1 : Int} {g h : mf_M} (hd : 3 ≤ d) (hyp : mf_is n x0 12 ∧ mf_MT C l 1 YX12_isFull [(2, x0), (0, 2), (0, 20), (0, x1)] n n g h (fun r1 g2 h3 => ((r1 = 0 → mf_MT C l 2 YX12_leafTold [(2, x0)] n n g2 h3 (fun r5 g6 h7 => mf_MT C l 2 YX12_cellTold [(2, x0), (0, r5)] n n g6 h7 (fun r8 g9 h10 => ((h10 x0 5 = 0 → mf_is n (g9 x0 43) 20 ∧ 0 ≤ r5 ∧ r5 < mf_len (g9 x0 43) ∧ (∀ h14 : mf_M, h14 = mf_up h10 (g9 x0 43) r5 (mf_or (h10 (g9 x0 43) r5) (mf_shl 1 r8)) → mf_is n (g9 x0 41) 20 ∧ 2 < mf_len (g9 x0 41) ∧ (∀ h17 : mf_M, h17 = mf_up h14 (g9 x0 41) 2 (mf_w32 ((h14 (g9 x0 41) 2) + 1)) → K 0 g9 h17))) ∧ (¬ h10 x0 5 = 0 → K 0 g9 h10))))) ∧ (¬ r1 = 0 → K 0 g2 h3)))) : mf_MT C l d YX12_glossTold [(2, x0), (0, x1)] n n g h K := by
  refine mf_entry (by decide) (Nat.le_of_ble_eq_true rfl) ?_
  refine mf_aload_n (mf_dat eX12_glossTold 0 rfl) rfl rfl ?_
  refine mf_iconst (v := 2) (mf_dat eX12_glossTold 1 rfl) (by decide) ?_
  refine mf_bipush (v := 20) (mf_dat eX12_glossTold 2 rfl) (by decide) ?_
  refine mf_iload_n (mf_dat eX12_glossTold 3 rfl) rfl rfl ?_
  obtain ⟨ck4, hyp⟩ := hyp
  refine mf_callV (Yc := YX12_isFull) (r := (RX12, TX12, 106)) (ci := 12) (mf_dat eX12_glossTold 4 rfl) ml_X12_320 okX12_isFull im_X12_isFull sl_X12_isFull rfl rfl rfl rfl (Nat.le_of_ble_eq_true rfl) (mf_rr (Nat.le_trans (by decide) hd) (Nat.le_refl _)) (Nat.le_refl _) ck4 hyp (fun r1 g2 h3 hyp => ?_)
  refine mf_if_eq (tgt := 12) (mf_dat eX12_glossTold 5 rfl) (by decide) (fun hc => ?_) (fun hc => ?_)
  · replace hyp := hyp.1 hc
    refine mf_aload_n (mf_dat eX12_glossTold 7 rfl) rfl rfl ?_
    refine mf_callV (Yc := YX12_leafTold) (r := (RX12, TX12, 106)) (ci := 12) (mf_dat eX12_glossTold 8 rfl) ml_X12_324 okX12_leafTold im_X12_leafTold sl_X12_leafTold rfl rfl rfl rfl (Nat.le_of_ble_eq_true rfl) (mf_rr (Nat.le_trans (by decide) hd) (Nat.le_refl _)) (Nat.le_refl _) ck4 hyp (fun r5 g6 h7 hyp => ?_)
    refine mf_istore_n (mf_dat eX12_glossTold 9 rfl) rfl (by decide) ?_
    refine mf_aload_n (mf_dat eX12_glossTold 10 rfl) rfl rfl ?_
    refine mf_iload_n (mf_dat eX12_glossTold 11 rfl) rfl rfl ?_
    refine mf_callV (Yc := YX12_cellTold) (r := (RX12, TX12, 106)) (ci := 12) (mf_dat eX12_glossTold 12 rfl) ml_X12_327 okX12_cellTold im_X12_cellTold sl_X12_cellTold rfl rfl rfl rfl (Nat.le_of_ble_eq_true rfl) (mf_rr (Nat.le_trans (by decide) hd) (Nat.le_refl _)) (Nat.le_refl _) ck4 hyp (fun r8 g9 h10 hyp => ?_)
    refine mf_istore_n (mf_dat eX12_glossTold 13 rfl) rfl (by decide) ?_
    refine mf_aload_n (mf_dat eX12_glossTold 14 rfl) rfl rfl ?_
    refine mf_getf (r := (RX12, TX12, 106)) (ci := 12) (k := 5) (t := 0) (v := h10 x0 5) (mf_dat eX12_glossTold 15 rfl) fl_X12_243 rfl (by decide) rfl rfl ck4 ?_
    refine mf_if_eq (tgt := 31) (mf_dat eX12_glossTold 16 rfl) (by decide) (fun hc => ?_) (fun hc => ?_)
    · replace hyp := hyp.1 hc
      refine mf_aload_n (mf_dat eX12_glossTold 18 rfl) rfl rfl ?_
      refine mf_getf (r := (RX12, TX12, 106)) (ci := 12) (k := 43) (t := 2) (v := g9 x0 43) (mf_dat eX12_glossTold 19 rfl) fl_X12_115 rfl (by decide) rfl rfl ck4 ?_
      refine mf_iload_n (mf_dat eX12_glossTold 20 rfl) rfl rfl ?_
      refine mf_dup2 (mf_dat eX12_glossTold 21 rfl) (by decide) (by decide) ?_
      obtain ⟨ck11, hyp⟩ := hyp
      obtain ⟨ck12, hyp⟩ := hyp
      obtain ⟨ck13, hyp⟩ := hyp
      refine mf_iald (mf_dat eX12_glossTold 22 rfl) ck11 ck12 ck13 ?_
      refine mf_iconst (v := 1) (mf_dat eX12_glossTold 23 rfl) (by decide) ?_
      refine mf_iload_n (mf_dat eX12_glossTold 24 rfl) rfl rfl ?_
      refine mf_ishl (mf_dat eX12_glossTold 25 rfl) ?_
      refine mf_ior (mf_dat eX12_glossTold 26 rfl) ?_
      refine mf_iast (mf_dat eX12_glossTold 27 rfl) ck11 ck12 ck13 ?_
      generalize qh14 : mf_up h10 (g9 x0 43) r5 (mf_or (h10 (g9 x0 43) r5) (mf_shl 1 r8)) = h14
      replace hyp := hyp _ qh14.symm
      refine mf_aload_n (mf_dat eX12_glossTold 28 rfl) rfl rfl ?_
      refine mf_getf (r := (RX12, TX12, 106)) (ci := 12) (k := 41) (t := 2) (v := g9 x0 41) (mf_dat eX12_glossTold 29 rfl) fl_X12_108 rfl (by decide) rfl rfl ck4 ?_
      refine mf_iconst (v := 2) (mf_dat eX12_glossTold 30 rfl) (by decide) ?_
      refine mf_dup2 (mf_dat eX12_glossTold 31 rfl) (by decide) (by decide) ?_
      obtain ⟨ck15, hyp⟩ := hyp
      obtain ⟨ck16, hyp⟩ := hyp
      refine mf_iald (mf_dat eX12_glossTold 32 rfl) ck15 (by decide) ck16 ?_
      refine mf_iconst (v := 1) (mf_dat eX12_glossTold 33 rfl) (by decide) ?_
      refine mf_iadd (mf_dat eX12_glossTold 34 rfl) ?_
      refine mf_iast (mf_dat eX12_glossTold 35 rfl) ck15 (by decide) ck16 ?_
      generalize qh17 : mf_up h14 (g9 x0 41) 2 (mf_w32 ((h14 (g9 x0 41) 2) + 1)) = h17
      replace hyp := hyp _ qh17.symm
      exact mf_return (mf_dat eX12_glossTold 36 rfl) rfl hyp
    · replace hyp := hyp.2 hc
      exact mf_return (mf_dat eX12_glossTold 17 rfl) rfl hyp
  · replace hyp := hyp.2 hc
    exact mf_return (mf_dat eX12_glossTold 6 rfl) rfl hyp
abbrev JX12_wormTold_43 (C : mf_G) (l : Launch) (d n : Nat) (K : mf_Kt) (x0 x2 x3 : Int) (g h : mf_M) : Prop := mf_AW C l YX12_wormTold (mf_rm d n n) n (mf_Zm C YX12_wormTold n n K) (fun _ _ => True) 43 [(0, (2, x0)), (2, (0, x2)), (3, (0, x3))] [] n g h
set_option maxRecDepth 100000 in
set_option maxHeartbeats 4000000 in
theorem bX12_wormTold_43 {C : mf_G} {l : Launch} {d n : Nat} {K : mf_Kt} {x0 x2 x3 : Int} {g h : mf_M} (hd : 2 ≤ d) (hyp : mf_is n x0 12 ∧ mf_is n (g x0 40) 20 ∧ 1 < mf_len (g x0 40) ∧ mf_MT C l 1 YX12_number [(2, x0), (0, 0), (0, mf_w32 ((h (g x0 40) 1) - 1))] n n g h (fun r4 g5 h6 => ((h6 x0 5 = 0 → mf_is n (g5 x0 41) 20 ∧ 1 < mf_len (g5 x0 41) ∧ (∀ v9 : Int, v9 = mf_w32 (3 * (h6 (g5 x0 41) 1)) → mf_is n (g5 x0 44) 20 ∧ 0 ≤ v9 ∧ v9 < mf_len (g5 x0 44) ∧ (∀ h13 : mf_M, h13 = mf_up h6 (g5 x0 44) v9 x2 → 0 ≤ mf_w32 (v9 + 1) ∧ mf_w32 (v9 + 1) < mf_len (g5 x0 44) ∧ (∀ h16 : mf_M, h16 = mf_up h13 (g5 x0 44) (mf_w32 (v9 + 1)) x3 → 0 ≤ mf_w32 (v9 + 2) ∧ mf_w32 (v9 + 2) < mf_len (g5 x0 44) ∧ (∀ h19 : mf_M, h19 = mf_up h16 (g5 x0 44) (mf_w32 (v9 + 2)) r4 → (∀ h20 : mf_M, h20 = mf_up h19 (g5 x0 41) 1 (mf_w32 ((h19 (g5 x0 41) 1) + 1)) → K 0 g5 h20)))))) ∧ (¬ h6 x0 5 = 0 → K 0 g5 h6)))) : JX12_wormTold_43 C l d n K x0 x2 x3 g h := by
  refine mf_aload_n (mf_dat eX12_wormTold_p0 24 rfl) rfl rfl ?_
  refine mf_iconst (v := 0) (mf_dat eX12_wormTold_p0 25 rfl) (by decide) ?_
  refine mf_aload_n (mf_dat eX12_wormTold_p0 26 rfl) rfl rfl ?_
  obtain ⟨ck1, hyp⟩ := hyp
  refine mf_getf (r := (RX12, TX12, 106)) (ci := 12) (k := 40) (t := 2) (v := g x0 40) (mf_dat eX12_wormTold_p0 27 rfl) fl_X12_105 rfl (by decide) rfl rfl ck1 ?_
  refine mf_iconst (v := 1) (mf_dat eX12_wormTold_p0 28 rfl) (by decide) ?_
  obtain ⟨ck2, hyp⟩ := hyp
  obtain ⟨ck3, hyp⟩ := hyp
  refine mf_iald (mf_dat eX12_wormTold_p0 29 rfl) ck2 (by decide) ck3 ?_
  refine mf_iconst (v := 1) (mf_dat eX12_wormTold_p0 30 rfl) (by decide) ?_
  refine mf_isub (mf_dat eX12_wormTold_p0 31 rfl) ?_
  refine mf_callV (Yc := YX12_number) (r := (RX12, TX12, 106)) (ci := 12) (mf_dat eX12_wormTold_p0 32 rfl) ml_X12_308 okX12_number im_X12_number sl_X12_number rfl rfl rfl rfl (Nat.le_of_ble_eq_true rfl) (mf_rr (Nat.le_trans (by decide) hd) (Nat.le_refl _)) (Nat.le_refl _) ck1 hyp (fun r4 g5 h6 hyp => ?_)
  refine mf_istore (mf_dat eX12_wormTold_p0 33 rfl) (by decide) ?_
  refine mf_aload_n (mf_dat eX12_wormTold_p0 34 rfl) rfl rfl ?_
  refine mf_getf (r := (RX12, TX12, 106)) (ci := 12) (k := 5) (t := 0) (v := h6 x0 5) (mf_dat eX12_wormTold_p0 35 rfl) fl_X12_243 rfl (by decide) rfl rfl ck1 ?_
  refine mf_if_eq (tgt := 66) (mf_dat eX12_wormTold_p0 36 rfl) (by decide) (fun hc => ?_) (fun hc => ?_)
  · replace hyp := hyp.1 hc
    refine mf_iconst (v := 3) (mf_dat eX12_wormTold_p0 38 rfl) (by decide) ?_
    refine mf_aload_n (mf_dat eX12_wormTold_p0 39 rfl) rfl rfl ?_
    refine mf_getf (r := (RX12, TX12, 106)) (ci := 12) (k := 41) (t := 2) (v := g5 x0 41) (mf_dat eX12_wormTold_p0 40 rfl) fl_X12_108 rfl (by decide) rfl rfl ck1 ?_
    refine mf_iconst (v := 1) (mf_dat eX12_wormTold_p0 41 rfl) (by decide) ?_
    obtain ⟨ck7, hyp⟩ := hyp
    obtain ⟨ck8, hyp⟩ := hyp
    refine mf_iald (mf_dat eX12_wormTold_p0 42 rfl) ck7 (by decide) ck8 ?_
    refine mf_imul (mf_dat eX12_wormTold_p0 43 rfl) ?_
    generalize qv9 : mf_w32 (3 * (h6 (g5 x0 41) 1)) = v9
    replace hyp := hyp _ qv9.symm
    refine mf_istore (mf_dat eX12_wormTold_p0 44 rfl) (by decide) ?_
    refine mf_aload_n (mf_dat eX12_wormTold_p0 45 rfl) rfl rfl ?_
    refine mf_getf (r := (RX12, TX12, 106)) (ci := 12) (k := 44) (t := 2) (v := g5 x0 44) (mf_dat eX12_wormTold_p0 46 rfl) fl_X12_118 rfl (by decide) rfl rfl ck1 ?_
    refine mf_iload (mf_dat eX12_wormTold_p0 47 rfl) rfl ?_
    refine mf_iload_n (mf_dat eX12_wormTold_p0 48 rfl) rfl rfl ?_
    obtain ⟨ck10, hyp⟩ := hyp
    obtain ⟨ck11, hyp⟩ := hyp
    obtain ⟨ck12, hyp⟩ := hyp
    refine mf_iast (mf_dat eX12_wormTold_p0 49 rfl) ck10 ck11 ck12 ?_
    generalize qh13 : mf_up h6 (g5 x0 44) v9 x2 = h13
    replace hyp := hyp _ qh13.symm
    refine mf_aload_n (mf_dat eX12_wormTold_p0 50 rfl) rfl rfl ?_
    refine mf_getf (r := (RX12, TX12, 106)) (ci := 12) (k := 44) (t := 2) (v := g5 x0 44) (mf_dat eX12_wormTold_p0 51 rfl) fl_X12_118 rfl (by decide) rfl rfl ck1 ?_
    refine mf_iload (mf_dat eX12_wormTold_p0 52 rfl) rfl ?_
    refine mf_iconst (v := 1) (mf_dat eX12_wormTold_p0 53 rfl) (by decide) ?_
    refine mf_iadd (mf_dat eX12_wormTold_p0 54 rfl) ?_
    refine mf_iload_n (mf_dat eX12_wormTold_p0 55 rfl) rfl rfl ?_
    obtain ⟨ck14, hyp⟩ := hyp
    obtain ⟨ck15, hyp⟩ := hyp
    refine mf_iast (mf_dat eX12_wormTold_p0 56 rfl) ck10 ck14 ck15 ?_
    generalize qh16 : mf_up h13 (g5 x0 44) (mf_w32 (v9 + 1)) x3 = h16
    replace hyp := hyp _ qh16.symm
    refine mf_aload_n (mf_dat eX12_wormTold_p0 57 rfl) rfl rfl ?_
    refine mf_getf (r := (RX12, TX12, 106)) (ci := 12) (k := 44) (t := 2) (v := g5 x0 44) (mf_dat eX12_wormTold_p0 58 rfl) fl_X12_118 rfl (by decide) rfl rfl ck1 ?_
    refine mf_iload (mf_dat eX12_wormTold_p0 59 rfl) rfl ?_
    refine mf_iconst (v := 2) (mf_dat eX12_wormTold_p1 0 rfl) (by decide) ?_
    refine mf_iadd (mf_dat eX12_wormTold_p1 1 rfl) ?_
    refine mf_iload (mf_dat eX12_wormTold_p1 2 rfl) rfl ?_
    obtain ⟨ck17, hyp⟩ := hyp
    obtain ⟨ck18, hyp⟩ := hyp
    refine mf_iast (mf_dat eX12_wormTold_p1 3 rfl) ck10 ck17 ck18 ?_
    generalize qh19 : mf_up h16 (g5 x0 44) (mf_w32 (v9 + 2)) r4 = h19
    replace hyp := hyp _ qh19.symm
    refine mf_aload_n (mf_dat eX12_wormTold_p1 4 rfl) rfl rfl ?_
    refine mf_getf (r := (RX12, TX12, 106)) (ci := 12) (k := 41) (t := 2) (v := g5 x0 41) (mf_dat eX12_wormTold_p1 5 rfl) fl_X12_108 rfl (by decide) rfl rfl ck1 ?_
    refine mf_iconst (v := 1) (mf_dat eX12_wormTold_p1 6 rfl) (by decide) ?_
    refine mf_dup2 (mf_dat eX12_wormTold_p1 7 rfl) (by decide) (by decide) ?_
    refine mf_iald (mf_dat eX12_wormTold_p1 8 rfl) ck7 (by decide) ck8 ?_
    refine mf_iconst (v := 1) (mf_dat eX12_wormTold_p1 9 rfl) (by decide) ?_
    refine mf_iadd (mf_dat eX12_wormTold_p1 10 rfl) ?_
    refine mf_iast (mf_dat eX12_wormTold_p1 11 rfl) ck7 (by decide) ck8 ?_
    generalize qh20 : mf_up h19 (g5 x0 41) 1 (mf_w32 ((h19 (g5 x0 41) 1) + 1)) = h20
    replace hyp := hyp _ qh20.symm
    exact mf_return (mf_dat eX12_wormTold_p1 12 rfl) rfl hyp
  · replace hyp := hyp.2 hc
    exact mf_return (mf_dat eX12_wormTold_p0 37 rfl) rfl hyp
set_option maxRecDepth 100000 in
set_option maxHeartbeats 4000000 in
theorem mX12_wormTold {C : mf_G} {l : Launch} {d n : Nat} {K : mf_Kt} {x0 x1 : Int} {g h : mf_M} (hd : 3 ≤ d) (hyp : mf_is n x0 12 ∧ mf_MT C l 1 YX12_isFull [(2, x0), (0, 1), (0, 12), (0, x1)] n n g h (fun r1 g2 h3 => ((r1 = 0 → mf_MT C l 2 YX12_leafTold [(2, x0)] n n g2 h3 (fun r5 g6 h7 => mf_MT C l 2 YX12_leafTold [(2, x0)] n n g6 h7 (fun r8 g9 h10 => ((¬ h10 x0 5 = 0 → JX12_wormTold_43 C l d n K x0 r5 r8 g9 h10) ∧ (h10 x0 5 = 0 → ((¬ r5 = r8 → JX12_wormTold_43 C l d n K x0 r5 r8 g9 h10) ∧ (r5 = r8 → mf_MT C l 0 YX12_fail [(2, x0), (0, 2), (0, h10 x0 10)] n n g9 h10 (fun r11 g12 h13 => JX12_wormTold_43 C l d n K x0 r5 r8 g12 h13)))))))) ∧ (¬ r1 = 0 → K 0 g2 h3)))) : mf_MT C l d YX12_wormTold [(2, x0), (0, x1)] n n g h K := by
  refine mf_entry (by decide) (Nat.le_of_ble_eq_true rfl) ?_
  refine mf_aload_n (mf_dat eX12_wormTold_p0 0 rfl) rfl rfl ?_
  refine mf_iconst (v := 1) (mf_dat eX12_wormTold_p0 1 rfl) (by decide) ?_
  refine mf_bipush (v := 12) (mf_dat eX12_wormTold_p0 2 rfl) (by decide) ?_
  refine mf_iload_n (mf_dat eX12_wormTold_p0 3 rfl) rfl rfl ?_
  obtain ⟨ck4, hyp⟩ := hyp
  refine mf_callV (Yc := YX12_isFull) (r := (RX12, TX12, 106)) (ci := 12) (mf_dat eX12_wormTold_p0 4 rfl) ml_X12_320 okX12_isFull im_X12_isFull sl_X12_isFull rfl rfl rfl rfl (Nat.le_of_ble_eq_true rfl) (mf_rr (Nat.le_trans (by decide) hd) (Nat.le_refl _)) (Nat.le_refl _) ck4 hyp (fun r1 g2 h3 hyp => ?_)
  refine mf_if_eq (tgt := 12) (mf_dat eX12_wormTold_p0 5 rfl) (by decide) (fun hc => ?_) (fun hc => ?_)
  · replace hyp := hyp.1 hc
    refine mf_aload_n (mf_dat eX12_wormTold_p0 7 rfl) rfl rfl ?_
    refine mf_callV (Yc := YX12_leafTold) (r := (RX12, TX12, 106)) (ci := 12) (mf_dat eX12_wormTold_p0 8 rfl) ml_X12_324 okX12_leafTold im_X12_leafTold sl_X12_leafTold rfl rfl rfl rfl (Nat.le_of_ble_eq_true rfl) (mf_rr (Nat.le_trans (by decide) hd) (Nat.le_refl _)) (Nat.le_refl _) ck4 hyp (fun r5 g6 h7 hyp => ?_)
    refine mf_istore_n (mf_dat eX12_wormTold_p0 9 rfl) rfl (by decide) ?_
    refine mf_aload_n (mf_dat eX12_wormTold_p0 10 rfl) rfl rfl ?_
    refine mf_callV (Yc := YX12_leafTold) (r := (RX12, TX12, 106)) (ci := 12) (mf_dat eX12_wormTold_p0 11 rfl) ml_X12_324 okX12_leafTold im_X12_leafTold sl_X12_leafTold rfl rfl rfl rfl (Nat.le_of_ble_eq_true rfl) (mf_rr (Nat.le_trans (by decide) hd) (Nat.le_refl _)) (Nat.le_refl _) ck4 hyp (fun r8 g9 h10 hyp => ?_)
    refine mf_istore_n (mf_dat eX12_wormTold_p0 12 rfl) rfl (by decide) ?_
    refine mf_aload_n (mf_dat eX12_wormTold_p0 13 rfl) rfl rfl ?_
    refine mf_getf (r := (RX12, TX12, 106)) (ci := 12) (k := 5) (t := 0) (v := h10 x0 5) (mf_dat eX12_wormTold_p0 14 rfl) fl_X12_243 rfl (by decide) rfl rfl ck4 ?_
    refine mf_if_ne (tgt := 43) (mf_dat eX12_wormTold_p0 15 rfl) (by decide) (fun hc => ?_) (fun hc => ?_)
    · replace hyp := hyp.1 hc
      exact mf_sub [2, 1, 0] rfl hyp
    · replace hyp := hyp.2 hc
      refine mf_iload_n (mf_dat eX12_wormTold_p0 16 rfl) rfl rfl ?_
      refine mf_iload_n (mf_dat eX12_wormTold_p0 17 rfl) rfl rfl ?_
      refine mf_icmp_ne (tgt := 43) (mf_dat eX12_wormTold_p0 18 rfl) (by decide) (fun hc => ?_) (fun hc => ?_)
      · replace hyp := hyp.1 hc
        exact mf_sub [2, 1, 0] rfl hyp
      · replace hyp := hyp.2 hc
        refine mf_aload_n (mf_dat eX12_wormTold_p0 19 rfl) rfl rfl ?_
        refine mf_iconst (v := 2) (mf_dat eX12_wormTold_p0 20 rfl) (by decide) ?_
        refine mf_aload_n (mf_dat eX12_wormTold_p0 21 rfl) rfl rfl ?_
        refine mf_getf (r := (RX12, TX12, 106)) (ci := 12) (k := 10) (t := 0) (v := h10 x0 10) (mf_dat eX12_wormTold_p0 22 rfl) fl_X12_283 rfl (by decide) rfl rfl ck4 ?_
        refine mf_callV (Yc := YX12_fail) (r := (RX12, TX12, 106)) (ci := 12) (mf_dat eX12_wormTold_p0 23 rfl) ml_X12_273 okX12_fail im_X12_fail sl_X12_fail rfl rfl rfl rfl (Nat.le_of_ble_eq_true rfl) (mf_rr (Nat.le_trans (by decide) hd) (Nat.le_refl _)) (Nat.le_refl _) ck4 hyp (fun r11 g12 h13 hyp => ?_)
        exact mf_sub [2, 1, 0] rfl hyp
  · replace hyp := hyp.2 hc
    exact mf_return (mf_dat eX12_wormTold_p0 6 rfl) rfl hyp
abbrev JX12_beingTold_20 (C : mf_G) (l : Launch) (d n : Nat) (K : mf_Kt) (x0 x2 x4 : Int) (g h : mf_M) : Prop := mf_AW C l YX12_beingTold (mf_rm d n n) n (mf_Zm C YX12_beingTold n n K) (fun _ _ => True) 20 [(0, (2, x0)), (2, (1, x2)), (4, (0, x4))] [] n g h
set_option maxRecDepth 100000 in
set_option maxHeartbeats 4000000 in
theorem bX12_beingTold_20 {C : mf_G} {l : Launch} {d n : Nat} {K : mf_Kt} {x0 x2 x4 : Int} {g h : mf_M} (hd : 4 ≤ d) (hyp : mf_is n x0 12 ∧ mf_is n (g x0 41) 20 ∧ 0 < mf_len (g x0 41) ∧ ((h (g x0 41) 0 ≤ x4 → mf_MT C l 3 YX12_asks [(2, x0), (2, g x0 16)] n n g h (fun r4 g5 h6 => mf_MT C l 2 YX12_leafTold [(2, x0)] n n g5 h6 (fun r7 g8 h9 => mf_MT C l 3 YX12_asks [(2, x0), (2, g8 x0 17)] n n g8 h9 (fun r10 g11 h12 => mf_MT C l 2 YX12_cellTold [(2, x0), (0, r7)] n n g11 h12 (fun r13 g14 h15 => mf_MT C l 3 YX12_asks [(2, x0), (2, g14 x0 18)] n n g14 h15 (fun r16 g17 h18 => mf_MT C l 1 YX12_number [(2, x0), (0, 0), (0, 9)] n n g17 h18 (fun r19 g20 h21 => ((h21 x0 5 = 0 → mf_is n (g20 x0 41) 20 ∧ 0 < mf_len (g20 x0 41) ∧ mf_is n (g20 x0 42) 24 ∧ 0 ≤ h21 (g20 x0 41) 0 ∧ h21 (g20 x0 41) 0 < mf_len (g20 x0 42) ∧ (∀ h27 : mf_M, h27 = mf_up h21 (g20 x0 42) (h21 (g20 x0 41) 0) x2 → mf_is n (g20 x0 45) 20 ∧ 0 ≤ mf_w32 (2 * (h27 (g20 x0 41) 0)) ∧ mf_w32 (2 * (h27 (g20 x0 41) 0)) < mf_len (g20 x0 45) ∧ (∀ h31 : mf_M, h31 = mf_up h27 (g20 x0 45) (mf_w32 (2 * (h27 (g20 x0 41) 0))) r7 → 0 ≤ mf_w32 ((mf_w32 (2 * (h31 (g20 x0 41) 0))) + 1) ∧ mf_w32 ((mf_w32 (2 * (h31 (g20 x0 41) 0))) + 1) < mf_len (g20 x0 45) ∧ (∀ h34 : mf_M, h34 = mf_up h31 (g20 x0 45) (mf_w32 ((mf_w32 (2 * (h31 (g20 x0 41) 0))) + 1)) r13 → mf_is n (g20 x0 46) 20 ∧ 0 ≤ h34 (g20 x0 41) 0 ∧ h34 (g20 x0 41) 0 < mf_len (g20 x0 46) ∧ (∀ h38 : mf_M, h38 = mf_up h34 (g20 x0 46) (h34 (g20 x0 41) 0) r19 → (∀ h39 : mf_M, h39 = mf_up h38 (g20 x0 41) 0 (mf_w32 ((h38 (g20 x0 41) 0) + 1)) → K 0 g20 h39)))))) ∧ (¬ h21 x0 5 = 0 → K 0 g20 h21))))))))) ∧ (¬ h (g x0 41) 0 ≤ x4 → ((¬ h x0 5 = 0 → (∀ v40 : Int, v40 = mf_w32 (x4 + 1) → JX12_beingTold_20 C l d n K x0 x2 v40 g h)) ∧ (h x0 5 = 0 → mf_is n (g x0 42) 24 ∧ 0 ≤ x4 ∧ x4 < mf_len (g x0 42) ∧ ((¬ h (g x0 42) x4 = x2 → (∀ v44 : Int, v44 = mf_w32 (x4 + 1) → JX12_beingTold_20 C l d n K x0 x2 v44 g h)) ∧ (h (g x0 42) x4 = x2 → mf_MT C l 0 YX12_fail [(2, x0), (0, 3), (0, h x0 39)] n n g h (fun r45 g46 h47 => (∀ v48 : Int, v48 = mf_w32 (x4 + 1) → JX12_beingTold_20 C l d n K x0 x2 v48 g46 h47))))))))) : JX12_beingTold_20 C l d n K x0 x2 x4 g h := by
  refine mf_iload (mf_dat eX12_beingTold_p0 12 rfl) rfl ?_
  refine mf_aload_n (mf_dat eX12_beingTold_p0 13 rfl) rfl rfl ?_
  obtain ⟨ck1, hyp⟩ := hyp
  refine mf_getf (r := (RX12, TX12, 106)) (ci := 12) (k := 41) (t := 2) (v := g x0 41) (mf_dat eX12_beingTold_p0 14 rfl) fl_X12_108 rfl (by decide) rfl rfl ck1 ?_
  refine mf_iconst (v := 0) (mf_dat eX12_beingTold_p0 15 rfl) (by decide) ?_
  obtain ⟨ck2, hyp⟩ := hyp
  obtain ⟨ck3, hyp⟩ := hyp
  refine mf_iald (mf_dat eX12_beingTold_p0 16 rfl) ck2 (by decide) ck3 ?_
  refine mf_icmp_ge (tgt := 65) (mf_dat eX12_beingTold_p0 17 rfl) (by decide) (fun hc => ?_) (fun hc => ?_)
  · replace hyp := hyp.1 hc
    refine mf_aload_n (mf_dat eX12_beingTold_p0 35 rfl) rfl rfl ?_
    refine mf_aload_n (mf_dat eX12_beingTold_p0 36 rfl) rfl rfl ?_
    refine mf_getf (r := (RX12, TX12, 106)) (ci := 12) (k := 16) (t := 2) (v := g x0 16) (mf_dat eX12_beingTold_p0 37 rfl) fl_X12_36 rfl (by decide) rfl rfl ck1 ?_
    refine mf_callV (Yc := YX12_asks) (r := (RX12, TX12, 106)) (ci := 12) (mf_dat eX12_beingTold_p0 38 rfl) ml_X12_304 okX12_asks im_X12_asks sl_X12_asks rfl rfl rfl rfl (Nat.le_of_ble_eq_true rfl) (mf_rr (Nat.le_trans (by decide) hd) (Nat.le_refl _)) (Nat.le_refl _) ck1 hyp (fun r4 g5 h6 hyp => ?_)
    refine mf_aload_n (mf_dat eX12_beingTold_p0 39 rfl) rfl rfl ?_
    refine mf_callV (Yc := YX12_leafTold) (r := (RX12, TX12, 106)) (ci := 12) (mf_dat eX12_beingTold_p0 40 rfl) ml_X12_324 okX12_leafTold im_X12_leafTold sl_X12_leafTold rfl rfl rfl rfl (Nat.le_of_ble_eq_true rfl) (mf_rr (Nat.le_trans (by decide) hd) (Nat.le_refl _)) (Nat.le_refl _) ck1 hyp (fun r7 g8 h9 hyp => ?_)
    refine mf_istore (mf_dat eX12_beingTold_p0 41 rfl) (by decide) ?_
    refine mf_aload_n (mf_dat eX12_beingTold_p0 42 rfl) rfl rfl ?_
    refine mf_aload_n (mf_dat eX12_beingTold_p0 43 rfl) rfl rfl ?_
    refine mf_getf (r := (RX12, TX12, 106)) (ci := 12) (k := 17) (t := 2) (v := g8 x0 17) (mf_dat eX12_beingTold_p0 44 rfl) fl_X12_39 rfl (by decide) rfl rfl ck1 ?_
    refine mf_callV (Yc := YX12_asks) (r := (RX12, TX12, 106)) (ci := 12) (mf_dat eX12_beingTold_p0 45 rfl) ml_X12_304 okX12_asks im_X12_asks sl_X12_asks rfl rfl rfl rfl (Nat.le_of_ble_eq_true rfl) (mf_rr (Nat.le_trans (by decide) hd) (Nat.le_refl _)) (Nat.le_refl _) ck1 hyp (fun r10 g11 h12 hyp => ?_)
    refine mf_aload_n (mf_dat eX12_beingTold_p0 46 rfl) rfl rfl ?_
    refine mf_iload (mf_dat eX12_beingTold_p0 47 rfl) rfl ?_
    refine mf_callV (Yc := YX12_cellTold) (r := (RX12, TX12, 106)) (ci := 12) (mf_dat eX12_beingTold_p0 48 rfl) ml_X12_327 okX12_cellTold im_X12_cellTold sl_X12_cellTold rfl rfl rfl rfl (Nat.le_of_ble_eq_true rfl) (mf_rr (Nat.le_trans (by decide) hd) (Nat.le_refl _)) (Nat.le_refl _) ck1 hyp (fun r13 g14 h15 hyp => ?_)
    refine mf_istore (mf_dat eX12_beingTold_p0 49 rfl) (by decide) ?_
    refine mf_aload_n (mf_dat eX12_beingTold_p0 50 rfl) rfl rfl ?_
    refine mf_aload_n (mf_dat eX12_beingTold_p0 51 rfl) rfl rfl ?_
    refine mf_getf (r := (RX12, TX12, 106)) (ci := 12) (k := 18) (t := 2) (v := g14 x0 18) (mf_dat eX12_beingTold_p0 52 rfl) fl_X12_42 rfl (by decide) rfl rfl ck1 ?_
    refine mf_callV (Yc := YX12_asks) (r := (RX12, TX12, 106)) (ci := 12) (mf_dat eX12_beingTold_p0 53 rfl) ml_X12_304 okX12_asks im_X12_asks sl_X12_asks rfl rfl rfl rfl (Nat.le_of_ble_eq_true rfl) (mf_rr (Nat.le_trans (by decide) hd) (Nat.le_refl _)) (Nat.le_refl _) ck1 hyp (fun r16 g17 h18 hyp => ?_)
    refine mf_aload_n (mf_dat eX12_beingTold_p0 54 rfl) rfl rfl ?_
    refine mf_iconst (v := 0) (mf_dat eX12_beingTold_p0 55 rfl) (by decide) ?_
    refine mf_bipush (v := 9) (mf_dat eX12_beingTold_p0 56 rfl) (by decide) ?_
    refine mf_callV (Yc := YX12_number) (r := (RX12, TX12, 106)) (ci := 12) (mf_dat eX12_beingTold_p0 57 rfl) ml_X12_308 okX12_number im_X12_number sl_X12_number rfl rfl rfl rfl (Nat.le_of_ble_eq_true rfl) (mf_rr (Nat.le_trans (by decide) hd) (Nat.le_refl _)) (Nat.le_refl _) ck1 hyp (fun r19 g20 h21 hyp => ?_)
    refine mf_istore (mf_dat eX12_beingTold_p0 58 rfl) (by decide) ?_
    refine mf_aload_n (mf_dat eX12_beingTold_p0 59 rfl) rfl rfl ?_
    refine mf_getf (r := (RX12, TX12, 106)) (ci := 12) (k := 5) (t := 0) (v := h21 x0 5) (mf_dat eX12_beingTold_p1 0 rfl) fl_X12_243 rfl (by decide) rfl rfl ck1 ?_
    refine mf_if_eq (tgt := 120) (mf_dat eX12_beingTold_p1 1 rfl) (by decide) (fun hc => ?_) (fun hc => ?_)
    · replace hyp := hyp.1 hc
      refine mf_aload_n (mf_dat eX12_beingTold_p1 3 rfl) rfl rfl ?_
      refine mf_getf (r := (RX12, TX12, 106)) (ci := 12) (k := 42) (t := 2) (v := g20 x0 42) (mf_dat eX12_beingTold_p1 4 rfl) fl_X12_111 rfl (by decide) rfl rfl ck1 ?_
      refine mf_aload_n (mf_dat eX12_beingTold_p1 5 rfl) rfl rfl ?_
      refine mf_getf (r := (RX12, TX12, 106)) (ci := 12) (k := 41) (t := 2) (v := g20 x0 41) (mf_dat eX12_beingTold_p1 6 rfl) fl_X12_108 rfl (by decide) rfl rfl ck1 ?_
      refine mf_iconst (v := 0) (mf_dat eX12_beingTold_p1 7 rfl) (by decide) ?_
      obtain ⟨ck22, hyp⟩ := hyp
      obtain ⟨ck23, hyp⟩ := hyp
      refine mf_iald (mf_dat eX12_beingTold_p1 8 rfl) ck22 (by decide) ck23 ?_
      refine mf_lload_n (mf_dat eX12_beingTold_p1 9 rfl) rfl rfl ?_
      obtain ⟨ck24, hyp⟩ := hyp
      obtain ⟨ck25, hyp⟩ := hyp
      obtain ⟨ck26, hyp⟩ := hyp
      refine mf_last (mf_dat eX12_beingTold_p1 10 rfl) ck24 ck25 ck26 ?_
      generalize qh27 : mf_up h21 (g20 x0 42) (h21 (g20 x0 41) 0) x2 = h27
      replace hyp := hyp _ qh27.symm
      refine mf_aload_n (mf_dat eX12_beingTold_p1 11 rfl) rfl rfl ?_
      refine mf_getf (r := (RX12, TX12, 106)) (ci := 12) (k := 45) (t := 2) (v := g20 x0 45) (mf_dat eX12_beingTold_p1 12 rfl) fl_X12_121 rfl (by decide) rfl rfl ck1 ?_
      refine mf_iconst (v := 2) (mf_dat eX12_beingTold_p1 13 rfl) (by decide) ?_
      refine mf_aload_n (mf_dat eX12_beingTold_p1 14 rfl) rfl rfl ?_
      refine mf_getf (r := (RX12, TX12, 106)) (ci := 12) (k := 41) (t := 2) (v := g20 x0 41) (mf_dat eX12_beingTold_p1 15 rfl) fl_X12_108 rfl (by decide) rfl rfl ck1 ?_
      refine mf_iconst (v := 0) (mf_dat eX12_beingTold_p1 16 rfl) (by decide) ?_
      refine mf_iald (mf_dat eX12_beingTold_p1 17 rfl) ck22 (by decide) ck23 ?_
      refine mf_imul (mf_dat eX12_beingTold_p1 18 rfl) ?_
      refine mf_iload (mf_dat eX12_beingTold_p1 19 rfl) rfl ?_
      obtain ⟨ck28, hyp⟩ := hyp
      obtain ⟨ck29, hyp⟩ := hyp
      obtain ⟨ck30, hyp⟩ := hyp
      refine mf_iast (mf_dat eX12_beingTold_p1 20 rfl) ck28 ck29 ck30 ?_
      generalize qh31 : mf_up h27 (g20 x0 45) (mf_w32 (2 * (h27 (g20 x0 41) 0))) r7 = h31
      replace hyp := hyp _ qh31.symm
      refine mf_aload_n (mf_dat eX12_beingTold_p1 21 rfl) rfl rfl ?_
      refine mf_getf (r := (RX12, TX12, 106)) (ci := 12) (k := 45) (t := 2) (v := g20 x0 45) (mf_dat eX12_beingTold_p1 22 rfl) fl_X12_121 rfl (by decide) rfl rfl ck1 ?_
      refine mf_iconst (v := 2) (mf_dat eX12_beingTold_p1 23 rfl) (by decide) ?_
      refine mf_aload_n (mf_dat eX12_beingTold_p1 24 rfl) rfl rfl ?_
      refine mf_getf (r := (RX12, TX12, 106)) (ci := 12) (k := 41) (t := 2) (v := g20 x0 41) (mf_dat eX12_beingTold_p1 25 rfl) fl_X12_108 rfl (by decide) rfl rfl ck1 ?_
      refine mf_iconst (v := 0) (mf_dat eX12_beingTold_p1 26 rfl) (by decide) ?_
      refine mf_iald (mf_dat eX12_beingTold_p1 27 rfl) ck22 (by decide) ck23 ?_
      refine mf_imul (mf_dat eX12_beingTold_p1 28 rfl) ?_
      refine mf_iconst (v := 1) (mf_dat eX12_beingTold_p1 29 rfl) (by decide) ?_
      refine mf_iadd (mf_dat eX12_beingTold_p1 30 rfl) ?_
      refine mf_iload (mf_dat eX12_beingTold_p1 31 rfl) rfl ?_
      obtain ⟨ck32, hyp⟩ := hyp
      obtain ⟨ck33, hyp⟩ := hyp
      refine mf_iast (mf_dat eX12_beingTold_p1 32 rfl) ck28 ck32 ck33 ?_
      generalize qh34 : mf_up h31 (g20 x0 45) (mf_w32 ((mf_w32 (2 * (h31 (g20 x0 41) 0))) + 1)) r13 = h34
      replace hyp := hyp _ qh34.symm
      refine mf_aload_n (mf_dat eX12_beingTold_p1 33 rfl) rfl rfl ?_
      refine mf_getf (r := (RX12, TX12, 106)) (ci := 12) (k := 46) (t := 2) (v := g20 x0 46) (mf_dat eX12_beingTold_p1 34 rfl) fl_X12_124 rfl (by decide) rfl rfl ck1 ?_
      refine mf_aload_n (mf_dat eX12_beingTold_p1 35 rfl) rfl rfl ?_
      refine mf_getf (r := (RX12, TX12, 106)) (ci := 12) (k := 41) (t := 2) (v := g20 x0 41) (mf_dat eX12_beingTold_p1 36 rfl) fl_X12_108 rfl (by decide) rfl rfl ck1 ?_
      refine mf_iconst (v := 0) (mf_dat eX12_beingTold_p1 37 rfl) (by decide) ?_
      refine mf_iald (mf_dat eX12_beingTold_p1 38 rfl) ck22 (by decide) ck23 ?_
      refine mf_iload (mf_dat eX12_beingTold_p1 39 rfl) rfl ?_
      obtain ⟨ck35, hyp⟩ := hyp
      obtain ⟨ck36, hyp⟩ := hyp
      obtain ⟨ck37, hyp⟩ := hyp
      refine mf_iast (mf_dat eX12_beingTold_p1 40 rfl) ck35 ck36 ck37 ?_
      generalize qh38 : mf_up h34 (g20 x0 46) (h34 (g20 x0 41) 0) r19 = h38
      replace hyp := hyp _ qh38.symm
      refine mf_aload_n (mf_dat eX12_beingTold_p1 41 rfl) rfl rfl ?_
      refine mf_getf (r := (RX12, TX12, 106)) (ci := 12) (k := 41) (t := 2) (v := g20 x0 41) (mf_dat eX12_beingTold_p1 42 rfl) fl_X12_108 rfl (by decide) rfl rfl ck1 ?_
      refine mf_iconst (v := 0) (mf_dat eX12_beingTold_p1 43 rfl) (by decide) ?_
      refine mf_dup2 (mf_dat eX12_beingTold_p1 44 rfl) (by decide) (by decide) ?_
      refine mf_iald (mf_dat eX12_beingTold_p1 45 rfl) ck22 (by decide) ck23 ?_
      refine mf_iconst (v := 1) (mf_dat eX12_beingTold_p1 46 rfl) (by decide) ?_
      refine mf_iadd (mf_dat eX12_beingTold_p1 47 rfl) ?_
      refine mf_iast (mf_dat eX12_beingTold_p1 48 rfl) ck22 (by decide) ck23 ?_
      generalize qh39 : mf_up h38 (g20 x0 41) 0 (mf_w32 ((h38 (g20 x0 41) 0) + 1)) = h39
      replace hyp := hyp _ qh39.symm
      exact mf_return (mf_dat eX12_beingTold_p1 49 rfl) rfl hyp
    · replace hyp := hyp.2 hc
      exact mf_return (mf_dat eX12_beingTold_p1 2 rfl) rfl hyp
  · replace hyp := hyp.2 hc
    refine mf_aload_n (mf_dat eX12_beingTold_p0 18 rfl) rfl rfl ?_
    refine mf_getf (r := (RX12, TX12, 106)) (ci := 12) (k := 5) (t := 0) (v := h x0 5) (mf_dat eX12_beingTold_p0 19 rfl) fl_X12_243 rfl (by decide) rfl rfl ck1 ?_
    refine mf_if_ne (tgt := 59) (mf_dat eX12_beingTold_p0 20 rfl) (by decide) (fun hc => ?_) (fun hc => ?_)
    · replace hyp := hyp.1 hc
      refine mf_iinc (mf_dat eX12_beingTold_p0 33 rfl) rfl (by decide) (by decide) ?_
      generalize qv40 : mf_w32 (x4 + 1) = v40
      replace hyp := hyp _ qv40.symm
      refine mf_goto (tgt := 20) (mf_dat eX12_beingTold_p0 34 rfl) (by decide) ?_
      exact mf_sub [1, 2, 0] rfl hyp
    · replace hyp := hyp.2 hc
      refine mf_aload_n (mf_dat eX12_beingTold_p0 21 rfl) rfl rfl ?_
      refine mf_getf (r := (RX12, TX12, 106)) (ci := 12) (k := 42) (t := 2) (v := g x0 42) (mf_dat eX12_beingTold_p0 22 rfl) fl_X12_111 rfl (by decide) rfl rfl ck1 ?_
      refine mf_iload (mf_dat eX12_beingTold_p0 23 rfl) rfl ?_
      obtain ⟨ck41, hyp⟩ := hyp
      obtain ⟨ck42, hyp⟩ := hyp
      obtain ⟨ck43, hyp⟩ := hyp
      refine mf_lald (mf_dat eX12_beingTold_p0 24 rfl) ck41 ck42 ck43 ?_
      refine mf_lload_n (mf_dat eX12_beingTold_p0 25 rfl) rfl rfl ?_
      refine mf_lcmp_ne (tgt := 59) (mf_dat eX12_beingTold_p0 26 rfl) (mf_dat eX12_beingTold_p0 27 rfl) (by decide) (fun hc => ?_) (fun hc => ?_)
      · replace hyp := hyp.1 hc
        refine mf_iinc (mf_dat eX12_beingTold_p0 33 rfl) rfl (by decide) (by decide) ?_
        generalize qv44 : mf_w32 (x4 + 1) = v44
        replace hyp := hyp _ qv44.symm
        refine mf_goto (tgt := 20) (mf_dat eX12_beingTold_p0 34 rfl) (by decide) ?_
        exact mf_sub [1, 2, 0] rfl hyp
      · replace hyp := hyp.2 hc
        refine mf_aload_n (mf_dat eX12_beingTold_p0 28 rfl) rfl rfl ?_
        refine mf_iconst (v := 3) (mf_dat eX12_beingTold_p0 29 rfl) (by decide) ?_
        refine mf_aload_n (mf_dat eX12_beingTold_p0 30 rfl) rfl rfl ?_
        refine mf_getf (r := (RX12, TX12, 106)) (ci := 12) (k := 39) (t := 0) (v := h x0 39) (mf_dat eX12_beingTold_p0 31 rfl) fl_X12_294 rfl (by decide) rfl rfl ck1 ?_
        refine mf_callV (Yc := YX12_fail) (r := (RX12, TX12, 106)) (ci := 12) (mf_dat eX12_beingTold_p0 32 rfl) ml_X12_273 okX12_fail im_X12_fail sl_X12_fail rfl rfl rfl rfl (Nat.le_of_ble_eq_true rfl) (mf_rr (Nat.le_trans (by decide) hd) (Nat.le_refl _)) (Nat.le_refl _) ck1 hyp (fun r45 g46 h47 hyp => ?_)
        refine mf_iinc (mf_dat eX12_beingTold_p0 33 rfl) rfl (by decide) (by decide) ?_
        generalize qv48 : mf_w32 (x4 + 1) = v48
        replace hyp := hyp _ qv48.symm
        refine mf_goto (tgt := 20) (mf_dat eX12_beingTold_p0 34 rfl) (by decide) ?_
        exact mf_sub [1, 2, 0] rfl hyp
set_option maxRecDepth 100000 in
set_option maxHeartbeats 4000000 in
theorem mX12_beingTold {C : mf_G} {l : Launch} {d n : Nat} {K : mf_Kt} {x0 x1 : Int} {g h : mf_M} (hd : 4 ≤ d) (hyp : mf_is n x0 12 ∧ mf_MT C l 1 YX12_isFull [(2, x0), (0, 0), (0, 8), (0, x1)] n n g h (fun r1 g2 h3 => ((r1 = 0 → mf_MT C l 3 YX12_name [(2, x0)] n n g2 h3 (fun r5 g6 h7 => JX12_beingTold_20 C l d n K x0 r5 0 g6 h7)) ∧ (¬ r1 = 0 → K 0 g2 h3)))) : mf_MT C l d YX12_beingTold [(2, x0), (0, x1)] n n g h K := by
  refine mf_entry (by decide) (Nat.le_of_ble_eq_true rfl) ?_
  refine mf_aload_n (mf_dat eX12_beingTold_p0 0 rfl) rfl rfl ?_
  refine mf_iconst (v := 0) (mf_dat eX12_beingTold_p0 1 rfl) (by decide) ?_
  refine mf_bipush (v := 8) (mf_dat eX12_beingTold_p0 2 rfl) (by decide) ?_
  refine mf_iload_n (mf_dat eX12_beingTold_p0 3 rfl) rfl rfl ?_
  obtain ⟨ck4, hyp⟩ := hyp
  refine mf_callV (Yc := YX12_isFull) (r := (RX12, TX12, 106)) (ci := 12) (mf_dat eX12_beingTold_p0 4 rfl) ml_X12_320 okX12_isFull im_X12_isFull sl_X12_isFull rfl rfl rfl rfl (Nat.le_of_ble_eq_true rfl) (mf_rr (Nat.le_trans (by decide) hd) (Nat.le_refl _)) (Nat.le_refl _) ck4 hyp (fun r1 g2 h3 hyp => ?_)
  refine mf_if_eq (tgt := 12) (mf_dat eX12_beingTold_p0 5 rfl) (by decide) (fun hc => ?_) (fun hc => ?_)
  · replace hyp := hyp.1 hc
    refine mf_aload_n (mf_dat eX12_beingTold_p0 7 rfl) rfl rfl ?_
    refine mf_callV (Yc := YX12_name) (r := (RX12, TX12, 106)) (ci := 12) (mf_dat eX12_beingTold_p0 8 rfl) ml_X12_331 okX12_name im_X12_name sl_X12_name rfl rfl rfl rfl (Nat.le_of_ble_eq_true rfl) (mf_rr (Nat.le_trans (by decide) hd) (Nat.le_refl _)) (Nat.le_refl _) ck4 hyp (fun r5 g6 h7 hyp => ?_)
    refine mf_lstore_n (mf_dat eX12_beingTold_p0 9 rfl) rfl (by decide) ?_
    refine mf_iconst (v := 0) (mf_dat eX12_beingTold_p0 10 rfl) (by decide) ?_
    refine mf_istore (mf_dat eX12_beingTold_p0 11 rfl) (by decide) ?_
    exact mf_sub [2, 1, 0] rfl hyp
  · replace hyp := hyp.2 hc
    exact mf_return (mf_dat eX12_beingTold_p0 6 rfl) rfl hyp
abbrev JX12_codesTold_23 (C : mf_G) (l : Launch) (d n : Nat) (K : mf_Kt) (x0 x1 : Int) (g h : mf_M) : Prop := mf_AW C l YX12_codesTold (mf_rm d n n) n (mf_Zm C YX12_codesTold n n K) (fun _ _ => True) 23 [(0, (2, x0)), (1, (0, x1))] [] n g h
abbrev JX12_codesTold_95 (C : mf_G) (l : Launch) (d n : Nat) (K : mf_Kt) (x0 x1 x3 : Int) (g h : mf_M) : Prop := mf_AW C l YX12_codesTold (mf_rm d n n) n (mf_Zm C YX12_codesTold n n K) (fun _ _ => True) 95 [(0, (2, x0)), (1, (0, x1)), (3, (0, x3))] [] n g h
set_option maxRecDepth 100000 in
set_option maxHeartbeats 4000000 in
theorem bX12_codesTold_23 {C : mf_G} {l : Launch} {d n : Nat} {K : mf_Kt} {x0 x1 : Int} {g h : mf_M} (hd : 9 ≤ d) (hyp : mf_is n x0 12 ∧ ((h x0 5 = 0 → mf_MT C l 0 YX12_kindBy [(0, x1)] n n g h (fun r2 g3 h4 => (∀ h5 : mf_M, h5 = mf_up h4 x0 55 r2 → (∀ h6 : mf_M, h6 = mf_up h5 x0 95 0 → (∀ h7 : mf_M, h7 = mf_up h6 x0 97 0 → (∀ h8 : mf_M, h8 = mf_up h7 x0 98 0 → (∀ h9 : mf_M, h9 = mf_up h8 x0 99 0 → ((¬ x1 = 3 → mf_MT C l 6 YX12_qSums [(2, x0)] n n g3 h9 (fun r10 g11 h12 => ((h12 x0 5 = 0 → mf_is n (g11 x0 49) 20 ∧ 0 ≤ x1 ∧ x1 < mf_len (g11 x0 49) ∧ (∀ h16 : mf_M, h16 = mf_up h12 (g11 x0 49) x1 (h12 x0 52) → JX12_codesTold_95 C l d n K x0 x1 0 g11 h16)) ∧ (¬ h12 x0 5 = 0 → K 0 g11 h12)))) ∧ (x1 = 3 → mf_MT C l 8 YX12_qTest [(2, x0)] n n g3 h9 (fun r17 g18 h19 => ((h19 x0 5 = 0 → mf_is n (g18 x0 49) 20 ∧ 0 ≤ x1 ∧ x1 < mf_len (g18 x0 49) ∧ (∀ h23 : mf_M, h23 = mf_up h19 (g18 x0 49) x1 (h19 x0 52) → JX12_codesTold_95 C l d n K x0 x1 0 g18 h23)) ∧ (¬ h19 x0 5 = 0 → K 0 g18 h19)))))))))))) ∧ (¬ h x0 5 = 0 → K 0 g h))) : JX12_codesTold_23 C l d n K x0 x1 g h := by
  refine mf_aload_n (mf_dat eX12_codesTold_p0 13 rfl) rfl rfl ?_
  obtain ⟨ck1, hyp⟩ := hyp
  refine mf_getf (r := (RX12, TX12, 106)) (ci := 12) (k := 5) (t := 0) (v := h x0 5) (mf_dat eX12_codesTold_p0 14 rfl) fl_X12_243 rfl (by decide) rfl rfl ck1 ?_
  refine mf_if_eq (tgt := 31) (mf_dat eX12_codesTold_p0 15 rfl) (by decide) (fun hc => ?_) (fun hc => ?_)
  · replace hyp := hyp.1 hc
    refine mf_aload_n (mf_dat eX12_codesTold_p0 17 rfl) rfl rfl ?_
    refine mf_iload_n (mf_dat eX12_codesTold_p0 18 rfl) rfl rfl ?_
    refine mf_callS (Yc := YX12_kindBy) (mf_dat eX12_codesTold_p0 19 rfl) ml_X12_335 okX12_kindBy sm_X12_kindBy rfl rfl (Nat.le_of_ble_eq_true rfl) (mf_rr (Nat.le_trans (by decide) hd) (Nat.le_refl _)) (Nat.le_refl _) hyp (fun r2 g3 h4 hyp => ?_)
    refine mf_putI (r := (RX12, TX12, 106)) (ci := 12) (k := 55) (kI := 55) (t := 0) (mf_dat eX12_codesTold_p0 20 rfl) fl_X12_301 rfl rfl (by decide) rfl (by decide) rfl (by decide) (fun h9 => absurd h9 (by decide)) ck1 ?_
    generalize qh5 : mf_up h4 x0 55 r2 = h5
    replace hyp := hyp _ qh5.symm
    refine mf_aload_n (mf_dat eX12_codesTold_p0 21 rfl) rfl rfl ?_
    refine mf_iconst (v := 0) (mf_dat eX12_codesTold_p0 22 rfl) (by decide) ?_
    refine mf_putI (r := (RX12, TX12, 106)) (ci := 12) (k := 95) (kI := 95) (t := 0) (mf_dat eX12_codesTold_p0 23 rfl) fl_X12_338 rfl rfl (by decide) rfl (by decide) rfl (by decide) (fun h9 => absurd h9 (by decide)) ck1 ?_
    generalize qh6 : mf_up h5 x0 95 0 = h6
    replace hyp := hyp _ qh6.symm
    refine mf_aload_n (mf_dat eX12_codesTold_p0 24 rfl) rfl rfl ?_
    refine mf_iconst (v := 0) (mf_dat eX12_codesTold_p0 25 rfl) (by decide) ?_
    refine mf_putI (r := (RX12, TX12, 106)) (ci := 12) (k := 97) (kI := 97) (t := 0) (mf_dat eX12_codesTold_p0 26 rfl) fl_X12_341 rfl rfl (by decide) rfl (by decide) rfl (by decide) (fun h9 => absurd h9 (by decide)) ck1 ?_
    generalize qh7 : mf_up h6 x0 97 0 = h7
    replace hyp := hyp _ qh7.symm
    refine mf_aload_n (mf_dat eX12_codesTold_p0 27 rfl) rfl rfl ?_
    refine mf_iconst (v := 0) (mf_dat eX12_codesTold_p0 28 rfl) (by decide) ?_
    refine mf_putI (r := (RX12, TX12, 106)) (ci := 12) (k := 98) (kI := 98) (t := 0) (mf_dat eX12_codesTold_p0 29 rfl) fl_X12_344 rfl rfl (by decide) rfl (by decide) rfl (by decide) (fun h9 => absurd h9 (by decide)) ck1 ?_
    generalize qh8 : mf_up h7 x0 98 0 = h8
    replace hyp := hyp _ qh8.symm
    refine mf_aload_n (mf_dat eX12_codesTold_p0 30 rfl) rfl rfl ?_
    refine mf_iconst (v := 0) (mf_dat eX12_codesTold_p0 31 rfl) (by decide) ?_
    refine mf_putI (r := (RX12, TX12, 106)) (ci := 12) (k := 99) (kI := 99) (t := 0) (mf_dat eX12_codesTold_p0 32 rfl) fl_X12_347 rfl rfl (by decide) rfl (by decide) rfl (by decide) (fun h9 => absurd h9 (by decide)) ck1 ?_
    generalize qh9 : mf_up h8 x0 99 0 = h9
    replace hyp := hyp _ qh9.symm
    refine mf_iload_n (mf_dat eX12_codesTold_p0 33 rfl) rfl rfl ?_
    refine mf_iconst (v := 3) (mf_dat eX12_codesTold_p0 34 rfl) (by decide) ?_
    refine mf_icmp_ne (tgt := 71) (mf_dat eX12_codesTold_p0 35 rfl) (by decide) (fun hc => ?_) (fun hc => ?_)
    · replace hyp := hyp.1 hc
      refine mf_aload_n (mf_dat eX12_codesTold_p0 39 rfl) rfl rfl ?_
      refine mf_callV (Yc := YX12_qSums) (r := (RX12, TX12, 106)) (ci := 12) (mf_dat eX12_codesTold_p0 40 rfl) ml_X12_353 okX12_qSums im_X12_qSums sl_X12_qSums rfl rfl rfl rfl (Nat.le_of_ble_eq_true rfl) (mf_rr (Nat.le_trans (by decide) hd) (Nat.le_refl _)) (Nat.le_refl _) ck1 hyp (fun r10 g11 h12 hyp => ?_)
      refine mf_aload_n (mf_dat eX12_codesTold_p0 41 rfl) rfl rfl ?_
      refine mf_getf (r := (RX12, TX12, 106)) (ci := 12) (k := 5) (t := 0) (v := h12 x0 5) (mf_dat eX12_codesTold_p0 42 rfl) fl_X12_243 rfl (by decide) rfl rfl ck1 ?_
      refine mf_if_eq (tgt := 83) (mf_dat eX12_codesTold_p0 43 rfl) (by decide) (fun hc => ?_) (fun hc => ?_)
      · replace hyp := hyp.1 hc
        refine mf_aload_n (mf_dat eX12_codesTold_p0 45 rfl) rfl rfl ?_
        refine mf_getf (r := (RX12, TX12, 106)) (ci := 12) (k := 49) (t := 2) (v := g11 x0 49) (mf_dat eX12_codesTold_p0 46 rfl) fl_X12_127 rfl (by decide) rfl rfl ck1 ?_
        refine mf_iload_n (mf_dat eX12_codesTold_p0 47 rfl) rfl rfl ?_
        refine mf_aload_n (mf_dat eX12_codesTold_p0 48 rfl) rfl rfl ?_
        refine mf_getf (r := (RX12, TX12, 106)) (ci := 12) (k := 52) (t := 0) (v := h12 x0 52) (mf_dat eX12_codesTold_p0 49 rfl) fl_X12_356 rfl (by decide) rfl rfl ck1 ?_
        obtain ⟨ck13, hyp⟩ := hyp
        obtain ⟨ck14, hyp⟩ := hyp
        obtain ⟨ck15, hyp⟩ := hyp
        refine mf_iast (mf_dat eX12_codesTold_p0 50 rfl) ck13 ck14 ck15 ?_
        generalize qh16 : mf_up h12 (g11 x0 49) x1 (h12 x0 52) = h16
        replace hyp := hyp _ qh16.symm
        refine mf_iconst (v := 0) (mf_dat eX12_codesTold_p0 51 rfl) (by decide) ?_
        refine mf_istore_n (mf_dat eX12_codesTold_p0 52 rfl) rfl (by decide) ?_
        exact mf_sub [1, 2, 0] rfl hyp
      · replace hyp := hyp.2 hc
        exact mf_return (mf_dat eX12_codesTold_p0 44 rfl) rfl hyp
    · replace hyp := hyp.2 hc
      refine mf_aload_n (mf_dat eX12_codesTold_p0 36 rfl) rfl rfl ?_
      refine mf_callV (Yc := YX12_qTest) (r := (RX12, TX12, 106)) (ci := 12) (mf_dat eX12_codesTold_p0 37 rfl) ml_X12_350 okX12_qTest im_X12_qTest sl_X12_qTest rfl rfl rfl rfl (Nat.le_of_ble_eq_true rfl) (mf_rr (Nat.le_trans (by decide) hd) (Nat.le_refl _)) (Nat.le_refl _) ck1 hyp (fun r17 g18 h19 hyp => ?_)
      refine mf_goto (tgt := 75) (mf_dat eX12_codesTold_p0 38 rfl) (by decide) ?_
      refine mf_aload_n (mf_dat eX12_codesTold_p0 41 rfl) rfl rfl ?_
      refine mf_getf (r := (RX12, TX12, 106)) (ci := 12) (k := 5) (t := 0) (v := h19 x0 5) (mf_dat eX12_codesTold_p0 42 rfl) fl_X12_243 rfl (by decide) rfl rfl ck1 ?_
      refine mf_if_eq (tgt := 83) (mf_dat eX12_codesTold_p0 43 rfl) (by decide) (fun hc => ?_) (fun hc => ?_)
      · replace hyp := hyp.1 hc
        refine mf_aload_n (mf_dat eX12_codesTold_p0 45 rfl) rfl rfl ?_
        refine mf_getf (r := (RX12, TX12, 106)) (ci := 12) (k := 49) (t := 2) (v := g18 x0 49) (mf_dat eX12_codesTold_p0 46 rfl) fl_X12_127 rfl (by decide) rfl rfl ck1 ?_
        refine mf_iload_n (mf_dat eX12_codesTold_p0 47 rfl) rfl rfl ?_
        refine mf_aload_n (mf_dat eX12_codesTold_p0 48 rfl) rfl rfl ?_
        refine mf_getf (r := (RX12, TX12, 106)) (ci := 12) (k := 52) (t := 0) (v := h19 x0 52) (mf_dat eX12_codesTold_p0 49 rfl) fl_X12_356 rfl (by decide) rfl rfl ck1 ?_
        obtain ⟨ck20, hyp⟩ := hyp
        obtain ⟨ck21, hyp⟩ := hyp
        obtain ⟨ck22, hyp⟩ := hyp
        refine mf_iast (mf_dat eX12_codesTold_p0 50 rfl) ck20 ck21 ck22 ?_
        generalize qh23 : mf_up h19 (g18 x0 49) x1 (h19 x0 52) = h23
        replace hyp := hyp _ qh23.symm
        refine mf_iconst (v := 0) (mf_dat eX12_codesTold_p0 51 rfl) (by decide) ?_
        refine mf_istore_n (mf_dat eX12_codesTold_p0 52 rfl) rfl (by decide) ?_
        exact mf_sub [1, 2, 0] rfl hyp
      · replace hyp := hyp.2 hc
        exact mf_return (mf_dat eX12_codesTold_p0 44 rfl) rfl hyp
  · replace hyp := hyp.2 hc
    exact mf_return (mf_dat eX12_codesTold_p0 16 rfl) rfl hyp
set_option maxRecDepth 100000 in
set_option maxHeartbeats 4000000 in
theorem bX12_codesTold_95 {C : mf_G} {l : Launch} {d n : Nat} {K : mf_Kt} {x0 x1 x3 : Int} {g h : mf_M} (hyp : mf_is n x0 12 ∧ ((h x0 95 ≤ x3 → mf_is n (g x0 50) 20 ∧ 0 ≤ x1 ∧ x1 < mf_len (g x0 50) ∧ (∀ h5 : mf_M, h5 = mf_up h (g x0 50) x1 (h x0 52) → K 0 g h5)) ∧ (¬ h x0 95 ≤ x3 → mf_is n (g x0 94) 20 ∧ 0 ≤ x3 ∧ x3 < mf_len (g x0 94) ∧ mf_is n (g x0 51) 20 ∧ 0 ≤ h x0 52 ∧ h x0 52 < mf_len (g x0 51) ∧ (∀ h12 : mf_M, h12 = mf_up h (g x0 51) (h x0 52) (h (g x0 94) x3) → (∀ h13 : mf_M, h13 = mf_up h12 x0 52 (mf_w32 ((h12 x0 52) + 1)) → (∀ v14 : Int, v14 = mf_w32 (x3 + 1) → JX12_codesTold_95 C l d n K x0 x1 v14 g h13)))))) : JX12_codesTold_95 C l d n K x0 x1 x3 g h := by
  refine mf_iload_n (mf_dat eX12_codesTold_p0 53 rfl) rfl rfl ?_
  refine mf_aload_n (mf_dat eX12_codesTold_p0 54 rfl) rfl rfl ?_
  obtain ⟨ck1, hyp⟩ := hyp
  refine mf_getf (r := (RX12, TX12, 106)) (ci := 12) (k := 95) (t := 0) (v := h x0 95) (mf_dat eX12_codesTold_p0 55 rfl) fl_X12_338 rfl (by decide) rfl rfl ck1 ?_
  refine mf_icmp_ge (tgt := 134) (mf_dat eX12_codesTold_p0 56 rfl) (by decide) (fun hc => ?_) (fun hc => ?_)
  · replace hyp := hyp.1 hc
    refine mf_aload_n (mf_dat eX12_codesTold_p1 14 rfl) rfl rfl ?_
    refine mf_getf (r := (RX12, TX12, 106)) (ci := 12) (k := 50) (t := 2) (v := g x0 50) (mf_dat eX12_codesTold_p1 15 rfl) fl_X12_130 rfl (by decide) rfl rfl ck1 ?_
    refine mf_iload_n (mf_dat eX12_codesTold_p1 16 rfl) rfl rfl ?_
    refine mf_aload_n (mf_dat eX12_codesTold_p1 17 rfl) rfl rfl ?_
    refine mf_getf (r := (RX12, TX12, 106)) (ci := 12) (k := 52) (t := 0) (v := h x0 52) (mf_dat eX12_codesTold_p1 18 rfl) fl_X12_356 rfl (by decide) rfl rfl ck1 ?_
    obtain ⟨ck2, hyp⟩ := hyp
    obtain ⟨ck3, hyp⟩ := hyp
    obtain ⟨ck4, hyp⟩ := hyp
    refine mf_iast (mf_dat eX12_codesTold_p1 19 rfl) ck2 ck3 ck4 ?_
    generalize qh5 : mf_up h (g x0 50) x1 (h x0 52) = h5
    replace hyp := hyp _ qh5.symm
    exact mf_return (mf_dat eX12_codesTold_p1 20 rfl) rfl hyp
  · replace hyp := hyp.2 hc
    refine mf_aload_n (mf_dat eX12_codesTold_p0 57 rfl) rfl rfl ?_
    refine mf_getf (r := (RX12, TX12, 106)) (ci := 12) (k := 51) (t := 2) (v := g x0 51) (mf_dat eX12_codesTold_p0 58 rfl) fl_X12_133 rfl (by decide) rfl rfl ck1 ?_
    refine mf_aload_n (mf_dat eX12_codesTold_p0 59 rfl) rfl rfl ?_
    refine mf_getf (r := (RX12, TX12, 106)) (ci := 12) (k := 52) (t := 0) (v := h x0 52) (mf_dat eX12_codesTold_p1 0 rfl) fl_X12_356 rfl (by decide) rfl rfl ck1 ?_
    refine mf_aload_n (mf_dat eX12_codesTold_p1 1 rfl) rfl rfl ?_
    refine mf_getf (r := (RX12, TX12, 106)) (ci := 12) (k := 94) (t := 2) (v := g x0 94) (mf_dat eX12_codesTold_p1 2 rfl) fl_X12_228 rfl (by decide) rfl rfl ck1 ?_
    refine mf_iload_n (mf_dat eX12_codesTold_p1 3 rfl) rfl rfl ?_
    obtain ⟨ck6, hyp⟩ := hyp
    obtain ⟨ck7, hyp⟩ := hyp
    obtain ⟨ck8, hyp⟩ := hyp
    refine mf_iald (mf_dat eX12_codesTold_p1 4 rfl) ck6 ck7 ck8 ?_
    obtain ⟨ck9, hyp⟩ := hyp
    obtain ⟨ck10, hyp⟩ := hyp
    obtain ⟨ck11, hyp⟩ := hyp
    refine mf_iast (mf_dat eX12_codesTold_p1 5 rfl) ck9 ck10 ck11 ?_
    generalize qh12 : mf_up h (g x0 51) (h x0 52) (h (g x0 94) x3) = h12
    replace hyp := hyp _ qh12.symm
    refine mf_aload_n (mf_dat eX12_codesTold_p1 6 rfl) rfl rfl ?_
    refine mf_dup (mf_dat eX12_codesTold_p1 7 rfl) (by decide) ?_
    refine mf_getf (r := (RX12, TX12, 106)) (ci := 12) (k := 52) (t := 0) (v := h12 x0 52) (mf_dat eX12_codesTold_p1 8 rfl) fl_X12_356 rfl (by decide) rfl rfl ck1 ?_
    refine mf_iconst (v := 1) (mf_dat eX12_codesTold_p1 9 rfl) (by decide) ?_
    refine mf_iadd (mf_dat eX12_codesTold_p1 10 rfl) ?_
    refine mf_putI (r := (RX12, TX12, 106)) (ci := 12) (k := 52) (kI := 52) (t := 0) (mf_dat eX12_codesTold_p1 11 rfl) fl_X12_356 rfl rfl (by decide) rfl (by decide) rfl (by decide) (fun h9 => absurd h9 (by decide)) ck1 ?_
    generalize qh13 : mf_up h12 x0 52 (mf_w32 ((h12 x0 52) + 1)) = h13
    replace hyp := hyp _ qh13.symm
    refine mf_iinc (mf_dat eX12_codesTold_p1 12 rfl) rfl (by decide) (by decide) ?_
    generalize qv14 : mf_w32 (x3 + 1) = v14
    replace hyp := hyp _ qv14.symm
    refine mf_goto (tgt := 95) (mf_dat eX12_codesTold_p1 13 rfl) (by decide) ?_
    exact mf_sub [1, 2, 0] rfl hyp
set_option maxRecDepth 100000 in
set_option maxHeartbeats 4000000 in
theorem mX12_codesTold {C : mf_G} {l : Launch} {d n : Nat} {K : mf_Kt} {x0 x1 x2 : Int} {g h : mf_M} (hd : 1 ≤ d) (hyp : mf_is n x0 12 ∧ ((¬ h x0 5 = 0 → JX12_codesTold_23 C l d n K x0 x1 g h) ∧ (h x0 5 = 0 → mf_is n (g x0 49) 20 ∧ 0 ≤ x1 ∧ x1 < mf_len (g x0 49) ∧ ((h (g x0 49) x1 = (-1) → JX12_codesTold_23 C l d n K x0 x1 g h) ∧ (¬ h (g x0 49) x1 = (-1) → mf_MT C l 0 YX12_fail [(2, x0), (0, 5), (0, x2)] n n g h (fun r5 g6 h7 => JX12_codesTold_23 C l d n K x0 x1 g6 h7)))))) : mf_MT C l d YX12_codesTold [(2, x0), (0, x1), (0, x2)] n n g h K := by
  refine mf_entry (by decide) (Nat.le_of_ble_eq_true rfl) ?_
  refine mf_aload_n (mf_dat eX12_codesTold_p0 0 rfl) rfl rfl ?_
  obtain ⟨ck1, hyp⟩ := hyp
  refine mf_getf (r := (RX12, TX12, 106)) (ci := 12) (k := 5) (t := 0) (v := h x0 5) (mf_dat eX12_codesTold_p0 1 rfl) fl_X12_243 rfl (by decide) rfl rfl ck1 ?_
  refine mf_if_ne (tgt := 23) (mf_dat eX12_codesTold_p0 2 rfl) (by decide) (fun hc => ?_) (fun hc => ?_)
  · replace hyp := hyp.1 hc
    exact mf_sub [0, 1] rfl hyp
  · replace hyp := hyp.2 hc
    refine mf_aload_n (mf_dat eX12_codesTold_p0 3 rfl) rfl rfl ?_
    refine mf_getf (r := (RX12, TX12, 106)) (ci := 12) (k := 49) (t := 2) (v := g x0 49) (mf_dat eX12_codesTold_p0 4 rfl) fl_X12_127 rfl (by decide) rfl rfl ck1 ?_
    refine mf_iload_n (mf_dat eX12_codesTold_p0 5 rfl) rfl rfl ?_
    obtain ⟨ck2, hyp⟩ := hyp
    obtain ⟨ck3, hyp⟩ := hyp
    obtain ⟨ck4, hyp⟩ := hyp
    refine mf_iald (mf_dat eX12_codesTold_p0 6 rfl) ck2 ck3 ck4 ?_
    refine mf_iconst (v := (-1)) (mf_dat eX12_codesTold_p0 7 rfl) (by decide) ?_
    refine mf_icmp_eq (tgt := 23) (mf_dat eX12_codesTold_p0 8 rfl) (by decide) (fun hc => ?_) (fun hc => ?_)
    · replace hyp := hyp.1 hc
      exact mf_sub [0, 1] rfl hyp
    · replace hyp := hyp.2 hc
      refine mf_aload_n (mf_dat eX12_codesTold_p0 9 rfl) rfl rfl ?_
      refine mf_iconst (v := 5) (mf_dat eX12_codesTold_p0 10 rfl) (by decide) ?_
      refine mf_iload_n (mf_dat eX12_codesTold_p0 11 rfl) rfl rfl ?_
      refine mf_callV (Yc := YX12_fail) (r := (RX12, TX12, 106)) (ci := 12) (mf_dat eX12_codesTold_p0 12 rfl) ml_X12_273 okX12_fail im_X12_fail sl_X12_fail rfl rfl rfl rfl (Nat.le_of_ble_eq_true rfl) (mf_rr (Nat.le_trans (by decide) hd) (Nat.le_refl _)) (Nat.le_refl _) ck1 hyp (fun r5 g6 h7 hyp => ?_)
      exact mf_sub [0, 1] rfl hyp
set_option maxRecDepth 100000 in
set_option maxHeartbeats 4000000 in
theorem mX12_statementTold {C : mf_G} {l : Launch} {d n : Nat} {K : mf_Kt} {x0 : Int} {g h : mf_M} (hd : 10 ≤ d) (hyp : mf_is n x0 12 ∧ (∀ v2 : Int, v2 = h x0 2 → ((¬ h x0 53 = 80 → mf_MT C l 2 YX12_takes [(2, x0), (2, g x0 13)] n n g h (fun r3 g4 h5 => ((r3 = 0 → mf_MT C l 2 YX12_takes [(2, x0), (2, g4 x0 14)] n n g4 h5 (fun r6 g7 h8 => ((r6 = 0 → mf_MT C l 2 YX12_takes [(2, x0), (2, g7 x0 15)] n n g7 h8 (fun r9 g10 h11 => ((r9 = 0 → mf_MT C l 2 YX12_takes [(2, x0), (2, g10 x0 19)] n n g10 h11 (fun r12 g13 h14 => ((r12 = 0 → mf_MT C l 2 YX12_takes [(2, x0), (2, g13 x0 20)] n n g13 h14 (fun r15 g16 h17 => ((r15 = 0 → mf_MT C l 2 YX12_takes [(2, x0), (2, g16 x0 21)] n n g16 h17 (fun r18 g19 h20 => ((r18 = 0 → mf_MT C l 2 YX12_takes [(2, x0), (2, g19 x0 22)] n n g19 h20 (fun r21 g22 h23 => ((r21 = 0 → mf_MT C l 3 YX12_asks [(2, x0), (2, g22 x0 23)] n n g22 h23 (fun r24 g25 h26 => mf_MT C l 1 YX12_number [(2, x0), (0, 0), (0, 100)] n n g25 h26 (fun r27 g28 h29 => (∀ h30 : mf_M, h30 = mf_up h29 x0 47 r27 → mf_MT C l 2 YX12_asksSign [(2, x0), (0, 59)] n n g28 h30 (fun r31 g32 h33 => (∀ h34 : mf_M, h34 = mf_up h33 x0 53 (mf_w32 ((h33 x0 53) + 1)) → K 0 g32 h34)))))) ∧ (¬ r21 = 0 → mf_MT C l 9 YX12_codesTold [(2, x0), (0, 3), (0, v2)] n n g22 h23 (fun r35 g36 h37 => mf_MT C l 2 YX12_asksSign [(2, x0), (0, 59)] n n g36 h37 (fun r38 g39 h40 => (∀ h41 : mf_M, h41 = mf_up h40 x0 53 (mf_w32 ((h40 x0 53) + 1)) → K 0 g39 h41))))))) ∧ (¬ r18 = 0 → mf_MT C l 9 YX12_codesTold [(2, x0), (0, 2), (0, v2)] n n g19 h20 (fun r42 g43 h44 => mf_MT C l 2 YX12_asksSign [(2, x0), (0, 59)] n n g43 h44 (fun r45 g46 h47 => (∀ h48 : mf_M, h48 = mf_up h47 x0 53 (mf_w32 ((h47 x0 53) + 1)) → K 0 g46 h48))))))) ∧ (¬ r15 = 0 → mf_MT C l 9 YX12_codesTold [(2, x0), (0, 1), (0, v2)] n n g16 h17 (fun r49 g50 h51 => mf_MT C l 2 YX12_asksSign [(2, x0), (0, 59)] n n g50 h51 (fun r52 g53 h54 => (∀ h55 : mf_M, h55 = mf_up h54 x0 53 (mf_w32 ((h54 x0 53) + 1)) → K 0 g53 h55))))))) ∧ (¬ r12 = 0 → mf_MT C l 9 YX12_codesTold [(2, x0), (0, 0), (0, v2)] n n g13 h14 (fun r56 g57 h58 => mf_MT C l 2 YX12_asksSign [(2, x0), (0, 59)] n n g57 h58 (fun r59 g60 h61 => (∀ h62 : mf_M, h62 = mf_up h61 x0 53 (mf_w32 ((h61 x0 53) + 1)) → K 0 g60 h62))))))) ∧ (¬ r9 = 0 → mf_MT C l 4 YX12_beingTold [(2, x0), (0, v2)] n n g10 h11 (fun r63 g64 h65 => mf_MT C l 2 YX12_asksSign [(2, x0), (0, 59)] n n g64 h65 (fun r66 g67 h68 => (∀ h69 : mf_M, h69 = mf_up h68 x0 53 (mf_w32 ((h68 x0 53) + 1)) → K 0 g67 h69))))))) ∧ (¬ r6 = 0 → mf_MT C l 3 YX12_wormTold [(2, x0), (0, v2)] n n g7 h8 (fun r70 g71 h72 => mf_MT C l 2 YX12_asksSign [(2, x0), (0, 59)] n n g71 h72 (fun r73 g74 h75 => (∀ h76 : mf_M, h76 = mf_up h75 x0 53 (mf_w32 ((h75 x0 53) + 1)) → K 0 g74 h76))))))) ∧ (¬ r3 = 0 → mf_MT C l 3 YX12_glossTold [(2, x0), (0, v2)] n n g4 h5 (fun r77 g78 h79 => mf_MT C l 2 YX12_asksSign [(2, x0), (0, 59)] n n g78 h79 (fun r80 g81 h82 => (∀ h83 : mf_M, h83 = mf_up h82 x0 53 (mf_w32 ((h82 x0 53) + 1)) → K 0 g81 h83))))))) ∧ (h x0 53 = 80 → mf_MT C l 0 YX12_fail [(2, x0), (0, 5), (0, v2)] n n g h (fun r84 g85 h86 => K 0 g85 h86))))) : mf_MT C l d YX12_statementTold [(2, x0)] n n g h K := by
  refine mf_entry (by decide) (Nat.le_of_ble_eq_true rfl) ?_
  refine mf_aload_n (mf_dat eX12_statementTold_p0 0 rfl) rfl rfl ?_
  obtain ⟨ck1, hyp⟩ := hyp
  refine mf_getf (r := (RX12, TX12, 106)) (ci := 12) (k := 2) (t := 0) (v := h x0 2) (mf_dat eX12_statementTold_p0 1 rfl) fl_X12_249 rfl (by decide) rfl rfl ck1 ?_
  generalize qv2 : h x0 2 = v2
  replace hyp := hyp _ qv2.symm
  refine mf_istore_n (mf_dat eX12_statementTold_p0 2 rfl) rfl (by decide) ?_
  refine mf_aload_n (mf_dat eX12_statementTold_p0 3 rfl) rfl rfl ?_
  refine mf_getf (r := (RX12, TX12, 106)) (ci := 12) (k := 53) (t := 0) (v := h x0 53) (mf_dat eX12_statementTold_p0 4 rfl) fl_X12_359 rfl (by decide) rfl rfl ck1 ?_
  refine mf_bipush (v := 80) (mf_dat eX12_statementTold_p0 5 rfl) (by decide) ?_
  refine mf_icmp_ne (tgt := 21) (mf_dat eX12_statementTold_p0 6 rfl) (by decide) (fun hc => ?_) (fun hc => ?_)
  · replace hyp := hyp.1 hc
    refine mf_aload_n (mf_dat eX12_statementTold_p0 12 rfl) rfl rfl ?_
    refine mf_aload_n (mf_dat eX12_statementTold_p0 13 rfl) rfl rfl ?_
    refine mf_getf (r := (RX12, TX12, 106)) (ci := 12) (k := 13) (t := 2) (v := g x0 13) (mf_dat eX12_statementTold_p0 14 rfl) fl_X12_27 rfl (by decide) rfl rfl ck1 ?_
    refine mf_callV (Yc := YX12_takes) (r := (RX12, TX12, 106)) (ci := 12) (mf_dat eX12_statementTold_p0 15 rfl) ml_X12_270 okX12_takes im_X12_takes sl_X12_takes rfl rfl rfl rfl (Nat.le_of_ble_eq_true rfl) (mf_rr (Nat.le_trans (by decide) hd) (Nat.le_refl _)) (Nat.le_refl _) ck1 hyp (fun r3 g4 h5 hyp => ?_)
    refine mf_if_eq (tgt := 40) (mf_dat eX12_statementTold_p0 16 rfl) (by decide) (fun hc => ?_) (fun hc => ?_)
    · replace hyp := hyp.1 hc
      refine mf_aload_n (mf_dat eX12_statementTold_p0 21 rfl) rfl rfl ?_
      refine mf_aload_n (mf_dat eX12_statementTold_p0 22 rfl) rfl rfl ?_
      refine mf_getf (r := (RX12, TX12, 106)) (ci := 12) (k := 14) (t := 2) (v := g4 x0 14) (mf_dat eX12_statementTold_p0 23 rfl) fl_X12_30 rfl (by decide) rfl rfl ck1 ?_
      refine mf_callV (Yc := YX12_takes) (r := (RX12, TX12, 106)) (ci := 12) (mf_dat eX12_statementTold_p0 24 rfl) ml_X12_270 okX12_takes im_X12_takes sl_X12_takes rfl rfl rfl rfl (Nat.le_of_ble_eq_true rfl) (mf_rr (Nat.le_trans (by decide) hd) (Nat.le_refl _)) (Nat.le_refl _) ck1 hyp (fun r6 g7 h8 hyp => ?_)
      refine mf_if_eq (tgt := 59) (mf_dat eX12_statementTold_p0 25 rfl) (by decide) (fun hc => ?_) (fun hc => ?_)
      · replace hyp := hyp.1 hc
        refine mf_aload_n (mf_dat eX12_statementTold_p0 30 rfl) rfl rfl ?_
        refine mf_aload_n (mf_dat eX12_statementTold_p0 31 rfl) rfl rfl ?_
        refine mf_getf (r := (RX12, TX12, 106)) (ci := 12) (k := 15) (t := 2) (v := g7 x0 15) (mf_dat eX12_statementTold_p0 32 rfl) fl_X12_33 rfl (by decide) rfl rfl ck1 ?_
        refine mf_callV (Yc := YX12_takes) (r := (RX12, TX12, 106)) (ci := 12) (mf_dat eX12_statementTold_p0 33 rfl) ml_X12_270 okX12_takes im_X12_takes sl_X12_takes rfl rfl rfl rfl (Nat.le_of_ble_eq_true rfl) (mf_rr (Nat.le_trans (by decide) hd) (Nat.le_refl _)) (Nat.le_refl _) ck1 hyp (fun r9 g10 h11 hyp => ?_)
        refine mf_if_eq (tgt := 78) (mf_dat eX12_statementTold_p0 34 rfl) (by decide) (fun hc => ?_) (fun hc => ?_)
        · replace hyp := hyp.1 hc
          refine mf_aload_n (mf_dat eX12_statementTold_p0 39 rfl) rfl rfl ?_
          refine mf_aload_n (mf_dat eX12_statementTold_p0 40 rfl) rfl rfl ?_
          refine mf_getf (r := (RX12, TX12, 106)) (ci := 12) (k := 19) (t := 2) (v := g10 x0 19) (mf_dat eX12_statementTold_p0 41 rfl) fl_X12_45 rfl (by decide) rfl rfl ck1 ?_
          refine mf_callV (Yc := YX12_takes) (r := (RX12, TX12, 106)) (ci := 12) (mf_dat eX12_statementTold_p0 42 rfl) ml_X12_270 okX12_takes im_X12_takes sl_X12_takes rfl rfl rfl rfl (Nat.le_of_ble_eq_true rfl) (mf_rr (Nat.le_trans (by decide) hd) (Nat.le_refl _)) (Nat.le_refl _) ck1 hyp (fun r12 g13 h14 hyp => ?_)
          refine mf_if_eq (tgt := 98) (mf_dat eX12_statementTold_p0 43 rfl) (by decide) (fun hc => ?_) (fun hc => ?_)
          · replace hyp := hyp.1 hc
            refine mf_aload_n (mf_dat eX12_statementTold_p0 49 rfl) rfl rfl ?_
            refine mf_aload_n (mf_dat eX12_statementTold_p0 50 rfl) rfl rfl ?_
            refine mf_getf (r := (RX12, TX12, 106)) (ci := 12) (k := 20) (t := 2) (v := g13 x0 20) (mf_dat eX12_statementTold_p0 51 rfl) fl_X12_48 rfl (by decide) rfl rfl ck1 ?_
            refine mf_callV (Yc := YX12_takes) (r := (RX12, TX12, 106)) (ci := 12) (mf_dat eX12_statementTold_p0 52 rfl) ml_X12_270 okX12_takes im_X12_takes sl_X12_takes rfl rfl rfl rfl (Nat.le_of_ble_eq_true rfl) (mf_rr (Nat.le_trans (by decide) hd) (Nat.le_refl _)) (Nat.le_refl _) ck1 hyp (fun r15 g16 h17 hyp => ?_)
            refine mf_if_eq (tgt := 118) (mf_dat eX12_statementTold_p0 53 rfl) (by decide) (fun hc => ?_) (fun hc => ?_)
            · replace hyp := hyp.1 hc
              refine mf_aload_n (mf_dat eX12_statementTold_p0 59 rfl) rfl rfl ?_
              refine mf_aload_n (mf_dat eX12_statementTold_p1 0 rfl) rfl rfl ?_
              refine mf_getf (r := (RX12, TX12, 106)) (ci := 12) (k := 21) (t := 2) (v := g16 x0 21) (mf_dat eX12_statementTold_p1 1 rfl) fl_X12_51 rfl (by decide) rfl rfl ck1 ?_
              refine mf_callV (Yc := YX12_takes) (r := (RX12, TX12, 106)) (ci := 12) (mf_dat eX12_statementTold_p1 2 rfl) ml_X12_270 okX12_takes im_X12_takes sl_X12_takes rfl rfl rfl rfl (Nat.le_of_ble_eq_true rfl) (mf_rr (Nat.le_trans (by decide) hd) (Nat.le_refl _)) (Nat.le_refl _) ck1 hyp (fun r18 g19 h20 hyp => ?_)
              refine mf_if_eq (tgt := 138) (mf_dat eX12_statementTold_p1 3 rfl) (by decide) (fun hc => ?_) (fun hc => ?_)
              · replace hyp := hyp.1 hc
                refine mf_aload_n (mf_dat eX12_statementTold_p1 9 rfl) rfl rfl ?_
                refine mf_aload_n (mf_dat eX12_statementTold_p1 10 rfl) rfl rfl ?_
                refine mf_getf (r := (RX12, TX12, 106)) (ci := 12) (k := 22) (t := 2) (v := g19 x0 22) (mf_dat eX12_statementTold_p1 11 rfl) fl_X12_54 rfl (by decide) rfl rfl ck1 ?_
                refine mf_callV (Yc := YX12_takes) (r := (RX12, TX12, 106)) (ci := 12) (mf_dat eX12_statementTold_p1 12 rfl) ml_X12_270 okX12_takes im_X12_takes sl_X12_takes rfl rfl rfl rfl (Nat.le_of_ble_eq_true rfl) (mf_rr (Nat.le_trans (by decide) hd) (Nat.le_refl _)) (Nat.le_refl _) ck1 hyp (fun r21 g22 h23 hyp => ?_)
                refine mf_if_eq (tgt := 158) (mf_dat eX12_statementTold_p1 13 rfl) (by decide) (fun hc => ?_) (fun hc => ?_)
                · replace hyp := hyp.1 hc
                  refine mf_aload_n (mf_dat eX12_statementTold_p1 19 rfl) rfl rfl ?_
                  refine mf_aload_n (mf_dat eX12_statementTold_p1 20 rfl) rfl rfl ?_
                  refine mf_getf (r := (RX12, TX12, 106)) (ci := 12) (k := 23) (t := 2) (v := g22 x0 23) (mf_dat eX12_statementTold_p1 21 rfl) fl_X12_57 rfl (by decide) rfl rfl ck1 ?_
                  refine mf_callV (Yc := YX12_asks) (r := (RX12, TX12, 106)) (ci := 12) (mf_dat eX12_statementTold_p1 22 rfl) ml_X12_304 okX12_asks im_X12_asks sl_X12_asks rfl rfl rfl rfl (Nat.le_of_ble_eq_true rfl) (mf_rr (Nat.le_trans (by decide) hd) (Nat.le_refl _)) (Nat.le_refl _) ck1 hyp (fun r24 g25 h26 hyp => ?_)
                  refine mf_aload_n (mf_dat eX12_statementTold_p1 23 rfl) rfl rfl ?_
                  refine mf_aload_n (mf_dat eX12_statementTold_p1 24 rfl) rfl rfl ?_
                  refine mf_iconst (v := 0) (mf_dat eX12_statementTold_p1 25 rfl) (by decide) ?_
                  refine mf_bipush (v := 100) (mf_dat eX12_statementTold_p1 26 rfl) (by decide) ?_
                  refine mf_callV (Yc := YX12_number) (r := (RX12, TX12, 106)) (ci := 12) (mf_dat eX12_statementTold_p1 27 rfl) ml_X12_308 okX12_number im_X12_number sl_X12_number rfl rfl rfl rfl (Nat.le_of_ble_eq_true rfl) (mf_rr (Nat.le_trans (by decide) hd) (Nat.le_refl _)) (Nat.le_refl _) ck1 hyp (fun r27 g28 h29 hyp => ?_)
                  refine mf_putI (r := (RX12, TX12, 106)) (ci := 12) (k := 47) (kI := 47) (t := 0) (mf_dat eX12_statementTold_p1 28 rfl) fl_X12_374 rfl rfl (by decide) rfl (by decide) rfl (by decide) (fun h9 => absurd h9 (by decide)) ck1 ?_
                  generalize qh30 : mf_up h29 x0 47 r27 = h30
                  replace hyp := hyp _ qh30.symm
                  refine mf_aload_n (mf_dat eX12_statementTold_p1 29 rfl) rfl rfl ?_
                  refine mf_bipush (v := 59) (mf_dat eX12_statementTold_p1 30 rfl) (by decide) ?_
                  refine mf_callV (Yc := YX12_asksSign) (r := (RX12, TX12, 106)) (ci := 12) (mf_dat eX12_statementTold_p1 31 rfl) ml_X12_312 okX12_asksSign im_X12_asksSign sl_X12_asksSign rfl rfl rfl rfl (Nat.le_of_ble_eq_true rfl) (mf_rr (Nat.le_trans (by decide) hd) (Nat.le_refl _)) (Nat.le_refl _) ck1 hyp (fun r31 g32 h33 hyp => ?_)
                  refine mf_aload_n (mf_dat eX12_statementTold_p1 32 rfl) rfl rfl ?_
                  refine mf_dup (mf_dat eX12_statementTold_p1 33 rfl) (by decide) ?_
                  refine mf_getf (r := (RX12, TX12, 106)) (ci := 12) (k := 53) (t := 0) (v := h33 x0 53) (mf_dat eX12_statementTold_p1 34 rfl) fl_X12_359 rfl (by decide) rfl rfl ck1 ?_
                  refine mf_iconst (v := 1) (mf_dat eX12_statementTold_p1 35 rfl) (by decide) ?_
                  refine mf_iadd (mf_dat eX12_statementTold_p1 36 rfl) ?_
                  refine mf_putI (r := (RX12, TX12, 106)) (ci := 12) (k := 53) (kI := 53) (t := 0) (mf_dat eX12_statementTold_p1 37 rfl) fl_X12_359 rfl rfl (by decide) rfl (by decide) rfl (by decide) (fun h9 => absurd h9 (by decide)) ck1 ?_
                  generalize qh34 : mf_up h33 x0 53 (mf_w32 ((h33 x0 53) + 1)) = h34
                  replace hyp := hyp _ qh34.symm
                  exact mf_return (mf_dat eX12_statementTold_p1 38 rfl) rfl hyp
                · replace hyp := hyp.2 hc
                  refine mf_aload_n (mf_dat eX12_statementTold_p1 14 rfl) rfl rfl ?_
                  refine mf_iconst (v := 3) (mf_dat eX12_statementTold_p1 15 rfl) (by decide) ?_
                  refine mf_iload_n (mf_dat eX12_statementTold_p1 16 rfl) rfl rfl ?_
                  refine mf_callV (Yc := YX12_codesTold) (r := (RX12, TX12, 106)) (ci := 12) (mf_dat eX12_statementTold_p1 17 rfl) ml_X12_371 okX12_codesTold im_X12_codesTold sl_X12_codesTold rfl rfl rfl rfl (Nat.le_of_ble_eq_true rfl) (mf_rr (Nat.le_trans (by decide) hd) (Nat.le_refl _)) (Nat.le_refl _) ck1 hyp (fun r35 g36 h37 hyp => ?_)
                  refine mf_goto (tgt := 177) (mf_dat eX12_statementTold_p1 18 rfl) (by decide) ?_
                  refine mf_aload_n (mf_dat eX12_statementTold_p1 29 rfl) rfl rfl ?_
                  refine mf_bipush (v := 59) (mf_dat eX12_statementTold_p1 30 rfl) (by decide) ?_
                  refine mf_callV (Yc := YX12_asksSign) (r := (RX12, TX12, 106)) (ci := 12) (mf_dat eX12_statementTold_p1 31 rfl) ml_X12_312 okX12_asksSign im_X12_asksSign sl_X12_asksSign rfl rfl rfl rfl (Nat.le_of_ble_eq_true rfl) (mf_rr (Nat.le_trans (by decide) hd) (Nat.le_refl _)) (Nat.le_refl _) ck1 hyp (fun r38 g39 h40 hyp => ?_)
                  refine mf_aload_n (mf_dat eX12_statementTold_p1 32 rfl) rfl rfl ?_
                  refine mf_dup (mf_dat eX12_statementTold_p1 33 rfl) (by decide) ?_
                  refine mf_getf (r := (RX12, TX12, 106)) (ci := 12) (k := 53) (t := 0) (v := h40 x0 53) (mf_dat eX12_statementTold_p1 34 rfl) fl_X12_359 rfl (by decide) rfl rfl ck1 ?_
                  refine mf_iconst (v := 1) (mf_dat eX12_statementTold_p1 35 rfl) (by decide) ?_
                  refine mf_iadd (mf_dat eX12_statementTold_p1 36 rfl) ?_
                  refine mf_putI (r := (RX12, TX12, 106)) (ci := 12) (k := 53) (kI := 53) (t := 0) (mf_dat eX12_statementTold_p1 37 rfl) fl_X12_359 rfl rfl (by decide) rfl (by decide) rfl (by decide) (fun h9 => absurd h9 (by decide)) ck1 ?_
                  generalize qh41 : mf_up h40 x0 53 (mf_w32 ((h40 x0 53) + 1)) = h41
                  replace hyp := hyp _ qh41.symm
                  exact mf_return (mf_dat eX12_statementTold_p1 38 rfl) rfl hyp
              · replace hyp := hyp.2 hc
                refine mf_aload_n (mf_dat eX12_statementTold_p1 4 rfl) rfl rfl ?_
                refine mf_iconst (v := 2) (mf_dat eX12_statementTold_p1 5 rfl) (by decide) ?_
                refine mf_iload_n (mf_dat eX12_statementTold_p1 6 rfl) rfl rfl ?_
                refine mf_callV (Yc := YX12_codesTold) (r := (RX12, TX12, 106)) (ci := 12) (mf_dat eX12_statementTold_p1 7 rfl) ml_X12_371 okX12_codesTold im_X12_codesTold sl_X12_codesTold rfl rfl rfl rfl (Nat.le_of_ble_eq_true rfl) (mf_rr (Nat.le_trans (by decide) hd) (Nat.le_refl _)) (Nat.le_refl _) ck1 hyp (fun r42 g43 h44 hyp => ?_)
                refine mf_goto (tgt := 177) (mf_dat eX12_statementTold_p1 8 rfl) (by decide) ?_
                refine mf_aload_n (mf_dat eX12_statementTold_p1 29 rfl) rfl rfl ?_
                refine mf_bipush (v := 59) (mf_dat eX12_statementTold_p1 30 rfl) (by decide) ?_
                refine mf_callV (Yc := YX12_asksSign) (r := (RX12, TX12, 106)) (ci := 12) (mf_dat eX12_statementTold_p1 31 rfl) ml_X12_312 okX12_asksSign im_X12_asksSign sl_X12_asksSign rfl rfl rfl rfl (Nat.le_of_ble_eq_true rfl) (mf_rr (Nat.le_trans (by decide) hd) (Nat.le_refl _)) (Nat.le_refl _) ck1 hyp (fun r45 g46 h47 hyp => ?_)
                refine mf_aload_n (mf_dat eX12_statementTold_p1 32 rfl) rfl rfl ?_
                refine mf_dup (mf_dat eX12_statementTold_p1 33 rfl) (by decide) ?_
                refine mf_getf (r := (RX12, TX12, 106)) (ci := 12) (k := 53) (t := 0) (v := h47 x0 53) (mf_dat eX12_statementTold_p1 34 rfl) fl_X12_359 rfl (by decide) rfl rfl ck1 ?_
                refine mf_iconst (v := 1) (mf_dat eX12_statementTold_p1 35 rfl) (by decide) ?_
                refine mf_iadd (mf_dat eX12_statementTold_p1 36 rfl) ?_
                refine mf_putI (r := (RX12, TX12, 106)) (ci := 12) (k := 53) (kI := 53) (t := 0) (mf_dat eX12_statementTold_p1 37 rfl) fl_X12_359 rfl rfl (by decide) rfl (by decide) rfl (by decide) (fun h9 => absurd h9 (by decide)) ck1 ?_
                generalize qh48 : mf_up h47 x0 53 (mf_w32 ((h47 x0 53) + 1)) = h48
                replace hyp := hyp _ qh48.symm
                exact mf_return (mf_dat eX12_statementTold_p1 38 rfl) rfl hyp
            · replace hyp := hyp.2 hc
              refine mf_aload_n (mf_dat eX12_statementTold_p0 54 rfl) rfl rfl ?_
              refine mf_iconst (v := 1) (mf_dat eX12_statementTold_p0 55 rfl) (by decide) ?_
              refine mf_iload_n (mf_dat eX12_statementTold_p0 56 rfl) rfl rfl ?_
              refine mf_callV (Yc := YX12_codesTold) (r := (RX12, TX12, 106)) (ci := 12) (mf_dat eX12_statementTold_p0 57 rfl) ml_X12_371 okX12_codesTold im_X12_codesTold sl_X12_codesTold rfl rfl rfl rfl (Nat.le_of_ble_eq_true rfl) (mf_rr (Nat.le_trans (by decide) hd) (Nat.le_refl _)) (Nat.le_refl _) ck1 hyp (fun r49 g50 h51 hyp => ?_)
              refine mf_goto (tgt := 177) (mf_dat eX12_statementTold_p0 58 rfl) (by decide) ?_
              refine mf_aload_n (mf_dat eX12_statementTold_p1 29 rfl) rfl rfl ?_
              refine mf_bipush (v := 59) (mf_dat eX12_statementTold_p1 30 rfl) (by decide) ?_
              refine mf_callV (Yc := YX12_asksSign) (r := (RX12, TX12, 106)) (ci := 12) (mf_dat eX12_statementTold_p1 31 rfl) ml_X12_312 okX12_asksSign im_X12_asksSign sl_X12_asksSign rfl rfl rfl rfl (Nat.le_of_ble_eq_true rfl) (mf_rr (Nat.le_trans (by decide) hd) (Nat.le_refl _)) (Nat.le_refl _) ck1 hyp (fun r52 g53 h54 hyp => ?_)
              refine mf_aload_n (mf_dat eX12_statementTold_p1 32 rfl) rfl rfl ?_
              refine mf_dup (mf_dat eX12_statementTold_p1 33 rfl) (by decide) ?_
              refine mf_getf (r := (RX12, TX12, 106)) (ci := 12) (k := 53) (t := 0) (v := h54 x0 53) (mf_dat eX12_statementTold_p1 34 rfl) fl_X12_359 rfl (by decide) rfl rfl ck1 ?_
              refine mf_iconst (v := 1) (mf_dat eX12_statementTold_p1 35 rfl) (by decide) ?_
              refine mf_iadd (mf_dat eX12_statementTold_p1 36 rfl) ?_
              refine mf_putI (r := (RX12, TX12, 106)) (ci := 12) (k := 53) (kI := 53) (t := 0) (mf_dat eX12_statementTold_p1 37 rfl) fl_X12_359 rfl rfl (by decide) rfl (by decide) rfl (by decide) (fun h9 => absurd h9 (by decide)) ck1 ?_
              generalize qh55 : mf_up h54 x0 53 (mf_w32 ((h54 x0 53) + 1)) = h55
              replace hyp := hyp _ qh55.symm
              exact mf_return (mf_dat eX12_statementTold_p1 38 rfl) rfl hyp
          · replace hyp := hyp.2 hc
            refine mf_aload_n (mf_dat eX12_statementTold_p0 44 rfl) rfl rfl ?_
            refine mf_iconst (v := 0) (mf_dat eX12_statementTold_p0 45 rfl) (by decide) ?_
            refine mf_iload_n (mf_dat eX12_statementTold_p0 46 rfl) rfl rfl ?_
            refine mf_callV (Yc := YX12_codesTold) (r := (RX12, TX12, 106)) (ci := 12) (mf_dat eX12_statementTold_p0 47 rfl) ml_X12_371 okX12_codesTold im_X12_codesTold sl_X12_codesTold rfl rfl rfl rfl (Nat.le_of_ble_eq_true rfl) (mf_rr (Nat.le_trans (by decide) hd) (Nat.le_refl _)) (Nat.le_refl _) ck1 hyp (fun r56 g57 h58 hyp => ?_)
            refine mf_goto (tgt := 177) (mf_dat eX12_statementTold_p0 48 rfl) (by decide) ?_
            refine mf_aload_n (mf_dat eX12_statementTold_p1 29 rfl) rfl rfl ?_
            refine mf_bipush (v := 59) (mf_dat eX12_statementTold_p1 30 rfl) (by decide) ?_
            refine mf_callV (Yc := YX12_asksSign) (r := (RX12, TX12, 106)) (ci := 12) (mf_dat eX12_statementTold_p1 31 rfl) ml_X12_312 okX12_asksSign im_X12_asksSign sl_X12_asksSign rfl rfl rfl rfl (Nat.le_of_ble_eq_true rfl) (mf_rr (Nat.le_trans (by decide) hd) (Nat.le_refl _)) (Nat.le_refl _) ck1 hyp (fun r59 g60 h61 hyp => ?_)
            refine mf_aload_n (mf_dat eX12_statementTold_p1 32 rfl) rfl rfl ?_
            refine mf_dup (mf_dat eX12_statementTold_p1 33 rfl) (by decide) ?_
            refine mf_getf (r := (RX12, TX12, 106)) (ci := 12) (k := 53) (t := 0) (v := h61 x0 53) (mf_dat eX12_statementTold_p1 34 rfl) fl_X12_359 rfl (by decide) rfl rfl ck1 ?_
            refine mf_iconst (v := 1) (mf_dat eX12_statementTold_p1 35 rfl) (by decide) ?_
            refine mf_iadd (mf_dat eX12_statementTold_p1 36 rfl) ?_
            refine mf_putI (r := (RX12, TX12, 106)) (ci := 12) (k := 53) (kI := 53) (t := 0) (mf_dat eX12_statementTold_p1 37 rfl) fl_X12_359 rfl rfl (by decide) rfl (by decide) rfl (by decide) (fun h9 => absurd h9 (by decide)) ck1 ?_
            generalize qh62 : mf_up h61 x0 53 (mf_w32 ((h61 x0 53) + 1)) = h62
            replace hyp := hyp _ qh62.symm
            exact mf_return (mf_dat eX12_statementTold_p1 38 rfl) rfl hyp
        · replace hyp := hyp.2 hc
          refine mf_aload_n (mf_dat eX12_statementTold_p0 35 rfl) rfl rfl ?_
          refine mf_iload_n (mf_dat eX12_statementTold_p0 36 rfl) rfl rfl ?_
          refine mf_callV (Yc := YX12_beingTold) (r := (RX12, TX12, 106)) (ci := 12) (mf_dat eX12_statementTold_p0 37 rfl) ml_X12_368 okX12_beingTold im_X12_beingTold sl_X12_beingTold rfl rfl rfl rfl (Nat.le_of_ble_eq_true rfl) (mf_rr (Nat.le_trans (by decide) hd) (Nat.le_refl _)) (Nat.le_refl _) ck1 hyp (fun r63 g64 h65 hyp => ?_)
          refine mf_goto (tgt := 177) (mf_dat eX12_statementTold_p0 38 rfl) (by decide) ?_
          refine mf_aload_n (mf_dat eX12_statementTold_p1 29 rfl) rfl rfl ?_
          refine mf_bipush (v := 59) (mf_dat eX12_statementTold_p1 30 rfl) (by decide) ?_
          refine mf_callV (Yc := YX12_asksSign) (r := (RX12, TX12, 106)) (ci := 12) (mf_dat eX12_statementTold_p1 31 rfl) ml_X12_312 okX12_asksSign im_X12_asksSign sl_X12_asksSign rfl rfl rfl rfl (Nat.le_of_ble_eq_true rfl) (mf_rr (Nat.le_trans (by decide) hd) (Nat.le_refl _)) (Nat.le_refl _) ck1 hyp (fun r66 g67 h68 hyp => ?_)
          refine mf_aload_n (mf_dat eX12_statementTold_p1 32 rfl) rfl rfl ?_
          refine mf_dup (mf_dat eX12_statementTold_p1 33 rfl) (by decide) ?_
          refine mf_getf (r := (RX12, TX12, 106)) (ci := 12) (k := 53) (t := 0) (v := h68 x0 53) (mf_dat eX12_statementTold_p1 34 rfl) fl_X12_359 rfl (by decide) rfl rfl ck1 ?_
          refine mf_iconst (v := 1) (mf_dat eX12_statementTold_p1 35 rfl) (by decide) ?_
          refine mf_iadd (mf_dat eX12_statementTold_p1 36 rfl) ?_
          refine mf_putI (r := (RX12, TX12, 106)) (ci := 12) (k := 53) (kI := 53) (t := 0) (mf_dat eX12_statementTold_p1 37 rfl) fl_X12_359 rfl rfl (by decide) rfl (by decide) rfl (by decide) (fun h9 => absurd h9 (by decide)) ck1 ?_
          generalize qh69 : mf_up h68 x0 53 (mf_w32 ((h68 x0 53) + 1)) = h69
          replace hyp := hyp _ qh69.symm
          exact mf_return (mf_dat eX12_statementTold_p1 38 rfl) rfl hyp
      · replace hyp := hyp.2 hc
        refine mf_aload_n (mf_dat eX12_statementTold_p0 26 rfl) rfl rfl ?_
        refine mf_iload_n (mf_dat eX12_statementTold_p0 27 rfl) rfl rfl ?_
        refine mf_callV (Yc := YX12_wormTold) (r := (RX12, TX12, 106)) (ci := 12) (mf_dat eX12_statementTold_p0 28 rfl) ml_X12_365 okX12_wormTold im_X12_wormTold sl_X12_wormTold rfl rfl rfl rfl (Nat.le_of_ble_eq_true rfl) (mf_rr (Nat.le_trans (by decide) hd) (Nat.le_refl _)) (Nat.le_refl _) ck1 hyp (fun r70 g71 h72 hyp => ?_)
        refine mf_goto (tgt := 177) (mf_dat eX12_statementTold_p0 29 rfl) (by decide) ?_
        refine mf_aload_n (mf_dat eX12_statementTold_p1 29 rfl) rfl rfl ?_
        refine mf_bipush (v := 59) (mf_dat eX12_statementTold_p1 30 rfl) (by decide) ?_
        refine mf_callV (Yc := YX12_asksSign) (r := (RX12, TX12, 106)) (ci := 12) (mf_dat eX12_statementTold_p1 31 rfl) ml_X12_312 okX12_asksSign im_X12_asksSign sl_X12_asksSign rfl rfl rfl rfl (Nat.le_of_ble_eq_true rfl) (mf_rr (Nat.le_trans (by decide) hd) (Nat.le_refl _)) (Nat.le_refl _) ck1 hyp (fun r73 g74 h75 hyp => ?_)
        refine mf_aload_n (mf_dat eX12_statementTold_p1 32 rfl) rfl rfl ?_
        refine mf_dup (mf_dat eX12_statementTold_p1 33 rfl) (by decide) ?_
        refine mf_getf (r := (RX12, TX12, 106)) (ci := 12) (k := 53) (t := 0) (v := h75 x0 53) (mf_dat eX12_statementTold_p1 34 rfl) fl_X12_359 rfl (by decide) rfl rfl ck1 ?_
        refine mf_iconst (v := 1) (mf_dat eX12_statementTold_p1 35 rfl) (by decide) ?_
        refine mf_iadd (mf_dat eX12_statementTold_p1 36 rfl) ?_
        refine mf_putI (r := (RX12, TX12, 106)) (ci := 12) (k := 53) (kI := 53) (t := 0) (mf_dat eX12_statementTold_p1 37 rfl) fl_X12_359 rfl rfl (by decide) rfl (by decide) rfl (by decide) (fun h9 => absurd h9 (by decide)) ck1 ?_
        generalize qh76 : mf_up h75 x0 53 (mf_w32 ((h75 x0 53) + 1)) = h76
        replace hyp := hyp _ qh76.symm
        exact mf_return (mf_dat eX12_statementTold_p1 38 rfl) rfl hyp
    · replace hyp := hyp.2 hc
      refine mf_aload_n (mf_dat eX12_statementTold_p0 17 rfl) rfl rfl ?_
      refine mf_iload_n (mf_dat eX12_statementTold_p0 18 rfl) rfl rfl ?_
      refine mf_callV (Yc := YX12_glossTold) (r := (RX12, TX12, 106)) (ci := 12) (mf_dat eX12_statementTold_p0 19 rfl) ml_X12_362 okX12_glossTold im_X12_glossTold sl_X12_glossTold rfl rfl rfl rfl (Nat.le_of_ble_eq_true rfl) (mf_rr (Nat.le_trans (by decide) hd) (Nat.le_refl _)) (Nat.le_refl _) ck1 hyp (fun r77 g78 h79 hyp => ?_)
      refine mf_goto (tgt := 177) (mf_dat eX12_statementTold_p0 20 rfl) (by decide) ?_
      refine mf_aload_n (mf_dat eX12_statementTold_p1 29 rfl) rfl rfl ?_
      refine mf_bipush (v := 59) (mf_dat eX12_statementTold_p1 30 rfl) (by decide) ?_
      refine mf_callV (Yc := YX12_asksSign) (r := (RX12, TX12, 106)) (ci := 12) (mf_dat eX12_statementTold_p1 31 rfl) ml_X12_312 okX12_asksSign im_X12_asksSign sl_X12_asksSign rfl rfl rfl rfl (Nat.le_of_ble_eq_true rfl) (mf_rr (Nat.le_trans (by decide) hd) (Nat.le_refl _)) (Nat.le_refl _) ck1 hyp (fun r80 g81 h82 hyp => ?_)
      refine mf_aload_n (mf_dat eX12_statementTold_p1 32 rfl) rfl rfl ?_
      refine mf_dup (mf_dat eX12_statementTold_p1 33 rfl) (by decide) ?_
      refine mf_getf (r := (RX12, TX12, 106)) (ci := 12) (k := 53) (t := 0) (v := h82 x0 53) (mf_dat eX12_statementTold_p1 34 rfl) fl_X12_359 rfl (by decide) rfl rfl ck1 ?_
      refine mf_iconst (v := 1) (mf_dat eX12_statementTold_p1 35 rfl) (by decide) ?_
      refine mf_iadd (mf_dat eX12_statementTold_p1 36 rfl) ?_
      refine mf_putI (r := (RX12, TX12, 106)) (ci := 12) (k := 53) (kI := 53) (t := 0) (mf_dat eX12_statementTold_p1 37 rfl) fl_X12_359 rfl rfl (by decide) rfl (by decide) rfl (by decide) (fun h9 => absurd h9 (by decide)) ck1 ?_
      generalize qh83 : mf_up h82 x0 53 (mf_w32 ((h82 x0 53) + 1)) = h83
      replace hyp := hyp _ qh83.symm
      exact mf_return (mf_dat eX12_statementTold_p1 38 rfl) rfl hyp
  · replace hyp := hyp.2 hc
    refine mf_aload_n (mf_dat eX12_statementTold_p0 7 rfl) rfl rfl ?_
    refine mf_iconst (v := 5) (mf_dat eX12_statementTold_p0 8 rfl) (by decide) ?_
    refine mf_iload_n (mf_dat eX12_statementTold_p0 9 rfl) rfl rfl ?_
    refine mf_callV (Yc := YX12_fail) (r := (RX12, TX12, 106)) (ci := 12) (mf_dat eX12_statementTold_p0 10 rfl) ml_X12_273 okX12_fail im_X12_fail sl_X12_fail rfl rfl rfl rfl (Nat.le_of_ble_eq_true rfl) (mf_rr (Nat.le_trans (by decide) hd) (Nat.le_refl _)) (Nat.le_refl _) ck1 hyp (fun r84 g85 h86 hyp => ?_)
    exact mf_return (mf_dat eX12_statementTold_p0 11 rfl) rfl hyp
abbrev JX12_folio_40 (C : mf_G) (l : Launch) (d n : Nat) (K : mf_Kt) (x0 x1 : Int) (g h : mf_M) : Prop := mf_AW C l YX12_folio (mf_rm d n n) n (mf_Zm C YX12_folio n n K) (fun _ _ => True) 40 [(0, (2, x0)), (1, (0, x1))] [] n g h
abbrev JX12_folio_60 (C : mf_G) (l : Launch) (d n : Nat) (K : mf_Kt) (x0 x1 : Int) (g h : mf_M) : Prop := mf_AW C l YX12_folio (mf_rm d n n) n (mf_Zm C YX12_folio n n K) (fun _ _ => True) 60 [(0, (2, x0)), (1, (0, x1))] [] n g h
abbrev JX12_folio_81 (C : mf_G) (l : Launch) (d n : Nat) (K : mf_Kt) (x0 x1 : Int) (g h : mf_M) : Prop := mf_AW C l YX12_folio (mf_rm d n n) n (mf_Zm C YX12_folio n n K) (fun _ _ => True) 81 [(0, (2, x0)), (1, (0, x1))] [] n g h
abbrev JX12_folio_113 (C : mf_G) (l : Launch) (d n : Nat) (K : mf_Kt) (x0 : Int) (g h : mf_M) : Prop := mf_AW C l YX12_folio (mf_rm d n n) n (mf_Zm C YX12_folio n n K) (fun _ _ => True) 113 [(0, (2, x0))] [] n g h
abbrev JX12_folio_135 (C : mf_G) (l : Launch) (d n : Nat) (K : mf_Kt) (x0 : Int) (g h : mf_M) : Prop := mf_AW C l YX12_folio (mf_rm d n n) n (mf_Zm C YX12_folio n n K) (fun _ _ => True) 135 [(0, (2, x0))] [] n g h
set_option maxRecDepth 100000 in
set_option maxHeartbeats 4000000 in
theorem bX12_folio_40 {C : mf_G} {l : Launch} {d n : Nat} {K : mf_Kt} {x0 x1 : Int} {g h : mf_M} (hyp : ((3 ≤ x1 → JX12_folio_60 C l d n K x0 0 g h) ∧ (¬ 3 ≤ x1 → mf_is n x0 12 ∧ mf_is n (g x0 41) 20 ∧ 0 ≤ x1 ∧ x1 < mf_len (g x0 41) ∧ (∀ h5 : mf_M, h5 = mf_up h (g x0 41) x1 0 → (∀ v6 : Int, v6 = mf_w32 (x1 + 1) → JX12_folio_40 C l d n K x0 v6 g h5))))) : JX12_folio_40 C l d n K x0 x1 g h := by
  refine mf_iload_n (mf_dat eX12_folio_p0 24 rfl) rfl rfl ?_
  refine mf_iconst (v := 3) (mf_dat eX12_folio_p0 25 rfl) (by decide) ?_
  refine mf_icmp_ge (tgt := 58) (mf_dat eX12_folio_p0 26 rfl) (by decide) (fun hc => ?_) (fun hc => ?_)
  · replace hyp := hyp.1 hc
    refine mf_iconst (v := 0) (mf_dat eX12_folio_p0 34 rfl) (by decide) ?_
    refine mf_istore_n (mf_dat eX12_folio_p0 35 rfl) rfl (by decide) ?_
    exact mf_sub [1, 0] rfl hyp
  · replace hyp := hyp.2 hc
    refine mf_aload_n (mf_dat eX12_folio_p0 27 rfl) rfl rfl ?_
    obtain ⟨ck1, hyp⟩ := hyp
    refine mf_getf (r := (RX12, TX12, 106)) (ci := 12) (k := 41) (t := 2) (v := g x0 41) (mf_dat eX12_folio_p0 28 rfl) fl_X12_108 rfl (by decide) rfl rfl ck1 ?_
    refine mf_iload_n (mf_dat eX12_folio_p0 29 rfl) rfl rfl ?_
    refine mf_iconst (v := 0) (mf_dat eX12_folio_p0 30 rfl) (by decide) ?_
    obtain ⟨ck2, hyp⟩ := hyp
    obtain ⟨ck3, hyp⟩ := hyp
    obtain ⟨ck4, hyp⟩ := hyp
    refine mf_iast (mf_dat eX12_folio_p0 31 rfl) ck2 ck3 ck4 ?_
    generalize qh5 : mf_up h (g x0 41) x1 0 = h5
    replace hyp := hyp _ qh5.symm
    refine mf_iinc (mf_dat eX12_folio_p0 32 rfl) rfl (by decide) (by decide) ?_
    generalize qv6 : mf_w32 (x1 + 1) = v6
    replace hyp := hyp _ qv6.symm
    refine mf_goto (tgt := 40) (mf_dat eX12_folio_p0 33 rfl) (by decide) ?_
    exact mf_sub [1, 0] rfl hyp
set_option maxRecDepth 100000 in
set_option maxHeartbeats 4000000 in
theorem bX12_folio_60 {C : mf_G} {l : Launch} {d n : Nat} {K : mf_Kt} {x0 x1 : Int} {g h : mf_M} (hyp : ((6 ≤ x1 → JX12_folio_81 C l d n K x0 0 g h) ∧ (¬ 6 ≤ x1 → mf_is n x0 12 ∧ mf_is n (g x0 43) 20 ∧ 0 ≤ x1 ∧ x1 < mf_len (g x0 43) ∧ (∀ h5 : mf_M, h5 = mf_up h (g x0 43) x1 0 → (∀ v6 : Int, v6 = mf_w32 (x1 + 1) → JX12_folio_60 C l d n K x0 v6 g h5))))) : JX12_folio_60 C l d n K x0 x1 g h := by
  refine mf_iload_n (mf_dat eX12_folio_p0 36 rfl) rfl rfl ?_
  refine mf_bipush (v := 6) (mf_dat eX12_folio_p0 37 rfl) (by decide) ?_
  refine mf_icmp_ge (tgt := 79) (mf_dat eX12_folio_p0 38 rfl) (by decide) (fun hc => ?_) (fun hc => ?_)
  · replace hyp := hyp.1 hc
    refine mf_iconst (v := 0) (mf_dat eX12_folio_p0 46 rfl) (by decide) ?_
    refine mf_istore_n (mf_dat eX12_folio_p0 47 rfl) rfl (by decide) ?_
    exact mf_sub [1, 0] rfl hyp
  · replace hyp := hyp.2 hc
    refine mf_aload_n (mf_dat eX12_folio_p0 39 rfl) rfl rfl ?_
    obtain ⟨ck1, hyp⟩ := hyp
    refine mf_getf (r := (RX12, TX12, 106)) (ci := 12) (k := 43) (t := 2) (v := g x0 43) (mf_dat eX12_folio_p0 40 rfl) fl_X12_115 rfl (by decide) rfl rfl ck1 ?_
    refine mf_iload_n (mf_dat eX12_folio_p0 41 rfl) rfl rfl ?_
    refine mf_iconst (v := 0) (mf_dat eX12_folio_p0 42 rfl) (by decide) ?_
    obtain ⟨ck2, hyp⟩ := hyp
    obtain ⟨ck3, hyp⟩ := hyp
    obtain ⟨ck4, hyp⟩ := hyp
    refine mf_iast (mf_dat eX12_folio_p0 43 rfl) ck2 ck3 ck4 ?_
    generalize qh5 : mf_up h (g x0 43) x1 0 = h5
    replace hyp := hyp _ qh5.symm
    refine mf_iinc (mf_dat eX12_folio_p0 44 rfl) rfl (by decide) (by decide) ?_
    generalize qv6 : mf_w32 (x1 + 1) = v6
    replace hyp := hyp _ qv6.symm
    refine mf_goto (tgt := 60) (mf_dat eX12_folio_p0 45 rfl) (by decide) ?_
    exact mf_sub [1, 0] rfl hyp
set_option maxRecDepth 100000 in
set_option maxHeartbeats 4000000 in
theorem bX12_folio_81 {C : mf_G} {l : Launch} {d n : Nat} {K : mf_Kt} {x0 x1 : Int} {g h : mf_M} (hd : 5 ≤ d) (hyp : ((4 ≤ x1 → mf_is n x0 12 ∧ (∀ h2 : mf_M, h2 = mf_up h x0 47 0 → mf_MT C l 4 YX12_folioTold [(2, x0)] n n g h2 (fun r3 g4 h5 => (∀ h6 : mf_M, h6 = mf_up h5 x0 53 1 → JX12_folio_113 C l d n K x0 g4 h6)))) ∧ (¬ 4 ≤ x1 → mf_is n x0 12 ∧ mf_is n (g x0 49) 20 ∧ 0 ≤ x1 ∧ x1 < mf_len (g x0 49) ∧ (∀ h11 : mf_M, h11 = mf_up h (g x0 49) x1 (-1) → (∀ v12 : Int, v12 = mf_w32 (x1 + 1) → JX12_folio_81 C l d n K x0 v12 g h11))))) : JX12_folio_81 C l d n K x0 x1 g h := by
  refine mf_iload_n (mf_dat eX12_folio_p0 48 rfl) rfl rfl ?_
  refine mf_iconst (v := 4) (mf_dat eX12_folio_p0 49 rfl) (by decide) ?_
  refine mf_icmp_ge (tgt := 99) (mf_dat eX12_folio_p0 50 rfl) (by decide) (fun hc => ?_) (fun hc => ?_)
  · replace hyp := hyp.1 hc
    refine mf_aload_n (mf_dat eX12_folio_p0 58 rfl) rfl rfl ?_
    refine mf_iconst (v := 0) (mf_dat eX12_folio_p0 59 rfl) (by decide) ?_
    obtain ⟨ck1, hyp⟩ := hyp
    refine mf_putI (r := (RX12, TX12, 106)) (ci := 12) (k := 47) (kI := 47) (t := 0) (mf_dat eX12_folio_p1 0 rfl) fl_X12_374 rfl rfl (by decide) rfl (by decide) rfl (by decide) (fun h9 => absurd h9 (by decide)) ck1 ?_
    generalize qh2 : mf_up h x0 47 0 = h2
    replace hyp := hyp _ qh2.symm
    refine mf_aload_n (mf_dat eX12_folio_p1 1 rfl) rfl rfl ?_
    refine mf_callV (Yc := YX12_folioTold) (r := (RX12, TX12, 106)) (ci := 12) (mf_dat eX12_folio_p1 2 rfl) ml_X12_377 okX12_folioTold im_X12_folioTold sl_X12_folioTold rfl rfl rfl rfl (Nat.le_of_ble_eq_true rfl) (mf_rr (Nat.le_trans (by decide) hd) (Nat.le_refl _)) (Nat.le_refl _) ck1 hyp (fun r3 g4 h5 hyp => ?_)
    refine mf_aload_n (mf_dat eX12_folio_p1 3 rfl) rfl rfl ?_
    refine mf_iconst (v := 1) (mf_dat eX12_folio_p1 4 rfl) (by decide) ?_
    refine mf_putI (r := (RX12, TX12, 106)) (ci := 12) (k := 53) (kI := 53) (t := 0) (mf_dat eX12_folio_p1 5 rfl) fl_X12_359 rfl rfl (by decide) rfl (by decide) rfl (by decide) (fun h9 => absurd h9 (by decide)) ck1 ?_
    generalize qh6 : mf_up h5 x0 53 1 = h6
    replace hyp := hyp _ qh6.symm
    exact mf_sub [0] rfl hyp
  · replace hyp := hyp.2 hc
    refine mf_aload_n (mf_dat eX12_folio_p0 51 rfl) rfl rfl ?_
    obtain ⟨ck7, hyp⟩ := hyp
    refine mf_getf (r := (RX12, TX12, 106)) (ci := 12) (k := 49) (t := 2) (v := g x0 49) (mf_dat eX12_folio_p0 52 rfl) fl_X12_127 rfl (by decide) rfl rfl ck7 ?_
    refine mf_iload_n (mf_dat eX12_folio_p0 53 rfl) rfl rfl ?_
    refine mf_iconst (v := (-1)) (mf_dat eX12_folio_p0 54 rfl) (by decide) ?_
    obtain ⟨ck8, hyp⟩ := hyp
    obtain ⟨ck9, hyp⟩ := hyp
    obtain ⟨ck10, hyp⟩ := hyp
    refine mf_iast (mf_dat eX12_folio_p0 55 rfl) ck8 ck9 ck10 ?_
    generalize qh11 : mf_up h (g x0 49) x1 (-1) = h11
    replace hyp := hyp _ qh11.symm
    refine mf_iinc (mf_dat eX12_folio_p0 56 rfl) rfl (by decide) (by decide) ?_
    generalize qv12 : mf_w32 (x1 + 1) = v12
    replace hyp := hyp _ qv12.symm
    refine mf_goto (tgt := 81) (mf_dat eX12_folio_p0 57 rfl) (by decide) ?_
    exact mf_sub [1, 0] rfl hyp
set_option maxRecDepth 100000 in
set_option maxHeartbeats 4000000 in
theorem bX12_folio_113 {C : mf_G} {l : Launch} {d n : Nat} {K : mf_Kt} {x0 : Int} {g h : mf_M} (hd : 11 ≤ d) (hyp : mf_is n x0 12 ∧ ((¬ h x0 5 = 0 → JX12_folio_135 C l d n K x0 g h) ∧ (h x0 5 = 0 → mf_MT C l 0 YX12_look [(2, x0)] n n g h (fun r2 g3 h4 => ((r2 = (-1) → JX12_folio_135 C l d n K x0 g3 h4) ∧ (¬ r2 = (-1) → mf_MT C l 10 YX12_statementTold [(2, x0)] n n g3 h4 (fun r5 g6 h7 => JX12_folio_113 C l d n K x0 g6 h7))))))) : JX12_folio_113 C l d n K x0 g h := by
  refine mf_aload_n (mf_dat eX12_folio_p1 6 rfl) rfl rfl ?_
  obtain ⟨ck1, hyp⟩ := hyp
  refine mf_getf (r := (RX12, TX12, 106)) (ci := 12) (k := 5) (t := 0) (v := h x0 5) (mf_dat eX12_folio_p1 7 rfl) fl_X12_243 rfl (by decide) rfl rfl ck1 ?_
  refine mf_if_ne (tgt := 135) (mf_dat eX12_folio_p1 8 rfl) (by decide) (fun hc => ?_) (fun hc => ?_)
  · replace hyp := hyp.1 hc
    exact mf_sub [0] rfl hyp
  · replace hyp := hyp.2 hc
    refine mf_aload_n (mf_dat eX12_folio_p1 9 rfl) rfl rfl ?_
    refine mf_callV (Yc := YX12_look) (r := (RX12, TX12, 106)) (ci := 12) (mf_dat eX12_folio_p1 10 rfl) ml_X12_255 okX12_look im_X12_look sl_X12_look rfl rfl rfl rfl (Nat.le_of_ble_eq_true rfl) (mf_rr (Nat.le_trans (by decide) hd) (Nat.le_refl _)) (Nat.le_refl _) ck1 hyp (fun r2 g3 h4 hyp => ?_)
    refine mf_iconst (v := (-1)) (mf_dat eX12_folio_p1 11 rfl) (by decide) ?_
    refine mf_icmp_eq (tgt := 135) (mf_dat eX12_folio_p1 12 rfl) (by decide) (fun hc => ?_) (fun hc => ?_)
    · replace hyp := hyp.1 hc
      exact mf_sub [0] rfl hyp
    · replace hyp := hyp.2 hc
      refine mf_aload_n (mf_dat eX12_folio_p1 13 rfl) rfl rfl ?_
      refine mf_callV (Yc := YX12_statementTold) (r := (RX12, TX12, 106)) (ci := 12) (mf_dat eX12_folio_p1 14 rfl) ml_X12_380 okX12_statementTold im_X12_statementTold sl_X12_statementTold rfl rfl rfl rfl (Nat.le_of_ble_eq_true rfl) (mf_rr (Nat.le_trans (by decide) hd) (Nat.le_refl _)) (Nat.le_refl _) ck1 hyp (fun r5 g6 h7 hyp => ?_)
      refine mf_goto (tgt := 113) (mf_dat eX12_folio_p1 15 rfl) (by decide) ?_
      exact mf_sub [0] rfl hyp
set_option maxRecDepth 100000 in
set_option maxHeartbeats 4000000 in
theorem bX12_folio_135 {C : mf_G} {l : Launch} {d n : Nat} {K : mf_Kt} {x0 : Int} {g h : mf_M} (hd : 1 ≤ d) (hyp : mf_is n x0 12 ∧ (∀ h2 : mf_M, h2 = mf_up h x0 7 (h x0 5) → (∀ h3 : mf_M, h3 = mf_up h2 x0 8 (h2 x0 6) → ((h3 x0 5 = 0 → mf_MT C l 0 YX12_stands [(2, x0)] n n g h3 (fun r4 g5 h6 => K (h6 x0 53) g5 h6)) ∧ (¬ h3 x0 5 = 0 → mf_is n (g x0 9) 20 ∧ 1 < mf_len (g x0 9) ∧ (∀ h9 : mf_M, h9 = mf_up h3 (g x0 9) 1 (mf_w32 ((h3 (g x0 9) 1) + 1)) → K (-1) g h9)))))) : JX12_folio_135 C l d n K x0 g h := by
  refine mf_aload_n (mf_dat eX12_folio_p1 16 rfl) rfl rfl ?_
  refine mf_aload_n (mf_dat eX12_folio_p1 17 rfl) rfl rfl ?_
  obtain ⟨ck1, hyp⟩ := hyp
  refine mf_getf (r := (RX12, TX12, 106)) (ci := 12) (k := 5) (t := 0) (v := h x0 5) (mf_dat eX12_folio_p1 18 rfl) fl_X12_243 rfl (by decide) rfl rfl ck1 ?_
  refine mf_putI (r := (RX12, TX12, 106)) (ci := 12) (k := 7) (kI := 7) (t := 0) (mf_dat eX12_folio_p1 19 rfl) fl_X12_383 rfl rfl (by decide) rfl (by decide) rfl (by decide) (fun h9 => absurd h9 (by decide)) ck1 ?_
  generalize qh2 : mf_up h x0 7 (h x0 5) = h2
  replace hyp := hyp _ qh2.symm
  refine mf_aload_n (mf_dat eX12_folio_p1 20 rfl) rfl rfl ?_
  refine mf_aload_n (mf_dat eX12_folio_p1 21 rfl) rfl rfl ?_
  refine mf_getf (r := (RX12, TX12, 106)) (ci := 12) (k := 6) (t := 0) (v := h2 x0 6) (mf_dat eX12_folio_p1 22 rfl) fl_X12_246 rfl (by decide) rfl rfl ck1 ?_
  refine mf_putI (r := (RX12, TX12, 106)) (ci := 12) (k := 8) (kI := 8) (t := 0) (mf_dat eX12_folio_p1 23 rfl) fl_X12_13 rfl rfl (by decide) rfl (by decide) rfl (by decide) (fun h9 => absurd h9 (by decide)) ck1 ?_
  generalize qh3 : mf_up h2 x0 8 (h2 x0 6) = h3
  replace hyp := hyp _ qh3.symm
  refine mf_aload_n (mf_dat eX12_folio_p1 24 rfl) rfl rfl ?_
  refine mf_getf (r := (RX12, TX12, 106)) (ci := 12) (k := 5) (t := 0) (v := h3 x0 5) (mf_dat eX12_folio_p1 25 rfl) fl_X12_243 rfl (by decide) rfl rfl ck1 ?_
  refine mf_if_eq (tgt := 170) (mf_dat eX12_folio_p1 26 rfl) (by decide) (fun hc => ?_) (fun hc => ?_)
  · replace hyp := hyp.1 hc
    refine mf_aload_n (mf_dat eX12_folio_p1 37 rfl) rfl rfl ?_
    refine mf_callV (Yc := YX12_stands) (r := (RX12, TX12, 106)) (ci := 12) (mf_dat eX12_folio_p1 38 rfl) ml_X12_386 okX12_stands im_X12_stands sl_X12_stands rfl rfl rfl rfl (Nat.le_of_ble_eq_true rfl) (mf_rr (Nat.le_trans (by decide) hd) (Nat.le_refl _)) (Nat.le_refl _) ck1 hyp (fun r4 g5 h6 hyp => ?_)
    refine mf_aload_n (mf_dat eX12_folio_p1 39 rfl) rfl rfl ?_
    refine mf_getf (r := (RX12, TX12, 106)) (ci := 12) (k := 53) (t := 0) (v := h6 x0 53) (mf_dat eX12_folio_p1 40 rfl) fl_X12_359 rfl (by decide) rfl rfl ck1 ?_
    exact mf_ireturn (mf_dat eX12_folio_p1 41 rfl) rfl (Or.inl rfl) hyp
  · replace hyp := hyp.2 hc
    refine mf_aload_n (mf_dat eX12_folio_p1 27 rfl) rfl rfl ?_
    refine mf_getf (r := (RX12, TX12, 106)) (ci := 12) (k := 9) (t := 2) (v := g x0 9) (mf_dat eX12_folio_p1 28 rfl) fl_X12_17 rfl (by decide) rfl rfl ck1 ?_
    refine mf_iconst (v := 1) (mf_dat eX12_folio_p1 29 rfl) (by decide) ?_
    refine mf_dup2 (mf_dat eX12_folio_p1 30 rfl) (by decide) (by decide) ?_
    obtain ⟨ck7, hyp⟩ := hyp
    obtain ⟨ck8, hyp⟩ := hyp
    refine mf_iald (mf_dat eX12_folio_p1 31 rfl) ck7 (by decide) ck8 ?_
    refine mf_iconst (v := 1) (mf_dat eX12_folio_p1 32 rfl) (by decide) ?_
    refine mf_iadd (mf_dat eX12_folio_p1 33 rfl) ?_
    refine mf_iast (mf_dat eX12_folio_p1 34 rfl) ck7 (by decide) ck8 ?_
    generalize qh9 : mf_up h3 (g x0 9) 1 (mf_w32 ((h3 (g x0 9) 1) + 1)) = h9
    replace hyp := hyp _ qh9.symm
    refine mf_iconst (v := (-1)) (mf_dat eX12_folio_p1 35 rfl) (by decide) ?_
    exact mf_ireturn (mf_dat eX12_folio_p1 36 rfl) rfl (Or.inl rfl) hyp
set_option maxRecDepth 100000 in
set_option maxHeartbeats 4000000 in
theorem mX12_folio {C : mf_G} {l : Launch} {d n : Nat} {K : mf_Kt} {x0 : Int} {g h : mf_M} (hyp : mf_is n x0 12 ∧ (∀ h2 : mf_M, h2 = mf_up h x0 3 (h x0 1) → (∀ h3 : mf_M, h3 = mf_up h2 x0 1 0 → (∀ h4 : mf_M, h4 = mf_up h3 x0 2 0 → (∀ h5 : mf_M, h5 = mf_up h4 x0 4 (-1) → (∀ h6 : mf_M, h6 = mf_up h5 x0 5 0 → (∀ h7 : mf_M, h7 = mf_up h6 x0 6 (-1) → (∀ h8 : mf_M, h8 = mf_up h7 x0 52 0 → JX12_folio_40 C l d n K x0 0 g h8)))))))) : mf_MT C l d YX12_folio [(2, x0)] n n g h K := by
  refine mf_entry (by decide) (Nat.le_of_ble_eq_true rfl) ?_
  refine mf_aload_n (mf_dat eX12_folio_p0 0 rfl) rfl rfl ?_
  refine mf_aload_n (mf_dat eX12_folio_p0 1 rfl) rfl rfl ?_
  obtain ⟨ck1, hyp⟩ := hyp
  refine mf_getf (r := (RX12, TX12, 106)) (ci := 12) (k := 1) (t := 0) (v := h x0 1) (mf_dat eX12_folio_p0 2 rfl) fl_X12_240 rfl (by decide) rfl rfl ck1 ?_
  refine mf_putI (r := (RX12, TX12, 106)) (ci := 12) (k := 3) (kI := 3) (t := 0) (mf_dat eX12_folio_p0 3 rfl) fl_X12_252 rfl rfl (by decide) rfl (by decide) rfl (by decide) (fun h9 => absurd h9 (by decide)) ck1 ?_
  generalize qh2 : mf_up h x0 3 (h x0 1) = h2
  replace hyp := hyp _ qh2.symm
  refine mf_aload_n (mf_dat eX12_folio_p0 4 rfl) rfl rfl ?_
  refine mf_iconst (v := 0) (mf_dat eX12_folio_p0 5 rfl) (by decide) ?_
  refine mf_putI (r := (RX12, TX12, 106)) (ci := 12) (k := 1) (kI := 1) (t := 0) (mf_dat eX12_folio_p0 6 rfl) fl_X12_240 rfl rfl (by decide) rfl (by decide) rfl (by decide) (fun h9 => absurd h9 (by decide)) ck1 ?_
  generalize qh3 : mf_up h2 x0 1 0 = h3
  replace hyp := hyp _ qh3.symm
  refine mf_aload_n (mf_dat eX12_folio_p0 7 rfl) rfl rfl ?_
  refine mf_iconst (v := 0) (mf_dat eX12_folio_p0 8 rfl) (by decide) ?_
  refine mf_putI (r := (RX12, TX12, 106)) (ci := 12) (k := 2) (kI := 2) (t := 0) (mf_dat eX12_folio_p0 9 rfl) fl_X12_249 rfl rfl (by decide) rfl (by decide) rfl (by decide) (fun h9 => absurd h9 (by decide)) ck1 ?_
  generalize qh4 : mf_up h3 x0 2 0 = h4
  replace hyp := hyp _ qh4.symm
  refine mf_aload_n (mf_dat eX12_folio_p0 10 rfl) rfl rfl ?_
  refine mf_iconst (v := (-1)) (mf_dat eX12_folio_p0 11 rfl) (by decide) ?_
  refine mf_putI (r := (RX12, TX12, 106)) (ci := 12) (k := 4) (kI := 4) (t := 0) (mf_dat eX12_folio_p0 12 rfl) fl_X12_263 rfl rfl (by decide) rfl (by decide) rfl (by decide) (fun h9 => absurd h9 (by decide)) ck1 ?_
  generalize qh5 : mf_up h4 x0 4 (-1) = h5
  replace hyp := hyp _ qh5.symm
  refine mf_aload_n (mf_dat eX12_folio_p0 13 rfl) rfl rfl ?_
  refine mf_iconst (v := 0) (mf_dat eX12_folio_p0 14 rfl) (by decide) ?_
  refine mf_putI (r := (RX12, TX12, 106)) (ci := 12) (k := 5) (kI := 5) (t := 0) (mf_dat eX12_folio_p0 15 rfl) fl_X12_243 rfl rfl (by decide) rfl (by decide) rfl (by decide) (fun h9 => absurd h9 (by decide)) ck1 ?_
  generalize qh6 : mf_up h5 x0 5 0 = h6
  replace hyp := hyp _ qh6.symm
  refine mf_aload_n (mf_dat eX12_folio_p0 16 rfl) rfl rfl ?_
  refine mf_iconst (v := (-1)) (mf_dat eX12_folio_p0 17 rfl) (by decide) ?_
  refine mf_putI (r := (RX12, TX12, 106)) (ci := 12) (k := 6) (kI := 6) (t := 0) (mf_dat eX12_folio_p0 18 rfl) fl_X12_246 rfl rfl (by decide) rfl (by decide) rfl (by decide) (fun h9 => absurd h9 (by decide)) ck1 ?_
  generalize qh7 : mf_up h6 x0 6 (-1) = h7
  replace hyp := hyp _ qh7.symm
  refine mf_aload_n (mf_dat eX12_folio_p0 19 rfl) rfl rfl ?_
  refine mf_iconst (v := 0) (mf_dat eX12_folio_p0 20 rfl) (by decide) ?_
  refine mf_putI (r := (RX12, TX12, 106)) (ci := 12) (k := 52) (kI := 52) (t := 0) (mf_dat eX12_folio_p0 21 rfl) fl_X12_356 rfl rfl (by decide) rfl (by decide) rfl (by decide) (fun h9 => absurd h9 (by decide)) ck1 ?_
  generalize qh8 : mf_up h7 x0 52 0 = h8
  replace hyp := hyp _ qh8.symm
  refine mf_iconst (v := 0) (mf_dat eX12_folio_p0 22 rfl) (by decide) ?_
  refine mf_istore_n (mf_dat eX12_folio_p0 23 rfl) rfl (by decide) ?_
  exact mf_sub [1, 0] rfl hyp
abbrev JX12_stands_7 (C : mf_G) (l : Launch) (d n : Nat) (K : mf_Kt) (x0 x1 : Int) (g h : mf_M) : Prop := mf_AW C l YX12_stands (mf_rm d n n) n (mf_Zm C YX12_stands n n K) (fun _ _ => True) 7 [(0, (2, x0)), (1, (0, x1))] [] n g h
abbrev JX12_stands_34 (C : mf_G) (l : Launch) (d n : Nat) (K : mf_Kt) (x0 x1 : Int) (g h : mf_M) : Prop := mf_AW C l YX12_stands (mf_rm d n n) n (mf_Zm C YX12_stands n n K) (fun _ _ => True) 34 [(0, (2, x0)), (1, (0, x1))] [] n g h
abbrev JX12_stands_61 (C : mf_G) (l : Launch) (d n : Nat) (K : mf_Kt) (x0 x1 : Int) (g h : mf_M) : Prop := mf_AW C l YX12_stands (mf_rm d n n) n (mf_Zm C YX12_stands n n K) (fun _ _ => True) 61 [(0, (2, x0)), (1, (0, x1))] [] n g h
abbrev JX12_stands_105 (C : mf_G) (l : Launch) (d n : Nat) (K : mf_Kt) (x0 x1 : Int) (g h : mf_M) : Prop := mf_AW C l YX12_stands (mf_rm d n n) n (mf_Zm C YX12_stands n n K) (fun _ _ => True) 105 [(0, (2, x0)), (1, (0, x1))] [] n g h
abbrev JX12_stands_142 (C : mf_G) (l : Launch) (d n : Nat) (K : mf_Kt) (x0 x1 : Int) (g h : mf_M) : Prop := mf_AW C l YX12_stands (mf_rm d n n) n (mf_Zm C YX12_stands n n K) (fun _ _ => True) 142 [(0, (2, x0)), (1, (0, x1))] [] n g h
abbrev JX12_stands_183 (C : mf_G) (l : Launch) (d n : Nat) (K : mf_Kt) (x0 x1 : Int) (g h : mf_M) : Prop := mf_AW C l YX12_stands (mf_rm d n n) n (mf_Zm C YX12_stands n n K) (fun _ _ => True) 183 [(0, (2, x0)), (1, (0, x1))] [] n g h
abbrev JX12_stands_215 (C : mf_G) (l : Launch) (d n : Nat) (K : mf_Kt) (x0 x1 : Int) (g h : mf_M) : Prop := mf_AW C l YX12_stands (mf_rm d n n) n (mf_Zm C YX12_stands n n K) (fun _ _ => True) 215 [(0, (2, x0)), (1, (0, x1))] [] n g h
abbrev JX12_stands_237 (C : mf_G) (l : Launch) (d n : Nat) (K : mf_Kt) (x0 x1 : Int) (g h : mf_M) : Prop := mf_AW C l YX12_stands (mf_rm d n n) n (mf_Zm C YX12_stands n n K) (fun _ _ => True) 237 [(0, (2, x0)), (1, (0, x1))] [] n g h
abbrev JX12_stands_265 (C : mf_G) (l : Launch) (d n : Nat) (K : mf_Kt) (x0 x1 : Int) (g h : mf_M) : Prop := mf_AW C l YX12_stands (mf_rm d n n) n (mf_Zm C YX12_stands n n K) (fun _ _ => True) 265 [(0, (2, x0)), (1, (0, x1))] [] n g h
set_option maxRecDepth 100000 in
set_option maxHeartbeats 4000000 in
theorem bX12_stands_7 {C : mf_G} {l : Launch} {d n : Nat} {K : mf_Kt} {x0 x1 : Int} {g h : mf_M} (hyp : ((2 ≤ x1 → JX12_stands_34 C l d n K x0 0 g h) ∧ (¬ 2 ≤ x1 → mf_is n x0 12 ∧ mf_is n (g x0 40) 20 ∧ 0 ≤ x1 ∧ x1 < mf_len (g x0 40) ∧ 0 ≤ mf_w32 (2 + x1) ∧ mf_w32 (2 + x1) < mf_len (g x0 40) ∧ (∀ h7 : mf_M, h7 = mf_up h (g x0 40) (mf_w32 (2 + x1)) (h (g x0 40) x1) → (∀ v8 : Int, v8 = mf_w32 (x1 + 1) → JX12_stands_7 C l d n K x0 v8 g h7))))) : JX12_stands_7 C l d n K x0 x1 g h := by
  refine mf_iload_n (mf_dat eX12_stands_p0 5 rfl) rfl rfl ?_
  refine mf_iconst (v := 2) (mf_dat eX12_stands_p0 6 rfl) (by decide) ?_
  refine mf_icmp_ge (tgt := 32) (mf_dat eX12_stands_p0 7 rfl) (by decide) (fun hc => ?_) (fun hc => ?_)
  · replace hyp := hyp.1 hc
    refine mf_iconst (v := 0) (mf_dat eX12_stands_p0 20 rfl) (by decide) ?_
    refine mf_istore_n (mf_dat eX12_stands_p0 21 rfl) rfl (by decide) ?_
    exact mf_sub [1, 0] rfl hyp
  · replace hyp := hyp.2 hc
    refine mf_aload_n (mf_dat eX12_stands_p0 8 rfl) rfl rfl ?_
    obtain ⟨ck1, hyp⟩ := hyp
    refine mf_getf (r := (RX12, TX12, 106)) (ci := 12) (k := 40) (t := 2) (v := g x0 40) (mf_dat eX12_stands_p0 9 rfl) fl_X12_105 rfl (by decide) rfl rfl ck1 ?_
    refine mf_iconst (v := 2) (mf_dat eX12_stands_p0 10 rfl) (by decide) ?_
    refine mf_iload_n (mf_dat eX12_stands_p0 11 rfl) rfl rfl ?_
    refine mf_iadd (mf_dat eX12_stands_p0 12 rfl) ?_
    refine mf_aload_n (mf_dat eX12_stands_p0 13 rfl) rfl rfl ?_
    refine mf_getf (r := (RX12, TX12, 106)) (ci := 12) (k := 40) (t := 2) (v := g x0 40) (mf_dat eX12_stands_p0 14 rfl) fl_X12_105 rfl (by decide) rfl rfl ck1 ?_
    refine mf_iload_n (mf_dat eX12_stands_p0 15 rfl) rfl rfl ?_
    obtain ⟨ck2, hyp⟩ := hyp
    obtain ⟨ck3, hyp⟩ := hyp
    obtain ⟨ck4, hyp⟩ := hyp
    refine mf_iald (mf_dat eX12_stands_p0 16 rfl) ck2 ck3 ck4 ?_
    obtain ⟨ck5, hyp⟩ := hyp
    obtain ⟨ck6, hyp⟩ := hyp
    refine mf_iast (mf_dat eX12_stands_p0 17 rfl) ck2 ck5 ck6 ?_
    generalize qh7 : mf_up h (g x0 40) (mf_w32 (2 + x1)) (h (g x0 40) x1) = h7
    replace hyp := hyp _ qh7.symm
    refine mf_iinc (mf_dat eX12_stands_p0 18 rfl) rfl (by decide) (by decide) ?_
    generalize qv8 : mf_w32 (x1 + 1) = v8
    replace hyp := hyp _ qv8.symm
    refine mf_goto (tgt := 7) (mf_dat eX12_stands_p0 19 rfl) (by decide) ?_
    exact mf_sub [1, 0] rfl hyp
set_option maxRecDepth 100000 in
set_option maxHeartbeats 4000000 in
theorem bX12_stands_34 {C : mf_G} {l : Launch} {d n : Nat} {K : mf_Kt} {x0 x1 : Int} {g h : mf_M} (hyp : ((3 ≤ x1 → JX12_stands_61 C l d n K x0 0 g h) ∧ (¬ 3 ≤ x1 → mf_is n x0 12 ∧ mf_is n (g x0 41) 20 ∧ 0 ≤ x1 ∧ x1 < mf_len (g x0 41) ∧ 0 ≤ mf_w32 (3 + x1) ∧ mf_w32 (3 + x1) < mf_len (g x0 41) ∧ (∀ h7 : mf_M, h7 = mf_up h (g x0 41) (mf_w32 (3 + x1)) (h (g x0 41) x1) → (∀ v8 : Int, v8 = mf_w32 (x1 + 1) → JX12_stands_34 C l d n K x0 v8 g h7))))) : JX12_stands_34 C l d n K x0 x1 g h := by
  refine mf_iload_n (mf_dat eX12_stands_p0 22 rfl) rfl rfl ?_
  refine mf_iconst (v := 3) (mf_dat eX12_stands_p0 23 rfl) (by decide) ?_
  refine mf_icmp_ge (tgt := 59) (mf_dat eX12_stands_p0 24 rfl) (by decide) (fun hc => ?_) (fun hc => ?_)
  · replace hyp := hyp.1 hc
    refine mf_iconst (v := 0) (mf_dat eX12_stands_p0 37 rfl) (by decide) ?_
    refine mf_istore_n (mf_dat eX12_stands_p0 38 rfl) rfl (by decide) ?_
    exact mf_sub [1, 0] rfl hyp
  · replace hyp := hyp.2 hc
    refine mf_aload_n (mf_dat eX12_stands_p0 25 rfl) rfl rfl ?_
    obtain ⟨ck1, hyp⟩ := hyp
    refine mf_getf (r := (RX12, TX12, 106)) (ci := 12) (k := 41) (t := 2) (v := g x0 41) (mf_dat eX12_stands_p0 26 rfl) fl_X12_108 rfl (by decide) rfl rfl ck1 ?_
    refine mf_iconst (v := 3) (mf_dat eX12_stands_p0 27 rfl) (by decide) ?_
    refine mf_iload_n (mf_dat eX12_stands_p0 28 rfl) rfl rfl ?_
    refine mf_iadd (mf_dat eX12_stands_p0 29 rfl) ?_
    refine mf_aload_n (mf_dat eX12_stands_p0 30 rfl) rfl rfl ?_
    refine mf_getf (r := (RX12, TX12, 106)) (ci := 12) (k := 41) (t := 2) (v := g x0 41) (mf_dat eX12_stands_p0 31 rfl) fl_X12_108 rfl (by decide) rfl rfl ck1 ?_
    refine mf_iload_n (mf_dat eX12_stands_p0 32 rfl) rfl rfl ?_
    obtain ⟨ck2, hyp⟩ := hyp
    obtain ⟨ck3, hyp⟩ := hyp
    obtain ⟨ck4, hyp⟩ := hyp
    refine mf_iald (mf_dat eX12_stands_p0 33 rfl) ck2 ck3 ck4 ?_
    obtain ⟨ck5, hyp⟩ := hyp
    obtain ⟨ck6, hyp⟩ := hyp
    refine mf_iast (mf_dat eX12_stands_p0 34 rfl) ck2 ck5 ck6 ?_
    generalize qh7 : mf_up h (g x0 41) (mf_w32 (3 + x1)) (h (g x0 41) x1) = h7
    replace hyp := hyp _ qh7.symm
    refine mf_iinc (mf_dat eX12_stands_p0 35 rfl) rfl (by decide) (by decide) ?_
    generalize qv8 : mf_w32 (x1 + 1) = v8
    replace hyp := hyp _ qv8.symm
    refine mf_goto (tgt := 34) (mf_dat eX12_stands_p0 36 rfl) (by decide) ?_
    exact mf_sub [1, 0] rfl hyp
set_option maxRecDepth 100000 in
set_option maxHeartbeats 4000000 in
theorem bX12_stands_61 {C : mf_G} {l : Launch} {d n : Nat} {K : mf_Kt} {x0 x1 : Int} {g h : mf_M} (hyp : ((8 ≤ x1 → JX12_stands_105 C l d n K x0 0 g h) ∧ (¬ 8 ≤ x1 → mf_is n x0 12 ∧ mf_is n (g x0 42) 24 ∧ 0 ≤ x1 ∧ x1 < mf_len (g x0 42) ∧ 0 ≤ mf_w32 (8 + x1) ∧ mf_w32 (8 + x1) < mf_len (g x0 42) ∧ (∀ h7 : mf_M, h7 = mf_up h (g x0 42) (mf_w32 (8 + x1)) (h (g x0 42) x1) → mf_is n (g x0 46) 20 ∧ x1 < mf_len (g x0 46) ∧ mf_w32 (8 + x1) < mf_len (g x0 46) ∧ (∀ h11 : mf_M, h11 = mf_up h7 (g x0 46) (mf_w32 (8 + x1)) (h7 (g x0 46) x1) → (∀ v12 : Int, v12 = mf_w32 (x1 + 1) → JX12_stands_61 C l d n K x0 v12 g h11)))))) : JX12_stands_61 C l d n K x0 x1 g h := by
  refine mf_iload_n (mf_dat eX12_stands_p0 39 rfl) rfl rfl ?_
  refine mf_bipush (v := 8) (mf_dat eX12_stands_p0 40 rfl) (by decide) ?_
  refine mf_icmp_ge (tgt := 103) (mf_dat eX12_stands_p0 41 rfl) (by decide) (fun hc => ?_) (fun hc => ?_)
  · replace hyp := hyp.1 hc
    refine mf_iconst (v := 0) (mf_dat eX12_stands_p1 4 rfl) (by decide) ?_
    refine mf_istore_n (mf_dat eX12_stands_p1 5 rfl) rfl (by decide) ?_
    exact mf_sub [1, 0] rfl hyp
  · replace hyp := hyp.2 hc
    refine mf_aload_n (mf_dat eX12_stands_p0 42 rfl) rfl rfl ?_
    obtain ⟨ck1, hyp⟩ := hyp
    refine mf_getf (r := (RX12, TX12, 106)) (ci := 12) (k := 42) (t := 2) (v := g x0 42) (mf_dat eX12_stands_p0 43 rfl) fl_X12_111 rfl (by decide) rfl rfl ck1 ?_
    refine mf_bipush (v := 8) (mf_dat eX12_stands_p0 44 rfl) (by decide) ?_
    refine mf_iload_n (mf_dat eX12_stands_p0 45 rfl) rfl rfl ?_
    refine mf_iadd (mf_dat eX12_stands_p0 46 rfl) ?_
    refine mf_aload_n (mf_dat eX12_stands_p0 47 rfl) rfl rfl ?_
    refine mf_getf (r := (RX12, TX12, 106)) (ci := 12) (k := 42) (t := 2) (v := g x0 42) (mf_dat eX12_stands_p0 48 rfl) fl_X12_111 rfl (by decide) rfl rfl ck1 ?_
    refine mf_iload_n (mf_dat eX12_stands_p0 49 rfl) rfl rfl ?_
    obtain ⟨ck2, hyp⟩ := hyp
    obtain ⟨ck3, hyp⟩ := hyp
    obtain ⟨ck4, hyp⟩ := hyp
    refine mf_lald (mf_dat eX12_stands_p0 50 rfl) ck2 ck3 ck4 ?_
    obtain ⟨ck5, hyp⟩ := hyp
    obtain ⟨ck6, hyp⟩ := hyp
    refine mf_last (mf_dat eX12_stands_p0 51 rfl) ck2 ck5 ck6 ?_
    generalize qh7 : mf_up h (g x0 42) (mf_w32 (8 + x1)) (h (g x0 42) x1) = h7
    replace hyp := hyp _ qh7.symm
    refine mf_aload_n (mf_dat eX12_stands_p0 52 rfl) rfl rfl ?_
    refine mf_getf (r := (RX12, TX12, 106)) (ci := 12) (k := 46) (t := 2) (v := g x0 46) (mf_dat eX12_stands_p0 53 rfl) fl_X12_124 rfl (by decide) rfl rfl ck1 ?_
    refine mf_bipush (v := 8) (mf_dat eX12_stands_p0 54 rfl) (by decide) ?_
    refine mf_iload_n (mf_dat eX12_stands_p0 55 rfl) rfl rfl ?_
    refine mf_iadd (mf_dat eX12_stands_p0 56 rfl) ?_
    refine mf_aload_n (mf_dat eX12_stands_p0 57 rfl) rfl rfl ?_
    refine mf_getf (r := (RX12, TX12, 106)) (ci := 12) (k := 46) (t := 2) (v := g x0 46) (mf_dat eX12_stands_p0 58 rfl) fl_X12_124 rfl (by decide) rfl rfl ck1 ?_
    refine mf_iload_n (mf_dat eX12_stands_p0 59 rfl) rfl rfl ?_
    obtain ⟨ck8, hyp⟩ := hyp
    obtain ⟨ck9, hyp⟩ := hyp
    refine mf_iald (mf_dat eX12_stands_p1 0 rfl) ck8 ck3 ck9 ?_
    obtain ⟨ck10, hyp⟩ := hyp
    refine mf_iast (mf_dat eX12_stands_p1 1 rfl) ck8 ck5 ck10 ?_
    generalize qh11 : mf_up h7 (g x0 46) (mf_w32 (8 + x1)) (h7 (g x0 46) x1) = h11
    replace hyp := hyp _ qh11.symm
    refine mf_iinc (mf_dat eX12_stands_p1 2 rfl) rfl (by decide) (by decide) ?_
    generalize qv12 : mf_w32 (x1 + 1) = v12
    replace hyp := hyp _ qv12.symm
    refine mf_goto (tgt := 61) (mf_dat eX12_stands_p1 3 rfl) (by decide) ?_
    exact mf_sub [1, 0] rfl hyp
set_option maxRecDepth 100000 in
set_option maxHeartbeats 4000000 in
theorem bX12_stands_105 {C : mf_G} {l : Launch} {d n : Nat} {K : mf_Kt} {x0 x1 : Int} {g h : mf_M} (hyp : ((36 ≤ x1 → mf_is n x0 12 ∧ (∀ h2 : mf_M, h2 = mf_up h x0 48 (h x0 47) → JX12_stands_142 C l d n K x0 0 g h2)) ∧ (¬ 36 ≤ x1 → mf_is n x0 12 ∧ mf_is n (g x0 44) 20 ∧ 0 ≤ x1 ∧ x1 < mf_len (g x0 44) ∧ 0 ≤ mf_w32 (36 + x1) ∧ mf_w32 (36 + x1) < mf_len (g x0 44) ∧ (∀ h9 : mf_M, h9 = mf_up h (g x0 44) (mf_w32 (36 + x1)) (h (g x0 44) x1) → (∀ v10 : Int, v10 = mf_w32 (x1 + 1) → JX12_stands_105 C l d n K x0 v10 g h9))))) : JX12_stands_105 C l d n K x0 x1 g h := by
  refine mf_iload_n (mf_dat eX12_stands_p1 6 rfl) rfl rfl ?_
  refine mf_bipush (v := 36) (mf_dat eX12_stands_p1 7 rfl) (by decide) ?_
  refine mf_icmp_ge (tgt := 132) (mf_dat eX12_stands_p1 8 rfl) (by decide) (fun hc => ?_) (fun hc => ?_)
  · replace hyp := hyp.1 hc
    refine mf_aload_n (mf_dat eX12_stands_p1 21 rfl) rfl rfl ?_
    refine mf_aload_n (mf_dat eX12_stands_p1 22 rfl) rfl rfl ?_
    obtain ⟨ck1, hyp⟩ := hyp
    refine mf_getf (r := (RX12, TX12, 106)) (ci := 12) (k := 47) (t := 0) (v := h x0 47) (mf_dat eX12_stands_p1 23 rfl) fl_X12_374 rfl (by decide) rfl rfl ck1 ?_
    refine mf_putI (r := (RX12, TX12, 106)) (ci := 12) (k := 48) (kI := 48) (t := 0) (mf_dat eX12_stands_p1 24 rfl) fl_X12_393 rfl rfl (by decide) rfl (by decide) rfl (by decide) (fun h9 => absurd h9 (by decide)) ck1 ?_
    generalize qh2 : mf_up h x0 48 (h x0 47) = h2
    replace hyp := hyp _ qh2.symm
    refine mf_iconst (v := 0) (mf_dat eX12_stands_p1 25 rfl) (by decide) ?_
    refine mf_istore_n (mf_dat eX12_stands_p1 26 rfl) rfl (by decide) ?_
    exact mf_sub [1, 0] rfl hyp
  · replace hyp := hyp.2 hc
    refine mf_aload_n (mf_dat eX12_stands_p1 9 rfl) rfl rfl ?_
    obtain ⟨ck3, hyp⟩ := hyp
    refine mf_getf (r := (RX12, TX12, 106)) (ci := 12) (k := 44) (t := 2) (v := g x0 44) (mf_dat eX12_stands_p1 10 rfl) fl_X12_118 rfl (by decide) rfl rfl ck3 ?_
    refine mf_bipush (v := 36) (mf_dat eX12_stands_p1 11 rfl) (by decide) ?_
    refine mf_iload_n (mf_dat eX12_stands_p1 12 rfl) rfl rfl ?_
    refine mf_iadd (mf_dat eX12_stands_p1 13 rfl) ?_
    refine mf_aload_n (mf_dat eX12_stands_p1 14 rfl) rfl rfl ?_
    refine mf_getf (r := (RX12, TX12, 106)) (ci := 12) (k := 44) (t := 2) (v := g x0 44) (mf_dat eX12_stands_p1 15 rfl) fl_X12_118 rfl (by decide) rfl rfl ck3 ?_
    refine mf_iload_n (mf_dat eX12_stands_p1 16 rfl) rfl rfl ?_
    obtain ⟨ck4, hyp⟩ := hyp
    obtain ⟨ck5, hyp⟩ := hyp
    obtain ⟨ck6, hyp⟩ := hyp
    refine mf_iald (mf_dat eX12_stands_p1 17 rfl) ck4 ck5 ck6 ?_
    obtain ⟨ck7, hyp⟩ := hyp
    obtain ⟨ck8, hyp⟩ := hyp
    refine mf_iast (mf_dat eX12_stands_p1 18 rfl) ck4 ck7 ck8 ?_
    generalize qh9 : mf_up h (g x0 44) (mf_w32 (36 + x1)) (h (g x0 44) x1) = h9
    replace hyp := hyp _ qh9.symm
    refine mf_iinc (mf_dat eX12_stands_p1 19 rfl) rfl (by decide) (by decide) ?_
    generalize qv10 : mf_w32 (x1 + 1) = v10
    replace hyp := hyp _ qv10.symm
    refine mf_goto (tgt := 105) (mf_dat eX12_stands_p1 20 rfl) (by decide) ?_
    exact mf_sub [1, 0] rfl hyp
set_option maxRecDepth 100000 in
set_option maxHeartbeats 4000000 in
theorem bX12_stands_142 {C : mf_G} {l : Launch} {d n : Nat} {K : mf_Kt} {x0 x1 : Int} {g h : mf_M} (hyp : ((4 ≤ x1 → JX12_stands_183 C l d n K x0 0 g h) ∧ (¬ 4 ≤ x1 → mf_is n x0 12 ∧ mf_is n (g x0 49) 20 ∧ 0 ≤ x1 ∧ x1 < mf_len (g x0 49) ∧ 0 ≤ mf_w32 (4 + x1) ∧ mf_w32 (4 + x1) < mf_len (g x0 49) ∧ (∀ h7 : mf_M, h7 = mf_up h (g x0 49) (mf_w32 (4 + x1)) (h (g x0 49) x1) → mf_is n (g x0 50) 20 ∧ x1 < mf_len (g x0 50) ∧ mf_w32 (4 + x1) < mf_len (g x0 50) ∧ (∀ h11 : mf_M, h11 = mf_up h7 (g x0 50) (mf_w32 (4 + x1)) (h7 (g x0 50) x1) → (∀ v12 : Int, v12 = mf_w32 (x1 + 1) → JX12_stands_142 C l d n K x0 v12 g h11)))))) : JX12_stands_142 C l d n K x0 x1 g h := by
  refine mf_iload_n (mf_dat eX12_stands_p1 27 rfl) rfl rfl ?_
  refine mf_iconst (v := 4) (mf_dat eX12_stands_p1 28 rfl) (by decide) ?_
  refine mf_icmp_ge (tgt := 181) (mf_dat eX12_stands_p1 29 rfl) (by decide) (fun hc => ?_) (fun hc => ?_)
  · replace hyp := hyp.1 hc
    refine mf_iconst (v := 0) (mf_dat eX12_stands_p1 52 rfl) (by decide) ?_
    refine mf_istore_n (mf_dat eX12_stands_p1 53 rfl) rfl (by decide) ?_
    exact mf_sub [1, 0] rfl hyp
  · replace hyp := hyp.2 hc
    refine mf_aload_n (mf_dat eX12_stands_p1 30 rfl) rfl rfl ?_
    obtain ⟨ck1, hyp⟩ := hyp
    refine mf_getf (r := (RX12, TX12, 106)) (ci := 12) (k := 49) (t := 2) (v := g x0 49) (mf_dat eX12_stands_p1 31 rfl) fl_X12_127 rfl (by decide) rfl rfl ck1 ?_
    refine mf_iconst (v := 4) (mf_dat eX12_stands_p1 32 rfl) (by decide) ?_
    refine mf_iload_n (mf_dat eX12_stands_p1 33 rfl) rfl rfl ?_
    refine mf_iadd (mf_dat eX12_stands_p1 34 rfl) ?_
    refine mf_aload_n (mf_dat eX12_stands_p1 35 rfl) rfl rfl ?_
    refine mf_getf (r := (RX12, TX12, 106)) (ci := 12) (k := 49) (t := 2) (v := g x0 49) (mf_dat eX12_stands_p1 36 rfl) fl_X12_127 rfl (by decide) rfl rfl ck1 ?_
    refine mf_iload_n (mf_dat eX12_stands_p1 37 rfl) rfl rfl ?_
    obtain ⟨ck2, hyp⟩ := hyp
    obtain ⟨ck3, hyp⟩ := hyp
    obtain ⟨ck4, hyp⟩ := hyp
    refine mf_iald (mf_dat eX12_stands_p1 38 rfl) ck2 ck3 ck4 ?_
    obtain ⟨ck5, hyp⟩ := hyp
    obtain ⟨ck6, hyp⟩ := hyp
    refine mf_iast (mf_dat eX12_stands_p1 39 rfl) ck2 ck5 ck6 ?_
    generalize qh7 : mf_up h (g x0 49) (mf_w32 (4 + x1)) (h (g x0 49) x1) = h7
    replace hyp := hyp _ qh7.symm
    refine mf_aload_n (mf_dat eX12_stands_p1 40 rfl) rfl rfl ?_
    refine mf_getf (r := (RX12, TX12, 106)) (ci := 12) (k := 50) (t := 2) (v := g x0 50) (mf_dat eX12_stands_p1 41 rfl) fl_X12_130 rfl (by decide) rfl rfl ck1 ?_
    refine mf_iconst (v := 4) (mf_dat eX12_stands_p1 42 rfl) (by decide) ?_
    refine mf_iload_n (mf_dat eX12_stands_p1 43 rfl) rfl rfl ?_
    refine mf_iadd (mf_dat eX12_stands_p1 44 rfl) ?_
    refine mf_aload_n (mf_dat eX12_stands_p1 45 rfl) rfl rfl ?_
    refine mf_getf (r := (RX12, TX12, 106)) (ci := 12) (k := 50) (t := 2) (v := g x0 50) (mf_dat eX12_stands_p1 46 rfl) fl_X12_130 rfl (by decide) rfl rfl ck1 ?_
    refine mf_iload_n (mf_dat eX12_stands_p1 47 rfl) rfl rfl ?_
    obtain ⟨ck8, hyp⟩ := hyp
    obtain ⟨ck9, hyp⟩ := hyp
    refine mf_iald (mf_dat eX12_stands_p1 48 rfl) ck8 ck3 ck9 ?_
    obtain ⟨ck10, hyp⟩ := hyp
    refine mf_iast (mf_dat eX12_stands_p1 49 rfl) ck8 ck5 ck10 ?_
    generalize qh11 : mf_up h7 (g x0 50) (mf_w32 (4 + x1)) (h7 (g x0 50) x1) = h11
    replace hyp := hyp _ qh11.symm
    refine mf_iinc (mf_dat eX12_stands_p1 50 rfl) rfl (by decide) (by decide) ?_
    generalize qv12 : mf_w32 (x1 + 1) = v12
    replace hyp := hyp _ qv12.symm
    refine mf_goto (tgt := 142) (mf_dat eX12_stands_p1 51 rfl) (by decide) ?_
    exact mf_sub [1, 0] rfl hyp
set_option maxRecDepth 100000 in
set_option maxHeartbeats 4000000 in
theorem bX12_stands_183 {C : mf_G} {l : Launch} {d n : Nat} {K : mf_Kt} {x0 x1 : Int} {g h : mf_M} (hyp : mf_is n x0 12 ∧ ((h x0 52 ≤ x1 → JX12_stands_215 C l d n K x0 0 g h) ∧ (¬ h x0 52 ≤ x1 → mf_is n (g x0 51) 20 ∧ 0 ≤ x1 ∧ x1 < mf_len (g x0 51) ∧ 0 ≤ mf_w32 (1600 + x1) ∧ mf_w32 (1600 + x1) < mf_len (g x0 51) ∧ (∀ h7 : mf_M, h7 = mf_up h (g x0 51) (mf_w32 (1600 + x1)) (h (g x0 51) x1) → (∀ v8 : Int, v8 = mf_w32 (x1 + 1) → JX12_stands_183 C l d n K x0 v8 g h7))))) : JX12_stands_183 C l d n K x0 x1 g h := by
  refine mf_iload_n (mf_dat eX12_stands_p1 54 rfl) rfl rfl ?_
  refine mf_aload_n (mf_dat eX12_stands_p1 55 rfl) rfl rfl ?_
  obtain ⟨ck1, hyp⟩ := hyp
  refine mf_getf (r := (RX12, TX12, 106)) (ci := 12) (k := 52) (t := 0) (v := h x0 52) (mf_dat eX12_stands_p1 56 rfl) fl_X12_356 rfl (by decide) rfl rfl ck1 ?_
  refine mf_icmp_ge (tgt := 213) (mf_dat eX12_stands_p1 57 rfl) (by decide) (fun hc => ?_) (fun hc => ?_)
  · replace hyp := hyp.1 hc
    refine mf_iconst (v := 0) (mf_dat eX12_stands_p2 10 rfl) (by decide) ?_
    refine mf_istore_n (mf_dat eX12_stands_p2 11 rfl) rfl (by decide) ?_
    exact mf_sub [1, 0] rfl hyp
  · replace hyp := hyp.2 hc
    refine mf_aload_n (mf_dat eX12_stands_p1 58 rfl) rfl rfl ?_
    refine mf_getf (r := (RX12, TX12, 106)) (ci := 12) (k := 51) (t := 2) (v := g x0 51) (mf_dat eX12_stands_p1 59 rfl) fl_X12_133 rfl (by decide) rfl rfl ck1 ?_
    refine mf_sipush (v := 1600) (mf_dat eX12_stands_p2 0 rfl) (by decide) ?_
    refine mf_iload_n (mf_dat eX12_stands_p2 1 rfl) rfl rfl ?_
    refine mf_iadd (mf_dat eX12_stands_p2 2 rfl) ?_
    refine mf_aload_n (mf_dat eX12_stands_p2 3 rfl) rfl rfl ?_
    refine mf_getf (r := (RX12, TX12, 106)) (ci := 12) (k := 51) (t := 2) (v := g x0 51) (mf_dat eX12_stands_p2 4 rfl) fl_X12_133 rfl (by decide) rfl rfl ck1 ?_
    refine mf_iload_n (mf_dat eX12_stands_p2 5 rfl) rfl rfl ?_
    obtain ⟨ck2, hyp⟩ := hyp
    obtain ⟨ck3, hyp⟩ := hyp
    obtain ⟨ck4, hyp⟩ := hyp
    refine mf_iald (mf_dat eX12_stands_p2 6 rfl) ck2 ck3 ck4 ?_
    obtain ⟨ck5, hyp⟩ := hyp
    obtain ⟨ck6, hyp⟩ := hyp
    refine mf_iast (mf_dat eX12_stands_p2 7 rfl) ck2 ck5 ck6 ?_
    generalize qh7 : mf_up h (g x0 51) (mf_w32 (1600 + x1)) (h (g x0 51) x1) = h7
    replace hyp := hyp _ qh7.symm
    refine mf_iinc (mf_dat eX12_stands_p2 8 rfl) rfl (by decide) (by decide) ?_
    generalize qv8 : mf_w32 (x1 + 1) = v8
    replace hyp := hyp _ qv8.symm
    refine mf_goto (tgt := 183) (mf_dat eX12_stands_p2 9 rfl) (by decide) ?_
    exact mf_sub [1, 0] rfl hyp
set_option maxRecDepth 100000 in
set_option maxHeartbeats 4000000 in
theorem bX12_stands_215 {C : mf_G} {l : Launch} {d n : Nat} {K : mf_Kt} {x0 x1 : Int} {g h : mf_M} (hyp : ((160 ≤ x1 → JX12_stands_237 C l d n K x0 0 g h) ∧ (¬ 160 ≤ x1 → mf_is n x0 12 ∧ mf_is n (g x0 56) 20 ∧ 0 ≤ x1 ∧ x1 < mf_len (g x0 56) ∧ (∀ h5 : mf_M, h5 = mf_up h (g x0 56) x1 0 → (∀ v6 : Int, v6 = mf_w32 (x1 + 1) → JX12_stands_215 C l d n K x0 v6 g h5))))) : JX12_stands_215 C l d n K x0 x1 g h := by
  refine mf_iload_n (mf_dat eX12_stands_p2 12 rfl) rfl rfl ?_
  refine mf_sipush (v := 160) (mf_dat eX12_stands_p2 13 rfl) (by decide) ?_
  refine mf_icmp_ge (tgt := 235) (mf_dat eX12_stands_p2 14 rfl) (by decide) (fun hc => ?_) (fun hc => ?_)
  · replace hyp := hyp.1 hc
    refine mf_iconst (v := 0) (mf_dat eX12_stands_p2 22 rfl) (by decide) ?_
    refine mf_istore_n (mf_dat eX12_stands_p2 23 rfl) rfl (by decide) ?_
    exact mf_sub [1, 0] rfl hyp
  · replace hyp := hyp.2 hc
    refine mf_aload_n (mf_dat eX12_stands_p2 15 rfl) rfl rfl ?_
    obtain ⟨ck1, hyp⟩ := hyp
    refine mf_getf (r := (RX12, TX12, 106)) (ci := 12) (k := 56) (t := 2) (v := g x0 56) (mf_dat eX12_stands_p2 16 rfl) fl_X12_136 rfl (by decide) rfl rfl ck1 ?_
    refine mf_iload_n (mf_dat eX12_stands_p2 17 rfl) rfl rfl ?_
    refine mf_iconst (v := 0) (mf_dat eX12_stands_p2 18 rfl) (by decide) ?_
    obtain ⟨ck2, hyp⟩ := hyp
    obtain ⟨ck3, hyp⟩ := hyp
    obtain ⟨ck4, hyp⟩ := hyp
    refine mf_iast (mf_dat eX12_stands_p2 19 rfl) ck2 ck3 ck4 ?_
    generalize qh5 : mf_up h (g x0 56) x1 0 = h5
    replace hyp := hyp _ qh5.symm
    refine mf_iinc (mf_dat eX12_stands_p2 20 rfl) rfl (by decide) (by decide) ?_
    generalize qv6 : mf_w32 (x1 + 1) = v6
    replace hyp := hyp _ qv6.symm
    refine mf_goto (tgt := 215) (mf_dat eX12_stands_p2 21 rfl) (by decide) ?_
    exact mf_sub [1, 0] rfl hyp
set_option maxRecDepth 100000 in
set_option maxHeartbeats 4000000 in
theorem bX12_stands_237 {C : mf_G} {l : Launch} {d n : Nat} {K : mf_Kt} {x0 x1 : Int} {g h : mf_M} (hyp : ((6 ≤ x1 → JX12_stands_265 C l d n K x0 0 g h) ∧ (¬ 6 ≤ x1 → mf_is n x0 12 ∧ mf_is n (g x0 43) 20 ∧ 0 ≤ x1 ∧ x1 < mf_len (g x0 43) ∧ mf_is n (g x0 56) 20 ∧ 0 ≤ mf_w32 (1 + x1) ∧ mf_w32 (1 + x1) < mf_len (g x0 56) ∧ (∀ h8 : mf_M, h8 = mf_up h (g x0 56) (mf_w32 (1 + x1)) (h (g x0 43) x1) → (∀ v9 : Int, v9 = mf_w32 (x1 + 1) → JX12_stands_237 C l d n K x0 v9 g h8))))) : JX12_stands_237 C l d n K x0 x1 g h := by
  refine mf_iload_n (mf_dat eX12_stands_p2 24 rfl) rfl rfl ?_
  refine mf_bipush (v := 6) (mf_dat eX12_stands_p2 25 rfl) (by decide) ?_
  refine mf_icmp_ge (tgt := 263) (mf_dat eX12_stands_p2 26 rfl) (by decide) (fun hc => ?_) (fun hc => ?_)
  · replace hyp := hyp.1 hc
    refine mf_iconst (v := 0) (mf_dat eX12_stands_p2 39 rfl) (by decide) ?_
    refine mf_istore_n (mf_dat eX12_stands_p2 40 rfl) rfl (by decide) ?_
    exact mf_sub [1, 0] rfl hyp
  · replace hyp := hyp.2 hc
    refine mf_aload_n (mf_dat eX12_stands_p2 27 rfl) rfl rfl ?_
    obtain ⟨ck1, hyp⟩ := hyp
    refine mf_getf (r := (RX12, TX12, 106)) (ci := 12) (k := 56) (t := 2) (v := g x0 56) (mf_dat eX12_stands_p2 28 rfl) fl_X12_136 rfl (by decide) rfl rfl ck1 ?_
    refine mf_iconst (v := 1) (mf_dat eX12_stands_p2 29 rfl) (by decide) ?_
    refine mf_iload_n (mf_dat eX12_stands_p2 30 rfl) rfl rfl ?_
    refine mf_iadd (mf_dat eX12_stands_p2 31 rfl) ?_
    refine mf_aload_n (mf_dat eX12_stands_p2 32 rfl) rfl rfl ?_
    refine mf_getf (r := (RX12, TX12, 106)) (ci := 12) (k := 43) (t := 2) (v := g x0 43) (mf_dat eX12_stands_p2 33 rfl) fl_X12_115 rfl (by decide) rfl rfl ck1 ?_
    refine mf_iload_n (mf_dat eX12_stands_p2 34 rfl) rfl rfl ?_
    obtain ⟨ck2, hyp⟩ := hyp
    obtain ⟨ck3, hyp⟩ := hyp
    obtain ⟨ck4, hyp⟩ := hyp
    refine mf_iald (mf_dat eX12_stands_p2 35 rfl) ck2 ck3 ck4 ?_
    obtain ⟨ck5, hyp⟩ := hyp
    obtain ⟨ck6, hyp⟩ := hyp
    obtain ⟨ck7, hyp⟩ := hyp
    refine mf_iast (mf_dat eX12_stands_p2 36 rfl) ck5 ck6 ck7 ?_
    generalize qh8 : mf_up h (g x0 56) (mf_w32 (1 + x1)) (h (g x0 43) x1) = h8
    replace hyp := hyp _ qh8.symm
    refine mf_iinc (mf_dat eX12_stands_p2 37 rfl) rfl (by decide) (by decide) ?_
    generalize qv9 : mf_w32 (x1 + 1) = v9
    replace hyp := hyp _ qv9.symm
    refine mf_goto (tgt := 237) (mf_dat eX12_stands_p2 38 rfl) (by decide) ?_
    exact mf_sub [1, 0] rfl hyp
set_option maxRecDepth 100000 in
set_option maxHeartbeats 4000000 in
theorem bX12_stands_265 {C : mf_G} {l : Launch} {d n : Nat} {K : mf_Kt} {x0 x1 : Int} {g h : mf_M} (hyp : mf_is n x0 12 ∧ mf_is n (g x0 41) 20 ∧ 0 < mf_len (g x0 41) ∧ ((h (g x0 41) 0 ≤ x1 → (∀ h4 : mf_M, h4 = mf_up h x0 69 0 → (∀ h5 : mf_M, h5 = mf_up h4 x0 65 0 → K 0 g h5))) ∧ (¬ h (g x0 41) 0 ≤ x1 → mf_is n (g x0 45) 20 ∧ 0 ≤ mf_w32 (2 * x1) ∧ mf_w32 (2 * x1) < mf_len (g x0 45) ∧ mf_is n (g x0 56) 20 ∧ 0 ≤ mf_w32 (7 + (mf_w32 (4 * x1))) ∧ mf_w32 (7 + (mf_w32 (4 * x1))) < mf_len (g x0 56) ∧ (∀ h12 : mf_M, h12 = mf_up h (g x0 56) (mf_w32 (7 + (mf_w32 (4 * x1)))) (h (g x0 45) (mf_w32 (2 * x1))) → 0 ≤ mf_w32 ((mf_w32 (2 * x1)) + 1) ∧ mf_w32 ((mf_w32 (2 * x1)) + 1) < mf_len (g x0 45) ∧ 0 ≤ mf_w32 ((mf_w32 (7 + (mf_w32 (4 * x1)))) + 1) ∧ mf_w32 ((mf_w32 (7 + (mf_w32 (4 * x1)))) + 1) < mf_len (g x0 56) ∧ (∀ h17 : mf_M, h17 = mf_up h12 (g x0 56) (mf_w32 ((mf_w32 (7 + (mf_w32 (4 * x1)))) + 1)) (h12 (g x0 45) (mf_w32 ((mf_w32 (2 * x1)) + 1))) → 0 ≤ mf_w32 ((mf_w32 (7 + (mf_w32 (4 * x1)))) + 2) ∧ mf_w32 ((mf_w32 (7 + (mf_w32 (4 * x1)))) + 2) < mf_len (g x0 56) ∧ (∀ h20 : mf_M, h20 = mf_up h17 (g x0 56) (mf_w32 ((mf_w32 (7 + (mf_w32 (4 * x1)))) + 2)) 5 → (∀ v21 : Int, v21 = mf_w32 (x1 + 1) → JX12_stands_265 C l d n K x0 v21 g h20))))))) : JX12_stands_265 C l d n K x0 x1 g h := by
  refine mf_iload_n (mf_dat eX12_stands_p2 41 rfl) rfl rfl ?_
  refine mf_aload_n (mf_dat eX12_stands_p2 42 rfl) rfl rfl ?_
  obtain ⟨ck1, hyp⟩ := hyp
  refine mf_getf (r := (RX12, TX12, 106)) (ci := 12) (k := 41) (t := 2) (v := g x0 41) (mf_dat eX12_stands_p2 43 rfl) fl_X12_108 rfl (by decide) rfl rfl ck1 ?_
  refine mf_iconst (v := 0) (mf_dat eX12_stands_p2 44 rfl) (by decide) ?_
  obtain ⟨ck2, hyp⟩ := hyp
  obtain ⟨ck3, hyp⟩ := hyp
  refine mf_iald (mf_dat eX12_stands_p2 45 rfl) ck2 (by decide) ck3 ?_
  refine mf_icmp_ge (tgt := 337) (mf_dat eX12_stands_p2 46 rfl) (by decide) (fun hc => ?_) (fun hc => ?_)
  · replace hyp := hyp.1 hc
    refine mf_aload_n (mf_dat eX12_stands_p3 32 rfl) rfl rfl ?_
    refine mf_iconst (v := 0) (mf_dat eX12_stands_p3 33 rfl) (by decide) ?_
    refine mf_putI (r := (RX12, TX12, 106)) (ci := 12) (k := 69) (kI := 69) (t := 0) (mf_dat eX12_stands_p3 34 rfl) fl_X12_396 rfl rfl (by decide) rfl (by decide) rfl (by decide) (fun h9 => absurd h9 (by decide)) ck1 ?_
    generalize qh4 : mf_up h x0 69 0 = h4
    replace hyp := hyp _ qh4.symm
    refine mf_aload_n (mf_dat eX12_stands_p3 35 rfl) rfl rfl ?_
    refine mf_iconst (v := 0) (mf_dat eX12_stands_p3 36 rfl) (by decide) ?_
    refine mf_putI (r := (RX12, TX12, 106)) (ci := 12) (k := 65) (kI := 65) (t := 0) (mf_dat eX12_stands_p3 37 rfl) fl_X12_399 rfl rfl (by decide) rfl (by decide) rfl (by decide) (fun h9 => absurd h9 (by decide)) ck1 ?_
    generalize qh5 : mf_up h4 x0 65 0 = h5
    replace hyp := hyp _ qh5.symm
    exact mf_return (mf_dat eX12_stands_p3 38 rfl) rfl hyp
  · replace hyp := hyp.2 hc
    refine mf_aload_n (mf_dat eX12_stands_p2 47 rfl) rfl rfl ?_
    refine mf_getf (r := (RX12, TX12, 106)) (ci := 12) (k := 56) (t := 2) (v := g x0 56) (mf_dat eX12_stands_p2 48 rfl) fl_X12_136 rfl (by decide) rfl rfl ck1 ?_
    refine mf_bipush (v := 7) (mf_dat eX12_stands_p2 49 rfl) (by decide) ?_
    refine mf_iconst (v := 4) (mf_dat eX12_stands_p2 50 rfl) (by decide) ?_
    refine mf_iload_n (mf_dat eX12_stands_p2 51 rfl) rfl rfl ?_
    refine mf_imul (mf_dat eX12_stands_p2 52 rfl) ?_
    refine mf_iadd (mf_dat eX12_stands_p2 53 rfl) ?_
    refine mf_aload_n (mf_dat eX12_stands_p2 54 rfl) rfl rfl ?_
    refine mf_getf (r := (RX12, TX12, 106)) (ci := 12) (k := 45) (t := 2) (v := g x0 45) (mf_dat eX12_stands_p2 55 rfl) fl_X12_121 rfl (by decide) rfl rfl ck1 ?_
    refine mf_iconst (v := 2) (mf_dat eX12_stands_p2 56 rfl) (by decide) ?_
    refine mf_iload_n (mf_dat eX12_stands_p2 57 rfl) rfl rfl ?_
    refine mf_imul (mf_dat eX12_stands_p2 58 rfl) ?_
    obtain ⟨ck6, hyp⟩ := hyp
    obtain ⟨ck7, hyp⟩ := hyp
    obtain ⟨ck8, hyp⟩ := hyp
    refine mf_iald (mf_dat eX12_stands_p2 59 rfl) ck6 ck7 ck8 ?_
    obtain ⟨ck9, hyp⟩ := hyp
    obtain ⟨ck10, hyp⟩ := hyp
    obtain ⟨ck11, hyp⟩ := hyp
    refine mf_iast (mf_dat eX12_stands_p3 0 rfl) ck9 ck10 ck11 ?_
    generalize qh12 : mf_up h (g x0 56) (mf_w32 (7 + (mf_w32 (4 * x1)))) (h (g x0 45) (mf_w32 (2 * x1))) = h12
    replace hyp := hyp _ qh12.symm
    refine mf_aload_n (mf_dat eX12_stands_p3 1 rfl) rfl rfl ?_
    refine mf_getf (r := (RX12, TX12, 106)) (ci := 12) (k := 56) (t := 2) (v := g x0 56) (mf_dat eX12_stands_p3 2 rfl) fl_X12_136 rfl (by decide) rfl rfl ck1 ?_
    refine mf_bipush (v := 7) (mf_dat eX12_stands_p3 3 rfl) (by decide) ?_
    refine mf_iconst (v := 4) (mf_dat eX12_stands_p3 4 rfl) (by decide) ?_
    refine mf_iload_n (mf_dat eX12_stands_p3 5 rfl) rfl rfl ?_
    refine mf_imul (mf_dat eX12_stands_p3 6 rfl) ?_
    refine mf_iadd (mf_dat eX12_stands_p3 7 rfl) ?_
    refine mf_iconst (v := 1) (mf_dat eX12_stands_p3 8 rfl) (by decide) ?_
    refine mf_iadd (mf_dat eX12_stands_p3 9 rfl) ?_
    refine mf_aload_n (mf_dat eX12_stands_p3 10 rfl) rfl rfl ?_
    refine mf_getf (r := (RX12, TX12, 106)) (ci := 12) (k := 45) (t := 2) (v := g x0 45) (mf_dat eX12_stands_p3 11 rfl) fl_X12_121 rfl (by decide) rfl rfl ck1 ?_
    refine mf_iconst (v := 2) (mf_dat eX12_stands_p3 12 rfl) (by decide) ?_
    refine mf_iload_n (mf_dat eX12_stands_p3 13 rfl) rfl rfl ?_
    refine mf_imul (mf_dat eX12_stands_p3 14 rfl) ?_
    refine mf_iconst (v := 1) (mf_dat eX12_stands_p3 15 rfl) (by decide) ?_
    refine mf_iadd (mf_dat eX12_stands_p3 16 rfl) ?_
    obtain ⟨ck13, hyp⟩ := hyp
    obtain ⟨ck14, hyp⟩ := hyp
    refine mf_iald (mf_dat eX12_stands_p3 17 rfl) ck6 ck13 ck14 ?_
    obtain ⟨ck15, hyp⟩ := hyp
    obtain ⟨ck16, hyp⟩ := hyp
    refine mf_iast (mf_dat eX12_stands_p3 18 rfl) ck9 ck15 ck16 ?_
    generalize qh17 : mf_up h12 (g x0 56) (mf_w32 ((mf_w32 (7 + (mf_w32 (4 * x1)))) + 1)) (h12 (g x0 45) (mf_w32 ((mf_w32 (2 * x1)) + 1))) = h17
    replace hyp := hyp _ qh17.symm
    refine mf_aload_n (mf_dat eX12_stands_p3 19 rfl) rfl rfl ?_
    refine mf_getf (r := (RX12, TX12, 106)) (ci := 12) (k := 56) (t := 2) (v := g x0 56) (mf_dat eX12_stands_p3 20 rfl) fl_X12_136 rfl (by decide) rfl rfl ck1 ?_
    refine mf_bipush (v := 7) (mf_dat eX12_stands_p3 21 rfl) (by decide) ?_
    refine mf_iconst (v := 4) (mf_dat eX12_stands_p3 22 rfl) (by decide) ?_
    refine mf_iload_n (mf_dat eX12_stands_p3 23 rfl) rfl rfl ?_
    refine mf_imul (mf_dat eX12_stands_p3 24 rfl) ?_
    refine mf_iadd (mf_dat eX12_stands_p3 25 rfl) ?_
    refine mf_iconst (v := 2) (mf_dat eX12_stands_p3 26 rfl) (by decide) ?_
    refine mf_iadd (mf_dat eX12_stands_p3 27 rfl) ?_
    refine mf_iconst (v := 5) (mf_dat eX12_stands_p3 28 rfl) (by decide) ?_
    obtain ⟨ck18, hyp⟩ := hyp
    obtain ⟨ck19, hyp⟩ := hyp
    refine mf_iast (mf_dat eX12_stands_p3 29 rfl) ck9 ck18 ck19 ?_
    generalize qh20 : mf_up h17 (g x0 56) (mf_w32 ((mf_w32 (7 + (mf_w32 (4 * x1)))) + 2)) 5 = h20
    replace hyp := hyp _ qh20.symm
    refine mf_iinc (mf_dat eX12_stands_p3 30 rfl) rfl (by decide) (by decide) ?_
    generalize qv21 : mf_w32 (x1 + 1) = v21
    replace hyp := hyp _ qv21.symm
    refine mf_goto (tgt := 265) (mf_dat eX12_stands_p3 31 rfl) (by decide) ?_
    exact mf_sub [1, 0] rfl hyp
set_option maxRecDepth 100000 in
set_option maxHeartbeats 4000000 in
theorem mX12_stands {C : mf_G} {l : Launch} {d n : Nat} {K : mf_Kt} {x0 : Int} {g h : mf_M} (hyp : mf_is n x0 12 ∧ (∀ h2 : mf_M, h2 = mf_up h x0 54 1 → JX12_stands_7 C l d n K x0 0 g h2)) : mf_MT C l d YX12_stands [(2, x0)] n n g h K := by
  refine mf_entry (by decide) (Nat.le_of_ble_eq_true rfl) ?_
  refine mf_aload_n (mf_dat eX12_stands_p0 0 rfl) rfl rfl ?_
  refine mf_iconst (v := 1) (mf_dat eX12_stands_p0 1 rfl) (by decide) ?_
  obtain ⟨ck1, hyp⟩ := hyp
  refine mf_putI (r := (RX12, TX12, 106)) (ci := 12) (k := 54) (kI := 54) (t := 0) (mf_dat eX12_stands_p0 2 rfl) fl_X12_389 rfl rfl (by decide) rfl (by decide) rfl (by decide) (fun _ => by decide) ck1 ?_
  generalize qh2 : mf_up h x0 54 1 = h2
  replace hyp := hyp _ qh2.symm
  refine mf_iconst (v := 0) (mf_dat eX12_stands_p0 3 rfl) (by decide) ?_
  refine mf_istore_n (mf_dat eX12_stands_p0 4 rfl) rfl (by decide) ?_
  exact mf_sub [1, 0] rfl hyp
set_option maxRecDepth 100000 in
set_option maxHeartbeats 4000000 in
theorem mX12_fault {C : mf_G} {l : Launch} {d n : Nat} {K : mf_Kt} {x0 x1 : Int} {g h : mf_M} (hyp : ((¬ x1 = 0 → ((¬ x1 = 1 → K (-1) g h) ∧ (x1 = 1 → mf_is n x0 12 ∧ K (h x0 8) g h))) ∧ (x1 = 0 → mf_is n x0 12 ∧ K (h x0 7) g h))) : mf_MT C l d YX12_fault [(2, x0), (0, x1)] n n g h K := by
  refine mf_entry (by decide) (Nat.le_of_ble_eq_true rfl) ?_
  refine mf_iload_n (mf_dat eX12_fault 0 rfl) rfl rfl ?_
  refine mf_if_ne (tgt := 11) (mf_dat eX12_fault 1 rfl) (by decide) (fun hc => ?_) (fun hc => ?_)
  · replace hyp := hyp.1 hc
    refine mf_iload_n (mf_dat eX12_fault 5 rfl) rfl rfl ?_
    refine mf_iconst (v := 1) (mf_dat eX12_fault 6 rfl) (by decide) ?_
    refine mf_icmp_ne (tgt := 23) (mf_dat eX12_fault 7 rfl) (by decide) (fun hc => ?_) (fun hc => ?_)
    · replace hyp := hyp.1 hc
      refine mf_iconst (v := (-1)) (mf_dat eX12_fault 11 rfl) (by decide) ?_
      exact mf_ireturn (mf_dat eX12_fault 12 rfl) rfl (Or.inl rfl) hyp
    · replace hyp := hyp.2 hc
      refine mf_aload_n (mf_dat eX12_fault 8 rfl) rfl rfl ?_
      obtain ⟨ck1, hyp⟩ := hyp
      refine mf_getf (r := (RX12, TX12, 106)) (ci := 12) (k := 8) (t := 0) (v := h x0 8) (mf_dat eX12_fault 9 rfl) fl_X12_13 rfl (by decide) rfl rfl ck1 ?_
      refine mf_goto (tgt := 24) (mf_dat eX12_fault 10 rfl) (by decide) ?_
      exact mf_ireturn (mf_dat eX12_fault 12 rfl) rfl (Or.inl rfl) hyp
  · replace hyp := hyp.2 hc
    refine mf_aload_n (mf_dat eX12_fault 2 rfl) rfl rfl ?_
    obtain ⟨ck2, hyp⟩ := hyp
    refine mf_getf (r := (RX12, TX12, 106)) (ci := 12) (k := 7) (t := 0) (v := h x0 7) (mf_dat eX12_fault 3 rfl) fl_X12_383 rfl (by decide) rfl rfl ck2 ?_
    refine mf_goto (tgt := 24) (mf_dat eX12_fault 4 rfl) (by decide) ?_
    exact mf_ireturn (mf_dat eX12_fault 12 rfl) rfl (Or.inl rfl) hyp
set_option maxRecDepth 100000 in
set_option maxHeartbeats 4000000 in
theorem mX12_leaves {C : mf_G} {l : Launch} {d n : Nat} {K : mf_Kt} {x0 : Int} {g h : mf_M} (hyp : mf_is n x0 12 ∧ mf_is n (g x0 40) 20 ∧ 2 < mf_len (g x0 40) ∧ K (h (g x0 40) 2) g h) : mf_MT C l d YX12_leaves [(2, x0)] n n g h K := by
  refine mf_entry (by decide) (Nat.le_of_ble_eq_true rfl) ?_
  refine mf_aload_n (mf_dat eX12_leaves 0 rfl) rfl rfl ?_
  obtain ⟨ck1, hyp⟩ := hyp
  refine mf_getf (r := (RX12, TX12, 106)) (ci := 12) (k := 40) (t := 2) (v := g x0 40) (mf_dat eX12_leaves 1 rfl) fl_X12_105 rfl (by decide) rfl rfl ck1 ?_
  refine mf_iconst (v := 2) (mf_dat eX12_leaves 2 rfl) (by decide) ?_
  obtain ⟨ck2, hyp⟩ := hyp
  obtain ⟨ck3, hyp⟩ := hyp
  refine mf_iald (mf_dat eX12_leaves 3 rfl) ck2 (by decide) ck3 ?_
  exact mf_ireturn (mf_dat eX12_leaves 4 rfl) rfl (Or.inl rfl) hyp
set_option maxRecDepth 100000 in
set_option maxHeartbeats 4000000 in
theorem mX12_beingMany {C : mf_G} {l : Launch} {d n : Nat} {K : mf_Kt} {x0 : Int} {g h : mf_M} (hyp : mf_is n x0 12 ∧ mf_is n (g x0 41) 20 ∧ 3 < mf_len (g x0 41) ∧ K (h (g x0 41) 3) g h) : mf_MT C l d YX12_beingMany [(2, x0)] n n g h K := by
  refine mf_entry (by decide) (Nat.le_of_ble_eq_true rfl) ?_
  refine mf_aload_n (mf_dat eX12_beingMany 0 rfl) rfl rfl ?_
  obtain ⟨ck1, hyp⟩ := hyp
  refine mf_getf (r := (RX12, TX12, 106)) (ci := 12) (k := 41) (t := 2) (v := g x0 41) (mf_dat eX12_beingMany 1 rfl) fl_X12_108 rfl (by decide) rfl rfl ck1 ?_
  refine mf_iconst (v := 3) (mf_dat eX12_beingMany 2 rfl) (by decide) ?_
  obtain ⟨ck2, hyp⟩ := hyp
  obtain ⟨ck3, hyp⟩ := hyp
  refine mf_iald (mf_dat eX12_beingMany 3 rfl) ck2 (by decide) ck3 ?_
  exact mf_ireturn (mf_dat eX12_beingMany 4 rfl) rfl (Or.inl rfl) hyp
set_option maxRecDepth 100000 in
set_option maxHeartbeats 4000000 in
theorem mX12_isBeing {C : mf_G} {l : Launch} {d n : Nat} {K : mf_Kt} {x0 x1 : Int} {g h : mf_M} (hd : 1 ≤ d) (hyp : mf_is n x0 12 ∧ mf_MT C l 0 YX12_beingMany [(2, x0)] n n g h (fun r1 g2 h3 => mf_MT C l 0 YX12_isIn [(1, x1), (1, 0), (1, mf_w32 (r1 - 1))] n n g2 h3 (fun r5 g6 h7 => (r5 = 0 ∨ r5 = 1) ∧ K r5 g6 h7))) : mf_MT C l d YX12_isBeing [(2, x0), (0, x1)] n n g h K := by
  refine mf_entry (by decide) (Nat.le_of_ble_eq_true rfl) ?_
  refine mf_iload_n (mf_dat eX12_isBeing 0 rfl) rfl rfl ?_
  refine mf_i2l (mf_dat eX12_isBeing 1 rfl) ?_
  refine mf_lconst (v := 0) (mf_dat eX12_isBeing 2 rfl) (by decide) ?_
  refine mf_aload_n (mf_dat eX12_isBeing 3 rfl) rfl rfl ?_
  obtain ⟨ck4, hyp⟩ := hyp
  refine mf_callV (Yc := YX12_beingMany) (r := (RX12, TX12, 106)) (ci := 12) (mf_dat eX12_isBeing 4 rfl) ml_X12_402 okX12_beingMany im_X12_beingMany sl_X12_beingMany rfl rfl rfl rfl (Nat.le_of_ble_eq_true rfl) (mf_rr (Nat.le_trans (by decide) hd) (Nat.le_refl _)) (Nat.le_refl _) ck4 hyp (fun r1 g2 h3 hyp => ?_)
  refine mf_iconst (v := 1) (mf_dat eX12_isBeing 5 rfl) (by decide) ?_
  refine mf_isub (mf_dat eX12_isBeing 6 rfl) ?_
  refine mf_i2l (mf_dat eX12_isBeing 7 rfl) ?_
  refine mf_callS (Yc := YX12_isIn) (mf_dat eX12_isBeing 8 rfl) ml_X12_286 okX12_isIn sm_X12_isIn rfl rfl (Nat.le_of_ble_eq_true rfl) (mf_rr (Nat.le_trans (by decide) hd) (Nat.le_refl _)) (Nat.le_refl _) hyp (fun r5 g6 h7 hyp => ?_)
  obtain ⟨ck8, hyp⟩ := hyp
  exact mf_ireturn (mf_dat eX12_isBeing 9 rfl) rfl (Or.inr ⟨rfl, ck8⟩) hyp
set_option maxRecDepth 100000 in
set_option maxHeartbeats 4000000 in
theorem mX12_isCell {C : mf_G} {l : Launch} {d n : Nat} {K : mf_Kt} {x0 x1 x2 : Int} {g h : mf_M} (hd : 1 ≤ d) (hyp : mf_is n x0 12 ∧ ((h x0 54 = 0 → K 0 g h) ∧ (¬ h x0 54 = 0 → mf_MT C l 0 YX12_leaves [(2, x0)] n n g h (fun r2 g3 h4 => mf_MT C l 0 YX12_isIn [(1, x1), (1, 0), (1, mf_w32 (r2 - 1))] n n g3 h4 (fun r5 g6 h7 => ((r5 = 0 → K 0 g6 h7) ∧ (¬ r5 = 0 → mf_is n (g6 x0 40) 20 ∧ 3 < mf_len (g6 x0 40) ∧ mf_MT C l 0 YX12_isIn [(1, x2), (1, 0), (1, mf_w32 ((h7 (g6 x0 40) 3) - 1))] n n g6 h7 (fun r10 g11 h12 => ((r10 = 0 → K 0 g11 h12) ∧ (¬ r10 = 0 → K 1 g11 h12)))))))))) : mf_MT C l d YX12_isCell [(2, x0), (0, x1), (0, x2)] n n g h K := by
  refine mf_entry (by decide) (Nat.le_of_ble_eq_true rfl) ?_
  refine mf_aload_n (mf_dat eX12_isCell 0 rfl) rfl rfl ?_
  obtain ⟨ck1, hyp⟩ := hyp
  refine mf_getf (r := (RX12, TX12, 106)) (ci := 12) (k := 54) (t := 0) (v := h x0 54) (mf_dat eX12_isCell 1 rfl) fl_X12_389 rfl (by decide) rfl rfl ck1 ?_
  refine mf_if_eq (tgt := 45) (mf_dat eX12_isCell 2 rfl) (by decide) (fun hc => ?_) (fun hc => ?_)
  · replace hyp := hyp.1 hc
    refine mf_iconst (v := 0) (mf_dat eX12_isCell 27 rfl) (by decide) ?_
    exact mf_ireturn (mf_dat eX12_isCell 28 rfl) rfl (Or.inr ⟨rfl, by decide⟩) hyp
  · replace hyp := hyp.2 hc
    refine mf_iload_n (mf_dat eX12_isCell 3 rfl) rfl rfl ?_
    refine mf_i2l (mf_dat eX12_isCell 4 rfl) ?_
    refine mf_lconst (v := 0) (mf_dat eX12_isCell 5 rfl) (by decide) ?_
    refine mf_aload_n (mf_dat eX12_isCell 6 rfl) rfl rfl ?_
    refine mf_callV (Yc := YX12_leaves) (r := (RX12, TX12, 106)) (ci := 12) (mf_dat eX12_isCell 7 rfl) ml_X12_405 okX12_leaves im_X12_leaves sl_X12_leaves rfl rfl rfl rfl (Nat.le_of_ble_eq_true rfl) (mf_rr (Nat.le_trans (by decide) hd) (Nat.le_refl _)) (Nat.le_refl _) ck1 hyp (fun r2 g3 h4 hyp => ?_)
    refine mf_iconst (v := 1) (mf_dat eX12_isCell 8 rfl) (by decide) ?_
    refine mf_isub (mf_dat eX12_isCell 9 rfl) ?_
    refine mf_i2l (mf_dat eX12_isCell 10 rfl) ?_
    refine mf_callS (Yc := YX12_isIn) (mf_dat eX12_isCell 11 rfl) ml_X12_286 okX12_isIn sm_X12_isIn rfl rfl (Nat.le_of_ble_eq_true rfl) (mf_rr (Nat.le_trans (by decide) hd) (Nat.le_refl _)) (Nat.le_refl _) hyp (fun r5 g6 h7 hyp => ?_)
    refine mf_if_eq (tgt := 45) (mf_dat eX12_isCell 12 rfl) (by decide) (fun hc => ?_) (fun hc => ?_)
    · replace hyp := hyp.1 hc
      refine mf_iconst (v := 0) (mf_dat eX12_isCell 27 rfl) (by decide) ?_
      exact mf_ireturn (mf_dat eX12_isCell 28 rfl) rfl (Or.inr ⟨rfl, by decide⟩) hyp
    · replace hyp := hyp.2 hc
      refine mf_iload_n (mf_dat eX12_isCell 13 rfl) rfl rfl ?_
      refine mf_i2l (mf_dat eX12_isCell 14 rfl) ?_
      refine mf_lconst (v := 0) (mf_dat eX12_isCell 15 rfl) (by decide) ?_
      refine mf_aload_n (mf_dat eX12_isCell 16 rfl) rfl rfl ?_
      refine mf_getf (r := (RX12, TX12, 106)) (ci := 12) (k := 40) (t := 2) (v := g6 x0 40) (mf_dat eX12_isCell 17 rfl) fl_X12_105 rfl (by decide) rfl rfl ck1 ?_
      refine mf_iconst (v := 3) (mf_dat eX12_isCell 18 rfl) (by decide) ?_
      obtain ⟨ck8, hyp⟩ := hyp
      obtain ⟨ck9, hyp⟩ := hyp
      refine mf_iald (mf_dat eX12_isCell 19 rfl) ck8 (by decide) ck9 ?_
      refine mf_iconst (v := 1) (mf_dat eX12_isCell 20 rfl) (by decide) ?_
      refine mf_isub (mf_dat eX12_isCell 21 rfl) ?_
      refine mf_i2l (mf_dat eX12_isCell 22 rfl) ?_
      refine mf_callS (Yc := YX12_isIn) (mf_dat eX12_isCell 23 rfl) ml_X12_286 okX12_isIn sm_X12_isIn rfl rfl (Nat.le_of_ble_eq_true rfl) (mf_rr (Nat.le_trans (by decide) hd) (Nat.le_refl _)) (Nat.le_refl _) hyp (fun r10 g11 h12 hyp => ?_)
      refine mf_if_eq (tgt := 45) (mf_dat eX12_isCell 24 rfl) (by decide) (fun hc => ?_) (fun hc => ?_)
      · replace hyp := hyp.1 hc
        refine mf_iconst (v := 0) (mf_dat eX12_isCell 27 rfl) (by decide) ?_
        exact mf_ireturn (mf_dat eX12_isCell 28 rfl) rfl (Or.inr ⟨rfl, by decide⟩) hyp
      · replace hyp := hyp.2 hc
        refine mf_iconst (v := 1) (mf_dat eX12_isCell 25 rfl) (by decide) ?_
        refine mf_goto (tgt := 46) (mf_dat eX12_isCell 26 rfl) (by decide) ?_
        exact mf_ireturn (mf_dat eX12_isCell 28 rfl) rfl (Or.inr ⟨rfl, by decide⟩) hyp
set_option maxRecDepth 100000 in
set_option maxHeartbeats 4000000 in
theorem mX12_leafOf {C : mf_G} {l : Launch} {d n : Nat} {K : mf_Kt} {x0 x1 : Int} {g h : mf_M} (hyp : mf_is n x0 12 ∧ mf_is n (g x0 56) 20 ∧ 0 ≤ mf_w32 (7 + (mf_w32 (4 * x1))) ∧ mf_w32 (7 + (mf_w32 (4 * x1))) < mf_len (g x0 56) ∧ K (h (g x0 56) (mf_w32 (7 + (mf_w32 (4 * x1))))) g h) : mf_MT C l d YX12_leafOf [(2, x0), (0, x1)] n n g h K := by
  refine mf_entry (by decide) (Nat.le_of_ble_eq_true rfl) ?_
  refine mf_aload_n (mf_dat eX12_leafOf 0 rfl) rfl rfl ?_
  obtain ⟨ck1, hyp⟩ := hyp
  refine mf_getf (r := (RX12, TX12, 106)) (ci := 12) (k := 56) (t := 2) (v := g x0 56) (mf_dat eX12_leafOf 1 rfl) fl_X12_136 rfl (by decide) rfl rfl ck1 ?_
  refine mf_bipush (v := 7) (mf_dat eX12_leafOf 2 rfl) (by decide) ?_
  refine mf_iconst (v := 4) (mf_dat eX12_leafOf 3 rfl) (by decide) ?_
  refine mf_iload_n (mf_dat eX12_leafOf 4 rfl) rfl rfl ?_
  refine mf_imul (mf_dat eX12_leafOf 5 rfl) ?_
  refine mf_iadd (mf_dat eX12_leafOf 6 rfl) ?_
  obtain ⟨ck2, hyp⟩ := hyp
  obtain ⟨ck3, hyp⟩ := hyp
  obtain ⟨ck4, hyp⟩ := hyp
  refine mf_iald (mf_dat eX12_leafOf 7 rfl) ck2 ck3 ck4 ?_
  exact mf_ireturn (mf_dat eX12_leafOf 8 rfl) rfl (Or.inl rfl) hyp
set_option maxRecDepth 100000 in
set_option maxHeartbeats 4000000 in
theorem mX12_cellOf {C : mf_G} {l : Launch} {d n : Nat} {K : mf_Kt} {x0 x1 : Int} {g h : mf_M} (hyp : mf_is n x0 12 ∧ mf_is n (g x0 56) 20 ∧ 0 ≤ mf_w32 ((mf_w32 (7 + (mf_w32 (4 * x1)))) + 1) ∧ mf_w32 ((mf_w32 (7 + (mf_w32 (4 * x1)))) + 1) < mf_len (g x0 56) ∧ K (h (g x0 56) (mf_w32 ((mf_w32 (7 + (mf_w32 (4 * x1)))) + 1))) g h) : mf_MT C l d YX12_cellOf [(2, x0), (0, x1)] n n g h K := by
  refine mf_entry (by decide) (Nat.le_of_ble_eq_true rfl) ?_
  refine mf_aload_n (mf_dat eX12_cellOf 0 rfl) rfl rfl ?_
  obtain ⟨ck1, hyp⟩ := hyp
  refine mf_getf (r := (RX12, TX12, 106)) (ci := 12) (k := 56) (t := 2) (v := g x0 56) (mf_dat eX12_cellOf 1 rfl) fl_X12_136 rfl (by decide) rfl rfl ck1 ?_
  refine mf_bipush (v := 7) (mf_dat eX12_cellOf 2 rfl) (by decide) ?_
  refine mf_iconst (v := 4) (mf_dat eX12_cellOf 3 rfl) (by decide) ?_
  refine mf_iload_n (mf_dat eX12_cellOf 4 rfl) rfl rfl ?_
  refine mf_imul (mf_dat eX12_cellOf 5 rfl) ?_
  refine mf_iadd (mf_dat eX12_cellOf 6 rfl) ?_
  refine mf_iconst (v := 1) (mf_dat eX12_cellOf 7 rfl) (by decide) ?_
  refine mf_iadd (mf_dat eX12_cellOf 8 rfl) ?_
  obtain ⟨ck2, hyp⟩ := hyp
  obtain ⟨ck3, hyp⟩ := hyp
  obtain ⟨ck4, hyp⟩ := hyp
  refine mf_iald (mf_dat eX12_cellOf 9 rfl) ck2 ck3 ck4 ?_
  exact mf_ireturn (mf_dat eX12_cellOf 10 rfl) rfl (Or.inl rfl) hyp
set_option maxRecDepth 100000 in
set_option maxHeartbeats 4000000 in
theorem mX12_purseOf {C : mf_G} {l : Launch} {d n : Nat} {K : mf_Kt} {x0 x1 : Int} {g h : mf_M} (hyp : mf_is n x0 12 ∧ mf_is n (g x0 56) 20 ∧ 0 ≤ mf_w32 ((mf_w32 (7 + (mf_w32 (4 * x1)))) + 2) ∧ mf_w32 ((mf_w32 (7 + (mf_w32 (4 * x1)))) + 2) < mf_len (g x0 56) ∧ K (h (g x0 56) (mf_w32 ((mf_w32 (7 + (mf_w32 (4 * x1)))) + 2))) g h) : mf_MT C l d YX12_purseOf [(2, x0), (0, x1)] n n g h K := by
  refine mf_entry (by decide) (Nat.le_of_ble_eq_true rfl) ?_
  refine mf_aload_n (mf_dat eX12_purseOf 0 rfl) rfl rfl ?_
  obtain ⟨ck1, hyp⟩ := hyp
  refine mf_getf (r := (RX12, TX12, 106)) (ci := 12) (k := 56) (t := 2) (v := g x0 56) (mf_dat eX12_purseOf 1 rfl) fl_X12_136 rfl (by decide) rfl rfl ck1 ?_
  refine mf_bipush (v := 7) (mf_dat eX12_purseOf 2 rfl) (by decide) ?_
  refine mf_iconst (v := 4) (mf_dat eX12_purseOf 3 rfl) (by decide) ?_
  refine mf_iload_n (mf_dat eX12_purseOf 4 rfl) rfl rfl ?_
  refine mf_imul (mf_dat eX12_purseOf 5 rfl) ?_
  refine mf_iadd (mf_dat eX12_purseOf 6 rfl) ?_
  refine mf_iconst (v := 2) (mf_dat eX12_purseOf 7 rfl) (by decide) ?_
  refine mf_iadd (mf_dat eX12_purseOf 8 rfl) ?_
  obtain ⟨ck2, hyp⟩ := hyp
  obtain ⟨ck3, hyp⟩ := hyp
  obtain ⟨ck4, hyp⟩ := hyp
  refine mf_iald (mf_dat eX12_purseOf 9 rfl) ck2 ck3 ck4 ?_
  exact mf_ireturn (mf_dat eX12_purseOf 10 rfl) rfl (Or.inl rfl) hyp
set_option maxRecDepth 100000 in
set_option maxHeartbeats 4000000 in
theorem mX12_purseIs {C : mf_G} {l : Launch} {d n : Nat} {K : mf_Kt} {x0 x1 x2 : Int} {g h : mf_M} (hyp : mf_is n x0 12 ∧ ((0 ≤ x2 → ((x2 ≤ 9999 → mf_is n (g x0 56) 20 ∧ 0 ≤ mf_w32 ((mf_w32 (7 + (mf_w32 (4 * x1)))) + 2) ∧ mf_w32 ((mf_w32 (7 + (mf_w32 (4 * x1)))) + 2) < mf_len (g x0 56) ∧ (∀ h5 : mf_M, h5 = mf_up h (g x0 56) (mf_w32 ((mf_w32 (7 + (mf_w32 (4 * x1)))) + 2)) (mf_w32 x2) → K 0 g h5)) ∧ (¬ x2 ≤ 9999 → mf_is n (g x0 56) 20 ∧ 0 ≤ mf_w32 ((mf_w32 (7 + (mf_w32 (4 * x1)))) + 2) ∧ mf_w32 ((mf_w32 (7 + (mf_w32 (4 * x1)))) + 2) < mf_len (g x0 56) ∧ (∀ h9 : mf_M, h9 = mf_up h (g x0 56) (mf_w32 ((mf_w32 (7 + (mf_w32 (4 * x1)))) + 2)) 9999 → K 0 g h9)))) ∧ (¬ 0 ≤ x2 → mf_is n (g x0 56) 20 ∧ 0 ≤ mf_w32 ((mf_w32 (7 + (mf_w32 (4 * x1)))) + 2) ∧ mf_w32 ((mf_w32 (7 + (mf_w32 (4 * x1)))) + 2) < mf_len (g x0 56) ∧ (∀ h13 : mf_M, h13 = mf_up h (g x0 56) (mf_w32 ((mf_w32 (7 + (mf_w32 (4 * x1)))) + 2)) 0 → K 0 g h13)))) : mf_MT C l d YX12_purseIs [(2, x0), (0, x1), (1, x2)] n n g h K := by
  refine mf_entry (by decide) (Nat.le_of_ble_eq_true rfl) ?_
  refine mf_aload_n (mf_dat eX12_purseIs 0 rfl) rfl rfl ?_
  obtain ⟨ck1, hyp⟩ := hyp
  refine mf_getf (r := (RX12, TX12, 106)) (ci := 12) (k := 56) (t := 2) (v := g x0 56) (mf_dat eX12_purseIs 1 rfl) fl_X12_136 rfl (by decide) rfl rfl ck1 ?_
  refine mf_bipush (v := 7) (mf_dat eX12_purseIs 2 rfl) (by decide) ?_
  refine mf_iconst (v := 4) (mf_dat eX12_purseIs 3 rfl) (by decide) ?_
  refine mf_iload_n (mf_dat eX12_purseIs 4 rfl) rfl rfl ?_
  refine mf_imul (mf_dat eX12_purseIs 5 rfl) ?_
  refine mf_iadd (mf_dat eX12_purseIs 6 rfl) ?_
  refine mf_iconst (v := 2) (mf_dat eX12_purseIs 7 rfl) (by decide) ?_
  refine mf_iadd (mf_dat eX12_purseIs 8 rfl) ?_
  refine mf_lload_n (mf_dat eX12_purseIs 9 rfl) rfl rfl ?_
  refine mf_lconst (v := 0) (mf_dat eX12_purseIs 10 rfl) (by decide) ?_
  refine mf_lcmp_ge (tgt := 22) (mf_dat eX12_purseIs 11 rfl) (mf_dat eX12_purseIs 12 rfl) (by decide) (fun hc => ?_) (fun hc => ?_)
  · replace hyp := hyp.1 hc
    refine mf_lload_n (mf_dat eX12_purseIs 15 rfl) rfl rfl ?_
    refine mf_ldc2 (v := 9999) cl_X12_408 (mf_dat eX12_purseIs 16 rfl) (by decide) ?_
    refine mf_lcmp_le (tgt := 36) (mf_dat eX12_purseIs 17 rfl) (mf_dat eX12_purseIs 18 rfl) (by decide) (fun hc => ?_) (fun hc => ?_)
    · replace hyp := hyp.1 hc
      refine mf_lload_n (mf_dat eX12_purseIs 21 rfl) rfl rfl ?_
      refine mf_l2i (mf_dat eX12_purseIs 22 rfl) ?_
      obtain ⟨ck2, hyp⟩ := hyp
      obtain ⟨ck3, hyp⟩ := hyp
      obtain ⟨ck4, hyp⟩ := hyp
      refine mf_iast (mf_dat eX12_purseIs 23 rfl) ck2 ck3 ck4 ?_
      generalize qh5 : mf_up h (g x0 56) (mf_w32 ((mf_w32 (7 + (mf_w32 (4 * x1)))) + 2)) (mf_w32 x2) = h5
      replace hyp := hyp _ qh5.symm
      exact mf_return (mf_dat eX12_purseIs 24 rfl) rfl hyp
    · replace hyp := hyp.2 hc
      refine mf_sipush (v := 9999) (mf_dat eX12_purseIs 19 rfl) (by decide) ?_
      refine mf_goto (tgt := 38) (mf_dat eX12_purseIs 20 rfl) (by decide) ?_
      obtain ⟨ck6, hyp⟩ := hyp
      obtain ⟨ck7, hyp⟩ := hyp
      obtain ⟨ck8, hyp⟩ := hyp
      refine mf_iast (mf_dat eX12_purseIs 23 rfl) ck6 ck7 ck8 ?_
      generalize qh9 : mf_up h (g x0 56) (mf_w32 ((mf_w32 (7 + (mf_w32 (4 * x1)))) + 2)) 9999 = h9
      replace hyp := hyp _ qh9.symm
      exact mf_return (mf_dat eX12_purseIs 24 rfl) rfl hyp
  · replace hyp := hyp.2 hc
    refine mf_iconst (v := 0) (mf_dat eX12_purseIs 13 rfl) (by decide) ?_
    refine mf_goto (tgt := 38) (mf_dat eX12_purseIs 14 rfl) (by decide) ?_
    obtain ⟨ck10, hyp⟩ := hyp
    obtain ⟨ck11, hyp⟩ := hyp
    obtain ⟨ck12, hyp⟩ := hyp
    refine mf_iast (mf_dat eX12_purseIs 23 rfl) ck10 ck11 ck12 ?_
    generalize qh13 : mf_up h (g x0 56) (mf_w32 ((mf_w32 (7 + (mf_w32 (4 * x1)))) + 2)) 0 = h13
    replace hyp := hyp _ qh13.symm
    exact mf_return (mf_dat eX12_purseIs 24 rfl) rfl hyp
set_option maxRecDepth 100000 in
set_option maxHeartbeats 4000000 in
theorem mX12_hasGloss {C : mf_G} {l : Launch} {d n : Nat} {K : mf_Kt} {x0 x1 x2 : Int} {g h : mf_M} (hyp : mf_is n x0 12 ∧ mf_is n (g x0 56) 20 ∧ 0 ≤ mf_w32 (1 + x1) ∧ mf_w32 (1 + x1) < mf_len (g x0 56) ∧ ((¬ mf_and (mf_shr (h (g x0 56) (mf_w32 (1 + x1))) x2) 1 = 1 → K 0 g h) ∧ (mf_and (mf_shr (h (g x0 56) (mf_w32 (1 + x1))) x2) 1 = 1 → K 1 g h))) : mf_MT C l d YX12_hasGloss [(2, x0), (0, x1), (0, x2)] n n g h K := by
  refine mf_entry (by decide) (Nat.le_of_ble_eq_true rfl) ?_
  refine mf_aload_n (mf_dat eX12_hasGloss 0 rfl) rfl rfl ?_
  obtain ⟨ck1, hyp⟩ := hyp
  refine mf_getf (r := (RX12, TX12, 106)) (ci := 12) (k := 56) (t := 2) (v := g x0 56) (mf_dat eX12_hasGloss 1 rfl) fl_X12_136 rfl (by decide) rfl rfl ck1 ?_
  refine mf_iconst (v := 1) (mf_dat eX12_hasGloss 2 rfl) (by decide) ?_
  refine mf_iload_n (mf_dat eX12_hasGloss 3 rfl) rfl rfl ?_
  refine mf_iadd (mf_dat eX12_hasGloss 4 rfl) ?_
  obtain ⟨ck2, hyp⟩ := hyp
  obtain ⟨ck3, hyp⟩ := hyp
  obtain ⟨ck4, hyp⟩ := hyp
  refine mf_iald (mf_dat eX12_hasGloss 5 rfl) ck2 ck3 ck4 ?_
  refine mf_iload_n (mf_dat eX12_hasGloss 6 rfl) rfl rfl ?_
  refine mf_ishr (mf_dat eX12_hasGloss 7 rfl) ?_
  refine mf_iconst (v := 1) (mf_dat eX12_hasGloss 8 rfl) (by decide) ?_
  refine mf_iand (mf_dat eX12_hasGloss 9 rfl) ?_
  refine mf_iconst (v := 1) (mf_dat eX12_hasGloss 10 rfl) (by decide) ?_
  refine mf_icmp_ne (tgt := 20) (mf_dat eX12_hasGloss 11 rfl) (by decide) (fun hc => ?_) (fun hc => ?_)
  · replace hyp := hyp.1 hc
    refine mf_iconst (v := 0) (mf_dat eX12_hasGloss 14 rfl) (by decide) ?_
    exact mf_ireturn (mf_dat eX12_hasGloss 15 rfl) rfl (Or.inr ⟨rfl, by decide⟩) hyp
  · replace hyp := hyp.2 hc
    refine mf_iconst (v := 1) (mf_dat eX12_hasGloss 12 rfl) (by decide) ?_
    refine mf_goto (tgt := 21) (mf_dat eX12_hasGloss 13 rfl) (by decide) ?_
    exact mf_ireturn (mf_dat eX12_hasGloss 15 rfl) rfl (Or.inr ⟨rfl, by decide⟩) hyp
abbrev JX12_standsOn_2 (C : mf_G) (l : Launch) (d n : Nat) (K : mf_Kt) (x0 x1 x2 x3 : Int) (g h : mf_M) : Prop := mf_AW C l YX12_standsOn (mf_rm d n n) n (mf_Zm C YX12_standsOn n n K) (fun _ _ => True) 2 [(0, (2, x0)), (1, (0, x1)), (2, (0, x2)), (3, (0, x3))] [] n g h
set_option maxRecDepth 100000 in
set_option maxHeartbeats 4000000 in
theorem bX12_standsOn_2 {C : mf_G} {l : Launch} {d n : Nat} {K : mf_Kt} {x0 x1 x2 x3 : Int} {g h : mf_M} (hd : 1 ≤ d) (hyp : mf_is n x0 12 ∧ mf_MT C l 0 YX12_beingMany [(2, x0)] n n g h (fun r1 g2 h3 => ((r1 ≤ x3 → K (-1) g2 h3) ∧ (¬ r1 ≤ x3 → mf_MT C l 0 YX12_leafOf [(2, x0), (0, x3)] n n g2 h3 (fun r5 g6 h7 => ((¬ r5 = x1 → (∀ v8 : Int, v8 = mf_w32 (x3 + 1) → JX12_standsOn_2 C l d n K x0 x1 x2 v8 g6 h7)) ∧ (r5 = x1 → mf_MT C l 0 YX12_cellOf [(2, x0), (0, x3)] n n g6 h7 (fun r9 g10 h11 => ((¬ r9 = x2 → (∀ v12 : Int, v12 = mf_w32 (x3 + 1) → JX12_standsOn_2 C l d n K x0 x1 x2 v12 g10 h11)) ∧ (r9 = x2 → K x3 g10 h11)))))))))) : JX12_standsOn_2 C l d n K x0 x1 x2 x3 g h := by
  refine mf_iload_n (mf_dat eX12_standsOn 2 rfl) rfl rfl ?_
  refine mf_aload_n (mf_dat eX12_standsOn 3 rfl) rfl rfl ?_
  obtain ⟨ck4, hyp⟩ := hyp
  refine mf_callV (Yc := YX12_beingMany) (r := (RX12, TX12, 106)) (ci := 12) (mf_dat eX12_standsOn 4 rfl) ml_X12_402 okX12_beingMany im_X12_beingMany sl_X12_beingMany rfl rfl rfl rfl (Nat.le_of_ble_eq_true rfl) (mf_rr (Nat.le_trans (by decide) hd) (Nat.le_refl _)) (Nat.le_refl _) ck4 hyp (fun r1 g2 h3 hyp => ?_)
  refine mf_icmp_ge (tgt := 36) (mf_dat eX12_standsOn 5 rfl) (by decide) (fun hc => ?_) (fun hc => ?_)
  · replace hyp := hyp.1 hc
    refine mf_iconst (v := (-1)) (mf_dat eX12_standsOn 20 rfl) (by decide) ?_
    exact mf_ireturn (mf_dat eX12_standsOn 21 rfl) rfl (Or.inl rfl) hyp
  · replace hyp := hyp.2 hc
    refine mf_aload_n (mf_dat eX12_standsOn 6 rfl) rfl rfl ?_
    refine mf_iload_n (mf_dat eX12_standsOn 7 rfl) rfl rfl ?_
    refine mf_callV (Yc := YX12_leafOf) (r := (RX12, TX12, 106)) (ci := 12) (mf_dat eX12_standsOn 8 rfl) ml_X12_410 okX12_leafOf im_X12_leafOf sl_X12_leafOf rfl rfl rfl rfl (Nat.le_of_ble_eq_true rfl) (mf_rr (Nat.le_trans (by decide) hd) (Nat.le_refl _)) (Nat.le_refl _) ck4 hyp (fun r5 g6 h7 hyp => ?_)
    refine mf_iload_n (mf_dat eX12_standsOn 9 rfl) rfl rfl ?_
    refine mf_icmp_ne (tgt := 30) (mf_dat eX12_standsOn 10 rfl) (by decide) (fun hc => ?_) (fun hc => ?_)
    · replace hyp := hyp.1 hc
      refine mf_iinc (mf_dat eX12_standsOn 18 rfl) rfl (by decide) (by decide) ?_
      generalize qv8 : mf_w32 (x3 + 1) = v8
      replace hyp := hyp _ qv8.symm
      refine mf_goto (tgt := 2) (mf_dat eX12_standsOn 19 rfl) (by decide) ?_
      exact mf_sub [1, 2, 3, 0] rfl hyp
    · replace hyp := hyp.2 hc
      refine mf_aload_n (mf_dat eX12_standsOn 11 rfl) rfl rfl ?_
      refine mf_iload_n (mf_dat eX12_standsOn 12 rfl) rfl rfl ?_
      refine mf_callV (Yc := YX12_cellOf) (r := (RX12, TX12, 106)) (ci := 12) (mf_dat eX12_standsOn 13 rfl) ml_X12_413 okX12_cellOf im_X12_cellOf sl_X12_cellOf rfl rfl rfl rfl (Nat.le_of_ble_eq_true rfl) (mf_rr (Nat.le_trans (by decide) hd) (Nat.le_refl _)) (Nat.le_refl _) ck4 hyp (fun r9 g10 h11 hyp => ?_)
      refine mf_iload_n (mf_dat eX12_standsOn 14 rfl) rfl rfl ?_
      refine mf_icmp_ne (tgt := 30) (mf_dat eX12_standsOn 15 rfl) (by decide) (fun hc => ?_) (fun hc => ?_)
      · replace hyp := hyp.1 hc
        refine mf_iinc (mf_dat eX12_standsOn 18 rfl) rfl (by decide) (by decide) ?_
        generalize qv12 : mf_w32 (x3 + 1) = v12
        replace hyp := hyp _ qv12.symm
        refine mf_goto (tgt := 2) (mf_dat eX12_standsOn 19 rfl) (by decide) ?_
        exact mf_sub [1, 2, 3, 0] rfl hyp
      · replace hyp := hyp.2 hc
        refine mf_iload_n (mf_dat eX12_standsOn 16 rfl) rfl rfl ?_
        exact mf_ireturn (mf_dat eX12_standsOn 17 rfl) rfl (Or.inl rfl) hyp
set_option maxRecDepth 100000 in
set_option maxHeartbeats 4000000 in
theorem mX12_standsOn {C : mf_G} {l : Launch} {d n : Nat} {K : mf_Kt} {x0 x1 x2 : Int} {g h : mf_M} (hyp : JX12_standsOn_2 C l d n K x0 x1 x2 0 g h) : mf_MT C l d YX12_standsOn [(2, x0), (0, x1), (0, x2)] n n g h K := by
  refine mf_entry (by decide) (Nat.le_of_ble_eq_true rfl) ?_
  refine mf_iconst (v := 0) (mf_dat eX12_standsOn 0 rfl) (by decide) ?_
  refine mf_istore_n (mf_dat eX12_standsOn 1 rfl) rfl (by decide) ?_
  exact mf_sub [1, 2, 3, 0] rfl hyp
set_option maxRecDepth 100000 in
set_option maxHeartbeats 4000000 in
theorem mX12_isOpen {C : mf_G} {l : Launch} {d n : Nat} {K : mf_Kt} {x0 x1 : Int} {g h : mf_M} (hyp : ((x0 = mf_w32 (x1 - 1) → K 1 g h) ∧ (¬ x0 = mf_w32 (x1 - 1) → ((¬ x0 = x1 → K 0 g h) ∧ (x0 = x1 → K 1 g h))))) : mf_MT C l d YX12_isOpen [(0, x0), (0, x1)] n n g h K := by
  refine mf_entry (by decide) (Nat.le_of_ble_eq_true rfl) ?_
  refine mf_iload_n (mf_dat eX12_isOpen 0 rfl) rfl rfl ?_
  refine mf_iload_n (mf_dat eX12_isOpen 1 rfl) rfl rfl ?_
  refine mf_iconst (v := 1) (mf_dat eX12_isOpen 2 rfl) (by decide) ?_
  refine mf_isub (mf_dat eX12_isOpen 3 rfl) ?_
  refine mf_icmp_eq (tgt := 12) (mf_dat eX12_isOpen 4 rfl) (by decide) (fun hc => ?_) (fun hc => ?_)
  · replace hyp := hyp.1 hc
    refine mf_iconst (v := 1) (mf_dat eX12_isOpen 8 rfl) (by decide) ?_
    refine mf_goto (tgt := 17) (mf_dat eX12_isOpen 9 rfl) (by decide) ?_
    exact mf_ireturn (mf_dat eX12_isOpen 11 rfl) rfl (Or.inr ⟨rfl, by decide⟩) hyp
  · replace hyp := hyp.2 hc
    refine mf_iload_n (mf_dat eX12_isOpen 5 rfl) rfl rfl ?_
    refine mf_iload_n (mf_dat eX12_isOpen 6 rfl) rfl rfl ?_
    refine mf_icmp_ne (tgt := 16) (mf_dat eX12_isOpen 7 rfl) (by decide) (fun hc => ?_) (fun hc => ?_)
    · replace hyp := hyp.1 hc
      refine mf_iconst (v := 0) (mf_dat eX12_isOpen 10 rfl) (by decide) ?_
      exact mf_ireturn (mf_dat eX12_isOpen 11 rfl) rfl (Or.inr ⟨rfl, by decide⟩) hyp
    · replace hyp := hyp.2 hc
      refine mf_iconst (v := 1) (mf_dat eX12_isOpen 8 rfl) (by decide) ?_
      refine mf_goto (tgt := 17) (mf_dat eX12_isOpen 9 rfl) (by decide) ?_
      exact mf_ireturn (mf_dat eX12_isOpen 11 rfl) rfl (Or.inr ⟨rfl, by decide⟩) hyp
set_option maxRecDepth 100000 in
set_option maxHeartbeats 4000000 in
theorem mX12_liesOnNext {C : mf_G} {l : Launch} {d n : Nat} {K : mf_Kt} {x0 x1 x2 : Int} {g h : mf_M} (hd : 1 ≤ d) (hyp : ((x1 < 0 → K 0 g h) ∧ (¬ x1 < 0 → mf_is n x0 12 ∧ mf_MT C l 0 YX12_leaves [(2, x0)] n n g h (fun r1 g2 h3 => ((r1 ≤ mf_w32 (x1 + 1) → K 0 g2 h3) ∧ (¬ r1 ≤ mf_w32 (x1 + 1) → mf_MT C l 0 YX12_isOpen [(0, x1), (0, x2)] n n g2 h3 (fun r5 g6 h7 => ((¬ r5 = 0 → K 0 g6 h7) ∧ (r5 = 0 → K 1 g6 h7))))))))) : mf_MT C l d YX12_liesOnNext [(2, x0), (0, x1), (0, x2)] n n g h K := by
  refine mf_entry (by decide) (Nat.le_of_ble_eq_true rfl) ?_
  refine mf_iload_n (mf_dat eX12_liesOnNext 0 rfl) rfl rfl ?_
  refine mf_if_lt (tgt := 26) (mf_dat eX12_liesOnNext 1 rfl) (by decide) (fun hc => ?_) (fun hc => ?_)
  · replace hyp := hyp.1 hc
    refine mf_iconst (v := 0) (mf_dat eX12_liesOnNext 14 rfl) (by decide) ?_
    exact mf_ireturn (mf_dat eX12_liesOnNext 15 rfl) rfl (Or.inr ⟨rfl, by decide⟩) hyp
  · replace hyp := hyp.2 hc
    refine mf_iload_n (mf_dat eX12_liesOnNext 2 rfl) rfl rfl ?_
    refine mf_iconst (v := 1) (mf_dat eX12_liesOnNext 3 rfl) (by decide) ?_
    refine mf_iadd (mf_dat eX12_liesOnNext 4 rfl) ?_
    refine mf_aload_n (mf_dat eX12_liesOnNext 5 rfl) rfl rfl ?_
    obtain ⟨ck4, hyp⟩ := hyp
    refine mf_callV (Yc := YX12_leaves) (r := (RX12, TX12, 106)) (ci := 12) (mf_dat eX12_liesOnNext 6 rfl) ml_X12_405 okX12_leaves im_X12_leaves sl_X12_leaves rfl rfl rfl rfl (Nat.le_of_ble_eq_true rfl) (mf_rr (Nat.le_trans (by decide) hd) (Nat.le_refl _)) (Nat.le_refl _) ck4 hyp (fun r1 g2 h3 hyp => ?_)
    refine mf_icmp_ge (tgt := 26) (mf_dat eX12_liesOnNext 7 rfl) (by decide) (fun hc => ?_) (fun hc => ?_)
    · replace hyp := hyp.1 hc
      refine mf_iconst (v := 0) (mf_dat eX12_liesOnNext 14 rfl) (by decide) ?_
      exact mf_ireturn (mf_dat eX12_liesOnNext 15 rfl) rfl (Or.inr ⟨rfl, by decide⟩) hyp
    · replace hyp := hyp.2 hc
      refine mf_iload_n (mf_dat eX12_liesOnNext 8 rfl) rfl rfl ?_
      refine mf_iload_n (mf_dat eX12_liesOnNext 9 rfl) rfl rfl ?_
      refine mf_callS (Yc := YX12_isOpen) (mf_dat eX12_liesOnNext 10 rfl) ml_X12_416 okX12_isOpen sm_X12_isOpen rfl rfl (Nat.le_of_ble_eq_true rfl) (mf_rr (Nat.le_trans (by decide) hd) (Nat.le_refl _)) (Nat.le_refl _) hyp (fun r5 g6 h7 hyp => ?_)
      refine mf_if_ne (tgt := 26) (mf_dat eX12_liesOnNext 11 rfl) (by decide) (fun hc => ?_) (fun hc => ?_)
      · replace hyp := hyp.1 hc
        refine mf_iconst (v := 0) (mf_dat eX12_liesOnNext 14 rfl) (by decide) ?_
        exact mf_ireturn (mf_dat eX12_liesOnNext 15 rfl) rfl (Or.inr ⟨rfl, by decide⟩) hyp
      · replace hyp := hyp.2 hc
        refine mf_iconst (v := 1) (mf_dat eX12_liesOnNext 12 rfl) (by decide) ?_
        refine mf_goto (tgt := 27) (mf_dat eX12_liesOnNext 13 rfl) (by decide) ?_
        exact mf_ireturn (mf_dat eX12_liesOnNext 15 rfl) rfl (Or.inr ⟨rfl, by decide⟩) hyp
set_option maxRecDepth 100000 in
set_option maxHeartbeats 4000000 in
theorem mX12_doMeet {C : mf_G} {l : Launch} {d n : Nat} {K : mf_Kt} {x0 x1 x2 x3 : Int} {g h : mf_M} (hd : 2 ≤ d) (hyp : mf_is n x0 12 ∧ mf_MT C l 0 YX12_cellOf [(2, x0), (0, x1)] n n g h (fun r1 g2 h3 => mf_MT C l 0 YX12_cellOf [(2, x0), (0, x2)] n n g2 h3 (fun r5 g6 h7 => mf_is n (g6 x0 40) 20 ∧ 3 < mf_len (g6 x0 40) ∧ ((mf_w32 (r1 + r5) = mf_w32 ((h7 (g6 x0 40) 3) - 1) → mf_MT C l 0 YX12_leafOf [(2, x0), (0, x1)] n n g6 h7 (fun r10 g11 h12 => mf_MT C l 0 YX12_leafOf [(2, x0), (0, x2)] n n g11 h12 (fun r13 g14 h15 => ((¬ r13 = mf_w32 (r10 + 1) → ((¬ r10 = mf_w32 (r13 + 1) → K 0 g14 h15) ∧ (r10 = mf_w32 (r13 + 1) → mf_MT C l 1 YX12_liesOnNext [(2, x0), (0, r13), (0, x3)] n n g14 h15 (fun r16 g17 h18 => ((r16 = 0 → K 0 g17 h18) ∧ (¬ r16 = 0 → K 1 g17 h18)))))) ∧ (r13 = mf_w32 (r10 + 1) → mf_MT C l 1 YX12_liesOnNext [(2, x0), (0, r10), (0, x3)] n n g14 h15 (fun r19 g20 h21 => (r19 = 0 ∨ r19 = 1) ∧ K r19 g20 h21)))))) ∧ (¬ mf_w32 (r1 + r5) = mf_w32 ((h7 (g6 x0 40) 3) - 1) → K 0 g6 h7))))) : mf_MT C l d YX12_doMeet [(2, x0), (0, x1), (0, x2), (0, x3)] n n g h K := by
  refine mf_entry (by decide) (Nat.le_of_ble_eq_true rfl) ?_
  refine mf_aload_n (mf_dat eX12_doMeet 0 rfl) rfl rfl ?_
  refine mf_iload_n (mf_dat eX12_doMeet 1 rfl) rfl rfl ?_
  obtain ⟨ck4, hyp⟩ := hyp
  refine mf_callV (Yc := YX12_cellOf) (r := (RX12, TX12, 106)) (ci := 12) (mf_dat eX12_doMeet 2 rfl) ml_X12_413 okX12_cellOf im_X12_cellOf sl_X12_cellOf rfl rfl rfl rfl (Nat.le_of_ble_eq_true rfl) (mf_rr (Nat.le_trans (by decide) hd) (Nat.le_refl _)) (Nat.le_refl _) ck4 hyp (fun r1 g2 h3 hyp => ?_)
  refine mf_aload_n (mf_dat eX12_doMeet 3 rfl) rfl rfl ?_
  refine mf_iload_n (mf_dat eX12_doMeet 4 rfl) rfl rfl ?_
  refine mf_callV (Yc := YX12_cellOf) (r := (RX12, TX12, 106)) (ci := 12) (mf_dat eX12_doMeet 5 rfl) ml_X12_413 okX12_cellOf im_X12_cellOf sl_X12_cellOf rfl rfl rfl rfl (Nat.le_of_ble_eq_true rfl) (mf_rr (Nat.le_trans (by decide) hd) (Nat.le_refl _)) (Nat.le_refl _) ck4 hyp (fun r5 g6 h7 hyp => ?_)
  refine mf_iadd (mf_dat eX12_doMeet 6 rfl) ?_
  refine mf_aload_n (mf_dat eX12_doMeet 7 rfl) rfl rfl ?_
  refine mf_getf (r := (RX12, TX12, 106)) (ci := 12) (k := 40) (t := 2) (v := g6 x0 40) (mf_dat eX12_doMeet 8 rfl) fl_X12_105 rfl (by decide) rfl rfl ck4 ?_
  refine mf_iconst (v := 3) (mf_dat eX12_doMeet 9 rfl) (by decide) ?_
  obtain ⟨ck8, hyp⟩ := hyp
  obtain ⟨ck9, hyp⟩ := hyp
  refine mf_iald (mf_dat eX12_doMeet 10 rfl) ck8 (by decide) ck9 ?_
  refine mf_iconst (v := 1) (mf_dat eX12_doMeet 11 rfl) (by decide) ?_
  refine mf_isub (mf_dat eX12_doMeet 12 rfl) ?_
  refine mf_icmp_eq (tgt := 24) (mf_dat eX12_doMeet 13 rfl) (by decide) (fun hc => ?_) (fun hc => ?_)
  · replace hyp := hyp.1 hc
    refine mf_aload_n (mf_dat eX12_doMeet 16 rfl) rfl rfl ?_
    refine mf_iload_n (mf_dat eX12_doMeet 17 rfl) rfl rfl ?_
    refine mf_callV (Yc := YX12_leafOf) (r := (RX12, TX12, 106)) (ci := 12) (mf_dat eX12_doMeet 18 rfl) ml_X12_410 okX12_leafOf im_X12_leafOf sl_X12_leafOf rfl rfl rfl rfl (Nat.le_of_ble_eq_true rfl) (mf_rr (Nat.le_trans (by decide) hd) (Nat.le_refl _)) (Nat.le_refl _) ck4 hyp (fun r10 g11 h12 hyp => ?_)
    refine mf_istore (mf_dat eX12_doMeet 19 rfl) (by decide) ?_
    refine mf_aload_n (mf_dat eX12_doMeet 20 rfl) rfl rfl ?_
    refine mf_iload_n (mf_dat eX12_doMeet 21 rfl) rfl rfl ?_
    refine mf_callV (Yc := YX12_leafOf) (r := (RX12, TX12, 106)) (ci := 12) (mf_dat eX12_doMeet 22 rfl) ml_X12_410 okX12_leafOf im_X12_leafOf sl_X12_leafOf rfl rfl rfl rfl (Nat.le_of_ble_eq_true rfl) (mf_rr (Nat.le_trans (by decide) hd) (Nat.le_refl _)) (Nat.le_refl _) ck4 hyp (fun r13 g14 h15 hyp => ?_)
    refine mf_istore (mf_dat eX12_doMeet 23 rfl) (by decide) ?_
    refine mf_iload (mf_dat eX12_doMeet 24 rfl) rfl ?_
    refine mf_iload (mf_dat eX12_doMeet 25 rfl) rfl ?_
    refine mf_iconst (v := 1) (mf_dat eX12_doMeet 26 rfl) (by decide) ?_
    refine mf_iadd (mf_dat eX12_doMeet 27 rfl) ?_
    refine mf_icmp_ne (tgt := 57) (mf_dat eX12_doMeet 28 rfl) (by decide) (fun hc => ?_) (fun hc => ?_)
    · replace hyp := hyp.1 hc
      refine mf_iload (mf_dat eX12_doMeet 34 rfl) rfl ?_
      refine mf_iload (mf_dat eX12_doMeet 35 rfl) rfl ?_
      refine mf_iconst (v := 1) (mf_dat eX12_doMeet 36 rfl) (by decide) ?_
      refine mf_iadd (mf_dat eX12_doMeet 37 rfl) ?_
      refine mf_icmp_ne (tgt := 80) (mf_dat eX12_doMeet 38 rfl) (by decide) (fun hc => ?_) (fun hc => ?_)
      · replace hyp := hyp.1 hc
        refine mf_iconst (v := 0) (mf_dat eX12_doMeet 46 rfl) (by decide) ?_
        exact mf_ireturn (mf_dat eX12_doMeet 47 rfl) rfl (Or.inr ⟨rfl, by decide⟩) hyp
      · replace hyp := hyp.2 hc
        refine mf_aload_n (mf_dat eX12_doMeet 39 rfl) rfl rfl ?_
        refine mf_iload (mf_dat eX12_doMeet 40 rfl) rfl ?_
        refine mf_iload_n (mf_dat eX12_doMeet 41 rfl) rfl rfl ?_
        refine mf_callV (Yc := YX12_liesOnNext) (r := (RX12, TX12, 106)) (ci := 12) (mf_dat eX12_doMeet 42 rfl) ml_X12_419 okX12_liesOnNext im_X12_liesOnNext sl_X12_liesOnNext rfl rfl rfl rfl (Nat.le_of_ble_eq_true rfl) (mf_rr (Nat.le_trans (by decide) hd) (Nat.le_refl _)) (Nat.le_refl _) ck4 hyp (fun r16 g17 h18 hyp => ?_)
        refine mf_if_eq (tgt := 80) (mf_dat eX12_doMeet 43 rfl) (by decide) (fun hc => ?_) (fun hc => ?_)
        · replace hyp := hyp.1 hc
          refine mf_iconst (v := 0) (mf_dat eX12_doMeet 46 rfl) (by decide) ?_
          exact mf_ireturn (mf_dat eX12_doMeet 47 rfl) rfl (Or.inr ⟨rfl, by decide⟩) hyp
        · replace hyp := hyp.2 hc
          refine mf_iconst (v := 1) (mf_dat eX12_doMeet 44 rfl) (by decide) ?_
          refine mf_goto (tgt := 81) (mf_dat eX12_doMeet 45 rfl) (by decide) ?_
          exact mf_ireturn (mf_dat eX12_doMeet 47 rfl) rfl (Or.inr ⟨rfl, by decide⟩) hyp
    · replace hyp := hyp.2 hc
      refine mf_aload_n (mf_dat eX12_doMeet 29 rfl) rfl rfl ?_
      refine mf_iload (mf_dat eX12_doMeet 30 rfl) rfl ?_
      refine mf_iload_n (mf_dat eX12_doMeet 31 rfl) rfl rfl ?_
      refine mf_callV (Yc := YX12_liesOnNext) (r := (RX12, TX12, 106)) (ci := 12) (mf_dat eX12_doMeet 32 rfl) ml_X12_419 okX12_liesOnNext im_X12_liesOnNext sl_X12_liesOnNext rfl rfl rfl rfl (Nat.le_of_ble_eq_true rfl) (mf_rr (Nat.le_trans (by decide) hd) (Nat.le_refl _)) (Nat.le_refl _) ck4 hyp (fun r19 g20 h21 hyp => ?_)
      refine mf_goto (tgt := 81) (mf_dat eX12_doMeet 33 rfl) (by decide) ?_
      obtain ⟨ck22, hyp⟩ := hyp
      exact mf_ireturn (mf_dat eX12_doMeet 47 rfl) rfl (Or.inr ⟨rfl, ck22⟩) hyp
  · replace hyp := hyp.2 hc
    refine mf_iconst (v := 0) (mf_dat eX12_doMeet 14 rfl) (by decide) ?_
    exact mf_ireturn (mf_dat eX12_doMeet 15 rfl) rfl (Or.inr ⟨rfl, by decide⟩) hyp
abbrev JX12_codesTell_22 (C : mf_G) (l : Launch) (d n : Nat) (K : mf_Kt) (x0 x1 x2 x3 : Int) (g h : mf_M) : Prop := mf_AW C l YX12_codesTell (mf_rm d n n) n (mf_Zm C YX12_codesTell n n K) (fun _ _ => True) 22 [(0, (2, x0)), (1, (0, x1)), (2, (0, x2)), (3, (0, x3))] [] n g h
set_option maxRecDepth 100000 in
set_option maxHeartbeats 4000000 in
theorem bX12_codesTell_22 {C : mf_G} {l : Launch} {d n : Nat} {K : mf_Kt} {x0 x1 x2 x3 : Int} {g h : mf_M} (hd : 2 ≤ d) (hyp : mf_is n x0 12 ∧ mf_is n (g x0 50) 20 ∧ 0 ≤ mf_w32 (4 + x1) ∧ mf_w32 (4 + x1) < mf_len (g x0 50) ∧ ((h (g x0 50) (mf_w32 (4 + x1)) ≤ x3 → mf_is n (g x0 100) 24 ∧ 0 < mf_len (g x0 100) ∧ K (h (g x0 100) 0) g h) ∧ (¬ h (g x0 50) (mf_w32 (4 + x1)) ≤ x3 → mf_is n (g x0 51) 20 ∧ 0 ≤ mf_w32 (1600 + x3) ∧ mf_w32 (1600 + x3) < mf_len (g x0 51) ∧ (∀ v10 : Int, v10 = h (g x0 51) (mf_w32 (1600 + x3)) → ((v10 < 1000 → ((v10 < 40 → ((¬ v10 = 13 → ((¬ v10 = 12 → mf_MT C l 1 YX12_qJoins [(2, x0), (0, v10)] n n g h (fun r11 g12 h13 => (∀ v14 : Int, v14 = mf_w32 (x3 + 1) → JX12_codesTell_22 C l d n K x0 x1 x2 v14 g12 h13))) ∧ (v10 = 12 → mf_is n (g x0 100) 24 ∧ 0 ≤ mf_w32 ((h x0 101) - 1) ∧ mf_w32 ((h x0 101) - 1) < mf_len (g x0 100) ∧ (∀ h18 : mf_M, h18 = mf_up h (g x0 100) (mf_w32 ((h x0 101) - 1)) (mf_w64 (1 - (h (g x0 100) (mf_w32 ((h x0 101) - 1))))) → (∀ v19 : Int, v19 = mf_w32 (x3 + 1) → JX12_codesTell_22 C l d n K x0 x1 x2 v19 g h18))))) ∧ (v10 = 13 → mf_MT C l 0 YX12_qPuts [(2, x0), (1, 1)] n n g h (fun r20 g21 h22 => (∀ v23 : Int, v23 = mf_w32 (x3 + 1) → JX12_codesTell_22 C l d n K x0 x1 x2 v23 g21 h22))))) ∧ (¬ v10 < 40 → mf_MT C l 1 YX12_qPartOf [(2, x0), (0, mf_w32 (v10 - 40)), (0, x2)] n n g h (fun r24 g25 h26 => mf_MT C l 0 YX12_qPuts [(2, x0), (1, r24)] n n g25 h26 (fun r27 g28 h29 => (∀ v30 : Int, v30 = mf_w32 (x3 + 1) → JX12_codesTell_22 C l d n K x0 x1 x2 v30 g28 h29)))))) ∧ (¬ v10 < 1000 → mf_MT C l 0 YX12_qPuts [(2, x0), (1, mf_w32 (v10 - 1000))] n n g h (fun r31 g32 h33 => (∀ v34 : Int, v34 = mf_w32 (x3 + 1) → JX12_codesTell_22 C l d n K x0 x1 x2 v34 g32 h33)))))))) : JX12_codesTell_22 C l d n K x0 x1 x2 x3 g h := by
  refine mf_iload_n (mf_dat eX12_codesTell_p0 14 rfl) rfl rfl ?_
  refine mf_aload_n (mf_dat eX12_codesTell_p0 15 rfl) rfl rfl ?_
  obtain ⟨ck1, hyp⟩ := hyp
  refine mf_getf (r := (RX12, TX12, 106)) (ci := 12) (k := 50) (t := 2) (v := g x0 50) (mf_dat eX12_codesTell_p0 16 rfl) fl_X12_130 rfl (by decide) rfl rfl ck1 ?_
  refine mf_iconst (v := 4) (mf_dat eX12_codesTell_p0 17 rfl) (by decide) ?_
  refine mf_iload_n (mf_dat eX12_codesTell_p0 18 rfl) rfl rfl ?_
  refine mf_iadd (mf_dat eX12_codesTell_p0 19 rfl) ?_
  obtain ⟨ck2, hyp⟩ := hyp
  obtain ⟨ck3, hyp⟩ := hyp
  obtain ⟨ck4, hyp⟩ := hyp
  refine mf_iald (mf_dat eX12_codesTell_p0 20 rfl) ck2 ck3 ck4 ?_
  refine mf_icmp_ge (tgt := 153) (mf_dat eX12_codesTell_p0 21 rfl) (by decide) (fun hc => ?_) (fun hc => ?_)
  · replace hyp := hyp.1 hc
    refine mf_aload_n (mf_dat eX12_codesTell_p1 23 rfl) rfl rfl ?_
    refine mf_getf (r := (RX12, TX12, 106)) (ci := 12) (k := 100) (t := 2) (v := g x0 100) (mf_dat eX12_codesTell_p1 24 rfl) fl_X12_234 rfl (by decide) rfl rfl ck1 ?_
    refine mf_iconst (v := 0) (mf_dat eX12_codesTell_p1 25 rfl) (by decide) ?_
    obtain ⟨ck5, hyp⟩ := hyp
    obtain ⟨ck6, hyp⟩ := hyp
    refine mf_lald (mf_dat eX12_codesTell_p1 26 rfl) ck5 (by decide) ck6 ?_
    exact mf_lreturn (mf_dat eX12_codesTell_p1 27 rfl) rfl hyp
  · replace hyp := hyp.2 hc
    refine mf_aload_n (mf_dat eX12_codesTell_p0 22 rfl) rfl rfl ?_
    refine mf_getf (r := (RX12, TX12, 106)) (ci := 12) (k := 51) (t := 2) (v := g x0 51) (mf_dat eX12_codesTell_p0 23 rfl) fl_X12_133 rfl (by decide) rfl rfl ck1 ?_
    refine mf_sipush (v := 1600) (mf_dat eX12_codesTell_p0 24 rfl) (by decide) ?_
    refine mf_iload_n (mf_dat eX12_codesTell_p0 25 rfl) rfl rfl ?_
    refine mf_iadd (mf_dat eX12_codesTell_p0 26 rfl) ?_
    obtain ⟨ck7, hyp⟩ := hyp
    obtain ⟨ck8, hyp⟩ := hyp
    obtain ⟨ck9, hyp⟩ := hyp
    refine mf_iald (mf_dat eX12_codesTell_p0 27 rfl) ck7 ck8 ck9 ?_
    generalize qv10 : h (g x0 51) (mf_w32 (1600 + x3)) = v10
    replace hyp := hyp _ qv10.symm
    refine mf_istore (mf_dat eX12_codesTell_p0 28 rfl) (by decide) ?_
    refine mf_iload (mf_dat eX12_codesTell_p0 29 rfl) rfl ?_
    refine mf_sipush (v := 1000) (mf_dat eX12_codesTell_p0 30 rfl) (by decide) ?_
    refine mf_icmp_lt (tgt := 68) (mf_dat eX12_codesTell_p0 31 rfl) (by decide) (fun hc => ?_) (fun hc => ?_)
    · replace hyp := hyp.1 hc
      refine mf_iload (mf_dat eX12_codesTell_p0 39 rfl) rfl ?_
      refine mf_bipush (v := 40) (mf_dat eX12_codesTell_p0 40 rfl) (by decide) ?_
      refine mf_icmp_lt (tgt := 92) (mf_dat eX12_codesTell_p0 41 rfl) (by decide) (fun hc => ?_) (fun hc => ?_)
      · replace hyp := hyp.1 hc
        refine mf_iload (mf_dat eX12_codesTell_p0 51 rfl) rfl ?_
        refine mf_bipush (v := 13) (mf_dat eX12_codesTell_p0 52 rfl) (by decide) ?_
        refine mf_icmp_ne (tgt := 107) (mf_dat eX12_codesTell_p0 53 rfl) (by decide) (fun hc => ?_) (fun hc => ?_)
        · replace hyp := hyp.1 hc
          refine mf_iload (mf_dat eX12_codesTell_p0 58 rfl) rfl ?_
          refine mf_bipush (v := 12) (mf_dat eX12_codesTell_p0 59 rfl) (by decide) ?_
          refine mf_icmp_ne (tgt := 141) (mf_dat eX12_codesTell_p1 0 rfl) (by decide) (fun hc => ?_) (fun hc => ?_)
          · replace hyp := hyp.1 hc
            refine mf_aload_n (mf_dat eX12_codesTell_p1 18 rfl) rfl rfl ?_
            refine mf_iload (mf_dat eX12_codesTell_p1 19 rfl) rfl ?_
            refine mf_callV (Yc := YX12_qJoins) (r := (RX12, TX12, 106)) (ci := 12) (mf_dat eX12_codesTell_p1 20 rfl) ml_X12_433 okX12_qJoins im_X12_qJoins sl_X12_qJoins rfl rfl rfl rfl (Nat.le_of_ble_eq_true rfl) (mf_rr (Nat.le_trans (by decide) hd) (Nat.le_refl _)) (Nat.le_refl _) ck1 hyp (fun r11 g12 h13 hyp => ?_)
            refine mf_iinc (mf_dat eX12_codesTell_p1 21 rfl) rfl (by decide) (by decide) ?_
            generalize qv14 : mf_w32 (x3 + 1) = v14
            replace hyp := hyp _ qv14.symm
            refine mf_goto (tgt := 22) (mf_dat eX12_codesTell_p1 22 rfl) (by decide) ?_
            exact mf_sub [2, 3, 4, 0] rfl hyp
          · replace hyp := hyp.2 hc
            refine mf_aload_n (mf_dat eX12_codesTell_p1 1 rfl) rfl rfl ?_
            refine mf_getf (r := (RX12, TX12, 106)) (ci := 12) (k := 100) (t := 2) (v := g x0 100) (mf_dat eX12_codesTell_p1 2 rfl) fl_X12_234 rfl (by decide) rfl rfl ck1 ?_
            refine mf_aload_n (mf_dat eX12_codesTell_p1 3 rfl) rfl rfl ?_
            refine mf_getf (r := (RX12, TX12, 106)) (ci := 12) (k := 101) (t := 0) (v := h x0 101) (mf_dat eX12_codesTell_p1 4 rfl) fl_X12_422 rfl (by decide) rfl rfl ck1 ?_
            refine mf_iconst (v := 1) (mf_dat eX12_codesTell_p1 5 rfl) (by decide) ?_
            refine mf_isub (mf_dat eX12_codesTell_p1 6 rfl) ?_
            refine mf_lconst (v := 1) (mf_dat eX12_codesTell_p1 7 rfl) (by decide) ?_
            refine mf_aload_n (mf_dat eX12_codesTell_p1 8 rfl) rfl rfl ?_
            refine mf_getf (r := (RX12, TX12, 106)) (ci := 12) (k := 100) (t := 2) (v := g x0 100) (mf_dat eX12_codesTell_p1 9 rfl) fl_X12_234 rfl (by decide) rfl rfl ck1 ?_
            refine mf_aload_n (mf_dat eX12_codesTell_p1 10 rfl) rfl rfl ?_
            refine mf_getf (r := (RX12, TX12, 106)) (ci := 12) (k := 101) (t := 0) (v := h x0 101) (mf_dat eX12_codesTell_p1 11 rfl) fl_X12_422 rfl (by decide) rfl rfl ck1 ?_
            refine mf_iconst (v := 1) (mf_dat eX12_codesTell_p1 12 rfl) (by decide) ?_
            refine mf_isub (mf_dat eX12_codesTell_p1 13 rfl) ?_
            obtain ⟨ck15, hyp⟩ := hyp
            obtain ⟨ck16, hyp⟩ := hyp
            obtain ⟨ck17, hyp⟩ := hyp
            refine mf_lald (mf_dat eX12_codesTell_p1 14 rfl) ck15 ck16 ck17 ?_
            refine mf_lsub (mf_dat eX12_codesTell_p1 15 rfl) ?_
            refine mf_last (mf_dat eX12_codesTell_p1 16 rfl) ck15 ck16 ck17 ?_
            generalize qh18 : mf_up h (g x0 100) (mf_w32 ((h x0 101) - 1)) (mf_w64 (1 - (h (g x0 100) (mf_w32 ((h x0 101) - 1))))) = h18
            replace hyp := hyp _ qh18.symm
            refine mf_goto (tgt := 147) (mf_dat eX12_codesTell_p1 17 rfl) (by decide) ?_
            refine mf_iinc (mf_dat eX12_codesTell_p1 21 rfl) rfl (by decide) (by decide) ?_
            generalize qv19 : mf_w32 (x3 + 1) = v19
            replace hyp := hyp _ qv19.symm
            refine mf_goto (tgt := 22) (mf_dat eX12_codesTell_p1 22 rfl) (by decide) ?_
            exact mf_sub [2, 3, 4, 0] rfl hyp
        · replace hyp := hyp.2 hc
          refine mf_aload_n (mf_dat eX12_codesTell_p0 54 rfl) rfl rfl ?_
          refine mf_lconst (v := 1) (mf_dat eX12_codesTell_p0 55 rfl) (by decide) ?_
          refine mf_callV (Yc := YX12_qPuts) (r := (RX12, TX12, 106)) (ci := 12) (mf_dat eX12_codesTell_p0 56 rfl) ml_X12_425 okX12_qPuts im_X12_qPuts sl_X12_qPuts rfl rfl rfl rfl (Nat.le_of_ble_eq_true rfl) (mf_rr (Nat.le_trans (by decide) hd) (Nat.le_refl _)) (Nat.le_refl _) ck1 hyp (fun r20 g21 h22 hyp => ?_)
          refine mf_goto (tgt := 147) (mf_dat eX12_codesTell_p0 57 rfl) (by decide) ?_
          refine mf_iinc (mf_dat eX12_codesTell_p1 21 rfl) rfl (by decide) (by decide) ?_
          generalize qv23 : mf_w32 (x3 + 1) = v23
          replace hyp := hyp _ qv23.symm
          refine mf_goto (tgt := 22) (mf_dat eX12_codesTell_p1 22 rfl) (by decide) ?_
          exact mf_sub [2, 3, 4, 0] rfl hyp
      · replace hyp := hyp.2 hc
        refine mf_aload_n (mf_dat eX12_codesTell_p0 42 rfl) rfl rfl ?_
        refine mf_aload_n (mf_dat eX12_codesTell_p0 43 rfl) rfl rfl ?_
        refine mf_iload (mf_dat eX12_codesTell_p0 44 rfl) rfl ?_
        refine mf_bipush (v := 40) (mf_dat eX12_codesTell_p0 45 rfl) (by decide) ?_
        refine mf_isub (mf_dat eX12_codesTell_p0 46 rfl) ?_
        refine mf_iload_n (mf_dat eX12_codesTell_p0 47 rfl) rfl rfl ?_
        refine mf_callV (Yc := YX12_qPartOf) (r := (RX12, TX12, 106)) (ci := 12) (mf_dat eX12_codesTell_p0 48 rfl) ml_X12_429 okX12_qPartOf im_X12_qPartOf sl_X12_qPartOf rfl rfl rfl rfl (Nat.le_of_ble_eq_true rfl) (mf_rr (Nat.le_trans (by decide) hd) (Nat.le_refl _)) (Nat.le_refl _) ck1 hyp (fun r24 g25 h26 hyp => ?_)
        refine mf_callV (Yc := YX12_qPuts) (r := (RX12, TX12, 106)) (ci := 12) (mf_dat eX12_codesTell_p0 49 rfl) ml_X12_425 okX12_qPuts im_X12_qPuts sl_X12_qPuts rfl rfl rfl rfl (Nat.le_of_ble_eq_true rfl) (mf_rr (Nat.le_trans (by decide) hd) (Nat.le_refl _)) (Nat.le_refl _) ck1 hyp (fun r27 g28 h29 hyp => ?_)
        refine mf_goto (tgt := 147) (mf_dat eX12_codesTell_p0 50 rfl) (by decide) ?_
        refine mf_iinc (mf_dat eX12_codesTell_p1 21 rfl) rfl (by decide) (by decide) ?_
        generalize qv30 : mf_w32 (x3 + 1) = v30
        replace hyp := hyp _ qv30.symm
        refine mf_goto (tgt := 22) (mf_dat eX12_codesTell_p1 22 rfl) (by decide) ?_
        exact mf_sub [2, 3, 4, 0] rfl hyp
    · replace hyp := hyp.2 hc
      refine mf_aload_n (mf_dat eX12_codesTell_p0 32 rfl) rfl rfl ?_
      refine mf_iload (mf_dat eX12_codesTell_p0 33 rfl) rfl ?_
      refine mf_sipush (v := 1000) (mf_dat eX12_codesTell_p0 34 rfl) (by decide) ?_
      refine mf_isub (mf_dat eX12_codesTell_p0 35 rfl) ?_
      refine mf_i2l (mf_dat eX12_codesTell_p0 36 rfl) ?_
      refine mf_callV (Yc := YX12_qPuts) (r := (RX12, TX12, 106)) (ci := 12) (mf_dat eX12_codesTell_p0 37 rfl) ml_X12_425 okX12_qPuts im_X12_qPuts sl_X12_qPuts rfl rfl rfl rfl (Nat.le_of_ble_eq_true rfl) (mf_rr (Nat.le_trans (by decide) hd) (Nat.le_refl _)) (Nat.le_refl _) ck1 hyp (fun r31 g32 h33 hyp => ?_)
      refine mf_goto (tgt := 147) (mf_dat eX12_codesTell_p0 38 rfl) (by decide) ?_
      refine mf_iinc (mf_dat eX12_codesTell_p1 21 rfl) rfl (by decide) (by decide) ?_
      generalize qv34 : mf_w32 (x3 + 1) = v34
      replace hyp := hyp _ qv34.symm
      refine mf_goto (tgt := 22) (mf_dat eX12_codesTell_p1 22 rfl) (by decide) ?_
      exact mf_sub [2, 3, 4, 0] rfl hyp
set_option maxRecDepth 100000 in
set_option maxHeartbeats 4000000 in
theorem mX12_codesTell {C : mf_G} {l : Launch} {d n : Nat} {K : mf_Kt} {x0 x1 x2 : Int} {g h : mf_M} (hd : 1 ≤ d) (hyp : mf_MT C l 0 YX12_kindBy [(0, x1)] n n g h (fun r1 g2 h3 => mf_is n x0 12 ∧ (∀ h5 : mf_M, h5 = mf_up h3 x0 55 r1 → (∀ h6 : mf_M, h6 = mf_up h5 x0 101 0 → mf_is n (g2 x0 49) 20 ∧ 0 ≤ mf_w32 (4 + x1) ∧ mf_w32 (4 + x1) < mf_len (g2 x0 49) ∧ (∀ v10 : Int, v10 = h6 (g2 x0 49) (mf_w32 (4 + x1)) → JX12_codesTell_22 C l d n K x0 x1 x2 v10 g2 h6))))) : mf_MT C l d YX12_codesTell [(2, x0), (0, x1), (0, x2)] n n g h K := by
  refine mf_entry (by decide) (Nat.le_of_ble_eq_true rfl) ?_
  refine mf_aload_n (mf_dat eX12_codesTell_p0 0 rfl) rfl rfl ?_
  refine mf_iload_n (mf_dat eX12_codesTell_p0 1 rfl) rfl rfl ?_
  refine mf_callS (Yc := YX12_kindBy) (mf_dat eX12_codesTell_p0 2 rfl) ml_X12_335 okX12_kindBy sm_X12_kindBy rfl rfl (Nat.le_of_ble_eq_true rfl) (mf_rr (Nat.le_trans (by decide) hd) (Nat.le_refl _)) (Nat.le_refl _) hyp (fun r1 g2 h3 hyp => ?_)
  obtain ⟨ck4, hyp⟩ := hyp
  refine mf_putI (r := (RX12, TX12, 106)) (ci := 12) (k := 55) (kI := 55) (t := 0) (mf_dat eX12_codesTell_p0 3 rfl) fl_X12_301 rfl rfl (by decide) rfl (by decide) rfl (by decide) (fun h9 => absurd h9 (by decide)) ck4 ?_
  generalize qh5 : mf_up h3 x0 55 r1 = h5
  replace hyp := hyp _ qh5.symm
  refine mf_aload_n (mf_dat eX12_codesTell_p0 4 rfl) rfl rfl ?_
  refine mf_iconst (v := 0) (mf_dat eX12_codesTell_p0 5 rfl) (by decide) ?_
  refine mf_putI (r := (RX12, TX12, 106)) (ci := 12) (k := 101) (kI := 101) (t := 0) (mf_dat eX12_codesTell_p0 6 rfl) fl_X12_422 rfl rfl (by decide) rfl (by decide) rfl (by decide) (fun h9 => absurd h9 (by decide)) ck4 ?_
  generalize qh6 : mf_up h5 x0 101 0 = h6
  replace hyp := hyp _ qh6.symm
  refine mf_aload_n (mf_dat eX12_codesTell_p0 7 rfl) rfl rfl ?_
  refine mf_getf (r := (RX12, TX12, 106)) (ci := 12) (k := 49) (t := 2) (v := g2 x0 49) (mf_dat eX12_codesTell_p0 8 rfl) fl_X12_127 rfl (by decide) rfl rfl ck4 ?_
  refine mf_iconst (v := 4) (mf_dat eX12_codesTell_p0 9 rfl) (by decide) ?_
  refine mf_iload_n (mf_dat eX12_codesTell_p0 10 rfl) rfl rfl ?_
  refine mf_iadd (mf_dat eX12_codesTell_p0 11 rfl) ?_
  obtain ⟨ck7, hyp⟩ := hyp
  obtain ⟨ck8, hyp⟩ := hyp
  obtain ⟨ck9, hyp⟩ := hyp
  refine mf_iald (mf_dat eX12_codesTell_p0 12 rfl) ck7 ck8 ck9 ?_
  generalize qv10 : h6 (g2 x0 49) (mf_w32 (4 + x1)) = v10
  replace hyp := hyp _ qv10.symm
  refine mf_istore_n (mf_dat eX12_codesTell_p0 13 rfl) rfl (by decide) ?_
  exact mf_sub [1, 2, 3, 0] rfl hyp
set_option maxRecDepth 100000 in
set_option maxHeartbeats 4000000 in
theorem mX12_openingOn {C : mf_G} {l : Launch} {d n : Nat} {K : mf_Kt} {x0 x1 : Int} {g h : mf_M} (hd : 3 ≤ d) (hyp : mf_is n x0 12 ∧ ((h x0 54 = 0 → K 0 g h) ∧ (¬ h x0 54 = 0 → mf_is n (g x0 49) 20 ∧ 4 < mf_len (g x0 49) ∧ ((¬ h (g x0 49) 4 = (-1) → (∀ h4 : mf_M, h4 = mf_up h x0 58 x1 → mf_MT C l 2 YX12_codesTell [(2, x0), (0, 0), (0, 0)] n n g h4 (fun r5 g6 h7 => mf_MT C l 0 YX12_leaves [(2, x0)] n n g6 h7 (fun r8 g9 h10 => ¬ mf_w32 (r8 + 1) = 0 ∧ (∀ v12 : Int, v12 = mf_w32 (r5.tmod (mf_w32 (r8 + 1))) → ((0 ≤ v12 → K v12 g9 h10) ∧ (¬ 0 ≤ v12 → mf_MT C l 0 YX12_leaves [(2, x0)] n n g9 h10 (fun r13 g14 h15 => K (mf_w32 ((mf_w32 (v12 + r13)) + 1)) g14 h15)))))))) ∧ (h (g x0 49) 4 = (-1) → K 0 g h))))) : mf_MT C l d YX12_openingOn [(2, x0), (0, x1)] n n g h K := by
  refine mf_entry (by decide) (Nat.le_of_ble_eq_true rfl) ?_
  refine mf_aload_n (mf_dat eX12_openingOn 0 rfl) rfl rfl ?_
  obtain ⟨ck1, hyp⟩ := hyp
  refine mf_getf (r := (RX12, TX12, 106)) (ci := 12) (k := 54) (t := 0) (v := h x0 54) (mf_dat eX12_openingOn 1 rfl) fl_X12_389 rfl (by decide) rfl rfl ck1 ?_
  refine mf_if_eq (tgt := 17) (mf_dat eX12_openingOn 2 rfl) (by decide) (fun hc => ?_) (fun hc => ?_)
  · replace hyp := hyp.1 hc
    refine mf_iconst (v := 0) (mf_dat eX12_openingOn 9 rfl) (by decide) ?_
    exact mf_ireturn (mf_dat eX12_openingOn 10 rfl) rfl (Or.inl rfl) hyp
  · replace hyp := hyp.2 hc
    refine mf_aload_n (mf_dat eX12_openingOn 3 rfl) rfl rfl ?_
    refine mf_getf (r := (RX12, TX12, 106)) (ci := 12) (k := 49) (t := 2) (v := g x0 49) (mf_dat eX12_openingOn 4 rfl) fl_X12_127 rfl (by decide) rfl rfl ck1 ?_
    refine mf_iconst (v := 4) (mf_dat eX12_openingOn 5 rfl) (by decide) ?_
    obtain ⟨ck2, hyp⟩ := hyp
    obtain ⟨ck3, hyp⟩ := hyp
    refine mf_iald (mf_dat eX12_openingOn 6 rfl) ck2 (by decide) ck3 ?_
    refine mf_iconst (v := (-1)) (mf_dat eX12_openingOn 7 rfl) (by decide) ?_
    refine mf_icmp_ne (tgt := 19) (mf_dat eX12_openingOn 8 rfl) (by decide) (fun hc => ?_) (fun hc => ?_)
    · replace hyp := hyp.1 hc
      refine mf_aload_n (mf_dat eX12_openingOn 11 rfl) rfl rfl ?_
      refine mf_iload_n (mf_dat eX12_openingOn 12 rfl) rfl rfl ?_
      refine mf_putI (r := (RX12, TX12, 106)) (ci := 12) (k := 58) (kI := 58) (t := 0) (mf_dat eX12_openingOn 13 rfl) fl_X12_436 rfl rfl (by decide) rfl (by decide) rfl (by decide) (fun h9 => absurd h9 (by decide)) ck1 ?_
      generalize qh4 : mf_up h x0 58 x1 = h4
      replace hyp := hyp _ qh4.symm
      refine mf_aload_n (mf_dat eX12_openingOn 14 rfl) rfl rfl ?_
      refine mf_iconst (v := 0) (mf_dat eX12_openingOn 15 rfl) (by decide) ?_
      refine mf_iconst (v := 0) (mf_dat eX12_openingOn 16 rfl) (by decide) ?_
      refine mf_callV (Yc := YX12_codesTell) (r := (RX12, TX12, 106)) (ci := 12) (mf_dat eX12_openingOn 17 rfl) ml_X12_439 okX12_codesTell im_X12_codesTell sl_X12_codesTell rfl rfl rfl rfl (Nat.le_of_ble_eq_true rfl) (mf_rr (Nat.le_trans (by decide) hd) (Nat.le_refl _)) (Nat.le_refl _) ck1 hyp (fun r5 g6 h7 hyp => ?_)
      refine mf_aload_n (mf_dat eX12_openingOn 18 rfl) rfl rfl ?_
      refine mf_callV (Yc := YX12_leaves) (r := (RX12, TX12, 106)) (ci := 12) (mf_dat eX12_openingOn 19 rfl) ml_X12_405 okX12_leaves im_X12_leaves sl_X12_leaves rfl rfl rfl rfl (Nat.le_of_ble_eq_true rfl) (mf_rr (Nat.le_trans (by decide) hd) (Nat.le_refl _)) (Nat.le_refl _) ck1 hyp (fun r8 g9 h10 hyp => ?_)
      refine mf_iconst (v := 1) (mf_dat eX12_openingOn 20 rfl) (by decide) ?_
      refine mf_iadd (mf_dat eX12_openingOn 21 rfl) ?_
      refine mf_i2l (mf_dat eX12_openingOn 22 rfl) ?_
      obtain ⟨ck11, hyp⟩ := hyp
      refine mf_lrem (mf_dat eX12_openingOn 23 rfl) ck11 ?_
      refine mf_l2i (mf_dat eX12_openingOn 24 rfl) ?_
      generalize qv12 : mf_w32 (r5.tmod (mf_w32 (r8 + 1))) = v12
      replace hyp := hyp _ qv12.symm
      refine mf_istore_n (mf_dat eX12_openingOn 25 rfl) rfl (by decide) ?_
      refine mf_iload_n (mf_dat eX12_openingOn 26 rfl) rfl rfl ?_
      refine mf_if_ge (tgt := 55) (mf_dat eX12_openingOn 27 rfl) (by decide) (fun hc => ?_) (fun hc => ?_)
      · replace hyp := hyp.1 hc
        refine mf_iload_n (mf_dat eX12_openingOn 35 rfl) rfl rfl ?_
        exact mf_ireturn (mf_dat eX12_openingOn 36 rfl) rfl (Or.inl rfl) hyp
      · replace hyp := hyp.2 hc
        refine mf_iload_n (mf_dat eX12_openingOn 28 rfl) rfl rfl ?_
        refine mf_aload_n (mf_dat eX12_openingOn 29 rfl) rfl rfl ?_
        refine mf_callV (Yc := YX12_leaves) (r := (RX12, TX12, 106)) (ci := 12) (mf_dat eX12_openingOn 30 rfl) ml_X12_405 okX12_leaves im_X12_leaves sl_X12_leaves rfl rfl rfl rfl (Nat.le_of_ble_eq_true rfl) (mf_rr (Nat.le_trans (by decide) hd) (Nat.le_refl _)) (Nat.le_refl _) ck1 hyp (fun r13 g14 h15 hyp => ?_)
        refine mf_iadd (mf_dat eX12_openingOn 31 rfl) ?_
        refine mf_iconst (v := 1) (mf_dat eX12_openingOn 32 rfl) (by decide) ?_
        refine mf_iadd (mf_dat eX12_openingOn 33 rfl) ?_
        refine mf_goto (tgt := 56) (mf_dat eX12_openingOn 34 rfl) (by decide) ?_
        exact mf_ireturn (mf_dat eX12_openingOn 36 rfl) rfl (Or.inl rfl) hyp
    · replace hyp := hyp.2 hc
      refine mf_iconst (v := 0) (mf_dat eX12_openingOn 9 rfl) (by decide) ?_
      exact mf_ireturn (mf_dat eX12_openingOn 10 rfl) rfl (Or.inl rfl) hyp
set_option maxRecDepth 100000 in
set_option maxHeartbeats 4000000 in
theorem mX12_isMet {C : mf_G} {l : Launch} {d n : Nat} {K : mf_Kt} {x0 x1 : Int} {g h : mf_M} (hyp : (∀ v1 : Int, v1 = mf_w32 ((mf_w32 (7 + (mf_w32 (4 * x1)))) + 3) → mf_is n x0 12 ∧ mf_is n (g x0 56) 20 ∧ 0 ≤ v1 ∧ v1 < mf_len (g x0 56) ∧ ((9999 ≤ h (g x0 56) v1 → mf_is n (g x0 63) 20 ∧ 0 ≤ x1 ∧ x1 < mf_len (g x0 63) ∧ (∀ h9 : mf_M, h9 = mf_up h (g x0 63) x1 (mf_w32 ((h (g x0 63) x1) + 1)) → K 0 g h9)) ∧ (¬ 9999 ≤ h (g x0 56) v1 → (∀ h10 : mf_M, h10 = mf_up h (g x0 56) v1 (mf_w32 ((h (g x0 56) v1) + 1)) → mf_is n (g x0 63) 20 ∧ 0 ≤ x1 ∧ x1 < mf_len (g x0 63) ∧ (∀ h14 : mf_M, h14 = mf_up h10 (g x0 63) x1 (mf_w32 ((h10 (g x0 63) x1) + 1)) → K 0 g h14)))))) : mf_MT C l d YX12_isMet [(2, x0), (0, x1)] n n g h K := by
  refine mf_entry (by decide) (Nat.le_of_ble_eq_true rfl) ?_
  refine mf_bipush (v := 7) (mf_dat eX12_isMet 0 rfl) (by decide) ?_
  refine mf_iconst (v := 4) (mf_dat eX12_isMet 1 rfl) (by decide) ?_
  refine mf_iload_n (mf_dat eX12_isMet 2 rfl) rfl rfl ?_
  refine mf_imul (mf_dat eX12_isMet 3 rfl) ?_
  refine mf_iadd (mf_dat eX12_isMet 4 rfl) ?_
  refine mf_iconst (v := 3) (mf_dat eX12_isMet 5 rfl) (by decide) ?_
  refine mf_iadd (mf_dat eX12_isMet 6 rfl) ?_
  generalize qv1 : mf_w32 ((mf_w32 (7 + (mf_w32 (4 * x1)))) + 3) = v1
  replace hyp := hyp _ qv1.symm
  refine mf_istore_n (mf_dat eX12_isMet 7 rfl) rfl (by decide) ?_
  refine mf_aload_n (mf_dat eX12_isMet 8 rfl) rfl rfl ?_
  obtain ⟨ck2, hyp⟩ := hyp
  refine mf_getf (r := (RX12, TX12, 106)) (ci := 12) (k := 56) (t := 2) (v := g x0 56) (mf_dat eX12_isMet 9 rfl) fl_X12_136 rfl (by decide) rfl rfl ck2 ?_
  refine mf_iload_n (mf_dat eX12_isMet 10 rfl) rfl rfl ?_
  obtain ⟨ck3, hyp⟩ := hyp
  obtain ⟨ck4, hyp⟩ := hyp
  obtain ⟨ck5, hyp⟩ := hyp
  refine mf_iald (mf_dat eX12_isMet 11 rfl) ck3 ck4 ck5 ?_
  refine mf_sipush (v := 9999) (mf_dat eX12_isMet 12 rfl) (by decide) ?_
  refine mf_icmp_ge (tgt := 31) (mf_dat eX12_isMet 13 rfl) (by decide) (fun hc => ?_) (fun hc => ?_)
  · replace hyp := hyp.1 hc
    refine mf_aload_n (mf_dat eX12_isMet 22 rfl) rfl rfl ?_
    refine mf_getf (r := (RX12, TX12, 106)) (ci := 12) (k := 63) (t := 2) (v := g x0 63) (mf_dat eX12_isMet 23 rfl) fl_X12_142 rfl (by decide) rfl rfl ck2 ?_
    refine mf_iload_n (mf_dat eX12_isMet 24 rfl) rfl rfl ?_
    refine mf_dup2 (mf_dat eX12_isMet 25 rfl) (by decide) (by decide) ?_
    obtain ⟨ck6, hyp⟩ := hyp
    obtain ⟨ck7, hyp⟩ := hyp
    obtain ⟨ck8, hyp⟩ := hyp
    refine mf_iald (mf_dat eX12_isMet 26 rfl) ck6 ck7 ck8 ?_
    refine mf_iconst (v := 1) (mf_dat eX12_isMet 27 rfl) (by decide) ?_
    refine mf_iadd (mf_dat eX12_isMet 28 rfl) ?_
    refine mf_iast (mf_dat eX12_isMet 29 rfl) ck6 ck7 ck8 ?_
    generalize qh9 : mf_up h (g x0 63) x1 (mf_w32 ((h (g x0 63) x1) + 1)) = h9
    replace hyp := hyp _ qh9.symm
    exact mf_return (mf_dat eX12_isMet 30 rfl) rfl hyp
  · replace hyp := hyp.2 hc
    refine mf_aload_n (mf_dat eX12_isMet 14 rfl) rfl rfl ?_
    refine mf_getf (r := (RX12, TX12, 106)) (ci := 12) (k := 56) (t := 2) (v := g x0 56) (mf_dat eX12_isMet 15 rfl) fl_X12_136 rfl (by decide) rfl rfl ck2 ?_
    refine mf_iload_n (mf_dat eX12_isMet 16 rfl) rfl rfl ?_
    refine mf_dup2 (mf_dat eX12_isMet 17 rfl) (by decide) (by decide) ?_
    refine mf_iald (mf_dat eX12_isMet 18 rfl) ck3 ck4 ck5 ?_
    refine mf_iconst (v := 1) (mf_dat eX12_isMet 19 rfl) (by decide) ?_
    refine mf_iadd (mf_dat eX12_isMet 20 rfl) ?_
    refine mf_iast (mf_dat eX12_isMet 21 rfl) ck3 ck4 ck5 ?_
    generalize qh10 : mf_up h (g x0 56) v1 (mf_w32 ((h (g x0 56) v1) + 1)) = h10
    replace hyp := hyp _ qh10.symm
    refine mf_aload_n (mf_dat eX12_isMet 22 rfl) rfl rfl ?_
    refine mf_getf (r := (RX12, TX12, 106)) (ci := 12) (k := 63) (t := 2) (v := g x0 63) (mf_dat eX12_isMet 23 rfl) fl_X12_142 rfl (by decide) rfl rfl ck2 ?_
    refine mf_iload_n (mf_dat eX12_isMet 24 rfl) rfl rfl ?_
    refine mf_dup2 (mf_dat eX12_isMet 25 rfl) (by decide) (by decide) ?_
    obtain ⟨ck11, hyp⟩ := hyp
    obtain ⟨ck12, hyp⟩ := hyp
    obtain ⟨ck13, hyp⟩ := hyp
    refine mf_iald (mf_dat eX12_isMet 26 rfl) ck11 ck12 ck13 ?_
    refine mf_iconst (v := 1) (mf_dat eX12_isMet 27 rfl) (by decide) ?_
    refine mf_iadd (mf_dat eX12_isMet 28 rfl) ?_
    refine mf_iast (mf_dat eX12_isMet 29 rfl) ck11 ck12 ck13 ?_
    generalize qh14 : mf_up h10 (g x0 63) x1 (mf_w32 ((h10 (g x0 63) x1) + 1)) = h14
    replace hyp := hyp _ qh14.symm
    exact mf_return (mf_dat eX12_isMet 30 rfl) rfl hyp
abbrev JX12_isKept_23 (C : mf_G) (l : Launch) (d n : Nat) (K : mf_Kt) (x0 x1 x2 x3 : Int) (g h : mf_M) : Prop := mf_AW C l YX12_isKept (mf_rm d n n) n (mf_Zm C YX12_isKept n n K) (fun _ _ => True) 23 [(0, (2, x0)), (1, (0, x1)), (2, (0, x2)), (3, (0, x3))] [] n g h
abbrev JX12_isKept_64 (C : mf_G) (l : Launch) (d n : Nat) (K : mf_Kt) (x0 x1 x2 : Int) (g h : mf_M) : Prop := mf_AW C l YX12_isKept (mf_rm d n n) n (mf_Zm C YX12_isKept n n K) (fun _ _ => True) 64 [(0, (2, x0)), (1, (0, x1)), (2, (0, x2))] [] n g h
set_option maxRecDepth 100000 in
set_option maxHeartbeats 4000000 in
theorem bX12_isKept_23 {C : mf_G} {l : Launch} {d n : Nat} {K : mf_Kt} {x0 x1 x2 x3 : Int} {g h : mf_M} (hyp : ((157 ≤ x3 → JX12_isKept_64 C l d n K x0 x1 x2 g h) ∧ (¬ 157 ≤ x3 → mf_is n x0 12 ∧ mf_is n (g x0 56) 20 ∧ 0 ≤ mf_w32 (x3 + 3) ∧ mf_w32 (x3 + 3) < mf_len (g x0 56) ∧ 0 ≤ x3 ∧ x3 < mf_len (g x0 56) ∧ (∀ h7 : mf_M, h7 = mf_up h (g x0 56) x3 (h (g x0 56) (mf_w32 (x3 + 3))) → (∀ v8 : Int, v8 = mf_w32 (x3 + 1) → JX12_isKept_23 C l d n K x0 x1 x2 v8 g h7))))) : JX12_isKept_23 C l d n K x0 x1 x2 x3 g h := by
  refine mf_iload_n (mf_dat eX12_isKept_p0 12 rfl) rfl rfl ?_
  refine mf_sipush (v := 157) (mf_dat eX12_isKept_p0 13 rfl) (by decide) ?_
  refine mf_icmp_ge (tgt := 50) (mf_dat eX12_isKept_p0 14 rfl) (by decide) (fun hc => ?_) (fun hc => ?_)
  · replace hyp := hyp.1 hc
    refine mf_goto (tgt := 64) (mf_dat eX12_isKept_p0 27 rfl) (by decide) ?_
    exact mf_sub [0, 1, 2] rfl hyp
  · replace hyp := hyp.2 hc
    refine mf_aload_n (mf_dat eX12_isKept_p0 15 rfl) rfl rfl ?_
    obtain ⟨ck1, hyp⟩ := hyp
    refine mf_getf (r := (RX12, TX12, 106)) (ci := 12) (k := 56) (t := 2) (v := g x0 56) (mf_dat eX12_isKept_p0 16 rfl) fl_X12_136 rfl (by decide) rfl rfl ck1 ?_
    refine mf_iload_n (mf_dat eX12_isKept_p0 17 rfl) rfl rfl ?_
    refine mf_aload_n (mf_dat eX12_isKept_p0 18 rfl) rfl rfl ?_
    refine mf_getf (r := (RX12, TX12, 106)) (ci := 12) (k := 56) (t := 2) (v := g x0 56) (mf_dat eX12_isKept_p0 19 rfl) fl_X12_136 rfl (by decide) rfl rfl ck1 ?_
    refine mf_iload_n (mf_dat eX12_isKept_p0 20 rfl) rfl rfl ?_
    refine mf_iconst (v := 3) (mf_dat eX12_isKept_p0 21 rfl) (by decide) ?_
    refine mf_iadd (mf_dat eX12_isKept_p0 22 rfl) ?_
    obtain ⟨ck2, hyp⟩ := hyp
    obtain ⟨ck3, hyp⟩ := hyp
    obtain ⟨ck4, hyp⟩ := hyp
    refine mf_iald (mf_dat eX12_isKept_p0 23 rfl) ck2 ck3 ck4 ?_
    obtain ⟨ck5, hyp⟩ := hyp
    obtain ⟨ck6, hyp⟩ := hyp
    refine mf_iast (mf_dat eX12_isKept_p0 24 rfl) ck2 ck5 ck6 ?_
    generalize qh7 : mf_up h (g x0 56) x3 (h (g x0 56) (mf_w32 (x3 + 3))) = h7
    replace hyp := hyp _ qh7.symm
    refine mf_iinc (mf_dat eX12_isKept_p0 25 rfl) rfl (by decide) (by decide) ?_
    generalize qv8 : mf_w32 (x3 + 1) = v8
    replace hyp := hyp _ qv8.symm
    refine mf_goto (tgt := 23) (mf_dat eX12_isKept_p0 26 rfl) (by decide) ?_
    exact mf_sub [1, 2, 3, 0] rfl hyp
set_option maxRecDepth 100000 in
set_option maxHeartbeats 4000000 in
theorem bX12_isKept_64 {C : mf_G} {l : Launch} {d n : Nat} {K : mf_Kt} {x0 x1 x2 : Int} {g h : mf_M} (hyp : mf_is n x0 12 ∧ mf_is n (g x0 56) 20 ∧ 39 < mf_len (g x0 56) ∧ (∀ v4 : Int, v4 = mf_w32 ((mf_w32 (40 + (mf_w32 (3 * (h (g x0 56) 39))))) - 3) → 0 < mf_len (g x0 56) ∧ 0 ≤ v4 ∧ v4 < mf_len (g x0 56) ∧ (∀ h8 : mf_M, h8 = mf_up h (g x0 56) v4 (h (g x0 56) 0) → 0 ≤ mf_w32 (v4 + 1) ∧ mf_w32 (v4 + 1) < mf_len (g x0 56) ∧ (∀ h11 : mf_M, h11 = mf_up h8 (g x0 56) (mf_w32 (v4 + 1)) x1 → 0 ≤ mf_w32 (v4 + 2) ∧ mf_w32 (v4 + 2) < mf_len (g x0 56) ∧ (∀ h14 : mf_M, h14 = mf_up h11 (g x0 56) (mf_w32 (v4 + 2)) x2 → K 0 g h14))))) : JX12_isKept_64 C l d n K x0 x1 x2 g h := by
  refine mf_bipush (v := 40) (mf_dat eX12_isKept_p0 36 rfl) (by decide) ?_
  refine mf_iconst (v := 3) (mf_dat eX12_isKept_p0 37 rfl) (by decide) ?_
  refine mf_aload_n (mf_dat eX12_isKept_p0 38 rfl) rfl rfl ?_
  obtain ⟨ck1, hyp⟩ := hyp
  refine mf_getf (r := (RX12, TX12, 106)) (ci := 12) (k := 56) (t := 2) (v := g x0 56) (mf_dat eX12_isKept_p0 39 rfl) fl_X12_136 rfl (by decide) rfl rfl ck1 ?_
  refine mf_bipush (v := 39) (mf_dat eX12_isKept_p0 40 rfl) (by decide) ?_
  obtain ⟨ck2, hyp⟩ := hyp
  obtain ⟨ck3, hyp⟩ := hyp
  refine mf_iald (mf_dat eX12_isKept_p0 41 rfl) ck2 (by decide) ck3 ?_
  refine mf_imul (mf_dat eX12_isKept_p0 42 rfl) ?_
  refine mf_iadd (mf_dat eX12_isKept_p0 43 rfl) ?_
  refine mf_iconst (v := 3) (mf_dat eX12_isKept_p0 44 rfl) (by decide) ?_
  refine mf_isub (mf_dat eX12_isKept_p0 45 rfl) ?_
  generalize qv4 : mf_w32 ((mf_w32 (40 + (mf_w32 (3 * (h (g x0 56) 39))))) - 3) = v4
  replace hyp := hyp _ qv4.symm
  refine mf_istore_n (mf_dat eX12_isKept_p0 46 rfl) rfl (by decide) ?_
  refine mf_aload_n (mf_dat eX12_isKept_p0 47 rfl) rfl rfl ?_
  refine mf_getf (r := (RX12, TX12, 106)) (ci := 12) (k := 56) (t := 2) (v := g x0 56) (mf_dat eX12_isKept_p0 48 rfl) fl_X12_136 rfl (by decide) rfl rfl ck1 ?_
  refine mf_iload_n (mf_dat eX12_isKept_p0 49 rfl) rfl rfl ?_
  refine mf_aload_n (mf_dat eX12_isKept_p0 50 rfl) rfl rfl ?_
  refine mf_getf (r := (RX12, TX12, 106)) (ci := 12) (k := 56) (t := 2) (v := g x0 56) (mf_dat eX12_isKept_p0 51 rfl) fl_X12_136 rfl (by decide) rfl rfl ck1 ?_
  refine mf_iconst (v := 0) (mf_dat eX12_isKept_p0 52 rfl) (by decide) ?_
  obtain ⟨ck5, hyp⟩ := hyp
  refine mf_iald (mf_dat eX12_isKept_p0 53 rfl) ck2 (by decide) ck5 ?_
  obtain ⟨ck6, hyp⟩ := hyp
  obtain ⟨ck7, hyp⟩ := hyp
  refine mf_iast (mf_dat eX12_isKept_p0 54 rfl) ck2 ck6 ck7 ?_
  generalize qh8 : mf_up h (g x0 56) v4 (h (g x0 56) 0) = h8
  replace hyp := hyp _ qh8.symm
  refine mf_aload_n (mf_dat eX12_isKept_p0 55 rfl) rfl rfl ?_
  refine mf_getf (r := (RX12, TX12, 106)) (ci := 12) (k := 56) (t := 2) (v := g x0 56) (mf_dat eX12_isKept_p0 56 rfl) fl_X12_136 rfl (by decide) rfl rfl ck1 ?_
  refine mf_iload_n (mf_dat eX12_isKept_p0 57 rfl) rfl rfl ?_
  refine mf_iconst (v := 1) (mf_dat eX12_isKept_p0 58 rfl) (by decide) ?_
  refine mf_iadd (mf_dat eX12_isKept_p0 59 rfl) ?_
  refine mf_iload_n (mf_dat eX12_isKept_p1 0 rfl) rfl rfl ?_
  obtain ⟨ck9, hyp⟩ := hyp
  obtain ⟨ck10, hyp⟩ := hyp
  refine mf_iast (mf_dat eX12_isKept_p1 1 rfl) ck2 ck9 ck10 ?_
  generalize qh11 : mf_up h8 (g x0 56) (mf_w32 (v4 + 1)) x1 = h11
  replace hyp := hyp _ qh11.symm
  refine mf_aload_n (mf_dat eX12_isKept_p1 2 rfl) rfl rfl ?_
  refine mf_getf (r := (RX12, TX12, 106)) (ci := 12) (k := 56) (t := 2) (v := g x0 56) (mf_dat eX12_isKept_p1 3 rfl) fl_X12_136 rfl (by decide) rfl rfl ck1 ?_
  refine mf_iload_n (mf_dat eX12_isKept_p1 4 rfl) rfl rfl ?_
  refine mf_iconst (v := 2) (mf_dat eX12_isKept_p1 5 rfl) (by decide) ?_
  refine mf_iadd (mf_dat eX12_isKept_p1 6 rfl) ?_
  refine mf_iload_n (mf_dat eX12_isKept_p1 7 rfl) rfl rfl ?_
  obtain ⟨ck12, hyp⟩ := hyp
  obtain ⟨ck13, hyp⟩ := hyp
  refine mf_iast (mf_dat eX12_isKept_p1 8 rfl) ck2 ck12 ck13 ?_
  generalize qh14 : mf_up h11 (g x0 56) (mf_w32 (v4 + 2)) x2 = h14
  replace hyp := hyp _ qh14.symm
  exact mf_return (mf_dat eX12_isKept_p1 9 rfl) rfl hyp
set_option maxRecDepth 100000 in
set_option maxHeartbeats 4000000 in
theorem mX12_isKept {C : mf_G} {l : Launch} {d n : Nat} {K : mf_Kt} {x0 x1 x2 : Int} {g h : mf_M} (hyp : mf_is n x0 12 ∧ ((h x0 61 = 0 → mf_is n (g x0 56) 20 ∧ 39 < mf_len (g x0 56) ∧ ((¬ h (g x0 56) 39 = 40 → (∀ h4 : mf_M, h4 = mf_up h (g x0 56) 39 (mf_w32 ((h (g x0 56) 39) + 1)) → JX12_isKept_64 C l d n K x0 x1 x2 g h4)) ∧ (h (g x0 56) 39 = 40 → JX12_isKept_23 C l d n K x0 x1 x2 40 g h))) ∧ (¬ h x0 61 = 0 → K 0 g h))) : mf_MT C l d YX12_isKept [(2, x0), (0, x1), (0, x2)] n n g h K := by
  refine mf_entry (by decide) (Nat.le_of_ble_eq_true rfl) ?_
  refine mf_aload_n (mf_dat eX12_isKept_p0 0 rfl) rfl rfl ?_
  obtain ⟨ck1, hyp⟩ := hyp
  refine mf_getf (r := (RX12, TX12, 106)) (ci := 12) (k := 61) (t := 0) (v := h x0 61) (mf_dat eX12_isKept_p0 1 rfl) fl_X12_442 rfl (by decide) rfl rfl ck1 ?_
  refine mf_if_eq (tgt := 8) (mf_dat eX12_isKept_p0 2 rfl) (by decide) (fun hc => ?_) (fun hc => ?_)
  · replace hyp := hyp.1 hc
    refine mf_aload_n (mf_dat eX12_isKept_p0 4 rfl) rfl rfl ?_
    refine mf_getf (r := (RX12, TX12, 106)) (ci := 12) (k := 56) (t := 2) (v := g x0 56) (mf_dat eX12_isKept_p0 5 rfl) fl_X12_136 rfl (by decide) rfl rfl ck1 ?_
    refine mf_bipush (v := 39) (mf_dat eX12_isKept_p0 6 rfl) (by decide) ?_
    obtain ⟨ck2, hyp⟩ := hyp
    obtain ⟨ck3, hyp⟩ := hyp
    refine mf_iald (mf_dat eX12_isKept_p0 7 rfl) ck2 (by decide) ck3 ?_
    refine mf_bipush (v := 40) (mf_dat eX12_isKept_p0 8 rfl) (by decide) ?_
    refine mf_icmp_ne (tgt := 53) (mf_dat eX12_isKept_p0 9 rfl) (by decide) (fun hc => ?_) (fun hc => ?_)
    · replace hyp := hyp.1 hc
      refine mf_aload_n (mf_dat eX12_isKept_p0 28 rfl) rfl rfl ?_
      refine mf_getf (r := (RX12, TX12, 106)) (ci := 12) (k := 56) (t := 2) (v := g x0 56) (mf_dat eX12_isKept_p0 29 rfl) fl_X12_136 rfl (by decide) rfl rfl ck1 ?_
      refine mf_bipush (v := 39) (mf_dat eX12_isKept_p0 30 rfl) (by decide) ?_
      refine mf_dup2 (mf_dat eX12_isKept_p0 31 rfl) (by decide) (by decide) ?_
      refine mf_iald (mf_dat eX12_isKept_p0 32 rfl) ck2 (by decide) ck3 ?_
      refine mf_iconst (v := 1) (mf_dat eX12_isKept_p0 33 rfl) (by decide) ?_
      refine mf_iadd (mf_dat eX12_isKept_p0 34 rfl) ?_
      refine mf_iast (mf_dat eX12_isKept_p0 35 rfl) ck2 (by decide) ck3 ?_
      generalize qh4 : mf_up h (g x0 56) 39 (mf_w32 ((h (g x0 56) 39) + 1)) = h4
      replace hyp := hyp _ qh4.symm
      exact mf_sub [0, 1, 2] rfl hyp
    · replace hyp := hyp.2 hc
      refine mf_bipush (v := 40) (mf_dat eX12_isKept_p0 10 rfl) (by decide) ?_
      refine mf_istore_n (mf_dat eX12_isKept_p0 11 rfl) rfl (by decide) ?_
      exact mf_sub [1, 2, 3, 0] rfl hyp
  · replace hyp := hyp.2 hc
    exact mf_return (mf_dat eX12_isKept_p0 3 rfl) rfl hyp
abbrev JX12_pays_21 (C : mf_G) (l : Launch) (d n : Nat) (K : mf_Kt) (x0 x1 x2 s0 : Int) (g h : mf_M) : Prop := mf_AW C l YX12_pays (mf_rm d n n) n (mf_Zm C YX12_pays n n K) (fun _ _ => True) 21 [(0, (2, x0)), (1, (0, x1)), (2, (0, x2))] [(1, s0)] n g h
set_option maxRecDepth 100000 in
set_option maxHeartbeats 4000000 in
theorem bX12_pays_21 {C : mf_G} {l : Launch} {d n : Nat} {K : mf_Kt} {x0 x1 x2 s0 : Int} {g h : mf_M} (hd : 1 ≤ d) (hyp : mf_is n x0 12 ∧ mf_MT C l 0 YX12_purseOf [(2, x0), (0, x1)] n n g h (fun r1 g2 h3 => mf_MT C l 0 YX12_purseIs [(2, x0), (0, x1), (1, mf_w64 (r1 - s0))] n n g2 h3 (fun r5 g6 h7 => mf_MT C l 0 YX12_purseOf [(2, x0), (0, x2)] n n g6 h7 (fun r8 g9 h10 => mf_MT C l 0 YX12_purseIs [(2, x0), (0, x2), (1, mf_w64 (r8 + s0))] n n g9 h10 (fun r11 g12 h13 => K 0 g12 h13))))) : JX12_pays_21 C l d n K x0 x1 x2 s0 g h := by
  refine mf_lstore (mf_dat eX12_pays 13 rfl) (by decide) ?_
  refine mf_aload_n (mf_dat eX12_pays 14 rfl) rfl rfl ?_
  refine mf_iload_n (mf_dat eX12_pays 15 rfl) rfl rfl ?_
  refine mf_aload_n (mf_dat eX12_pays 16 rfl) rfl rfl ?_
  refine mf_iload_n (mf_dat eX12_pays 17 rfl) rfl rfl ?_
  obtain ⟨ck4, hyp⟩ := hyp
  refine mf_callV (Yc := YX12_purseOf) (r := (RX12, TX12, 106)) (ci := 12) (mf_dat eX12_pays 18 rfl) ml_X12_445 okX12_purseOf im_X12_purseOf sl_X12_purseOf rfl rfl rfl rfl (Nat.le_of_ble_eq_true rfl) (mf_rr (Nat.le_trans (by decide) hd) (Nat.le_refl _)) (Nat.le_refl _) ck4 hyp (fun r1 g2 h3 hyp => ?_)
  refine mf_i2l (mf_dat eX12_pays 19 rfl) ?_
  refine mf_lload (mf_dat eX12_pays 20 rfl) rfl ?_
  refine mf_lsub (mf_dat eX12_pays 21 rfl) ?_
  refine mf_callV (Yc := YX12_purseIs) (r := (RX12, TX12, 106)) (ci := 12) (mf_dat eX12_pays 22 rfl) ml_X12_448 okX12_purseIs im_X12_purseIs sl_X12_purseIs rfl rfl rfl rfl (Nat.le_of_ble_eq_true rfl) (mf_rr (Nat.le_trans (by decide) hd) (Nat.le_refl _)) (Nat.le_refl _) ck4 hyp (fun r5 g6 h7 hyp => ?_)
  refine mf_aload_n (mf_dat eX12_pays 23 rfl) rfl rfl ?_
  refine mf_iload_n (mf_dat eX12_pays 24 rfl) rfl rfl ?_
  refine mf_aload_n (mf_dat eX12_pays 25 rfl) rfl rfl ?_
  refine mf_iload_n (mf_dat eX12_pays 26 rfl) rfl rfl ?_
  refine mf_callV (Yc := YX12_purseOf) (r := (RX12, TX12, 106)) (ci := 12) (mf_dat eX12_pays 27 rfl) ml_X12_445 okX12_purseOf im_X12_purseOf sl_X12_purseOf rfl rfl rfl rfl (Nat.le_of_ble_eq_true rfl) (mf_rr (Nat.le_trans (by decide) hd) (Nat.le_refl _)) (Nat.le_refl _) ck4 hyp (fun r8 g9 h10 hyp => ?_)
  refine mf_i2l (mf_dat eX12_pays 28 rfl) ?_
  refine mf_lload (mf_dat eX12_pays 29 rfl) rfl ?_
  refine mf_ladd (mf_dat eX12_pays 30 rfl) ?_
  refine mf_callV (Yc := YX12_purseIs) (r := (RX12, TX12, 106)) (ci := 12) (mf_dat eX12_pays 31 rfl) ml_X12_448 okX12_purseIs im_X12_purseIs sl_X12_purseIs rfl rfl rfl rfl (Nat.le_of_ble_eq_true rfl) (mf_rr (Nat.le_trans (by decide) hd) (Nat.le_refl _)) (Nat.le_refl _) ck4 hyp (fun r11 g12 h13 hyp => ?_)
  exact mf_return (mf_dat eX12_pays 32 rfl) rfl hyp
set_option maxRecDepth 100000 in
set_option maxHeartbeats 4000000 in
theorem mX12_pays {C : mf_G} {l : Launch} {d n : Nat} {K : mf_Kt} {x0 x1 x2 x3 : Int} {g h : mf_M} (hd : 1 ≤ d) (hyp : mf_is n x0 12 ∧ mf_MT C l 0 YX12_purseOf [(2, x0), (0, x1)] n n g h (fun r1 g2 h3 => ((x3 ≤ r1 → JX12_pays_21 C l d n K x0 x1 x2 x3 g2 h3) ∧ (¬ x3 ≤ r1 → mf_MT C l 0 YX12_purseOf [(2, x0), (0, x1)] n n g2 h3 (fun r5 g6 h7 => JX12_pays_21 C l d n K x0 x1 x2 r5 g6 h7))))) : mf_MT C l d YX12_pays [(2, x0), (0, x1), (0, x2), (1, x3)] n n g h K := by
  refine mf_entry (by decide) (Nat.le_of_ble_eq_true rfl) ?_
  refine mf_lload_n (mf_dat eX12_pays 0 rfl) rfl rfl ?_
  refine mf_aload_n (mf_dat eX12_pays 1 rfl) rfl rfl ?_
  refine mf_iload_n (mf_dat eX12_pays 2 rfl) rfl rfl ?_
  obtain ⟨ck4, hyp⟩ := hyp
  refine mf_callV (Yc := YX12_purseOf) (r := (RX12, TX12, 106)) (ci := 12) (mf_dat eX12_pays 3 rfl) ml_X12_445 okX12_purseOf im_X12_purseOf sl_X12_purseOf rfl rfl rfl rfl (Nat.le_of_ble_eq_true rfl) (mf_rr (Nat.le_trans (by decide) hd) (Nat.le_refl _)) (Nat.le_refl _) ck4 hyp (fun r1 g2 h3 hyp => ?_)
  refine mf_i2l (mf_dat eX12_pays 4 rfl) ?_
  refine mf_lcmp_le (tgt := 20) (mf_dat eX12_pays 5 rfl) (mf_dat eX12_pays 6 rfl) (by decide) (fun hc => ?_) (fun hc => ?_)
  · replace hyp := hyp.1 hc
    refine mf_lload_n (mf_dat eX12_pays 12 rfl) rfl rfl ?_
    exact mf_sub [0, 1, 2] rfl hyp
  · replace hyp := hyp.2 hc
    refine mf_aload_n (mf_dat eX12_pays 7 rfl) rfl rfl ?_
    refine mf_iload_n (mf_dat eX12_pays 8 rfl) rfl rfl ?_
    refine mf_callV (Yc := YX12_purseOf) (r := (RX12, TX12, 106)) (ci := 12) (mf_dat eX12_pays 9 rfl) ml_X12_445 okX12_purseOf im_X12_purseOf sl_X12_purseOf rfl rfl rfl rfl (Nat.le_of_ble_eq_true rfl) (mf_rr (Nat.le_trans (by decide) hd) (Nat.le_refl _)) (Nat.le_refl _) ck4 hyp (fun r5 g6 h7 hyp => ?_)
    refine mf_i2l (mf_dat eX12_pays 10 rfl) ?_
    refine mf_goto (tgt := 21) (mf_dat eX12_pays 11 rfl) (by decide) ?_
    exact mf_sub [0, 1, 2] rfl hyp
abbrev JX12_meet_60 (C : mf_G) (l : Launch) (d n : Nat) (K : mf_Kt) (x0 x1 x2 s0 : Int) (g h : mf_M) : Prop := mf_AW C l YX12_meet (mf_rm d n n) n (mf_Zm C YX12_meet n n K) (fun _ _ => True) 60 [(0, (2, x0)), (1, (0, x1)), (2, (0, x2))] [(1, s0)] n g h
set_option maxRecDepth 100000 in
set_option maxHeartbeats 4000000 in
theorem bX12_meet_60 {C : mf_G} {l : Launch} {d n : Nat} {K : mf_Kt} {x0 x1 x2 s0 : Int} {g h : mf_M} (hd : 2 ≤ d) (hyp : ((0 ≤ s0 → mf_is n x0 12 ∧ mf_MT C l 1 YX12_pays [(2, x0), (0, x1), (0, x2), (1, s0)] n n g h (fun r1 g2 h3 => K 0 g2 h3)) ∧ (¬ 0 ≤ s0 → mf_is n x0 12 ∧ mf_MT C l 1 YX12_pays [(2, x0), (0, x2), (0, x1), (1, mf_w64 (-s0))] n n g h (fun r5 g6 h7 => K 0 g6 h7)))) : JX12_meet_60 C l d n K x0 x1 x2 s0 g h := by
  refine mf_lstore_n (mf_dat eX12_meet 36 rfl) rfl (by decide) ?_
  refine mf_lload_n (mf_dat eX12_meet 37 rfl) rfl rfl ?_
  refine mf_lconst (v := 0) (mf_dat eX12_meet 38 rfl) (by decide) ?_
  refine mf_lcmp_ge (tgt := 78) (mf_dat eX12_meet 39 rfl) (mf_dat eX12_meet 40 rfl) (by decide) (fun hc => ?_) (fun hc => ?_)
  · replace hyp := hyp.1 hc
    refine mf_aload_n (mf_dat eX12_meet 48 rfl) rfl rfl ?_
    refine mf_iload_n (mf_dat eX12_meet 49 rfl) rfl rfl ?_
    refine mf_iload_n (mf_dat eX12_meet 50 rfl) rfl rfl ?_
    refine mf_lload_n (mf_dat eX12_meet 51 rfl) rfl rfl ?_
    obtain ⟨ck4, hyp⟩ := hyp
    refine mf_callV (Yc := YX12_pays) (r := (RX12, TX12, 106)) (ci := 12) (mf_dat eX12_meet 52 rfl) ml_X12_464 okX12_pays im_X12_pays sl_X12_pays rfl rfl rfl rfl (Nat.le_of_ble_eq_true rfl) (mf_rr (Nat.le_trans (by decide) hd) (Nat.le_refl _)) (Nat.le_refl _) ck4 hyp (fun r1 g2 h3 hyp => ?_)
    exact mf_return (mf_dat eX12_meet 53 rfl) rfl hyp
  · replace hyp := hyp.2 hc
    refine mf_aload_n (mf_dat eX12_meet 41 rfl) rfl rfl ?_
    refine mf_iload_n (mf_dat eX12_meet 42 rfl) rfl rfl ?_
    refine mf_iload_n (mf_dat eX12_meet 43 rfl) rfl rfl ?_
    refine mf_lload_n (mf_dat eX12_meet 44 rfl) rfl rfl ?_
    refine mf_lneg (mf_dat eX12_meet 45 rfl) ?_
    obtain ⟨ck8, hyp⟩ := hyp
    refine mf_callV (Yc := YX12_pays) (r := (RX12, TX12, 106)) (ci := 12) (mf_dat eX12_meet 46 rfl) ml_X12_464 okX12_pays im_X12_pays sl_X12_pays rfl rfl rfl rfl (Nat.le_of_ble_eq_true rfl) (mf_rr (Nat.le_trans (by decide) hd) (Nat.le_refl _)) (Nat.le_refl _) ck8 hyp (fun r5 g6 h7 hyp => ?_)
    refine mf_goto (tgt := 85) (mf_dat eX12_meet 47 rfl) (by decide) ?_
    exact mf_return (mf_dat eX12_meet 53 rfl) rfl hyp
set_option maxRecDepth 100000 in
set_option maxHeartbeats 4000000 in
theorem mX12_meet {C : mf_G} {l : Launch} {d n : Nat} {K : mf_Kt} {x0 x1 x2 : Int} {g h : mf_M} (hd : 3 ≤ d) (hyp : mf_is n x0 12 ∧ (∀ h2 : mf_M, h2 = mf_up h x0 62 (mf_w32 ((h x0 62) + 1)) → mf_MT C l 0 YX12_isMet [(2, x0), (0, x1)] n n g h2 (fun r3 g4 h5 => mf_MT C l 0 YX12_isMet [(2, x0), (0, x2)] n n g4 h5 (fun r6 g7 h8 => mf_MT C l 0 YX12_isKept [(2, x0), (0, x1), (0, x2)] n n g7 h8 (fun r9 g10 h11 => mf_is n (g10 x0 46) 20 ∧ 0 ≤ mf_w32 (8 + x2) ∧ mf_w32 (8 + x2) < mf_len (g10 x0 46) ∧ (∀ h15 : mf_M, h15 = mf_up h11 x0 60 (h11 (g10 x0 46) (mf_w32 (8 + x2))) → mf_is n (g10 x0 49) 20 ∧ 6 < mf_len (g10 x0 49) ∧ ((¬ h15 (g10 x0 49) 6 = (-1) → mf_MT C l 2 YX12_codesTell [(2, x0), (0, 2), (0, x1)] n n g10 h15 (fun r18 g19 h20 => JX12_meet_60 C l d n K x0 x1 x2 r18 g19 h20)) ∧ (h15 (g10 x0 49) 6 = (-1) → JX12_meet_60 C l d n K x0 x1 x2 1 g10 h15)))))))) : mf_MT C l d YX12_meet [(2, x0), (0, x1), (0, x2)] n n g h K := by
  refine mf_entry (by decide) (Nat.le_of_ble_eq_true rfl) ?_
  refine mf_aload_n (mf_dat eX12_meet 0 rfl) rfl rfl ?_
  refine mf_dup (mf_dat eX12_meet 1 rfl) (by decide) ?_
  obtain ⟨ck1, hyp⟩ := hyp
  refine mf_getf (r := (RX12, TX12, 106)) (ci := 12) (k := 62) (t := 0) (v := h x0 62) (mf_dat eX12_meet 2 rfl) fl_X12_452 rfl (by decide) rfl rfl ck1 ?_
  refine mf_iconst (v := 1) (mf_dat eX12_meet 3 rfl) (by decide) ?_
  refine mf_iadd (mf_dat eX12_meet 4 rfl) ?_
  refine mf_putI (r := (RX12, TX12, 106)) (ci := 12) (k := 62) (kI := 62) (t := 0) (mf_dat eX12_meet 5 rfl) fl_X12_452 rfl rfl (by decide) rfl (by decide) rfl (by decide) (fun h9 => absurd h9 (by decide)) ck1 ?_
  generalize qh2 : mf_up h x0 62 (mf_w32 ((h x0 62) + 1)) = h2
  replace hyp := hyp _ qh2.symm
  refine mf_aload_n (mf_dat eX12_meet 6 rfl) rfl rfl ?_
  refine mf_iload_n (mf_dat eX12_meet 7 rfl) rfl rfl ?_
  refine mf_callV (Yc := YX12_isMet) (r := (RX12, TX12, 106)) (ci := 12) (mf_dat eX12_meet 8 rfl) ml_X12_455 okX12_isMet im_X12_isMet sl_X12_isMet rfl rfl rfl rfl (Nat.le_of_ble_eq_true rfl) (mf_rr (Nat.le_trans (by decide) hd) (Nat.le_refl _)) (Nat.le_refl _) ck1 hyp (fun r3 g4 h5 hyp => ?_)
  refine mf_aload_n (mf_dat eX12_meet 9 rfl) rfl rfl ?_
  refine mf_iload_n (mf_dat eX12_meet 10 rfl) rfl rfl ?_
  refine mf_callV (Yc := YX12_isMet) (r := (RX12, TX12, 106)) (ci := 12) (mf_dat eX12_meet 11 rfl) ml_X12_455 okX12_isMet im_X12_isMet sl_X12_isMet rfl rfl rfl rfl (Nat.le_of_ble_eq_true rfl) (mf_rr (Nat.le_trans (by decide) hd) (Nat.le_refl _)) (Nat.le_refl _) ck1 hyp (fun r6 g7 h8 hyp => ?_)
  refine mf_aload_n (mf_dat eX12_meet 12 rfl) rfl rfl ?_
  refine mf_iload_n (mf_dat eX12_meet 13 rfl) rfl rfl ?_
  refine mf_iload_n (mf_dat eX12_meet 14 rfl) rfl rfl ?_
  refine mf_callV (Yc := YX12_isKept) (r := (RX12, TX12, 106)) (ci := 12) (mf_dat eX12_meet 15 rfl) ml_X12_458 okX12_isKept im_X12_isKept sl_X12_isKept rfl rfl rfl rfl (Nat.le_of_ble_eq_true rfl) (mf_rr (Nat.le_trans (by decide) hd) (Nat.le_refl _)) (Nat.le_refl _) ck1 hyp (fun r9 g10 h11 hyp => ?_)
  refine mf_aload_n (mf_dat eX12_meet 16 rfl) rfl rfl ?_
  refine mf_aload_n (mf_dat eX12_meet 17 rfl) rfl rfl ?_
  refine mf_getf (r := (RX12, TX12, 106)) (ci := 12) (k := 46) (t := 2) (v := g10 x0 46) (mf_dat eX12_meet 18 rfl) fl_X12_124 rfl (by decide) rfl rfl ck1 ?_
  refine mf_bipush (v := 8) (mf_dat eX12_meet 19 rfl) (by decide) ?_
  refine mf_iload_n (mf_dat eX12_meet 20 rfl) rfl rfl ?_
  refine mf_iadd (mf_dat eX12_meet 21 rfl) ?_
  obtain ⟨ck12, hyp⟩ := hyp
  obtain ⟨ck13, hyp⟩ := hyp
  obtain ⟨ck14, hyp⟩ := hyp
  refine mf_iald (mf_dat eX12_meet 22 rfl) ck12 ck13 ck14 ?_
  refine mf_putI (r := (RX12, TX12, 106)) (ci := 12) (k := 60) (kI := 60) (t := 0) (mf_dat eX12_meet 23 rfl) fl_X12_461 rfl rfl (by decide) rfl (by decide) rfl (by decide) (fun h9 => absurd h9 (by decide)) ck1 ?_
  generalize qh15 : mf_up h11 x0 60 (h11 (g10 x0 46) (mf_w32 (8 + x2))) = h15
  replace hyp := hyp _ qh15.symm
  refine mf_aload_n (mf_dat eX12_meet 24 rfl) rfl rfl ?_
  refine mf_getf (r := (RX12, TX12, 106)) (ci := 12) (k := 49) (t := 2) (v := g10 x0 49) (mf_dat eX12_meet 25 rfl) fl_X12_127 rfl (by decide) rfl rfl ck1 ?_
  refine mf_bipush (v := 6) (mf_dat eX12_meet 26 rfl) (by decide) ?_
  obtain ⟨ck16, hyp⟩ := hyp
  obtain ⟨ck17, hyp⟩ := hyp
  refine mf_iald (mf_dat eX12_meet 27 rfl) ck16 (by decide) ck17 ?_
  refine mf_iconst (v := (-1)) (mf_dat eX12_meet 28 rfl) (by decide) ?_
  refine mf_icmp_ne (tgt := 54) (mf_dat eX12_meet 29 rfl) (by decide) (fun hc => ?_) (fun hc => ?_)
  · replace hyp := hyp.1 hc
    refine mf_aload_n (mf_dat eX12_meet 32 rfl) rfl rfl ?_
    refine mf_iconst (v := 2) (mf_dat eX12_meet 33 rfl) (by decide) ?_
    refine mf_iload_n (mf_dat eX12_meet 34 rfl) rfl rfl ?_
    refine mf_callV (Yc := YX12_codesTell) (r := (RX12, TX12, 106)) (ci := 12) (mf_dat eX12_meet 35 rfl) ml_X12_439 okX12_codesTell im_X12_codesTell sl_X12_codesTell rfl rfl rfl rfl (Nat.le_of_ble_eq_true rfl) (mf_rr (Nat.le_trans (by decide) hd) (Nat.le_refl _)) (Nat.le_refl _) ck1 hyp (fun r18 g19 h20 hyp => ?_)
    exact mf_sub [0, 1, 2] rfl hyp
  · replace hyp := hyp.2 hc
    refine mf_lconst (v := 1) (mf_dat eX12_meet 30 rfl) (by decide) ?_
    refine mf_goto (tgt := 60) (mf_dat eX12_meet 31 rfl) (by decide) ?_
    exact mf_sub [0, 1, 2] rfl hyp
abbrev JX12_dayBy_17 (C : mf_G) (l : Launch) (d n : Nat) (K : mf_Kt) (x0 x1 x2 : Int) (g h : mf_M) : Prop := mf_AW C l YX12_dayBy (mf_rm d n n) n (mf_Zm C YX12_dayBy n n K) (fun _ _ => True) 17 [(0, (2, x0)), (1, (0, x1)), (2, (0, x2))] [] n g h
abbrev JX12_dayBy_29 (C : mf_G) (l : Launch) (d n : Nat) (K : mf_Kt) (x0 x1 x2 x3 : Int) (g h : mf_M) : Prop := mf_AW C l YX12_dayBy (mf_rm d n n) n (mf_Zm C YX12_dayBy n n K) (fun _ _ => True) 29 [(0, (2, x0)), (1, (0, x1)), (2, (0, x2)), (3, (0, x3))] [] n g h
abbrev JX12_dayBy_67 (C : mf_G) (l : Launch) (d n : Nat) (K : mf_Kt) (x0 x2 : Int) (g h : mf_M) : Prop := mf_AW C l YX12_dayBy (mf_rm d n n) n (mf_Zm C YX12_dayBy n n K) (fun _ _ => True) 67 [(0, (2, x0)), (2, (0, x2))] [] n g h
abbrev JX12_dayBy_100 (C : mf_G) (l : Launch) (d n : Nat) (K : mf_Kt) (x0 x2 s0 : Int) (g h : mf_M) : Prop := mf_AW C l YX12_dayBy (mf_rm d n n) n (mf_Zm C YX12_dayBy n n K) (fun _ _ => True) 100 [(0, (2, x0)), (2, (0, x2))] [(1, s0)] n g h
abbrev JX12_dayBy_150 (C : mf_G) (l : Launch) (d n : Nat) (K : mf_Kt) (x0 x2 : Int) (g h : mf_M) : Prop := mf_AW C l YX12_dayBy (mf_rm d n n) n (mf_Zm C YX12_dayBy n n K) (fun _ _ => True) 150 [(0, (2, x0)), (2, (0, x2))] [] n g h
set_option maxRecDepth 100000 in
set_option maxHeartbeats 4000000 in
theorem bX12_dayBy_17 {C : mf_G} {l : Launch} {d n : Nat} {K : mf_Kt} {x0 x1 x2 : Int} {g h : mf_M} (hd : 1 ≤ d) (hyp : mf_is n x0 12 ∧ mf_MT C l 0 YX12_beingMany [(2, x0)] n n g h (fun r1 g2 h3 => ((r1 ≤ x2 → JX12_dayBy_67 C l d n K x0 0 g2 h3) ∧ (¬ r1 ≤ x2 → (∀ v5 : Int, v5 = mf_w32 (x2 + 1) → JX12_dayBy_29 C l d n K x0 x1 x2 v5 g2 h3))))) : JX12_dayBy_17 C l d n K x0 x1 x2 g h := by
  refine mf_iload_n (mf_dat eX12_dayBy_p0 11 rfl) rfl rfl ?_
  refine mf_aload_n (mf_dat eX12_dayBy_p0 12 rfl) rfl rfl ?_
  obtain ⟨ck4, hyp⟩ := hyp
  refine mf_callV (Yc := YX12_beingMany) (r := (RX12, TX12, 106)) (ci := 12) (mf_dat eX12_dayBy_p0 13 rfl) ml_X12_402 okX12_beingMany im_X12_beingMany sl_X12_beingMany rfl rfl rfl rfl (Nat.le_of_ble_eq_true rfl) (mf_rr (Nat.le_trans (by decide) hd) (Nat.le_refl _)) (Nat.le_refl _) ck4 hyp (fun r1 g2 h3 hyp => ?_)
  refine mf_icmp_ge (tgt := 65) (mf_dat eX12_dayBy_p0 14 rfl) (by decide) (fun hc => ?_) (fun hc => ?_)
  · replace hyp := hyp.1 hc
    refine mf_iconst (v := 0) (mf_dat eX12_dayBy_p0 37 rfl) (by decide) ?_
    refine mf_istore_n (mf_dat eX12_dayBy_p0 38 rfl) rfl (by decide) ?_
    exact mf_sub [1, 0] rfl hyp
  · replace hyp := hyp.2 hc
    refine mf_iload_n (mf_dat eX12_dayBy_p0 15 rfl) rfl rfl ?_
    refine mf_iconst (v := 1) (mf_dat eX12_dayBy_p0 16 rfl) (by decide) ?_
    refine mf_iadd (mf_dat eX12_dayBy_p0 17 rfl) ?_
    generalize qv5 : mf_w32 (x2 + 1) = v5
    replace hyp := hyp _ qv5.symm
    refine mf_istore_n (mf_dat eX12_dayBy_p0 18 rfl) rfl (by decide) ?_
    exact mf_sub [1, 2, 3, 0] rfl hyp
set_option maxRecDepth 100000 in
set_option maxHeartbeats 4000000 in
theorem bX12_dayBy_29 {C : mf_G} {l : Launch} {d n : Nat} {K : mf_Kt} {x0 x1 x2 x3 : Int} {g h : mf_M} (hd : 4 ≤ d) (hyp : mf_is n x0 12 ∧ mf_MT C l 0 YX12_beingMany [(2, x0)] n n g h (fun r1 g2 h3 => ((r1 ≤ x3 → (∀ v5 : Int, v5 = mf_w32 (x2 + 1) → JX12_dayBy_17 C l d n K x0 x1 v5 g2 h3)) ∧ (¬ r1 ≤ x3 → mf_MT C l 2 YX12_doMeet [(2, x0), (0, x2), (0, x3), (0, x1)] n n g2 h3 (fun r6 g7 h8 => ((r6 = 0 → (∀ v9 : Int, v9 = mf_w32 (x3 + 1) → JX12_dayBy_29 C l d n K x0 x1 x2 v9 g7 h8)) ∧ (¬ r6 = 0 → mf_MT C l 3 YX12_meet [(2, x0), (0, x2), (0, x3)] n n g7 h8 (fun r10 g11 h12 => (∀ v13 : Int, v13 = mf_w32 (x3 + 1) → JX12_dayBy_29 C l d n K x0 x1 x2 v13 g11 h12))))))))) : JX12_dayBy_29 C l d n K x0 x1 x2 x3 g h := by
  refine mf_iload_n (mf_dat eX12_dayBy_p0 19 rfl) rfl rfl ?_
  refine mf_aload_n (mf_dat eX12_dayBy_p0 20 rfl) rfl rfl ?_
  obtain ⟨ck4, hyp⟩ := hyp
  refine mf_callV (Yc := YX12_beingMany) (r := (RX12, TX12, 106)) (ci := 12) (mf_dat eX12_dayBy_p0 21 rfl) ml_X12_402 okX12_beingMany im_X12_beingMany sl_X12_beingMany rfl rfl rfl rfl (Nat.le_of_ble_eq_true rfl) (mf_rr (Nat.le_trans (by decide) hd) (Nat.le_refl _)) (Nat.le_refl _) ck4 hyp (fun r1 g2 h3 hyp => ?_)
  refine mf_icmp_ge (tgt := 59) (mf_dat eX12_dayBy_p0 22 rfl) (by decide) (fun hc => ?_) (fun hc => ?_)
  · replace hyp := hyp.1 hc
    refine mf_iinc (mf_dat eX12_dayBy_p0 35 rfl) rfl (by decide) (by decide) ?_
    generalize qv5 : mf_w32 (x2 + 1) = v5
    replace hyp := hyp _ qv5.symm
    refine mf_goto (tgt := 17) (mf_dat eX12_dayBy_p0 36 rfl) (by decide) ?_
    exact mf_sub [1, 2, 0] rfl hyp
  · replace hyp := hyp.2 hc
    refine mf_aload_n (mf_dat eX12_dayBy_p0 23 rfl) rfl rfl ?_
    refine mf_iload_n (mf_dat eX12_dayBy_p0 24 rfl) rfl rfl ?_
    refine mf_iload_n (mf_dat eX12_dayBy_p0 25 rfl) rfl rfl ?_
    refine mf_iload_n (mf_dat eX12_dayBy_p0 26 rfl) rfl rfl ?_
    refine mf_callV (Yc := YX12_doMeet) (r := (RX12, TX12, 106)) (ci := 12) (mf_dat eX12_dayBy_p0 27 rfl) ml_X12_471 okX12_doMeet im_X12_doMeet sl_X12_doMeet rfl rfl rfl rfl (Nat.le_of_ble_eq_true rfl) (mf_rr (Nat.le_trans (by decide) hd) (Nat.le_refl _)) (Nat.le_refl _) ck4 hyp (fun r6 g7 h8 hyp => ?_)
    refine mf_if_eq (tgt := 53) (mf_dat eX12_dayBy_p0 28 rfl) (by decide) (fun hc => ?_) (fun hc => ?_)
    · replace hyp := hyp.1 hc
      refine mf_iinc (mf_dat eX12_dayBy_p0 33 rfl) rfl (by decide) (by decide) ?_
      generalize qv9 : mf_w32 (x3 + 1) = v9
      replace hyp := hyp _ qv9.symm
      refine mf_goto (tgt := 29) (mf_dat eX12_dayBy_p0 34 rfl) (by decide) ?_
      exact mf_sub [1, 2, 3, 0] rfl hyp
    · replace hyp := hyp.2 hc
      refine mf_aload_n (mf_dat eX12_dayBy_p0 29 rfl) rfl rfl ?_
      refine mf_iload_n (mf_dat eX12_dayBy_p0 30 rfl) rfl rfl ?_
      refine mf_iload_n (mf_dat eX12_dayBy_p0 31 rfl) rfl rfl ?_
      refine mf_callV (Yc := YX12_meet) (r := (RX12, TX12, 106)) (ci := 12) (mf_dat eX12_dayBy_p0 32 rfl) ml_X12_474 okX12_meet im_X12_meet sl_X12_meet rfl rfl rfl rfl (Nat.le_of_ble_eq_true rfl) (mf_rr (Nat.le_trans (by decide) hd) (Nat.le_refl _)) (Nat.le_refl _) ck4 hyp (fun r10 g11 h12 hyp => ?_)
      refine mf_iinc (mf_dat eX12_dayBy_p0 33 rfl) rfl (by decide) (by decide) ?_
      generalize qv13 : mf_w32 (x3 + 1) = v13
      replace hyp := hyp _ qv13.symm
      refine mf_goto (tgt := 29) (mf_dat eX12_dayBy_p0 34 rfl) (by decide) ?_
      exact mf_sub [1, 2, 3, 0] rfl hyp
set_option maxRecDepth 100000 in
set_option maxHeartbeats 4000000 in
theorem bX12_dayBy_67 {C : mf_G} {l : Launch} {d n : Nat} {K : mf_Kt} {x0 x2 : Int} {g h : mf_M} (hd : 3 ≤ d) (hyp : mf_is n x0 12 ∧ mf_MT C l 0 YX12_beingMany [(2, x0)] n n g h (fun r1 g2 h3 => ((r1 ≤ x2 → JX12_dayBy_150 C l d n K x0 0 g2 h3) ∧ (¬ r1 ≤ x2 → mf_is n (g2 x0 49) 20 ∧ 5 < mf_len (g2 x0 49) ∧ ((¬ h3 (g2 x0 49) 5 = (-1) → mf_MT C l 2 YX12_codesTell [(2, x0), (0, 1), (0, x2)] n n g2 h3 (fun r7 g8 h9 => JX12_dayBy_100 C l d n K x0 x2 r7 g8 h9)) ∧ (h3 (g2 x0 49) 5 = (-1) → mf_MT C l 0 YX12_cellOf [(2, x0), (0, x2)] n n g2 h3 (fun r10 g11 h12 => JX12_dayBy_100 C l d n K x0 x2 r10 g11 h12))))))) : JX12_dayBy_67 C l d n K x0 x2 g h := by
  refine mf_iload_n (mf_dat eX12_dayBy_p0 39 rfl) rfl rfl ?_
  refine mf_aload_n (mf_dat eX12_dayBy_p0 40 rfl) rfl rfl ?_
  obtain ⟨ck4, hyp⟩ := hyp
  refine mf_callV (Yc := YX12_beingMany) (r := (RX12, TX12, 106)) (ci := 12) (mf_dat eX12_dayBy_p0 41 rfl) ml_X12_402 okX12_beingMany im_X12_beingMany sl_X12_beingMany rfl rfl rfl rfl (Nat.le_of_ble_eq_true rfl) (mf_rr (Nat.le_trans (by decide) hd) (Nat.le_refl _)) (Nat.le_refl _) ck4 hyp (fun r1 g2 h3 hyp => ?_)
  refine mf_icmp_ge (tgt := 148) (mf_dat eX12_dayBy_p0 42 rfl) (by decide) (fun hc => ?_) (fun hc => ?_)
  · replace hyp := hyp.1 hc
    refine mf_iconst (v := 0) (mf_dat eX12_dayBy_p1 22 rfl) (by decide) ?_
    refine mf_istore_n (mf_dat eX12_dayBy_p1 23 rfl) rfl (by decide) ?_
    exact mf_sub [1, 0] rfl hyp
  · replace hyp := hyp.2 hc
    refine mf_aload_n (mf_dat eX12_dayBy_p0 43 rfl) rfl rfl ?_
    refine mf_getf (r := (RX12, TX12, 106)) (ci := 12) (k := 49) (t := 2) (v := g2 x0 49) (mf_dat eX12_dayBy_p0 44 rfl) fl_X12_127 rfl (by decide) rfl rfl ck4 ?_
    refine mf_iconst (v := 5) (mf_dat eX12_dayBy_p0 45 rfl) (by decide) ?_
    obtain ⟨ck5, hyp⟩ := hyp
    obtain ⟨ck6, hyp⟩ := hyp
    refine mf_iald (mf_dat eX12_dayBy_p0 46 rfl) ck5 (by decide) ck6 ?_
    refine mf_iconst (v := (-1)) (mf_dat eX12_dayBy_p0 47 rfl) (by decide) ?_
    refine mf_icmp_ne (tgt := 94) (mf_dat eX12_dayBy_p0 48 rfl) (by decide) (fun hc => ?_) (fun hc => ?_)
    · replace hyp := hyp.1 hc
      refine mf_aload_n (mf_dat eX12_dayBy_p0 54 rfl) rfl rfl ?_
      refine mf_iconst (v := 1) (mf_dat eX12_dayBy_p0 55 rfl) (by decide) ?_
      refine mf_iload_n (mf_dat eX12_dayBy_p0 56 rfl) rfl rfl ?_
      refine mf_callV (Yc := YX12_codesTell) (r := (RX12, TX12, 106)) (ci := 12) (mf_dat eX12_dayBy_p0 57 rfl) ml_X12_439 okX12_codesTell im_X12_codesTell sl_X12_codesTell rfl rfl rfl rfl (Nat.le_of_ble_eq_true rfl) (mf_rr (Nat.le_trans (by decide) hd) (Nat.le_refl _)) (Nat.le_refl _) ck4 hyp (fun r7 g8 h9 hyp => ?_)
      exact mf_sub [0, 1] rfl hyp
    · replace hyp := hyp.2 hc
      refine mf_aload_n (mf_dat eX12_dayBy_p0 49 rfl) rfl rfl ?_
      refine mf_iload_n (mf_dat eX12_dayBy_p0 50 rfl) rfl rfl ?_
      refine mf_callV (Yc := YX12_cellOf) (r := (RX12, TX12, 106)) (ci := 12) (mf_dat eX12_dayBy_p0 51 rfl) ml_X12_413 okX12_cellOf im_X12_cellOf sl_X12_cellOf rfl rfl rfl rfl (Nat.le_of_ble_eq_true rfl) (mf_rr (Nat.le_trans (by decide) hd) (Nat.le_refl _)) (Nat.le_refl _) ck4 hyp (fun r10 g11 h12 hyp => ?_)
      refine mf_i2l (mf_dat eX12_dayBy_p0 52 rfl) ?_
      refine mf_goto (tgt := 100) (mf_dat eX12_dayBy_p0 53 rfl) (by decide) ?_
      exact mf_sub [0, 1] rfl hyp
set_option maxRecDepth 100000 in
set_option maxHeartbeats 4000000 in
theorem bX12_dayBy_100 {C : mf_G} {l : Launch} {d n : Nat} {K : mf_Kt} {x0 x2 s0 : Int} {g h : mf_M} (hd : 1 ≤ d) (hyp : mf_is n x0 12 ∧ mf_MT C l 0 YX12_purseOf [(2, x0), (0, x2)] n n g h (fun r1 g2 h3 => (((-99) ≤ s0 → ((s0 ≤ 99 → mf_MT C l 0 YX12_purseIs [(2, x0), (0, x2), (1, mf_w64 (r1 + s0))] n n g2 h3 (fun r5 g6 h7 => (∀ v8 : Int, v8 = mf_w32 (x2 + 1) → JX12_dayBy_67 C l d n K x0 v8 g6 h7))) ∧ (¬ s0 ≤ 99 → mf_MT C l 0 YX12_purseIs [(2, x0), (0, x2), (1, mf_w64 (r1 + 99))] n n g2 h3 (fun r9 g10 h11 => (∀ v12 : Int, v12 = mf_w32 (x2 + 1) → JX12_dayBy_67 C l d n K x0 v12 g10 h11))))) ∧ (¬ (-99) ≤ s0 → mf_MT C l 0 YX12_purseIs [(2, x0), (0, x2), (1, mf_w64 (r1 + (-99)))] n n g2 h3 (fun r13 g14 h15 => (∀ v16 : Int, v16 = mf_w32 (x2 + 1) → JX12_dayBy_67 C l d n K x0 v16 g14 h15)))))) : JX12_dayBy_100 C l d n K x0 x2 s0 g h := by
  refine mf_lstore_n (mf_dat eX12_dayBy_p0 58 rfl) rfl (by decide) ?_
  refine mf_aload_n (mf_dat eX12_dayBy_p0 59 rfl) rfl rfl ?_
  refine mf_iload_n (mf_dat eX12_dayBy_p1 0 rfl) rfl rfl ?_
  refine mf_aload_n (mf_dat eX12_dayBy_p1 1 rfl) rfl rfl ?_
  refine mf_iload_n (mf_dat eX12_dayBy_p1 2 rfl) rfl rfl ?_
  obtain ⟨ck4, hyp⟩ := hyp
  refine mf_callV (Yc := YX12_purseOf) (r := (RX12, TX12, 106)) (ci := 12) (mf_dat eX12_dayBy_p1 3 rfl) ml_X12_445 okX12_purseOf im_X12_purseOf sl_X12_purseOf rfl rfl rfl rfl (Nat.le_of_ble_eq_true rfl) (mf_rr (Nat.le_trans (by decide) hd) (Nat.le_refl _)) (Nat.le_refl _) ck4 hyp (fun r1 g2 h3 hyp => ?_)
  refine mf_i2l (mf_dat eX12_dayBy_p1 4 rfl) ?_
  refine mf_lload_n (mf_dat eX12_dayBy_p1 5 rfl) rfl rfl ?_
  refine mf_ldc2 (v := (-99)) cl_X12_477 (mf_dat eX12_dayBy_p1 6 rfl) (by decide) ?_
  refine mf_lcmp_ge (tgt := 123) (mf_dat eX12_dayBy_p1 7 rfl) (mf_dat eX12_dayBy_p1 8 rfl) (by decide) (fun hc => ?_) (fun hc => ?_)
  · replace hyp := hyp.1 hc
    refine mf_lload_n (mf_dat eX12_dayBy_p1 11 rfl) rfl rfl ?_
    refine mf_ldc2 (v := 99) cl_X12_479 (mf_dat eX12_dayBy_p1 12 rfl) (by decide) ?_
    refine mf_lcmp_le (tgt := 137) (mf_dat eX12_dayBy_p1 13 rfl) (mf_dat eX12_dayBy_p1 14 rfl) (by decide) (fun hc => ?_) (fun hc => ?_)
    · replace hyp := hyp.1 hc
      refine mf_lload_n (mf_dat eX12_dayBy_p1 17 rfl) rfl rfl ?_
      refine mf_ladd (mf_dat eX12_dayBy_p1 18 rfl) ?_
      refine mf_callV (Yc := YX12_purseIs) (r := (RX12, TX12, 106)) (ci := 12) (mf_dat eX12_dayBy_p1 19 rfl) ml_X12_448 okX12_purseIs im_X12_purseIs sl_X12_purseIs rfl rfl rfl rfl (Nat.le_of_ble_eq_true rfl) (mf_rr (Nat.le_trans (by decide) hd) (Nat.le_refl _)) (Nat.le_refl _) ck4 hyp (fun r5 g6 h7 hyp => ?_)
      refine mf_iinc (mf_dat eX12_dayBy_p1 20 rfl) rfl (by decide) (by decide) ?_
      generalize qv8 : mf_w32 (x2 + 1) = v8
      replace hyp := hyp _ qv8.symm
      refine mf_goto (tgt := 67) (mf_dat eX12_dayBy_p1 21 rfl) (by decide) ?_
      exact mf_sub [2, 0] rfl hyp
    · replace hyp := hyp.2 hc
      refine mf_ldc2 (v := 99) cl_X12_479 (mf_dat eX12_dayBy_p1 15 rfl) (by decide) ?_
      refine mf_goto (tgt := 138) (mf_dat eX12_dayBy_p1 16 rfl) (by decide) ?_
      refine mf_ladd (mf_dat eX12_dayBy_p1 18 rfl) ?_
      refine mf_callV (Yc := YX12_purseIs) (r := (RX12, TX12, 106)) (ci := 12) (mf_dat eX12_dayBy_p1 19 rfl) ml_X12_448 okX12_purseIs im_X12_purseIs sl_X12_purseIs rfl rfl rfl rfl (Nat.le_of_ble_eq_true rfl) (mf_rr (Nat.le_trans (by decide) hd) (Nat.le_refl _)) (Nat.le_refl _) ck4 hyp (fun r9 g10 h11 hyp => ?_)
      refine mf_iinc (mf_dat eX12_dayBy_p1 20 rfl) rfl (by decide) (by decide) ?_
      generalize qv12 : mf_w32 (x2 + 1) = v12
      replace hyp := hyp _ qv12.symm
      refine mf_goto (tgt := 67) (mf_dat eX12_dayBy_p1 21 rfl) (by decide) ?_
      exact mf_sub [2, 0] rfl hyp
  · replace hyp := hyp.2 hc
    refine mf_ldc2 (v := (-99)) cl_X12_477 (mf_dat eX12_dayBy_p1 9 rfl) (by decide) ?_
    refine mf_goto (tgt := 138) (mf_dat eX12_dayBy_p1 10 rfl) (by decide) ?_
    refine mf_ladd (mf_dat eX12_dayBy_p1 18 rfl) ?_
    refine mf_callV (Yc := YX12_purseIs) (r := (RX12, TX12, 106)) (ci := 12) (mf_dat eX12_dayBy_p1 19 rfl) ml_X12_448 okX12_purseIs im_X12_purseIs sl_X12_purseIs rfl rfl rfl rfl (Nat.le_of_ble_eq_true rfl) (mf_rr (Nat.le_trans (by decide) hd) (Nat.le_refl _)) (Nat.le_refl _) ck4 hyp (fun r13 g14 h15 hyp => ?_)
    refine mf_iinc (mf_dat eX12_dayBy_p1 20 rfl) rfl (by decide) (by decide) ?_
    generalize qv16 : mf_w32 (x2 + 1) = v16
    replace hyp := hyp _ qv16.symm
    refine mf_goto (tgt := 67) (mf_dat eX12_dayBy_p1 21 rfl) (by decide) ?_
    exact mf_sub [2, 0] rfl hyp
set_option maxRecDepth 100000 in
set_option maxHeartbeats 4000000 in
theorem bX12_dayBy_150 {C : mf_G} {l : Launch} {d n : Nat} {K : mf_Kt} {x0 x2 : Int} {g h : mf_M} (hd : 3 ≤ d) (hyp : mf_is n x0 12 ∧ mf_MT C l 0 YX12_beingMany [(2, x0)] n n g h (fun r1 g2 h3 => ((r1 ≤ x2 → mf_is n (g2 x0 56) 20 ∧ 0 < mf_len (g2 x0 56) ∧ (∀ h7 : mf_M, h7 = mf_up h3 (g2 x0 56) 0 (mf_w32 ((h3 (g2 x0 56) 0) + 1)) → K 0 g2 h7)) ∧ (¬ r1 ≤ x2 → mf_is n (g2 x0 49) 20 ∧ 7 < mf_len (g2 x0 49) ∧ ((h3 (g2 x0 49) 7 = (-1) → (∀ v10 : Int, v10 = mf_w32 (x2 + 1) → JX12_dayBy_150 C l d n K x0 v10 g2 h3)) ∧ (¬ h3 (g2 x0 49) 7 = (-1) → mf_MT C l 2 YX12_codesTell [(2, x0), (0, 3), (0, x2)] n n g2 h3 (fun r11 g12 h13 => ((r11 = 1 → mf_MT C l 0 YX12_cellOf [(2, x0), (0, x2)] n n g12 h13 (fun r14 g15 h16 => (∀ v17 : Int, v17 = mf_w32 (r14 + 1) → mf_is n (g15 x0 40) 20 ∧ 3 < mf_len (g15 x0 40) ∧ ((h16 (g15 x0 40) 3 ≤ v17 → (∀ v20 : Int, v20 = mf_w32 (x2 + 1) → JX12_dayBy_150 C l d n K x0 v20 g15 h16)) ∧ (¬ h16 (g15 x0 40) 3 ≤ v17 → mf_MT C l 0 YX12_leafOf [(2, x0), (0, x2)] n n g15 h16 (fun r21 g22 h23 => mf_MT C l 0 YX12_hasGloss [(2, x0), (0, r21), (0, v17)] n n g22 h23 (fun r24 g25 h26 => ((¬ r24 = 0 → (∀ v27 : Int, v27 = mf_w32 (x2 + 1) → JX12_dayBy_150 C l d n K x0 v27 g25 h26)) ∧ (r24 = 0 → mf_MT C l 0 YX12_leafOf [(2, x0), (0, x2)] n n g25 h26 (fun r28 g29 h30 => mf_MT C l 1 YX12_standsOn [(2, x0), (0, r28), (0, v17)] n n g29 h30 (fun r31 g32 h33 => ((¬ r31 = (-1) → (∀ v34 : Int, v34 = mf_w32 (x2 + 1) → JX12_dayBy_150 C l d n K x0 v34 g32 h33)) ∧ (r31 = (-1) → mf_is n (g32 x0 56) 20 ∧ 0 ≤ mf_w32 ((mf_w32 (7 + (mf_w32 (4 * x2)))) + 1) ∧ mf_w32 ((mf_w32 (7 + (mf_w32 (4 * x2)))) + 1) < mf_len (g32 x0 56) ∧ (∀ h38 : mf_M, h38 = mf_up h33 (g32 x0 56) (mf_w32 ((mf_w32 (7 + (mf_w32 (4 * x2)))) + 1)) v17 → (∀ v39 : Int, v39 = mf_w32 (x2 + 1) → JX12_dayBy_150 C l d n K x0 v39 g32 h38))))))))))))))) ∧ (¬ r11 = 1 → (∀ v40 : Int, v40 = mf_w32 (x2 + 1) → JX12_dayBy_150 C l d n K x0 v40 g12 h13)))))))))) : JX12_dayBy_150 C l d n K x0 x2 g h := by
  refine mf_iload_n (mf_dat eX12_dayBy_p1 24 rfl) rfl rfl ?_
  refine mf_aload_n (mf_dat eX12_dayBy_p1 25 rfl) rfl rfl ?_
  obtain ⟨ck4, hyp⟩ := hyp
  refine mf_callV (Yc := YX12_beingMany) (r := (RX12, TX12, 106)) (ci := 12) (mf_dat eX12_dayBy_p1 26 rfl) ml_X12_402 okX12_beingMany im_X12_beingMany sl_X12_beingMany rfl rfl rfl rfl (Nat.le_of_ble_eq_true rfl) (mf_rr (Nat.le_trans (by decide) hd) (Nat.le_refl _)) (Nat.le_refl _) ck4 hyp (fun r1 g2 h3 hyp => ?_)
  refine mf_icmp_ge (tgt := 248) (mf_dat eX12_dayBy_p1 27 rfl) (by decide) (fun hc => ?_) (fun hc => ?_)
  · replace hyp := hyp.1 hc
    refine mf_aload_n (mf_dat eX12_dayBy_p2 22 rfl) rfl rfl ?_
    refine mf_getf (r := (RX12, TX12, 106)) (ci := 12) (k := 56) (t := 2) (v := g2 x0 56) (mf_dat eX12_dayBy_p2 23 rfl) fl_X12_136 rfl (by decide) rfl rfl ck4 ?_
    refine mf_iconst (v := 0) (mf_dat eX12_dayBy_p2 24 rfl) (by decide) ?_
    refine mf_dup2 (mf_dat eX12_dayBy_p2 25 rfl) (by decide) (by decide) ?_
    obtain ⟨ck5, hyp⟩ := hyp
    obtain ⟨ck6, hyp⟩ := hyp
    refine mf_iald (mf_dat eX12_dayBy_p2 26 rfl) ck5 (by decide) ck6 ?_
    refine mf_iconst (v := 1) (mf_dat eX12_dayBy_p2 27 rfl) (by decide) ?_
    refine mf_iadd (mf_dat eX12_dayBy_p2 28 rfl) ?_
    refine mf_iast (mf_dat eX12_dayBy_p2 29 rfl) ck5 (by decide) ck6 ?_
    generalize qh7 : mf_up h3 (g2 x0 56) 0 (mf_w32 ((h3 (g2 x0 56) 0) + 1)) = h7
    replace hyp := hyp _ qh7.symm
    exact mf_return (mf_dat eX12_dayBy_p2 30 rfl) rfl hyp
  · replace hyp := hyp.2 hc
    refine mf_aload_n (mf_dat eX12_dayBy_p1 28 rfl) rfl rfl ?_
    refine mf_getf (r := (RX12, TX12, 106)) (ci := 12) (k := 49) (t := 2) (v := g2 x0 49) (mf_dat eX12_dayBy_p1 29 rfl) fl_X12_127 rfl (by decide) rfl rfl ck4 ?_
    refine mf_bipush (v := 7) (mf_dat eX12_dayBy_p1 30 rfl) (by decide) ?_
    obtain ⟨ck8, hyp⟩ := hyp
    obtain ⟨ck9, hyp⟩ := hyp
    refine mf_iald (mf_dat eX12_dayBy_p1 31 rfl) ck8 (by decide) ck9 ?_
    refine mf_iconst (v := (-1)) (mf_dat eX12_dayBy_p1 32 rfl) (by decide) ?_
    refine mf_icmp_eq (tgt := 242) (mf_dat eX12_dayBy_p1 33 rfl) (by decide) (fun hc => ?_) (fun hc => ?_)
    · replace hyp := hyp.1 hc
      refine mf_iinc (mf_dat eX12_dayBy_p2 20 rfl) rfl (by decide) (by decide) ?_
      generalize qv10 : mf_w32 (x2 + 1) = v10
      replace hyp := hyp _ qv10.symm
      refine mf_goto (tgt := 150) (mf_dat eX12_dayBy_p2 21 rfl) (by decide) ?_
      exact mf_sub [1, 0] rfl hyp
    · replace hyp := hyp.2 hc
      refine mf_aload_n (mf_dat eX12_dayBy_p1 34 rfl) rfl rfl ?_
      refine mf_iconst (v := 3) (mf_dat eX12_dayBy_p1 35 rfl) (by decide) ?_
      refine mf_iload_n (mf_dat eX12_dayBy_p1 36 rfl) rfl rfl ?_
      refine mf_callV (Yc := YX12_codesTell) (r := (RX12, TX12, 106)) (ci := 12) (mf_dat eX12_dayBy_p1 37 rfl) ml_X12_439 okX12_codesTell im_X12_codesTell sl_X12_codesTell rfl rfl rfl rfl (Nat.le_of_ble_eq_true rfl) (mf_rr (Nat.le_trans (by decide) hd) (Nat.le_refl _)) (Nat.le_refl _) ck4 hyp (fun r11 g12 h13 hyp => ?_)
      refine mf_lconst (v := 1) (mf_dat eX12_dayBy_p1 38 rfl) (by decide) ?_
      refine mf_lcmp_eq (tgt := 183) (mf_dat eX12_dayBy_p1 39 rfl) (mf_dat eX12_dayBy_p1 40 rfl) (by decide) (fun hc => ?_) (fun hc => ?_)
      · replace hyp := hyp.1 hc
        refine mf_aload_n (mf_dat eX12_dayBy_p1 42 rfl) rfl rfl ?_
        refine mf_iload_n (mf_dat eX12_dayBy_p1 43 rfl) rfl rfl ?_
        refine mf_callV (Yc := YX12_cellOf) (r := (RX12, TX12, 106)) (ci := 12) (mf_dat eX12_dayBy_p1 44 rfl) ml_X12_413 okX12_cellOf im_X12_cellOf sl_X12_cellOf rfl rfl rfl rfl (Nat.le_of_ble_eq_true rfl) (mf_rr (Nat.le_trans (by decide) hd) (Nat.le_refl _)) (Nat.le_refl _) ck4 hyp (fun r14 g15 h16 hyp => ?_)
        refine mf_iconst (v := 1) (mf_dat eX12_dayBy_p1 45 rfl) (by decide) ?_
        refine mf_iadd (mf_dat eX12_dayBy_p1 46 rfl) ?_
        generalize qv17 : mf_w32 (r14 + 1) = v17
        replace hyp := hyp _ qv17.symm
        refine mf_istore_n (mf_dat eX12_dayBy_p1 47 rfl) rfl (by decide) ?_
        refine mf_iload_n (mf_dat eX12_dayBy_p1 48 rfl) rfl rfl ?_
        refine mf_aload_n (mf_dat eX12_dayBy_p1 49 rfl) rfl rfl ?_
        refine mf_getf (r := (RX12, TX12, 106)) (ci := 12) (k := 40) (t := 2) (v := g15 x0 40) (mf_dat eX12_dayBy_p1 50 rfl) fl_X12_105 rfl (by decide) rfl rfl ck4 ?_
        refine mf_iconst (v := 3) (mf_dat eX12_dayBy_p1 51 rfl) (by decide) ?_
        obtain ⟨ck18, hyp⟩ := hyp
        obtain ⟨ck19, hyp⟩ := hyp
        refine mf_iald (mf_dat eX12_dayBy_p1 52 rfl) ck18 (by decide) ck19 ?_
        refine mf_icmp_ge (tgt := 242) (mf_dat eX12_dayBy_p1 53 rfl) (by decide) (fun hc => ?_) (fun hc => ?_)
        · replace hyp := hyp.1 hc
          refine mf_iinc (mf_dat eX12_dayBy_p2 20 rfl) rfl (by decide) (by decide) ?_
          generalize qv20 : mf_w32 (x2 + 1) = v20
          replace hyp := hyp _ qv20.symm
          refine mf_goto (tgt := 150) (mf_dat eX12_dayBy_p2 21 rfl) (by decide) ?_
          exact mf_sub [2, 0] rfl hyp
        · replace hyp := hyp.2 hc
          refine mf_aload_n (mf_dat eX12_dayBy_p1 54 rfl) rfl rfl ?_
          refine mf_aload_n (mf_dat eX12_dayBy_p1 55 rfl) rfl rfl ?_
          refine mf_iload_n (mf_dat eX12_dayBy_p1 56 rfl) rfl rfl ?_
          refine mf_callV (Yc := YX12_leafOf) (r := (RX12, TX12, 106)) (ci := 12) (mf_dat eX12_dayBy_p1 57 rfl) ml_X12_410 okX12_leafOf im_X12_leafOf sl_X12_leafOf rfl rfl rfl rfl (Nat.le_of_ble_eq_true rfl) (mf_rr (Nat.le_trans (by decide) hd) (Nat.le_refl _)) (Nat.le_refl _) ck4 hyp (fun r21 g22 h23 hyp => ?_)
          refine mf_iload_n (mf_dat eX12_dayBy_p1 58 rfl) rfl rfl ?_
          refine mf_callV (Yc := YX12_hasGloss) (r := (RX12, TX12, 106)) (ci := 12) (mf_dat eX12_dayBy_p1 59 rfl) ml_X12_481 okX12_hasGloss im_X12_hasGloss sl_X12_hasGloss rfl rfl rfl rfl (Nat.le_of_ble_eq_true rfl) (mf_rr (Nat.le_trans (by decide) hd) (Nat.le_refl _)) (Nat.le_refl _) ck4 hyp (fun r24 g25 h26 hyp => ?_)
          refine mf_if_ne (tgt := 242) (mf_dat eX12_dayBy_p2 0 rfl) (by decide) (fun hc => ?_) (fun hc => ?_)
          · replace hyp := hyp.1 hc
            refine mf_iinc (mf_dat eX12_dayBy_p2 20 rfl) rfl (by decide) (by decide) ?_
            generalize qv27 : mf_w32 (x2 + 1) = v27
            replace hyp := hyp _ qv27.symm
            refine mf_goto (tgt := 150) (mf_dat eX12_dayBy_p2 21 rfl) (by decide) ?_
            exact mf_sub [2, 0] rfl hyp
          · replace hyp := hyp.2 hc
            refine mf_aload_n (mf_dat eX12_dayBy_p2 1 rfl) rfl rfl ?_
            refine mf_aload_n (mf_dat eX12_dayBy_p2 2 rfl) rfl rfl ?_
            refine mf_iload_n (mf_dat eX12_dayBy_p2 3 rfl) rfl rfl ?_
            refine mf_callV (Yc := YX12_leafOf) (r := (RX12, TX12, 106)) (ci := 12) (mf_dat eX12_dayBy_p2 4 rfl) ml_X12_410 okX12_leafOf im_X12_leafOf sl_X12_leafOf rfl rfl rfl rfl (Nat.le_of_ble_eq_true rfl) (mf_rr (Nat.le_trans (by decide) hd) (Nat.le_refl _)) (Nat.le_refl _) ck4 hyp (fun r28 g29 h30 hyp => ?_)
            refine mf_iload_n (mf_dat eX12_dayBy_p2 5 rfl) rfl rfl ?_
            refine mf_callV (Yc := YX12_standsOn) (r := (RX12, TX12, 106)) (ci := 12) (mf_dat eX12_dayBy_p2 6 rfl) ml_X12_484 okX12_standsOn im_X12_standsOn sl_X12_standsOn rfl rfl rfl rfl (Nat.le_of_ble_eq_true rfl) (mf_rr (Nat.le_trans (by decide) hd) (Nat.le_refl _)) (Nat.le_refl _) ck4 hyp (fun r31 g32 h33 hyp => ?_)
            refine mf_iconst (v := (-1)) (mf_dat eX12_dayBy_p2 7 rfl) (by decide) ?_
            refine mf_icmp_ne (tgt := 242) (mf_dat eX12_dayBy_p2 8 rfl) (by decide) (fun hc => ?_) (fun hc => ?_)
            · replace hyp := hyp.1 hc
              refine mf_iinc (mf_dat eX12_dayBy_p2 20 rfl) rfl (by decide) (by decide) ?_
              generalize qv34 : mf_w32 (x2 + 1) = v34
              replace hyp := hyp _ qv34.symm
              refine mf_goto (tgt := 150) (mf_dat eX12_dayBy_p2 21 rfl) (by decide) ?_
              exact mf_sub [2, 0] rfl hyp
            · replace hyp := hyp.2 hc
              refine mf_aload_n (mf_dat eX12_dayBy_p2 9 rfl) rfl rfl ?_
              refine mf_getf (r := (RX12, TX12, 106)) (ci := 12) (k := 56) (t := 2) (v := g32 x0 56) (mf_dat eX12_dayBy_p2 10 rfl) fl_X12_136 rfl (by decide) rfl rfl ck4 ?_
              refine mf_bipush (v := 7) (mf_dat eX12_dayBy_p2 11 rfl) (by decide) ?_
              refine mf_iconst (v := 4) (mf_dat eX12_dayBy_p2 12 rfl) (by decide) ?_
              refine mf_iload_n (mf_dat eX12_dayBy_p2 13 rfl) rfl rfl ?_
              refine mf_imul (mf_dat eX12_dayBy_p2 14 rfl) ?_
              refine mf_iadd (mf_dat eX12_dayBy_p2 15 rfl) ?_
              refine mf_iconst (v := 1) (mf_dat eX12_dayBy_p2 16 rfl) (by decide) ?_
              refine mf_iadd (mf_dat eX12_dayBy_p2 17 rfl) ?_
              refine mf_iload_n (mf_dat eX12_dayBy_p2 18 rfl) rfl rfl ?_
              obtain ⟨ck35, hyp⟩ := hyp
              obtain ⟨ck36, hyp⟩ := hyp
              obtain ⟨ck37, hyp⟩ := hyp
              refine mf_iast (mf_dat eX12_dayBy_p2 19 rfl) ck35 ck36 ck37 ?_
              generalize qh38 : mf_up h33 (g32 x0 56) (mf_w32 ((mf_w32 (7 + (mf_w32 (4 * x2)))) + 1)) v17 = h38
              replace hyp := hyp _ qh38.symm
              refine mf_iinc (mf_dat eX12_dayBy_p2 20 rfl) rfl (by decide) (by decide) ?_
              generalize qv39 : mf_w32 (x2 + 1) = v39
              replace hyp := hyp _ qv39.symm
              refine mf_goto (tgt := 150) (mf_dat eX12_dayBy_p2 21 rfl) (by decide) ?_
              exact mf_sub [2, 0] rfl hyp
      · replace hyp := hyp.2 hc
        refine mf_goto (tgt := 242) (mf_dat eX12_dayBy_p1 41 rfl) (by decide) ?_
        refine mf_iinc (mf_dat eX12_dayBy_p2 20 rfl) rfl (by decide) (by decide) ?_
        generalize qv40 : mf_w32 (x2 + 1) = v40
        replace hyp := hyp _ qv40.symm
        refine mf_goto (tgt := 150) (mf_dat eX12_dayBy_p2 21 rfl) (by decide) ?_
        exact mf_sub [1, 0] rfl hyp
set_option maxRecDepth 100000 in
set_option maxHeartbeats 4000000 in
theorem mX12_dayBy {C : mf_G} {l : Launch} {d n : Nat} {K : mf_Kt} {x0 x1 : Int} {g h : mf_M} (hyp : mf_is n x0 12 ∧ (∀ h2 : mf_M, h2 = mf_up h x0 59 x1 → mf_is n (g x0 56) 20 ∧ 0 < mf_len (g x0 56) ∧ (∀ h5 : mf_M, h5 = mf_up h2 x0 58 (h2 (g x0 56) 0) → JX12_dayBy_17 C l d n K x0 x1 0 g h5))) : mf_MT C l d YX12_dayBy [(2, x0), (0, x1)] n n g h K := by
  refine mf_entry (by decide) (Nat.le_of_ble_eq_true rfl) ?_
  refine mf_aload_n (mf_dat eX12_dayBy_p0 0 rfl) rfl rfl ?_
  refine mf_iload_n (mf_dat eX12_dayBy_p0 1 rfl) rfl rfl ?_
  obtain ⟨ck1, hyp⟩ := hyp
  refine mf_putI (r := (RX12, TX12, 106)) (ci := 12) (k := 59) (kI := 59) (t := 0) (mf_dat eX12_dayBy_p0 2 rfl) fl_X12_468 rfl rfl (by decide) rfl (by decide) rfl (by decide) (fun h9 => absurd h9 (by decide)) ck1 ?_
  generalize qh2 : mf_up h x0 59 x1 = h2
  replace hyp := hyp _ qh2.symm
  refine mf_aload_n (mf_dat eX12_dayBy_p0 3 rfl) rfl rfl ?_
  refine mf_aload_n (mf_dat eX12_dayBy_p0 4 rfl) rfl rfl ?_
  refine mf_getf (r := (RX12, TX12, 106)) (ci := 12) (k := 56) (t := 2) (v := g x0 56) (mf_dat eX12_dayBy_p0 5 rfl) fl_X12_136 rfl (by decide) rfl rfl ck1 ?_
  refine mf_iconst (v := 0) (mf_dat eX12_dayBy_p0 6 rfl) (by decide) ?_
  obtain ⟨ck3, hyp⟩ := hyp
  obtain ⟨ck4, hyp⟩ := hyp
  refine mf_iald (mf_dat eX12_dayBy_p0 7 rfl) ck3 (by decide) ck4 ?_
  refine mf_putI (r := (RX12, TX12, 106)) (ci := 12) (k := 58) (kI := 58) (t := 0) (mf_dat eX12_dayBy_p0 8 rfl) fl_X12_436 rfl rfl (by decide) rfl (by decide) rfl (by decide) (fun h9 => absurd h9 (by decide)) ck1 ?_
  generalize qh5 : mf_up h2 x0 58 (h2 (g x0 56) 0) = h5
  replace hyp := hyp _ qh5.symm
  refine mf_iconst (v := 0) (mf_dat eX12_dayBy_p0 9 rfl) (by decide) ?_
  refine mf_istore_n (mf_dat eX12_dayBy_p0 10 rfl) rfl (by decide) ?_
  exact mf_sub [1, 2, 0] rfl hyp
abbrev JX12_daysGo_2 (C : mf_G) (l : Launch) (d n : Nat) (K : mf_Kt) (x0 x1 x2 : Int) (g h : mf_M) : Prop := mf_AW C l YX12_daysGo (mf_rm d n n) n (mf_Zm C YX12_daysGo n n K) (fun _ _ => True) 2 [(0, (2, x0)), (1, (0, x1)), (2, (0, x2))] [] n g h
set_option maxRecDepth 100000 in
set_option maxHeartbeats 4000000 in
theorem bX12_daysGo_2 {C : mf_G} {l : Launch} {d n : Nat} {K : mf_Kt} {x0 x1 x2 : Int} {g h : mf_M} (hd : 5 ≤ d) (hyp : ((x1 ≤ x2 → K 0 g h) ∧ (¬ x1 ≤ x2 → mf_is n x0 12 ∧ mf_is n (g x0 56) 20 ∧ 0 < mf_len (g x0 56) ∧ mf_MT C l 3 YX12_openingOn [(2, x0), (0, h (g x0 56) 0)] n n g h (fun r4 g5 h6 => mf_MT C l 4 YX12_dayBy [(2, x0), (0, r4)] n n g5 h6 (fun r7 g8 h9 => (∀ v10 : Int, v10 = mf_w32 (x2 + 1) → JX12_daysGo_2 C l d n K x0 x1 v10 g8 h9)))))) : JX12_daysGo_2 C l d n K x0 x1 x2 g h := by
  refine mf_iload_n (mf_dat eX12_daysGo 2 rfl) rfl rfl ?_
  refine mf_iload_n (mf_dat eX12_daysGo 3 rfl) rfl rfl ?_
  refine mf_icmp_ge (tgt := 27) (mf_dat eX12_daysGo 4 rfl) (by decide) (fun hc => ?_) (fun hc => ?_)
  · replace hyp := hyp.1 hc
    exact mf_return (mf_dat eX12_daysGo 15 rfl) rfl hyp
  · replace hyp := hyp.2 hc
    refine mf_aload_n (mf_dat eX12_daysGo 5 rfl) rfl rfl ?_
    refine mf_aload_n (mf_dat eX12_daysGo 6 rfl) rfl rfl ?_
    refine mf_aload_n (mf_dat eX12_daysGo 7 rfl) rfl rfl ?_
    obtain ⟨ck1, hyp⟩ := hyp
    refine mf_getf (r := (RX12, TX12, 106)) (ci := 12) (k := 56) (t := 2) (v := g x0 56) (mf_dat eX12_daysGo 8 rfl) fl_X12_136 rfl (by decide) rfl rfl ck1 ?_
    refine mf_iconst (v := 0) (mf_dat eX12_daysGo 9 rfl) (by decide) ?_
    obtain ⟨ck2, hyp⟩ := hyp
    obtain ⟨ck3, hyp⟩ := hyp
    refine mf_iald (mf_dat eX12_daysGo 10 rfl) ck2 (by decide) ck3 ?_
    refine mf_callV (Yc := YX12_openingOn) (r := (RX12, TX12, 106)) (ci := 12) (mf_dat eX12_daysGo 11 rfl) ml_X12_487 okX12_openingOn im_X12_openingOn sl_X12_openingOn rfl rfl rfl rfl (Nat.le_of_ble_eq_true rfl) (mf_rr (Nat.le_trans (by decide) hd) (Nat.le_refl _)) (Nat.le_refl _) ck1 hyp (fun r4 g5 h6 hyp => ?_)
    refine mf_callV (Yc := YX12_dayBy) (r := (RX12, TX12, 106)) (ci := 12) (mf_dat eX12_daysGo 12 rfl) ml_X12_490 okX12_dayBy im_X12_dayBy sl_X12_dayBy rfl rfl rfl rfl (Nat.le_of_ble_eq_true rfl) (mf_rr (Nat.le_trans (by decide) hd) (Nat.le_refl _)) (Nat.le_refl _) ck1 hyp (fun r7 g8 h9 hyp => ?_)
    refine mf_iinc (mf_dat eX12_daysGo 13 rfl) rfl (by decide) (by decide) ?_
    generalize qv10 : mf_w32 (x2 + 1) = v10
    replace hyp := hyp _ qv10.symm
    refine mf_goto (tgt := 2) (mf_dat eX12_daysGo 14 rfl) (by decide) ?_
    exact mf_sub [1, 2, 0] rfl hyp
set_option maxRecDepth 100000 in
set_option maxHeartbeats 4000000 in
theorem mX12_daysGo {C : mf_G} {l : Launch} {d n : Nat} {K : mf_Kt} {x0 x1 : Int} {g h : mf_M} (hyp : JX12_daysGo_2 C l d n K x0 x1 0 g h) : mf_MT C l d YX12_daysGo [(2, x0), (0, x1)] n n g h K := by
  refine mf_entry (by decide) (Nat.le_of_ble_eq_true rfl) ?_
  refine mf_iconst (v := 0) (mf_dat eX12_daysGo 0 rfl) (by decide) ?_
  refine mf_istore_n (mf_dat eX12_daysGo 1 rfl) rfl (by decide) ?_
  exact mf_sub [1, 2, 0] rfl hyp
abbrev JX12_putsAside_7 (C : mf_G) (l : Launch) (d n : Nat) (K : mf_Kt) (x0 x1 : Int) (g h : mf_M) : Prop := mf_AW C l YX12_putsAside (mf_rm d n n) n (mf_Zm C YX12_putsAside n n K) (fun _ _ => True) 7 [(0, (2, x0)), (1, (0, x1))] [] n g h
abbrev JX12_putsAside_38 (C : mf_G) (l : Launch) (d n : Nat) (K : mf_Kt) (x0 x1 : Int) (g h : mf_M) : Prop := mf_AW C l YX12_putsAside (mf_rm d n n) n (mf_Zm C YX12_putsAside n n K) (fun _ _ => True) 38 [(0, (2, x0)), (1, (0, x1))] [] n g h
set_option maxRecDepth 100000 in
set_option maxHeartbeats 4000000 in
theorem bX12_putsAside_7 {C : mf_G} {l : Launch} {d n : Nat} {K : mf_Kt} {x0 x1 : Int} {g h : mf_M} (hyp : ((39 ≤ x1 → mf_is n x0 12 ∧ (∀ h2 : mf_M, h2 = mf_up h x0 62 0 → JX12_putsAside_38 C l d n K x0 0 g h2)) ∧ (¬ 39 ≤ x1 → mf_is n x0 12 ∧ mf_is n (g x0 56) 20 ∧ 0 ≤ x1 ∧ x1 < mf_len (g x0 56) ∧ mf_is n (g x0 57) 20 ∧ x1 < mf_len (g x0 57) ∧ (∀ h9 : mf_M, h9 = mf_up h (g x0 57) x1 (h (g x0 56) x1) → (∀ v10 : Int, v10 = mf_w32 (x1 + 1) → JX12_putsAside_7 C l d n K x0 v10 g h9))))) : JX12_putsAside_7 C l d n K x0 x1 g h := by
  refine mf_iload_n (mf_dat eX12_putsAside 5 rfl) rfl rfl ?_
  refine mf_bipush (v := 39) (mf_dat eX12_putsAside 6 rfl) (by decide) ?_
  refine mf_icmp_ge (tgt := 31) (mf_dat eX12_putsAside 7 rfl) (by decide) (fun hc => ?_) (fun hc => ?_)
  · replace hyp := hyp.1 hc
    refine mf_aload_n (mf_dat eX12_putsAside 18 rfl) rfl rfl ?_
    refine mf_iconst (v := 0) (mf_dat eX12_putsAside 19 rfl) (by decide) ?_
    obtain ⟨ck1, hyp⟩ := hyp
    refine mf_putI (r := (RX12, TX12, 106)) (ci := 12) (k := 62) (kI := 62) (t := 0) (mf_dat eX12_putsAside 20 rfl) fl_X12_452 rfl rfl (by decide) rfl (by decide) rfl (by decide) (fun h9 => absurd h9 (by decide)) ck1 ?_
    generalize qh2 : mf_up h x0 62 0 = h2
    replace hyp := hyp _ qh2.symm
    refine mf_iconst (v := 0) (mf_dat eX12_putsAside 21 rfl) (by decide) ?_
    refine mf_istore_n (mf_dat eX12_putsAside 22 rfl) rfl (by decide) ?_
    exact mf_sub [1, 0] rfl hyp
  · replace hyp := hyp.2 hc
    refine mf_aload_n (mf_dat eX12_putsAside 8 rfl) rfl rfl ?_
    obtain ⟨ck3, hyp⟩ := hyp
    refine mf_getf (r := (RX12, TX12, 106)) (ci := 12) (k := 57) (t := 2) (v := g x0 57) (mf_dat eX12_putsAside 9 rfl) fl_X12_139 rfl (by decide) rfl rfl ck3 ?_
    refine mf_iload_n (mf_dat eX12_putsAside 10 rfl) rfl rfl ?_
    refine mf_aload_n (mf_dat eX12_putsAside 11 rfl) rfl rfl ?_
    refine mf_getf (r := (RX12, TX12, 106)) (ci := 12) (k := 56) (t := 2) (v := g x0 56) (mf_dat eX12_putsAside 12 rfl) fl_X12_136 rfl (by decide) rfl rfl ck3 ?_
    refine mf_iload_n (mf_dat eX12_putsAside 13 rfl) rfl rfl ?_
    obtain ⟨ck4, hyp⟩ := hyp
    obtain ⟨ck5, hyp⟩ := hyp
    obtain ⟨ck6, hyp⟩ := hyp
    refine mf_iald (mf_dat eX12_putsAside 14 rfl) ck4 ck5 ck6 ?_
    obtain ⟨ck7, hyp⟩ := hyp
    obtain ⟨ck8, hyp⟩ := hyp
    refine mf_iast (mf_dat eX12_putsAside 15 rfl) ck7 ck5 ck8 ?_
    generalize qh9 : mf_up h (g x0 57) x1 (h (g x0 56) x1) = h9
    replace hyp := hyp _ qh9.symm
    refine mf_iinc (mf_dat eX12_putsAside 16 rfl) rfl (by decide) (by decide) ?_
    generalize qv10 : mf_w32 (x1 + 1) = v10
    replace hyp := hyp _ qv10.symm
    refine mf_goto (tgt := 7) (mf_dat eX12_putsAside 17 rfl) (by decide) ?_
    exact mf_sub [1, 0] rfl hyp
set_option maxRecDepth 100000 in
set_option maxHeartbeats 4000000 in
theorem bX12_putsAside_38 {C : mf_G} {l : Launch} {d n : Nat} {K : mf_Kt} {x0 x1 : Int} {g h : mf_M} (hyp : ((8 ≤ x1 → K 0 g h) ∧ (¬ 8 ≤ x1 → mf_is n x0 12 ∧ mf_is n (g x0 63) 20 ∧ 0 ≤ x1 ∧ x1 < mf_len (g x0 63) ∧ (∀ h5 : mf_M, h5 = mf_up h (g x0 63) x1 0 → (∀ v6 : Int, v6 = mf_w32 (x1 + 1) → JX12_putsAside_38 C l d n K x0 v6 g h5))))) : JX12_putsAside_38 C l d n K x0 x1 g h := by
  refine mf_iload_n (mf_dat eX12_putsAside 23 rfl) rfl rfl ?_
  refine mf_bipush (v := 8) (mf_dat eX12_putsAside 24 rfl) (by decide) ?_
  refine mf_icmp_ge (tgt := 57) (mf_dat eX12_putsAside 25 rfl) (by decide) (fun hc => ?_) (fun hc => ?_)
  · replace hyp := hyp.1 hc
    exact mf_return (mf_dat eX12_putsAside 33 rfl) rfl hyp
  · replace hyp := hyp.2 hc
    refine mf_aload_n (mf_dat eX12_putsAside 26 rfl) rfl rfl ?_
    obtain ⟨ck1, hyp⟩ := hyp
    refine mf_getf (r := (RX12, TX12, 106)) (ci := 12) (k := 63) (t := 2) (v := g x0 63) (mf_dat eX12_putsAside 27 rfl) fl_X12_142 rfl (by decide) rfl rfl ck1 ?_
    refine mf_iload_n (mf_dat eX12_putsAside 28 rfl) rfl rfl ?_
    refine mf_iconst (v := 0) (mf_dat eX12_putsAside 29 rfl) (by decide) ?_
    obtain ⟨ck2, hyp⟩ := hyp
    obtain ⟨ck3, hyp⟩ := hyp
    obtain ⟨ck4, hyp⟩ := hyp
    refine mf_iast (mf_dat eX12_putsAside 30 rfl) ck2 ck3 ck4 ?_
    generalize qh5 : mf_up h (g x0 63) x1 0 = h5
    replace hyp := hyp _ qh5.symm
    refine mf_iinc (mf_dat eX12_putsAside 31 rfl) rfl (by decide) (by decide) ?_
    generalize qv6 : mf_w32 (x1 + 1) = v6
    replace hyp := hyp _ qv6.symm
    refine mf_goto (tgt := 38) (mf_dat eX12_putsAside 32 rfl) (by decide) ?_
    exact mf_sub [1, 0] rfl hyp
set_option maxRecDepth 100000 in
set_option maxHeartbeats 4000000 in
theorem mX12_putsAside {C : mf_G} {l : Launch} {d n : Nat} {K : mf_Kt} {x0 : Int} {g h : mf_M} (hyp : mf_is n x0 12 ∧ (∀ h2 : mf_M, h2 = mf_up h x0 61 1 → JX12_putsAside_7 C l d n K x0 0 g h2)) : mf_MT C l d YX12_putsAside [(2, x0)] n n g h K := by
  refine mf_entry (by decide) (Nat.le_of_ble_eq_true rfl) ?_
  refine mf_aload_n (mf_dat eX12_putsAside 0 rfl) rfl rfl ?_
  refine mf_iconst (v := 1) (mf_dat eX12_putsAside 1 rfl) (by decide) ?_
  obtain ⟨ck1, hyp⟩ := hyp
  refine mf_putI (r := (RX12, TX12, 106)) (ci := 12) (k := 61) (kI := 61) (t := 0) (mf_dat eX12_putsAside 2 rfl) fl_X12_442 rfl rfl (by decide) rfl (by decide) rfl (by decide) (fun _ => by decide) ck1 ?_
  generalize qh2 : mf_up h x0 61 1 = h2
  replace hyp := hyp _ qh2.symm
  refine mf_iconst (v := 0) (mf_dat eX12_putsAside 3 rfl) (by decide) ?_
  refine mf_istore_n (mf_dat eX12_putsAside 4 rfl) rfl (by decide) ?_
  exact mf_sub [1, 0] rfl hyp
abbrev JX12_triesAnew_2 (C : mf_G) (l : Launch) (d n : Nat) (K : mf_Kt) (x0 x1 : Int) (g h : mf_M) : Prop := mf_AW C l YX12_triesAnew (mf_rm d n n) n (mf_Zm C YX12_triesAnew n n K) (fun _ _ => True) 2 [(0, (2, x0)), (1, (0, x1))] [] n g h
set_option maxRecDepth 100000 in
set_option maxHeartbeats 4000000 in
theorem bX12_triesAnew_2 {C : mf_G} {l : Launch} {d n : Nat} {K : mf_Kt} {x0 x1 : Int} {g h : mf_M} (hyp : ((39 ≤ x1 → mf_is n x0 12 ∧ (∀ h2 : mf_M, h2 = mf_up h x0 62 0 → K 0 g h2)) ∧ (¬ 39 ≤ x1 → mf_is n x0 12 ∧ mf_is n (g x0 57) 20 ∧ 0 ≤ x1 ∧ x1 < mf_len (g x0 57) ∧ mf_is n (g x0 56) 20 ∧ x1 < mf_len (g x0 56) ∧ (∀ h9 : mf_M, h9 = mf_up h (g x0 56) x1 (h (g x0 57) x1) → (∀ v10 : Int, v10 = mf_w32 (x1 + 1) → JX12_triesAnew_2 C l d n K x0 v10 g h9))))) : JX12_triesAnew_2 C l d n K x0 x1 g h := by
  refine mf_iload_n (mf_dat eX12_triesAnew 2 rfl) rfl rfl ?_
  refine mf_bipush (v := 39) (mf_dat eX12_triesAnew 3 rfl) (by decide) ?_
  refine mf_icmp_ge (tgt := 26) (mf_dat eX12_triesAnew 4 rfl) (by decide) (fun hc => ?_) (fun hc => ?_)
  · replace hyp := hyp.1 hc
    refine mf_aload_n (mf_dat eX12_triesAnew 15 rfl) rfl rfl ?_
    refine mf_iconst (v := 0) (mf_dat eX12_triesAnew 16 rfl) (by decide) ?_
    obtain ⟨ck1, hyp⟩ := hyp
    refine mf_putI (r := (RX12, TX12, 106)) (ci := 12) (k := 62) (kI := 62) (t := 0) (mf_dat eX12_triesAnew 17 rfl) fl_X12_452 rfl rfl (by decide) rfl (by decide) rfl (by decide) (fun h9 => absurd h9 (by decide)) ck1 ?_
    generalize qh2 : mf_up h x0 62 0 = h2
    replace hyp := hyp _ qh2.symm
    exact mf_return (mf_dat eX12_triesAnew 18 rfl) rfl hyp
  · replace hyp := hyp.2 hc
    refine mf_aload_n (mf_dat eX12_triesAnew 5 rfl) rfl rfl ?_
    obtain ⟨ck3, hyp⟩ := hyp
    refine mf_getf (r := (RX12, TX12, 106)) (ci := 12) (k := 56) (t := 2) (v := g x0 56) (mf_dat eX12_triesAnew 6 rfl) fl_X12_136 rfl (by decide) rfl rfl ck3 ?_
    refine mf_iload_n (mf_dat eX12_triesAnew 7 rfl) rfl rfl ?_
    refine mf_aload_n (mf_dat eX12_triesAnew 8 rfl) rfl rfl ?_
    refine mf_getf (r := (RX12, TX12, 106)) (ci := 12) (k := 57) (t := 2) (v := g x0 57) (mf_dat eX12_triesAnew 9 rfl) fl_X12_139 rfl (by decide) rfl rfl ck3 ?_
    refine mf_iload_n (mf_dat eX12_triesAnew 10 rfl) rfl rfl ?_
    obtain ⟨ck4, hyp⟩ := hyp
    obtain ⟨ck5, hyp⟩ := hyp
    obtain ⟨ck6, hyp⟩ := hyp
    refine mf_iald (mf_dat eX12_triesAnew 11 rfl) ck4 ck5 ck6 ?_
    obtain ⟨ck7, hyp⟩ := hyp
    obtain ⟨ck8, hyp⟩ := hyp
    refine mf_iast (mf_dat eX12_triesAnew 12 rfl) ck7 ck5 ck8 ?_
    generalize qh9 : mf_up h (g x0 56) x1 (h (g x0 57) x1) = h9
    replace hyp := hyp _ qh9.symm
    refine mf_iinc (mf_dat eX12_triesAnew 13 rfl) rfl (by decide) (by decide) ?_
    generalize qv10 : mf_w32 (x1 + 1) = v10
    replace hyp := hyp _ qv10.symm
    refine mf_goto (tgt := 2) (mf_dat eX12_triesAnew 14 rfl) (by decide) ?_
    exact mf_sub [1, 0] rfl hyp
set_option maxRecDepth 100000 in
set_option maxHeartbeats 4000000 in
theorem mX12_triesAnew {C : mf_G} {l : Launch} {d n : Nat} {K : mf_Kt} {x0 : Int} {g h : mf_M} (hyp : JX12_triesAnew_2 C l d n K x0 0 g h) : mf_MT C l d YX12_triesAnew [(2, x0)] n n g h K := by
  refine mf_entry (by decide) (Nat.le_of_ble_eq_true rfl) ?_
  refine mf_iconst (v := 0) (mf_dat eX12_triesAnew 0 rfl) (by decide) ?_
  refine mf_istore_n (mf_dat eX12_triesAnew 1 rfl) rfl (by decide) ?_
  exact mf_sub [1, 0] rfl hyp
abbrev JX12_takesBack_2 (C : mf_G) (l : Launch) (d n : Nat) (K : mf_Kt) (x0 x1 : Int) (g h : mf_M) : Prop := mf_AW C l YX12_takesBack (mf_rm d n n) n (mf_Zm C YX12_takesBack n n K) (fun _ _ => True) 2 [(0, (2, x0)), (1, (0, x1))] [] n g h
set_option maxRecDepth 100000 in
set_option maxHeartbeats 4000000 in
theorem bX12_takesBack_2 {C : mf_G} {l : Launch} {d n : Nat} {K : mf_Kt} {x0 x1 : Int} {g h : mf_M} (hyp : ((39 ≤ x1 → mf_is n x0 12 ∧ (∀ h2 : mf_M, h2 = mf_up h x0 61 0 → K 0 g h2)) ∧ (¬ 39 ≤ x1 → mf_is n x0 12 ∧ mf_is n (g x0 57) 20 ∧ 0 ≤ x1 ∧ x1 < mf_len (g x0 57) ∧ mf_is n (g x0 56) 20 ∧ x1 < mf_len (g x0 56) ∧ (∀ h9 : mf_M, h9 = mf_up h (g x0 56) x1 (h (g x0 57) x1) → (∀ v10 : Int, v10 = mf_w32 (x1 + 1) → JX12_takesBack_2 C l d n K x0 v10 g h9))))) : JX12_takesBack_2 C l d n K x0 x1 g h := by
  refine mf_iload_n (mf_dat eX12_takesBack 2 rfl) rfl rfl ?_
  refine mf_bipush (v := 39) (mf_dat eX12_takesBack 3 rfl) (by decide) ?_
  refine mf_icmp_ge (tgt := 26) (mf_dat eX12_takesBack 4 rfl) (by decide) (fun hc => ?_) (fun hc => ?_)
  · replace hyp := hyp.1 hc
    refine mf_aload_n (mf_dat eX12_takesBack 15 rfl) rfl rfl ?_
    refine mf_iconst (v := 0) (mf_dat eX12_takesBack 16 rfl) (by decide) ?_
    obtain ⟨ck1, hyp⟩ := hyp
    refine mf_putI (r := (RX12, TX12, 106)) (ci := 12) (k := 61) (kI := 61) (t := 0) (mf_dat eX12_takesBack 17 rfl) fl_X12_442 rfl rfl (by decide) rfl (by decide) rfl (by decide) (fun _ => by decide) ck1 ?_
    generalize qh2 : mf_up h x0 61 0 = h2
    replace hyp := hyp _ qh2.symm
    exact mf_return (mf_dat eX12_takesBack 18 rfl) rfl hyp
  · replace hyp := hyp.2 hc
    refine mf_aload_n (mf_dat eX12_takesBack 5 rfl) rfl rfl ?_
    obtain ⟨ck3, hyp⟩ := hyp
    refine mf_getf (r := (RX12, TX12, 106)) (ci := 12) (k := 56) (t := 2) (v := g x0 56) (mf_dat eX12_takesBack 6 rfl) fl_X12_136 rfl (by decide) rfl rfl ck3 ?_
    refine mf_iload_n (mf_dat eX12_takesBack 7 rfl) rfl rfl ?_
    refine mf_aload_n (mf_dat eX12_takesBack 8 rfl) rfl rfl ?_
    refine mf_getf (r := (RX12, TX12, 106)) (ci := 12) (k := 57) (t := 2) (v := g x0 57) (mf_dat eX12_takesBack 9 rfl) fl_X12_139 rfl (by decide) rfl rfl ck3 ?_
    refine mf_iload_n (mf_dat eX12_takesBack 10 rfl) rfl rfl ?_
    obtain ⟨ck4, hyp⟩ := hyp
    obtain ⟨ck5, hyp⟩ := hyp
    obtain ⟨ck6, hyp⟩ := hyp
    refine mf_iald (mf_dat eX12_takesBack 11 rfl) ck4 ck5 ck6 ?_
    obtain ⟨ck7, hyp⟩ := hyp
    obtain ⟨ck8, hyp⟩ := hyp
    refine mf_iast (mf_dat eX12_takesBack 12 rfl) ck7 ck5 ck8 ?_
    generalize qh9 : mf_up h (g x0 56) x1 (h (g x0 57) x1) = h9
    replace hyp := hyp _ qh9.symm
    refine mf_iinc (mf_dat eX12_takesBack 13 rfl) rfl (by decide) (by decide) ?_
    generalize qv10 : mf_w32 (x1 + 1) = v10
    replace hyp := hyp _ qv10.symm
    refine mf_goto (tgt := 2) (mf_dat eX12_takesBack 14 rfl) (by decide) ?_
    exact mf_sub [1, 0] rfl hyp
set_option maxRecDepth 100000 in
set_option maxHeartbeats 4000000 in
theorem mX12_takesBack {C : mf_G} {l : Launch} {d n : Nat} {K : mf_Kt} {x0 : Int} {g h : mf_M} (hyp : JX12_takesBack_2 C l d n K x0 0 g h) : mf_MT C l d YX12_takesBack [(2, x0)] n n g h K := by
  refine mf_entry (by decide) (Nat.le_of_ble_eq_true rfl) ?_
  refine mf_iconst (v := 0) (mf_dat eX12_takesBack 0 rfl) (by decide) ?_
  refine mf_istore_n (mf_dat eX12_takesBack 1 rfl) rfl (by decide) ?_
  exact mf_sub [1, 0] rfl hyp
set_option maxRecDepth 100000 in
set_option maxHeartbeats 4000000 in
theorem mX12_isAhead {C : mf_G} {l : Launch} {d n : Nat} {K : mf_Kt} {x0 x1 x2 x3 : Int} {g h : mf_M} (hd : 1 ≤ d) (hyp : mf_is n x0 12 ∧ ((h x0 54 = 0 → K 0 g h) ∧ (¬ h x0 54 = 0 → mf_MT C l 0 YX12_isIn [(1, x1), (1, x2), (1, x3)] n n g h (fun r2 g3 h4 => ((r2 = 0 → K 0 g3 h4) ∧ (¬ r2 = 0 → mf_is n (g3 x0 56) 20 ∧ 0 < mf_len (g3 x0 56) ∧ ((999 < mf_w32 ((h4 (g3 x0 56) 0) + x1) → K 0 g3 h4) ∧ (¬ 999 < mf_w32 ((h4 (g3 x0 56) 0) + x1) → K 1 g3 h4)))))))) : mf_MT C l d YX12_isAhead [(2, x0), (0, x1), (0, x2), (0, x3)] n n g h K := by
  refine mf_entry (by decide) (Nat.le_of_ble_eq_true rfl) ?_
  refine mf_aload_n (mf_dat eX12_isAhead 0 rfl) rfl rfl ?_
  obtain ⟨ck1, hyp⟩ := hyp
  refine mf_getf (r := (RX12, TX12, 106)) (ci := 12) (k := 54) (t := 0) (v := h x0 54) (mf_dat eX12_isAhead 1 rfl) fl_X12_389 rfl (by decide) rfl rfl ck1 ?_
  refine mf_if_eq (tgt := 37) (mf_dat eX12_isAhead 2 rfl) (by decide) (fun hc => ?_) (fun hc => ?_)
  · replace hyp := hyp.1 hc
    refine mf_iconst (v := 0) (mf_dat eX12_isAhead 21 rfl) (by decide) ?_
    exact mf_ireturn (mf_dat eX12_isAhead 22 rfl) rfl (Or.inr ⟨rfl, by decide⟩) hyp
  · replace hyp := hyp.2 hc
    refine mf_iload_n (mf_dat eX12_isAhead 3 rfl) rfl rfl ?_
    refine mf_i2l (mf_dat eX12_isAhead 4 rfl) ?_
    refine mf_iload_n (mf_dat eX12_isAhead 5 rfl) rfl rfl ?_
    refine mf_i2l (mf_dat eX12_isAhead 6 rfl) ?_
    refine mf_iload_n (mf_dat eX12_isAhead 7 rfl) rfl rfl ?_
    refine mf_i2l (mf_dat eX12_isAhead 8 rfl) ?_
    refine mf_callS (Yc := YX12_isIn) (mf_dat eX12_isAhead 9 rfl) ml_X12_286 okX12_isIn sm_X12_isIn rfl rfl (Nat.le_of_ble_eq_true rfl) (mf_rr (Nat.le_trans (by decide) hd) (Nat.le_refl _)) (Nat.le_refl _) hyp (fun r2 g3 h4 hyp => ?_)
    refine mf_if_eq (tgt := 37) (mf_dat eX12_isAhead 10 rfl) (by decide) (fun hc => ?_) (fun hc => ?_)
    · replace hyp := hyp.1 hc
      refine mf_iconst (v := 0) (mf_dat eX12_isAhead 21 rfl) (by decide) ?_
      exact mf_ireturn (mf_dat eX12_isAhead 22 rfl) rfl (Or.inr ⟨rfl, by decide⟩) hyp
    · replace hyp := hyp.2 hc
      refine mf_aload_n (mf_dat eX12_isAhead 11 rfl) rfl rfl ?_
      refine mf_getf (r := (RX12, TX12, 106)) (ci := 12) (k := 56) (t := 2) (v := g3 x0 56) (mf_dat eX12_isAhead 12 rfl) fl_X12_136 rfl (by decide) rfl rfl ck1 ?_
      refine mf_iconst (v := 0) (mf_dat eX12_isAhead 13 rfl) (by decide) ?_
      obtain ⟨ck5, hyp⟩ := hyp
      obtain ⟨ck6, hyp⟩ := hyp
      refine mf_iald (mf_dat eX12_isAhead 14 rfl) ck5 (by decide) ck6 ?_
      refine mf_iload_n (mf_dat eX12_isAhead 15 rfl) rfl rfl ?_
      refine mf_iadd (mf_dat eX12_isAhead 16 rfl) ?_
      refine mf_sipush (v := 999) (mf_dat eX12_isAhead 17 rfl) (by decide) ?_
      refine mf_icmp_gt (tgt := 37) (mf_dat eX12_isAhead 18 rfl) (by decide) (fun hc => ?_) (fun hc => ?_)
      · replace hyp := hyp.1 hc
        refine mf_iconst (v := 0) (mf_dat eX12_isAhead 21 rfl) (by decide) ?_
        exact mf_ireturn (mf_dat eX12_isAhead 22 rfl) rfl (Or.inr ⟨rfl, by decide⟩) hyp
      · replace hyp := hyp.2 hc
        refine mf_iconst (v := 1) (mf_dat eX12_isAhead 19 rfl) (by decide) ?_
        refine mf_goto (tgt := 38) (mf_dat eX12_isAhead 20 rfl) (by decide) ?_
        exact mf_ireturn (mf_dat eX12_isAhead 22 rfl) rfl (Or.inr ⟨rfl, by decide⟩) hyp
abbrev JX12_bits_4 (C : mf_G) (l : Launch) (d n : Nat) (K : mf_Kt) (x1 x2 : Int) (g h : mf_M) : Prop := mf_AW C l YX12_bits (mf_rm d n n) n (mf_Zm C YX12_bits n n K) (fun _ _ => True) 4 [(1, (0, x1)), (2, (0, x2))] [] n g h
set_option maxRecDepth 100000 in
set_option maxHeartbeats 4000000 in
theorem bX12_bits_4 {C : mf_G} {l : Launch} {d n : Nat} {K : mf_Kt} {x1 x2 : Int} {g h : mf_M} (hyp : ((x2 = 0 → K x1 g h) ∧ (¬ x2 = 0 → (∀ v1 : Int, v1 = mf_w32 (x1 + 1) → (∀ v2 : Int, v2 = mf_and x2 (mf_w32 (x2 - 1)) → JX12_bits_4 C l d n K v1 v2 g h))))) : JX12_bits_4 C l d n K x1 x2 g h := by
  refine mf_iload_n (mf_dat eX12_bits 4 rfl) rfl rfl ?_
  refine mf_if_eq (tgt := 20) (mf_dat eX12_bits 5 rfl) (by decide) (fun hc => ?_) (fun hc => ?_)
  · replace hyp := hyp.1 hc
    refine mf_iload_n (mf_dat eX12_bits 14 rfl) rfl rfl ?_
    exact mf_ireturn (mf_dat eX12_bits 15 rfl) rfl (Or.inl rfl) hyp
  · replace hyp := hyp.2 hc
    refine mf_iinc (mf_dat eX12_bits 6 rfl) rfl (by decide) (by decide) ?_
    generalize qv1 : mf_w32 (x1 + 1) = v1
    replace hyp := hyp _ qv1.symm
    refine mf_iload_n (mf_dat eX12_bits 7 rfl) rfl rfl ?_
    refine mf_iload_n (mf_dat eX12_bits 8 rfl) rfl rfl ?_
    refine mf_iconst (v := 1) (mf_dat eX12_bits 9 rfl) (by decide) ?_
    refine mf_isub (mf_dat eX12_bits 10 rfl) ?_
    refine mf_iand (mf_dat eX12_bits 11 rfl) ?_
    generalize qv2 : mf_and x2 (mf_w32 (x2 - 1)) = v2
    replace hyp := hyp _ qv2.symm
    refine mf_istore_n (mf_dat eX12_bits 12 rfl) rfl (by decide) ?_
    refine mf_goto (tgt := 4) (mf_dat eX12_bits 13 rfl) (by decide) ?_
    exact mf_sub [1, 0] rfl hyp
set_option maxRecDepth 100000 in
set_option maxHeartbeats 4000000 in
theorem mX12_bits {C : mf_G} {l : Launch} {d n : Nat} {K : mf_Kt} {x0 : Int} {g h : mf_M} (hyp : JX12_bits_4 C l d n K 0 x0 g h) : mf_MT C l d YX12_bits [(0, x0)] n n g h K := by
  refine mf_entry (by decide) (Nat.le_of_ble_eq_true rfl) ?_
  refine mf_iconst (v := 0) (mf_dat eX12_bits 0 rfl) (by decide) ?_
  refine mf_istore_n (mf_dat eX12_bits 1 rfl) rfl (by decide) ?_
  refine mf_iload_n (mf_dat eX12_bits 2 rfl) rfl rfl ?_
  refine mf_istore_n (mf_dat eX12_bits 3 rfl) rfl (by decide) ?_
  exact mf_sub [1, 0] rfl hyp
abbrev JX12_glossMany_4 (C : mf_G) (l : Launch) (d n : Nat) (K : mf_Kt) (x0 x1 x2 : Int) (g h : mf_M) : Prop := mf_AW C l YX12_glossMany (mf_rm d n n) n (mf_Zm C YX12_glossMany n n K) (fun _ _ => True) 4 [(0, (2, x0)), (1, (0, x1)), (2, (0, x2))] [] n g h
set_option maxRecDepth 100000 in
set_option maxHeartbeats 4000000 in
theorem bX12_glossMany_4 {C : mf_G} {l : Launch} {d n : Nat} {K : mf_Kt} {x0 x1 x2 : Int} {g h : mf_M} (hd : 1 ≤ d) (hyp : ((6 ≤ x2 → K x1 g h) ∧ (¬ 6 ≤ x2 → mf_is n x0 12 ∧ mf_is n (g x0 56) 20 ∧ 0 ≤ mf_w32 (1 + x2) ∧ mf_w32 (1 + x2) < mf_len (g x0 56) ∧ mf_MT C l 0 YX12_bits [(0, h (g x0 56) (mf_w32 (1 + x2)))] n n g h (fun r5 g6 h7 => (∀ v8 : Int, v8 = mf_w32 (x1 + r5) → (∀ v9 : Int, v9 = mf_w32 (x2 + 1) → JX12_glossMany_4 C l d n K x0 v8 v9 g6 h7)))))) : JX12_glossMany_4 C l d n K x0 x1 x2 g h := by
  refine mf_iload_n (mf_dat eX12_glossMany 4 rfl) rfl rfl ?_
  refine mf_bipush (v := 6) (mf_dat eX12_glossMany 5 rfl) (by decide) ?_
  refine mf_icmp_ge (tgt := 30) (mf_dat eX12_glossMany 6 rfl) (by decide) (fun hc => ?_) (fun hc => ?_)
  · replace hyp := hyp.1 hc
    refine mf_iload_n (mf_dat eX12_glossMany 19 rfl) rfl rfl ?_
    exact mf_ireturn (mf_dat eX12_glossMany 20 rfl) rfl (Or.inl rfl) hyp
  · replace hyp := hyp.2 hc
    refine mf_iload_n (mf_dat eX12_glossMany 7 rfl) rfl rfl ?_
    refine mf_aload_n (mf_dat eX12_glossMany 8 rfl) rfl rfl ?_
    obtain ⟨ck1, hyp⟩ := hyp
    refine mf_getf (r := (RX12, TX12, 106)) (ci := 12) (k := 56) (t := 2) (v := g x0 56) (mf_dat eX12_glossMany 9 rfl) fl_X12_136 rfl (by decide) rfl rfl ck1 ?_
    refine mf_iconst (v := 1) (mf_dat eX12_glossMany 10 rfl) (by decide) ?_
    refine mf_iload_n (mf_dat eX12_glossMany 11 rfl) rfl rfl ?_
    refine mf_iadd (mf_dat eX12_glossMany 12 rfl) ?_
    obtain ⟨ck2, hyp⟩ := hyp
    obtain ⟨ck3, hyp⟩ := hyp
    obtain ⟨ck4, hyp⟩ := hyp
    refine mf_iald (mf_dat eX12_glossMany 13 rfl) ck2 ck3 ck4 ?_
    refine mf_callS (Yc := YX12_bits) (mf_dat eX12_glossMany 14 rfl) ml_X12_493 okX12_bits sm_X12_bits rfl rfl (Nat.le_of_ble_eq_true rfl) (mf_rr (Nat.le_trans (by decide) hd) (Nat.le_refl _)) (Nat.le_refl _) hyp (fun r5 g6 h7 hyp => ?_)
    refine mf_iadd (mf_dat eX12_glossMany 15 rfl) ?_
    generalize qv8 : mf_w32 (x1 + r5) = v8
    replace hyp := hyp _ qv8.symm
    refine mf_istore_n (mf_dat eX12_glossMany 16 rfl) rfl (by decide) ?_
    refine mf_iinc (mf_dat eX12_glossMany 17 rfl) rfl (by decide) (by decide) ?_
    generalize qv9 : mf_w32 (x2 + 1) = v9
    replace hyp := hyp _ qv9.symm
    refine mf_goto (tgt := 4) (mf_dat eX12_glossMany 18 rfl) (by decide) ?_
    exact mf_sub [2, 1, 0] rfl hyp
set_option maxRecDepth 100000 in
set_option maxHeartbeats 4000000 in
theorem mX12_glossMany {C : mf_G} {l : Launch} {d n : Nat} {K : mf_Kt} {x0 : Int} {g h : mf_M} (hyp : JX12_glossMany_4 C l d n K x0 0 0 g h) : mf_MT C l d YX12_glossMany [(2, x0)] n n g h K := by
  refine mf_entry (by decide) (Nat.le_of_ble_eq_true rfl) ?_
  refine mf_iconst (v := 0) (mf_dat eX12_glossMany 0 rfl) (by decide) ?_
  refine mf_istore_n (mf_dat eX12_glossMany 1 rfl) rfl (by decide) ?_
  refine mf_iconst (v := 0) (mf_dat eX12_glossMany 2 rfl) (by decide) ?_
  refine mf_istore_n (mf_dat eX12_glossMany 3 rfl) rfl (by decide) ?_
  exact mf_sub [2, 1, 0] rfl hyp
abbrev JX12_pursesAll_4 (C : mf_G) (l : Launch) (d n : Nat) (K : mf_Kt) (x0 x1 x2 : Int) (g h : mf_M) : Prop := mf_AW C l YX12_pursesAll (mf_rm d n n) n (mf_Zm C YX12_pursesAll n n K) (fun _ _ => True) 4 [(0, (2, x0)), (1, (0, x1)), (2, (0, x2))] [] n g h
set_option maxRecDepth 100000 in
set_option maxHeartbeats 4000000 in
theorem bX12_pursesAll_4 {C : mf_G} {l : Launch} {d n : Nat} {K : mf_Kt} {x0 x1 x2 : Int} {g h : mf_M} (hd : 1 ≤ d) (hyp : mf_is n x0 12 ∧ mf_MT C l 0 YX12_beingMany [(2, x0)] n n g h (fun r1 g2 h3 => ((r1 ≤ x2 → K x1 g2 h3) ∧ (¬ r1 ≤ x2 → mf_MT C l 0 YX12_purseOf [(2, x0), (0, x2)] n n g2 h3 (fun r5 g6 h7 => (∀ v8 : Int, v8 = mf_w32 (x1 + r5) → (∀ v9 : Int, v9 = mf_w32 (x2 + 1) → JX12_pursesAll_4 C l d n K x0 v8 v9 g6 h7))))))) : JX12_pursesAll_4 C l d n K x0 x1 x2 g h := by
  refine mf_iload_n (mf_dat eX12_pursesAll 4 rfl) rfl rfl ?_
  refine mf_aload_n (mf_dat eX12_pursesAll 5 rfl) rfl rfl ?_
  obtain ⟨ck4, hyp⟩ := hyp
  refine mf_callV (Yc := YX12_beingMany) (r := (RX12, TX12, 106)) (ci := 12) (mf_dat eX12_pursesAll 6 rfl) ml_X12_402 okX12_beingMany im_X12_beingMany sl_X12_beingMany rfl rfl rfl rfl (Nat.le_of_ble_eq_true rfl) (mf_rr (Nat.le_trans (by decide) hd) (Nat.le_refl _)) (Nat.le_refl _) ck4 hyp (fun r1 g2 h3 hyp => ?_)
  refine mf_icmp_ge (tgt := 26) (mf_dat eX12_pursesAll 7 rfl) (by decide) (fun hc => ?_) (fun hc => ?_)
  · replace hyp := hyp.1 hc
    refine mf_iload_n (mf_dat eX12_pursesAll 16 rfl) rfl rfl ?_
    exact mf_ireturn (mf_dat eX12_pursesAll 17 rfl) rfl (Or.inl rfl) hyp
  · replace hyp := hyp.2 hc
    refine mf_iload_n (mf_dat eX12_pursesAll 8 rfl) rfl rfl ?_
    refine mf_aload_n (mf_dat eX12_pursesAll 9 rfl) rfl rfl ?_
    refine mf_iload_n (mf_dat eX12_pursesAll 10 rfl) rfl rfl ?_
    refine mf_callV (Yc := YX12_purseOf) (r := (RX12, TX12, 106)) (ci := 12) (mf_dat eX12_pursesAll 11 rfl) ml_X12_445 okX12_purseOf im_X12_purseOf sl_X12_purseOf rfl rfl rfl rfl (Nat.le_of_ble_eq_true rfl) (mf_rr (Nat.le_trans (by decide) hd) (Nat.le_refl _)) (Nat.le_refl _) ck4 hyp (fun r5 g6 h7 hyp => ?_)
    refine mf_iadd (mf_dat eX12_pursesAll 12 rfl) ?_
    generalize qv8 : mf_w32 (x1 + r5) = v8
    replace hyp := hyp _ qv8.symm
    refine mf_istore_n (mf_dat eX12_pursesAll 13 rfl) rfl (by decide) ?_
    refine mf_iinc (mf_dat eX12_pursesAll 14 rfl) rfl (by decide) (by decide) ?_
    generalize qv9 : mf_w32 (x2 + 1) = v9
    replace hyp := hyp _ qv9.symm
    refine mf_goto (tgt := 4) (mf_dat eX12_pursesAll 15 rfl) (by decide) ?_
    exact mf_sub [2, 1, 0] rfl hyp
set_option maxRecDepth 100000 in
set_option maxHeartbeats 4000000 in
theorem mX12_pursesAll {C : mf_G} {l : Launch} {d n : Nat} {K : mf_Kt} {x0 : Int} {g h : mf_M} (hyp : JX12_pursesAll_4 C l d n K x0 0 0 g h) : mf_MT C l d YX12_pursesAll [(2, x0)] n n g h K := by
  refine mf_entry (by decide) (Nat.le_of_ble_eq_true rfl) ?_
  refine mf_iconst (v := 0) (mf_dat eX12_pursesAll 0 rfl) (by decide) ?_
  refine mf_istore_n (mf_dat eX12_pursesAll 1 rfl) rfl (by decide) ?_
  refine mf_iconst (v := 0) (mf_dat eX12_pursesAll 2 rfl) (by decide) ?_
  refine mf_istore_n (mf_dat eX12_pursesAll 3 rfl) rfl (by decide) ?_
  exact mf_sub [2, 1, 0] rfl hyp
set_option maxRecDepth 100000 in
set_option maxHeartbeats 4000000 in
theorem mX12_has {C : mf_G} {l : Launch} {d n : Nat} {K : mf_Kt} {x0 x1 : Int} {g h : mf_M} (hd : 4 ≤ d) (hyp : ((x1 = 0 → mf_is n x0 12 ∧ mf_is n (g x0 40) 20 ∧ 0 ≤ mf_w32 (2 + x1) ∧ mf_w32 (2 + x1) < mf_len (g x0 40) ∧ K (h (g x0 40) (mf_w32 (2 + x1))) g h) ∧ (x1 = 1 → mf_is n x0 12 ∧ mf_is n (g x0 40) 20 ∧ 0 ≤ mf_w32 (2 + x1) ∧ mf_w32 (2 + x1) < mf_len (g x0 40) ∧ K (h (g x0 40) (mf_w32 (2 + x1))) g h) ∧ (x1 = 2 → mf_is n x0 12 ∧ mf_MT C l 1 YX12_glossMany [(2, x0)] n n g h (fun r9 g10 h11 => K r9 g10 h11)) ∧ (x1 = 3 → mf_is n x0 12 ∧ mf_is n (g x0 41) 20 ∧ 4 < mf_len (g x0 41) ∧ K (h (g x0 41) 4) g h) ∧ (x1 = 4 → mf_is n x0 12 ∧ mf_MT C l 0 YX12_beingMany [(2, x0)] n n g h (fun r16 g17 h18 => K r16 g17 h18)) ∧ (x1 = 5 → mf_is n x0 12 ∧ mf_is n (g x0 56) 20 ∧ 0 < mf_len (g x0 56) ∧ K (h (g x0 56) 0) g h) ∧ (x1 = 6 → mf_is n x0 12 ∧ mf_is n (g x0 56) 20 ∧ 0 < mf_len (g x0 56) ∧ mf_MT C l 3 YX12_openingOn [(2, x0), (0, h (g x0 56) 0)] n n g h (fun r26 g27 h28 => K r26 g27 h28)) ∧ (x1 = 7 → mf_is n x0 12 ∧ mf_MT C l 1 YX12_pursesAll [(2, x0)] n n g h (fun r29 g30 h31 => K r29 g30 h31)) ∧ (x1 = 8 → mf_is n x0 12 ∧ mf_is n (g x0 56) 20 ∧ 39 < mf_len (g x0 56) ∧ K (h (g x0 56) 39) g h) ∧ (x1 = 9 → mf_is n x0 12 ∧ K (h x0 65) g h) ∧ (x1 = 10 → mf_is n x0 12 ∧ K (h x0 69) g h) ∧ ((x1 < 0 ∨ 10 < x1) → K (-1) g h))) : mf_MT C l d YX12_has [(2, x0), (0, x1)] n n g h K := by
  refine mf_entry (by decide) (Nat.le_of_ble_eq_true rfl) ?_
  refine mf_iload_n (mf_dat eX12_has 0 rfl) rfl rfl ?_
  refine mf_tsw1 (v := 0) (tgt := 60) (mf_dat eX12_has 1 rfl) (by decide) (by decide) (off := 59) (by decide) (by decide) (fun hc => ?_) (fun hc0 => ?_)
  · replace hyp := hyp.1 hc
    refine mf_aload_n (mf_dat eX12_has 2 rfl) rfl rfl ?_
    obtain ⟨ck1, hyp⟩ := hyp
    refine mf_getf (r := (RX12, TX12, 106)) (ci := 12) (k := 40) (t := 2) (v := g x0 40) (mf_dat eX12_has 3 rfl) fl_X12_105 rfl (by decide) rfl rfl ck1 ?_
    refine mf_iconst (v := 2) (mf_dat eX12_has 4 rfl) (by decide) ?_
    refine mf_iload_n (mf_dat eX12_has 5 rfl) rfl rfl ?_
    refine mf_iadd (mf_dat eX12_has 6 rfl) ?_
    obtain ⟨ck2, hyp⟩ := hyp
    obtain ⟨ck3, hyp⟩ := hyp
    obtain ⟨ck4, hyp⟩ := hyp
    refine mf_iald (mf_dat eX12_has 7 rfl) ck2 ck3 ck4 ?_
    exact mf_ireturn (mf_dat eX12_has 8 rfl) rfl (Or.inl rfl) hyp
  replace hyp := hyp.2
  refine mf_tsw1 (v := 1) (tgt := 60) (mf_dat eX12_has 1 rfl) (by decide) (by decide) (off := 59) (by decide) (by decide) (fun hc => ?_) (fun hc1 => ?_)
  · replace hyp := hyp.1 hc
    refine mf_aload_n (mf_dat eX12_has 2 rfl) rfl rfl ?_
    obtain ⟨ck5, hyp⟩ := hyp
    refine mf_getf (r := (RX12, TX12, 106)) (ci := 12) (k := 40) (t := 2) (v := g x0 40) (mf_dat eX12_has 3 rfl) fl_X12_105 rfl (by decide) rfl rfl ck5 ?_
    refine mf_iconst (v := 2) (mf_dat eX12_has 4 rfl) (by decide) ?_
    refine mf_iload_n (mf_dat eX12_has 5 rfl) rfl rfl ?_
    refine mf_iadd (mf_dat eX12_has 6 rfl) ?_
    obtain ⟨ck6, hyp⟩ := hyp
    obtain ⟨ck7, hyp⟩ := hyp
    obtain ⟨ck8, hyp⟩ := hyp
    refine mf_iald (mf_dat eX12_has 7 rfl) ck6 ck7 ck8 ?_
    exact mf_ireturn (mf_dat eX12_has 8 rfl) rfl (Or.inl rfl) hyp
  replace hyp := hyp.2
  refine mf_tsw1 (v := 2) (tgt := 69) (mf_dat eX12_has 1 rfl) (by decide) (by decide) (off := 68) (by decide) (by decide) (fun hc => ?_) (fun hc2 => ?_)
  · replace hyp := hyp.1 hc
    refine mf_aload_n (mf_dat eX12_has 9 rfl) rfl rfl ?_
    obtain ⟨ck12, hyp⟩ := hyp
    refine mf_callV (Yc := YX12_glossMany) (r := (RX12, TX12, 106)) (ci := 12) (mf_dat eX12_has 10 rfl) ml_X12_496 okX12_glossMany im_X12_glossMany sl_X12_glossMany rfl rfl rfl rfl (Nat.le_of_ble_eq_true rfl) (mf_rr (Nat.le_trans (by decide) hd) (Nat.le_refl _)) (Nat.le_refl _) ck12 hyp (fun r9 g10 h11 hyp => ?_)
    exact mf_ireturn (mf_dat eX12_has 11 rfl) rfl (Or.inl rfl) hyp
  replace hyp := hyp.2
  refine mf_tsw1 (v := 3) (tgt := 74) (mf_dat eX12_has 1 rfl) (by decide) (by decide) (off := 73) (by decide) (by decide) (fun hc => ?_) (fun hc3 => ?_)
  · replace hyp := hyp.1 hc
    refine mf_aload_n (mf_dat eX12_has 12 rfl) rfl rfl ?_
    obtain ⟨ck13, hyp⟩ := hyp
    refine mf_getf (r := (RX12, TX12, 106)) (ci := 12) (k := 41) (t := 2) (v := g x0 41) (mf_dat eX12_has 13 rfl) fl_X12_108 rfl (by decide) rfl rfl ck13 ?_
    refine mf_iconst (v := 4) (mf_dat eX12_has 14 rfl) (by decide) ?_
    obtain ⟨ck14, hyp⟩ := hyp
    obtain ⟨ck15, hyp⟩ := hyp
    refine mf_iald (mf_dat eX12_has 15 rfl) ck14 (by decide) ck15 ?_
    exact mf_ireturn (mf_dat eX12_has 16 rfl) rfl (Or.inl rfl) hyp
  replace hyp := hyp.2
  refine mf_tsw1 (v := 4) (tgt := 81) (mf_dat eX12_has 1 rfl) (by decide) (by decide) (off := 80) (by decide) (by decide) (fun hc => ?_) (fun hc4 => ?_)
  · replace hyp := hyp.1 hc
    refine mf_aload_n (mf_dat eX12_has 17 rfl) rfl rfl ?_
    obtain ⟨ck19, hyp⟩ := hyp
    refine mf_callV (Yc := YX12_beingMany) (r := (RX12, TX12, 106)) (ci := 12) (mf_dat eX12_has 18 rfl) ml_X12_402 okX12_beingMany im_X12_beingMany sl_X12_beingMany rfl rfl rfl rfl (Nat.le_of_ble_eq_true rfl) (mf_rr (Nat.le_trans (by decide) hd) (Nat.le_refl _)) (Nat.le_refl _) ck19 hyp (fun r16 g17 h18 hyp => ?_)
    exact mf_ireturn (mf_dat eX12_has 19 rfl) rfl (Or.inl rfl) hyp
  replace hyp := hyp.2
  refine mf_tsw1 (v := 5) (tgt := 86) (mf_dat eX12_has 1 rfl) (by decide) (by decide) (off := 85) (by decide) (by decide) (fun hc => ?_) (fun hc5 => ?_)
  · replace hyp := hyp.1 hc
    refine mf_aload_n (mf_dat eX12_has 20 rfl) rfl rfl ?_
    obtain ⟨ck20, hyp⟩ := hyp
    refine mf_getf (r := (RX12, TX12, 106)) (ci := 12) (k := 56) (t := 2) (v := g x0 56) (mf_dat eX12_has 21 rfl) fl_X12_136 rfl (by decide) rfl rfl ck20 ?_
    refine mf_iconst (v := 0) (mf_dat eX12_has 22 rfl) (by decide) ?_
    obtain ⟨ck21, hyp⟩ := hyp
    obtain ⟨ck22, hyp⟩ := hyp
    refine mf_iald (mf_dat eX12_has 23 rfl) ck21 (by decide) ck22 ?_
    exact mf_ireturn (mf_dat eX12_has 24 rfl) rfl (Or.inl rfl) hyp
  replace hyp := hyp.2
  refine mf_tsw1 (v := 6) (tgt := 93) (mf_dat eX12_has 1 rfl) (by decide) (by decide) (off := 92) (by decide) (by decide) (fun hc => ?_) (fun hc6 => ?_)
  · replace hyp := hyp.1 hc
    refine mf_aload_n (mf_dat eX12_has 25 rfl) rfl rfl ?_
    refine mf_aload_n (mf_dat eX12_has 26 rfl) rfl rfl ?_
    obtain ⟨ck23, hyp⟩ := hyp
    refine mf_getf (r := (RX12, TX12, 106)) (ci := 12) (k := 56) (t := 2) (v := g x0 56) (mf_dat eX12_has 27 rfl) fl_X12_136 rfl (by decide) rfl rfl ck23 ?_
    refine mf_iconst (v := 0) (mf_dat eX12_has 28 rfl) (by decide) ?_
    obtain ⟨ck24, hyp⟩ := hyp
    obtain ⟨ck25, hyp⟩ := hyp
    refine mf_iald (mf_dat eX12_has 29 rfl) ck24 (by decide) ck25 ?_
    refine mf_callV (Yc := YX12_openingOn) (r := (RX12, TX12, 106)) (ci := 12) (mf_dat eX12_has 30 rfl) ml_X12_487 okX12_openingOn im_X12_openingOn sl_X12_openingOn rfl rfl rfl rfl (Nat.le_of_ble_eq_true rfl) (mf_rr (Nat.le_trans (by decide) hd) (Nat.le_refl _)) (Nat.le_refl _) ck23 hyp (fun r26 g27 h28 hyp => ?_)
    exact mf_ireturn (mf_dat eX12_has 31 rfl) rfl (Or.inl rfl) hyp
  replace hyp := hyp.2
  refine mf_tsw1 (v := 7) (tgt := 104) (mf_dat eX12_has 1 rfl) (by decide) (by decide) (off := 103) (by decide) (by decide) (fun hc => ?_) (fun hc7 => ?_)
  · replace hyp := hyp.1 hc
    refine mf_aload_n (mf_dat eX12_has 32 rfl) rfl rfl ?_
    obtain ⟨ck32, hyp⟩ := hyp
    refine mf_callV (Yc := YX12_pursesAll) (r := (RX12, TX12, 106)) (ci := 12) (mf_dat eX12_has 33 rfl) ml_X12_499 okX12_pursesAll im_X12_pursesAll sl_X12_pursesAll rfl rfl rfl rfl (Nat.le_of_ble_eq_true rfl) (mf_rr (Nat.le_trans (by decide) hd) (Nat.le_refl _)) (Nat.le_refl _) ck32 hyp (fun r29 g30 h31 hyp => ?_)
    exact mf_ireturn (mf_dat eX12_has 34 rfl) rfl (Or.inl rfl) hyp
  replace hyp := hyp.2
  refine mf_tsw1 (v := 8) (tgt := 109) (mf_dat eX12_has 1 rfl) (by decide) (by decide) (off := 108) (by decide) (by decide) (fun hc => ?_) (fun hc8 => ?_)
  · replace hyp := hyp.1 hc
    refine mf_aload_n (mf_dat eX12_has 35 rfl) rfl rfl ?_
    obtain ⟨ck33, hyp⟩ := hyp
    refine mf_getf (r := (RX12, TX12, 106)) (ci := 12) (k := 56) (t := 2) (v := g x0 56) (mf_dat eX12_has 36 rfl) fl_X12_136 rfl (by decide) rfl rfl ck33 ?_
    refine mf_bipush (v := 39) (mf_dat eX12_has 37 rfl) (by decide) ?_
    obtain ⟨ck34, hyp⟩ := hyp
    obtain ⟨ck35, hyp⟩ := hyp
    refine mf_iald (mf_dat eX12_has 38 rfl) ck34 (by decide) ck35 ?_
    exact mf_ireturn (mf_dat eX12_has 39 rfl) rfl (Or.inl rfl) hyp
  replace hyp := hyp.2
  refine mf_tsw1 (v := 9) (tgt := 117) (mf_dat eX12_has 1 rfl) (by decide) (by decide) (off := 116) (by decide) (by decide) (fun hc => ?_) (fun hc9 => ?_)
  · replace hyp := hyp.1 hc
    refine mf_aload_n (mf_dat eX12_has 40 rfl) rfl rfl ?_
    obtain ⟨ck36, hyp⟩ := hyp
    refine mf_getf (r := (RX12, TX12, 106)) (ci := 12) (k := 65) (t := 0) (v := h x0 65) (mf_dat eX12_has 41 rfl) fl_X12_399 rfl (by decide) rfl rfl ck36 ?_
    exact mf_ireturn (mf_dat eX12_has 42 rfl) rfl (Or.inl rfl) hyp
  replace hyp := hyp.2
  refine mf_tsw1 (v := 10) (tgt := 122) (mf_dat eX12_has 1 rfl) (by decide) (by decide) (off := 121) (by decide) (by decide) (fun hc => ?_) (fun hc10 => ?_)
  · replace hyp := hyp.1 hc
    refine mf_aload_n (mf_dat eX12_has 43 rfl) rfl rfl ?_
    obtain ⟨ck37, hyp⟩ := hyp
    refine mf_getf (r := (RX12, TX12, 106)) (ci := 12) (k := 69) (t := 0) (v := h x0 69) (mf_dat eX12_has 44 rfl) fl_X12_396 rfl (by decide) rfl rfl ck37 ?_
    exact mf_ireturn (mf_dat eX12_has 45 rfl) rfl (Or.inl rfl) hyp
  replace hyp := hyp.2
  refine mf_tswO (tgt := 127) (mf_dat eX12_has 1 rfl) (by omega) (by decide) ?_
  replace hyp := hyp (by omega)
  refine mf_iconst (v := (-1)) (mf_dat eX12_has 46 rfl) (by decide) ?_
  exact mf_ireturn (mf_dat eX12_has 47 rfl) rfl (Or.inl rfl) hyp
abbrev JX12_letter_38 (C : mf_G) (l : Launch) (d n : Nat) (K : mf_Kt) (x2 x3 x5 x6 : Int) (g h : mf_M) : Prop := mf_AW C l YX12_letter (mf_rm d n n) n (mf_Zm C YX12_letter n n K) (fun _ _ => True) 38 [(2, (0, x2)), (3, (1, x3)), (5, (0, x5)), (6, (1, x6))] [] n g h
abbrev JX12_letter_73 (C : mf_G) (l : Launch) (d n : Nat) (K : mf_Kt) (x2 x3 x6 : Int) (g h : mf_M) : Prop := mf_AW C l YX12_letter (mf_rm d n n) n (mf_Zm C YX12_letter n n K) (fun _ _ => True) 73 [(2, (0, x2)), (3, (1, x3)), (6, (0, x6))] [] n g h
set_option maxRecDepth 100000 in
set_option maxHeartbeats 4000000 in
theorem bX12_letter_38 {C : mf_G} {l : Launch} {d n : Nat} {K : mf_Kt} {x2 x3 x5 x6 : Int} {g h : mf_M} (hyp : ((x6 ≤ 0 → ((x2 < x5 → (∀ v1 : Int, v1 = mf_w32 (x5 - 1) → JX12_letter_73 C l d n K x2 x3 v1 g h)) ∧ (¬ x2 < x5 → K 0 g h))) ∧ (¬ x6 ≤ 0 → (∀ v2 : Int, v2 = mf_w32 (x5 + 1) → (∀ v3 : Int, v3 = mf_w64 (x6.tdiv 27) → JX12_letter_38 C l d n K x2 x3 v2 v3 g h))))) : JX12_letter_38 C l d n K x2 x3 x5 x6 g h := by
  refine mf_lload (mf_dat eX12_letter 23 rfl) rfl ?_
  refine mf_lconst (v := 0) (mf_dat eX12_letter 24 rfl) (by decide) ?_
  refine mf_lcmp_le (tgt := 59) (mf_dat eX12_letter 25 rfl) (mf_dat eX12_letter 26 rfl) (by decide) (fun hc => ?_) (fun hc => ?_)
  · replace hyp := hyp.1 hc
    refine mf_iload_n (mf_dat eX12_letter 33 rfl) rfl rfl ?_
    refine mf_iload (mf_dat eX12_letter 34 rfl) rfl ?_
    refine mf_icmp_lt (tgt := 67) (mf_dat eX12_letter 35 rfl) (by decide) (fun hc => ?_) (fun hc => ?_)
    · replace hyp := hyp.1 hc
      refine mf_iload (mf_dat eX12_letter 38 rfl) rfl ?_
      refine mf_iconst (v := 1) (mf_dat eX12_letter 39 rfl) (by decide) ?_
      refine mf_isub (mf_dat eX12_letter 40 rfl) ?_
      generalize qv1 : mf_w32 (x5 - 1) = v1
      replace hyp := hyp _ qv1.symm
      refine mf_istore (mf_dat eX12_letter 41 rfl) (by decide) ?_
      exact mf_sub [1, 2, 0] rfl hyp
    · replace hyp := hyp.2 hc
      refine mf_iconst (v := 0) (mf_dat eX12_letter 36 rfl) (by decide) ?_
      exact mf_ireturn (mf_dat eX12_letter 37 rfl) rfl (Or.inl rfl) hyp
  · replace hyp := hyp.2 hc
    refine mf_iinc (mf_dat eX12_letter 27 rfl) rfl (by decide) (by decide) ?_
    generalize qv2 : mf_w32 (x5 + 1) = v2
    replace hyp := hyp _ qv2.symm
    refine mf_lload (mf_dat eX12_letter 28 rfl) rfl ?_
    refine mf_ldc2 (v := 27) cl_X12_297 (mf_dat eX12_letter 29 rfl) (by decide) ?_
    refine mf_ldiv (mf_dat eX12_letter 30 rfl) (by decide) ?_
    generalize qv3 : mf_w64 (x6.tdiv 27) = v3
    replace hyp := hyp _ qv3.symm
    refine mf_lstore (mf_dat eX12_letter 31 rfl) (by decide) ?_
    refine mf_goto (tgt := 38) (mf_dat eX12_letter 32 rfl) (by decide) ?_
    exact mf_sub [2, 3, 1, 0] rfl hyp
set_option maxRecDepth 100000 in
set_option maxHeartbeats 4000000 in
theorem bX12_letter_73 {C : mf_G} {l : Launch} {d n : Nat} {K : mf_Kt} {x2 x3 x6 : Int} {g h : mf_M} (hyp : ((x6 ≤ x2 → K (mf_w32 (x3.tmod 27)) g h) ∧ (¬ x6 ≤ x2 → (∀ v1 : Int, v1 = mf_w64 (x3.tdiv 27) → (∀ v2 : Int, v2 = mf_w32 (x6 + (-1)) → JX12_letter_73 C l d n K x2 v1 v2 g h))))) : JX12_letter_73 C l d n K x2 x3 x6 g h := by
  refine mf_iload (mf_dat eX12_letter 42 rfl) rfl ?_
  refine mf_iload_n (mf_dat eX12_letter 43 rfl) rfl rfl ?_
  refine mf_icmp_le (tgt := 91) (mf_dat eX12_letter 44 rfl) (by decide) (fun hc => ?_) (fun hc => ?_)
  · replace hyp := hyp.1 hc
    refine mf_lload_n (mf_dat eX12_letter 51 rfl) rfl rfl ?_
    refine mf_ldc2 (v := 27) cl_X12_297 (mf_dat eX12_letter 52 rfl) (by decide) ?_
    refine mf_lrem (mf_dat eX12_letter 53 rfl) (by decide) ?_
    refine mf_l2i (mf_dat eX12_letter 54 rfl) ?_
    exact mf_ireturn (mf_dat eX12_letter 55 rfl) rfl (Or.inl rfl) hyp
  · replace hyp := hyp.2 hc
    refine mf_lload_n (mf_dat eX12_letter 45 rfl) rfl rfl ?_
    refine mf_ldc2 (v := 27) cl_X12_297 (mf_dat eX12_letter 46 rfl) (by decide) ?_
    refine mf_ldiv (mf_dat eX12_letter 47 rfl) (by decide) ?_
    generalize qv1 : mf_w64 (x3.tdiv 27) = v1
    replace hyp := hyp _ qv1.symm
    refine mf_lstore_n (mf_dat eX12_letter 48 rfl) rfl (by decide) ?_
    refine mf_iinc (mf_dat eX12_letter 49 rfl) rfl (by decide) (by decide) ?_
    generalize qv2 : mf_w32 (x6 + (-1)) = v2
    replace hyp := hyp _ qv2.symm
    refine mf_goto (tgt := 73) (mf_dat eX12_letter 50 rfl) (by decide) ?_
    exact mf_sub [2, 1, 0] rfl hyp
set_option maxRecDepth 100000 in
set_option maxHeartbeats 4000000 in
theorem mX12_letter {C : mf_G} {l : Launch} {d n : Nat} {K : mf_Kt} {x0 x1 x2 : Int} {g h : mf_M} (hd : 2 ≤ d) (hyp : mf_is n x0 12 ∧ mf_MT C l 1 YX12_isBeing [(2, x0), (0, x1)] n n g h (fun r1 g2 h3 => ((r1 = 0 → K (-1) g2 h3) ∧ (¬ r1 = 0 → mf_MT C l 0 YX12_isIn [(1, x2), (1, 0), (1, 5)] n n g2 h3 (fun r5 g6 h7 => ((¬ r5 = 0 → mf_is n (g6 x0 42) 24 ∧ 0 ≤ mf_w32 (8 + x1) ∧ mf_w32 (8 + x1) < mf_len (g6 x0 42) ∧ (∀ v11 : Int, v11 = h7 (g6 x0 42) (mf_w32 (8 + x1)) → JX12_letter_38 C l d n K x2 v11 0 v11 g6 h7)) ∧ (r5 = 0 → K (-1) g6 h7))))))) : mf_MT C l d YX12_letter [(2, x0), (0, x1), (0, x2)] n n g h K := by
  refine mf_entry (by decide) (Nat.le_of_ble_eq_true rfl) ?_
  refine mf_aload_n (mf_dat eX12_letter 0 rfl) rfl rfl ?_
  refine mf_iload_n (mf_dat eX12_letter 1 rfl) rfl rfl ?_
  obtain ⟨ck4, hyp⟩ := hyp
  refine mf_callV (Yc := YX12_isBeing) (r := (RX12, TX12, 106)) (ci := 12) (mf_dat eX12_letter 2 rfl) ml_X12_502 okX12_isBeing im_X12_isBeing sl_X12_isBeing rfl rfl rfl rfl (Nat.le_of_ble_eq_true rfl) (mf_rr (Nat.le_trans (by decide) hd) (Nat.le_refl _)) (Nat.le_refl _) ck4 hyp (fun r1 g2 h3 hyp => ?_)
  refine mf_if_eq (tgt := 20) (mf_dat eX12_letter 3 rfl) (by decide) (fun hc => ?_) (fun hc => ?_)
  · replace hyp := hyp.1 hc
    refine mf_iconst (v := (-1)) (mf_dat eX12_letter 10 rfl) (by decide) ?_
    exact mf_ireturn (mf_dat eX12_letter 11 rfl) rfl (Or.inl rfl) hyp
  · replace hyp := hyp.2 hc
    refine mf_iload_n (mf_dat eX12_letter 4 rfl) rfl rfl ?_
    refine mf_i2l (mf_dat eX12_letter 5 rfl) ?_
    refine mf_lconst (v := 0) (mf_dat eX12_letter 6 rfl) (by decide) ?_
    refine mf_ldc2 (v := 5) cl_X12_505 (mf_dat eX12_letter 7 rfl) (by decide) ?_
    refine mf_callS (Yc := YX12_isIn) (mf_dat eX12_letter 8 rfl) ml_X12_286 okX12_isIn sm_X12_isIn rfl rfl (Nat.le_of_ble_eq_true rfl) (mf_rr (Nat.le_trans (by decide) hd) (Nat.le_refl _)) (Nat.le_refl _) hyp (fun r5 g6 h7 hyp => ?_)
    refine mf_if_ne (tgt := 22) (mf_dat eX12_letter 9 rfl) (by decide) (fun hc => ?_) (fun hc => ?_)
    · replace hyp := hyp.1 hc
      refine mf_aload_n (mf_dat eX12_letter 12 rfl) rfl rfl ?_
      refine mf_getf (r := (RX12, TX12, 106)) (ci := 12) (k := 42) (t := 2) (v := g6 x0 42) (mf_dat eX12_letter 13 rfl) fl_X12_111 rfl (by decide) rfl rfl ck4 ?_
      refine mf_bipush (v := 8) (mf_dat eX12_letter 14 rfl) (by decide) ?_
      refine mf_iload_n (mf_dat eX12_letter 15 rfl) rfl rfl ?_
      refine mf_iadd (mf_dat eX12_letter 16 rfl) ?_
      obtain ⟨ck8, hyp⟩ := hyp
      obtain ⟨ck9, hyp⟩ := hyp
      obtain ⟨ck10, hyp⟩ := hyp
      refine mf_lald (mf_dat eX12_letter 17 rfl) ck8 ck9 ck10 ?_
      generalize qv11 : h7 (g6 x0 42) (mf_w32 (8 + x1)) = v11
      replace hyp := hyp _ qv11.symm
      refine mf_lstore_n (mf_dat eX12_letter 18 rfl) rfl (by decide) ?_
      refine mf_iconst (v := 0) (mf_dat eX12_letter 19 rfl) (by decide) ?_
      refine mf_istore (mf_dat eX12_letter 20 rfl) (by decide) ?_
      refine mf_lload_n (mf_dat eX12_letter 21 rfl) rfl rfl ?_
      refine mf_lstore (mf_dat eX12_letter 22 rfl) (by decide) ?_
      exact mf_sub [5, 2, 1, 0] rfl hyp
    · replace hyp := hyp.2 hc
      refine mf_iconst (v := (-1)) (mf_dat eX12_letter 10 rfl) (by decide) ?_
      exact mf_ireturn (mf_dat eX12_letter 11 rfl) rfl (Or.inl rfl) hyp
set_option maxRecDepth 100000 in
set_option maxHeartbeats 4000000 in
theorem mX12_being {C : mf_G} {l : Launch} {d n : Nat} {K : mf_Kt} {x0 x1 x2 : Int} {g h : mf_M} (hd : 4 ≤ d) (hyp : mf_is n x0 12 ∧ mf_MT C l 1 YX12_isBeing [(2, x0), (0, x1)] n n g h (fun r1 g2 h3 => ((¬ r1 = 0 → ((x2 = 0 → mf_MT C l 0 YX12_leafOf [(2, x0), (0, x1)] n n g2 h3 (fun r5 g6 h7 => K r5 g6 h7)) ∧ (x2 = 1 → mf_MT C l 0 YX12_cellOf [(2, x0), (0, x1)] n n g2 h3 (fun r8 g9 h10 => K r8 g9 h10)) ∧ (x2 = 2 → mf_is n (g2 x0 46) 20 ∧ 0 ≤ mf_w32 (8 + x1) ∧ mf_w32 (8 + x1) < mf_len (g2 x0 46) ∧ K (h3 (g2 x0 46) (mf_w32 (8 + x1))) g2 h3) ∧ (x2 = 3 → mf_MT C l 0 YX12_purseOf [(2, x0), (0, x1)] n n g2 h3 (fun r14 g15 h16 => K r14 g15 h16)) ∧ (x2 = 4 → mf_is n (g2 x0 56) 20 ∧ 0 ≤ mf_w32 ((mf_w32 (7 + (mf_w32 (4 * x1)))) + 3) ∧ mf_w32 ((mf_w32 (7 + (mf_w32 (4 * x1)))) + 3) < mf_len (g2 x0 56) ∧ K (h3 (g2 x0 56) (mf_w32 ((mf_w32 (7 + (mf_w32 (4 * x1)))) + 3))) g2 h3) ∧ (x2 = 5 → mf_MT C l 0 YX12_leafOf [(2, x0), (0, x1)] n n g2 h3 (fun r20 g21 h22 => mf_is n (g21 x0 56) 20 ∧ 0 < mf_len (g21 x0 56) ∧ mf_MT C l 3 YX12_openingOn [(2, x0), (0, h22 (g21 x0 56) 0)] n n g21 h22 (fun r25 g26 h27 => mf_MT C l 0 YX12_isOpen [(0, r20), (0, r25)] n n g26 h27 (fun r28 g29 h30 => ((r28 = 0 → K 0 g29 h30) ∧ (¬ r28 = 0 → K 1 g29 h30)))))) ∧ ((x2 < 0 ∨ 5 < x2) → K (-1) g2 h3))) ∧ (r1 = 0 → K (-1) g2 h3)))) : mf_MT C l d YX12_being [(2, x0), (0, x1), (0, x2)] n n g h K := by
  refine mf_entry (by decide) (Nat.le_of_ble_eq_true rfl) ?_
  refine mf_aload_n (mf_dat eX12_being 0 rfl) rfl rfl ?_
  refine mf_iload_n (mf_dat eX12_being 1 rfl) rfl rfl ?_
  obtain ⟨ck4, hyp⟩ := hyp
  refine mf_callV (Yc := YX12_isBeing) (r := (RX12, TX12, 106)) (ci := 12) (mf_dat eX12_being 2 rfl) ml_X12_502 okX12_isBeing im_X12_isBeing sl_X12_isBeing rfl rfl rfl rfl (Nat.le_of_ble_eq_true rfl) (mf_rr (Nat.le_trans (by decide) hd) (Nat.le_refl _)) (Nat.le_refl _) ck4 hyp (fun r1 g2 h3 hyp => ?_)
  refine mf_if_ne (tgt := 10) (mf_dat eX12_being 3 rfl) (by decide) (fun hc => ?_) (fun hc => ?_)
  · replace hyp := hyp.1 hc
    refine mf_iload_n (mf_dat eX12_being 6 rfl) rfl rfl ?_
    refine mf_tsw1 (v := 0) (tgt := 48) (mf_dat eX12_being 7 rfl) (by decide) (by decide) (off := 37) (by decide) (by decide) (fun hc => ?_) (fun hc0 => ?_)
    · replace hyp := hyp.1 hc
      refine mf_aload_n (mf_dat eX12_being 8 rfl) rfl rfl ?_
      refine mf_iload_n (mf_dat eX12_being 9 rfl) rfl rfl ?_
      refine mf_callV (Yc := YX12_leafOf) (r := (RX12, TX12, 106)) (ci := 12) (mf_dat eX12_being 10 rfl) ml_X12_410 okX12_leafOf im_X12_leafOf sl_X12_leafOf rfl rfl rfl rfl (Nat.le_of_ble_eq_true rfl) (mf_rr (Nat.le_trans (by decide) hd) (Nat.le_refl _)) (Nat.le_refl _) ck4 hyp (fun r5 g6 h7 hyp => ?_)
      exact mf_ireturn (mf_dat eX12_being 11 rfl) rfl (Or.inl rfl) hyp
    replace hyp := hyp.2
    refine mf_tsw1 (v := 1) (tgt := 54) (mf_dat eX12_being 7 rfl) (by decide) (by decide) (off := 43) (by decide) (by decide) (fun hc => ?_) (fun hc1 => ?_)
    · replace hyp := hyp.1 hc
      refine mf_aload_n (mf_dat eX12_being 12 rfl) rfl rfl ?_
      refine mf_iload_n (mf_dat eX12_being 13 rfl) rfl rfl ?_
      refine mf_callV (Yc := YX12_cellOf) (r := (RX12, TX12, 106)) (ci := 12) (mf_dat eX12_being 14 rfl) ml_X12_413 okX12_cellOf im_X12_cellOf sl_X12_cellOf rfl rfl rfl rfl (Nat.le_of_ble_eq_true rfl) (mf_rr (Nat.le_trans (by decide) hd) (Nat.le_refl _)) (Nat.le_refl _) ck4 hyp (fun r8 g9 h10 hyp => ?_)
      exact mf_ireturn (mf_dat eX12_being 15 rfl) rfl (Or.inl rfl) hyp
    replace hyp := hyp.2
    refine mf_tsw1 (v := 2) (tgt := 60) (mf_dat eX12_being 7 rfl) (by decide) (by decide) (off := 49) (by decide) (by decide) (fun hc => ?_) (fun hc2 => ?_)
    · replace hyp := hyp.1 hc
      refine mf_aload_n (mf_dat eX12_being 16 rfl) rfl rfl ?_
      refine mf_getf (r := (RX12, TX12, 106)) (ci := 12) (k := 46) (t := 2) (v := g2 x0 46) (mf_dat eX12_being 17 rfl) fl_X12_124 rfl (by decide) rfl rfl ck4 ?_
      refine mf_bipush (v := 8) (mf_dat eX12_being 18 rfl) (by decide) ?_
      refine mf_iload_n (mf_dat eX12_being 19 rfl) rfl rfl ?_
      refine mf_iadd (mf_dat eX12_being 20 rfl) ?_
      obtain ⟨ck11, hyp⟩ := hyp
      obtain ⟨ck12, hyp⟩ := hyp
      obtain ⟨ck13, hyp⟩ := hyp
      refine mf_iald (mf_dat eX12_being 21 rfl) ck11 ck12 ck13 ?_
      exact mf_ireturn (mf_dat eX12_being 22 rfl) rfl (Or.inl rfl) hyp
    replace hyp := hyp.2
    refine mf_tsw1 (v := 3) (tgt := 70) (mf_dat eX12_being 7 rfl) (by decide) (by decide) (off := 59) (by decide) (by decide) (fun hc => ?_) (fun hc3 => ?_)
    · replace hyp := hyp.1 hc
      refine mf_aload_n (mf_dat eX12_being 23 rfl) rfl rfl ?_
      refine mf_iload_n (mf_dat eX12_being 24 rfl) rfl rfl ?_
      refine mf_callV (Yc := YX12_purseOf) (r := (RX12, TX12, 106)) (ci := 12) (mf_dat eX12_being 25 rfl) ml_X12_445 okX12_purseOf im_X12_purseOf sl_X12_purseOf rfl rfl rfl rfl (Nat.le_of_ble_eq_true rfl) (mf_rr (Nat.le_trans (by decide) hd) (Nat.le_refl _)) (Nat.le_refl _) ck4 hyp (fun r14 g15 h16 hyp => ?_)
      exact mf_ireturn (mf_dat eX12_being 26 rfl) rfl (Or.inl rfl) hyp
    replace hyp := hyp.2
    refine mf_tsw1 (v := 4) (tgt := 76) (mf_dat eX12_being 7 rfl) (by decide) (by decide) (off := 65) (by decide) (by decide) (fun hc => ?_) (fun hc4 => ?_)
    · replace hyp := hyp.1 hc
      refine mf_aload_n (mf_dat eX12_being 27 rfl) rfl rfl ?_
      refine mf_getf (r := (RX12, TX12, 106)) (ci := 12) (k := 56) (t := 2) (v := g2 x0 56) (mf_dat eX12_being 28 rfl) fl_X12_136 rfl (by decide) rfl rfl ck4 ?_
      refine mf_bipush (v := 7) (mf_dat eX12_being 29 rfl) (by decide) ?_
      refine mf_iconst (v := 4) (mf_dat eX12_being 30 rfl) (by decide) ?_
      refine mf_iload_n (mf_dat eX12_being 31 rfl) rfl rfl ?_
      refine mf_imul (mf_dat eX12_being 32 rfl) ?_
      refine mf_iadd (mf_dat eX12_being 33 rfl) ?_
      refine mf_iconst (v := 3) (mf_dat eX12_being 34 rfl) (by decide) ?_
      refine mf_iadd (mf_dat eX12_being 35 rfl) ?_
      obtain ⟨ck17, hyp⟩ := hyp
      obtain ⟨ck18, hyp⟩ := hyp
      obtain ⟨ck19, hyp⟩ := hyp
      refine mf_iald (mf_dat eX12_being 36 rfl) ck17 ck18 ck19 ?_
      exact mf_ireturn (mf_dat eX12_being 37 rfl) rfl (Or.inl rfl) hyp
    replace hyp := hyp.2
    refine mf_tsw1 (v := 5) (tgt := 90) (mf_dat eX12_being 7 rfl) (by decide) (by decide) (off := 79) (by decide) (by decide) (fun hc => ?_) (fun hc5 => ?_)
    · replace hyp := hyp.1 hc
      refine mf_aload_n (mf_dat eX12_being 38 rfl) rfl rfl ?_
      refine mf_iload_n (mf_dat eX12_being 39 rfl) rfl rfl ?_
      refine mf_callV (Yc := YX12_leafOf) (r := (RX12, TX12, 106)) (ci := 12) (mf_dat eX12_being 40 rfl) ml_X12_410 okX12_leafOf im_X12_leafOf sl_X12_leafOf rfl rfl rfl rfl (Nat.le_of_ble_eq_true rfl) (mf_rr (Nat.le_trans (by decide) hd) (Nat.le_refl _)) (Nat.le_refl _) ck4 hyp (fun r20 g21 h22 hyp => ?_)
      refine mf_aload_n (mf_dat eX12_being 41 rfl) rfl rfl ?_
      refine mf_aload_n (mf_dat eX12_being 42 rfl) rfl rfl ?_
      refine mf_getf (r := (RX12, TX12, 106)) (ci := 12) (k := 56) (t := 2) (v := g21 x0 56) (mf_dat eX12_being 43 rfl) fl_X12_136 rfl (by decide) rfl rfl ck4 ?_
      refine mf_iconst (v := 0) (mf_dat eX12_being 44 rfl) (by decide) ?_
      obtain ⟨ck23, hyp⟩ := hyp
      obtain ⟨ck24, hyp⟩ := hyp
      refine mf_iald (mf_dat eX12_being 45 rfl) ck23 (by decide) ck24 ?_
      refine mf_callV (Yc := YX12_openingOn) (r := (RX12, TX12, 106)) (ci := 12) (mf_dat eX12_being 46 rfl) ml_X12_487 okX12_openingOn im_X12_openingOn sl_X12_openingOn rfl rfl rfl rfl (Nat.le_of_ble_eq_true rfl) (mf_rr (Nat.le_trans (by decide) hd) (Nat.le_refl _)) (Nat.le_refl _) ck4 hyp (fun r25 g26 h27 hyp => ?_)
      refine mf_callS (Yc := YX12_isOpen) (mf_dat eX12_being 47 rfl) ml_X12_416 okX12_isOpen sm_X12_isOpen rfl rfl (Nat.le_of_ble_eq_true rfl) (mf_rr (Nat.le_trans (by decide) hd) (Nat.le_refl _)) (Nat.le_refl _) hyp (fun r28 g29 h30 hyp => ?_)
      refine mf_if_eq (tgt := 115) (mf_dat eX12_being 48 rfl) (by decide) (fun hc => ?_) (fun hc => ?_)
      · replace hyp := hyp.1 hc
        refine mf_iconst (v := 0) (mf_dat eX12_being 51 rfl) (by decide) ?_
        exact mf_ireturn (mf_dat eX12_being 52 rfl) rfl (Or.inl rfl) hyp
      · replace hyp := hyp.2 hc
        refine mf_iconst (v := 1) (mf_dat eX12_being 49 rfl) (by decide) ?_
        refine mf_goto (tgt := 116) (mf_dat eX12_being 50 rfl) (by decide) ?_
        exact mf_ireturn (mf_dat eX12_being 52 rfl) rfl (Or.inl rfl) hyp
    replace hyp := hyp.2
    refine mf_tswO (tgt := 117) (mf_dat eX12_being 7 rfl) (by omega) (by decide) ?_
    replace hyp := hyp (by omega)
    refine mf_iconst (v := (-1)) (mf_dat eX12_being 53 rfl) (by decide) ?_
    exact mf_ireturn (mf_dat eX12_being 54 rfl) rfl (Or.inl rfl) hyp
  · replace hyp := hyp.2 hc
    refine mf_iconst (v := (-1)) (mf_dat eX12_being 4 rfl) (by decide) ?_
    exact mf_ireturn (mf_dat eX12_being 5 rfl) rfl (Or.inl rfl) hyp
abbrev JX12_cell_58 (C : mf_G) (l : Launch) (d n : Nat) (K : mf_Kt) (x0 x1 x2 x3 s0 : Int) (g h : mf_M) : Prop := mf_AW C l YX12_cell (mf_rm d n n) n (mf_Zm C YX12_cell n n K) (fun _ _ => True) 58 [(0, (2, x0)), (1, (0, x1)), (2, (0, x2)), (3, (0, x3))] [(0, s0)] n g h
set_option maxRecDepth 100000 in
set_option maxHeartbeats 4000000 in
theorem bX12_cell_58 {C : mf_G} {l : Launch} {d n : Nat} {K : mf_Kt} {x0 x1 x2 x3 s0 : Int} {g h : mf_M} (hd : 2 ≤ d) (hyp : ((x3 = 0 → mf_is n x0 12 ∧ mf_MT C l 0 YX12_hasGloss [(2, x0), (0, x1), (0, x2)] n n g h (fun r1 g2 h3 => ((r1 = 0 → K 0 g2 h3) ∧ (¬ r1 = 0 → K 1 g2 h3)))) ∧ (x3 = 1 → mf_is n x0 12 ∧ mf_MT C l 1 YX12_standsOn [(2, x0), (0, x1), (0, x2)] n n g h (fun r5 g6 h7 => K r5 g6 h7)) ∧ (x3 = 2 → K s0 g h) ∧ (x3 = 3 → ((¬ s0 = (-1) → mf_is n x0 12 ∧ mf_is n (g x0 40) 20 ∧ 3 < mf_len (g x0 40) ∧ K (mf_w32 ((mf_w32 ((h (g x0 40) 3) - 1)) - x2)) g h) ∧ (s0 = (-1) → K (-1) g h))) ∧ ((x3 < 0 ∨ 3 < x3) → K (-1) g h))) : JX12_cell_58 C l d n K x0 x1 x2 x3 s0 g h := by
  refine mf_istore (mf_dat eX12_cell_p0 35 rfl) (by decide) ?_
  refine mf_iload_n (mf_dat eX12_cell_p0 36 rfl) rfl rfl ?_
  refine mf_tsw1 (v := 0) (tgt := 92) (mf_dat eX12_cell_p0 37 rfl) (by decide) (by decide) (off := 31) (by decide) (by decide) (fun hc => ?_) (fun hc0 => ?_)
  · replace hyp := hyp.1 hc
    refine mf_aload_n (mf_dat eX12_cell_p0 38 rfl) rfl rfl ?_
    refine mf_iload_n (mf_dat eX12_cell_p0 39 rfl) rfl rfl ?_
    refine mf_iload_n (mf_dat eX12_cell_p0 40 rfl) rfl rfl ?_
    obtain ⟨ck4, hyp⟩ := hyp
    refine mf_callV (Yc := YX12_hasGloss) (r := (RX12, TX12, 106)) (ci := 12) (mf_dat eX12_cell_p0 41 rfl) ml_X12_481 okX12_hasGloss im_X12_hasGloss sl_X12_hasGloss rfl rfl rfl rfl (Nat.le_of_ble_eq_true rfl) (mf_rr (Nat.le_trans (by decide) hd) (Nat.le_refl _)) (Nat.le_refl _) ck4 hyp (fun r1 g2 h3 hyp => ?_)
    refine mf_if_eq (tgt := 105) (mf_dat eX12_cell_p0 42 rfl) (by decide) (fun hc => ?_) (fun hc => ?_)
    · replace hyp := hyp.1 hc
      refine mf_iconst (v := 0) (mf_dat eX12_cell_p0 45 rfl) (by decide) ?_
      exact mf_ireturn (mf_dat eX12_cell_p0 46 rfl) rfl (Or.inl rfl) hyp
    · replace hyp := hyp.2 hc
      refine mf_iconst (v := 1) (mf_dat eX12_cell_p0 43 rfl) (by decide) ?_
      refine mf_goto (tgt := 106) (mf_dat eX12_cell_p0 44 rfl) (by decide) ?_
      exact mf_ireturn (mf_dat eX12_cell_p0 46 rfl) rfl (Or.inl rfl) hyp
  replace hyp := hyp.2
  refine mf_tsw1 (v := 1) (tgt := 107) (mf_dat eX12_cell_p0 37 rfl) (by decide) (by decide) (off := 46) (by decide) (by decide) (fun hc => ?_) (fun hc1 => ?_)
  · replace hyp := hyp.1 hc
    refine mf_aload_n (mf_dat eX12_cell_p0 47 rfl) rfl rfl ?_
    refine mf_iload_n (mf_dat eX12_cell_p0 48 rfl) rfl rfl ?_
    refine mf_iload_n (mf_dat eX12_cell_p0 49 rfl) rfl rfl ?_
    obtain ⟨ck8, hyp⟩ := hyp
    refine mf_callV (Yc := YX12_standsOn) (r := (RX12, TX12, 106)) (ci := 12) (mf_dat eX12_cell_p0 50 rfl) ml_X12_484 okX12_standsOn im_X12_standsOn sl_X12_standsOn rfl rfl rfl rfl (Nat.le_of_ble_eq_true rfl) (mf_rr (Nat.le_trans (by decide) hd) (Nat.le_refl _)) (Nat.le_refl _) ck8 hyp (fun r5 g6 h7 hyp => ?_)
    exact mf_ireturn (mf_dat eX12_cell_p0 51 rfl) rfl (Or.inl rfl) hyp
  replace hyp := hyp.2
  refine mf_tsw1 (v := 2) (tgt := 114) (mf_dat eX12_cell_p0 37 rfl) (by decide) (by decide) (off := 53) (by decide) (by decide) (fun hc => ?_) (fun hc2 => ?_)
  · replace hyp := hyp.1 hc
    refine mf_iload (mf_dat eX12_cell_p0 52 rfl) rfl ?_
    exact mf_ireturn (mf_dat eX12_cell_p0 53 rfl) rfl (Or.inl rfl) hyp
  replace hyp := hyp.2
  refine mf_tsw1 (v := 3) (tgt := 117) (mf_dat eX12_cell_p0 37 rfl) (by decide) (by decide) (off := 56) (by decide) (by decide) (fun hc => ?_) (fun hc3 => ?_)
  · replace hyp := hyp.1 hc
    refine mf_iload (mf_dat eX12_cell_p0 54 rfl) rfl ?_
    refine mf_iconst (v := (-1)) (mf_dat eX12_cell_p0 55 rfl) (by decide) ?_
    refine mf_icmp_ne (tgt := 127) (mf_dat eX12_cell_p0 56 rfl) (by decide) (fun hc => ?_) (fun hc => ?_)
    · replace hyp := hyp.1 hc
      refine mf_aload_n (mf_dat eX12_cell_p0 59 rfl) rfl rfl ?_
      obtain ⟨ck9, hyp⟩ := hyp
      refine mf_getf (r := (RX12, TX12, 106)) (ci := 12) (k := 40) (t := 2) (v := g x0 40) (mf_dat eX12_cell_p1 0 rfl) fl_X12_105 rfl (by decide) rfl rfl ck9 ?_
      refine mf_iconst (v := 3) (mf_dat eX12_cell_p1 1 rfl) (by decide) ?_
      obtain ⟨ck10, hyp⟩ := hyp
      obtain ⟨ck11, hyp⟩ := hyp
      refine mf_iald (mf_dat eX12_cell_p1 2 rfl) ck10 (by decide) ck11 ?_
      refine mf_iconst (v := 1) (mf_dat eX12_cell_p1 3 rfl) (by decide) ?_
      refine mf_isub (mf_dat eX12_cell_p1 4 rfl) ?_
      refine mf_iload_n (mf_dat eX12_cell_p1 5 rfl) rfl rfl ?_
      refine mf_isub (mf_dat eX12_cell_p1 6 rfl) ?_
      exact mf_ireturn (mf_dat eX12_cell_p1 7 rfl) rfl (Or.inl rfl) hyp
    · replace hyp := hyp.2 hc
      refine mf_iconst (v := (-1)) (mf_dat eX12_cell_p0 57 rfl) (by decide) ?_
      refine mf_goto (tgt := 137) (mf_dat eX12_cell_p0 58 rfl) (by decide) ?_
      exact mf_ireturn (mf_dat eX12_cell_p1 7 rfl) rfl (Or.inl rfl) hyp
  replace hyp := hyp.2
  refine mf_tswO (tgt := 138) (mf_dat eX12_cell_p0 37 rfl) (by omega) (by decide) ?_
  replace hyp := hyp (by omega)
  refine mf_iconst (v := (-1)) (mf_dat eX12_cell_p1 8 rfl) (by decide) ?_
  exact mf_ireturn (mf_dat eX12_cell_p1 9 rfl) rfl (Or.inl rfl) hyp
set_option maxRecDepth 100000 in
set_option maxHeartbeats 4000000 in
theorem mX12_cell {C : mf_G} {l : Launch} {d n : Nat} {K : mf_Kt} {x0 x1 x2 x3 : Int} {g h : mf_M} (hd : 4 ≤ d) (hyp : mf_is n x0 12 ∧ mf_MT C l 1 YX12_isCell [(2, x0), (0, x1), (0, x2)] n n g h (fun r1 g2 h3 => ((¬ r1 = 0 → mf_is n (g2 x0 56) 20 ∧ 0 < mf_len (g2 x0 56) ∧ mf_MT C l 3 YX12_openingOn [(2, x0), (0, h3 (g2 x0 56) 0)] n n g2 h3 (fun r7 g8 h9 => mf_MT C l 1 YX12_liesOnNext [(2, x0), (0, mf_w32 (x1 - 1)), (0, r7)] n n g8 h9 (fun r10 g11 h12 => ((r10 = 0 → mf_MT C l 1 YX12_liesOnNext [(2, x0), (0, x1), (0, r7)] n n g11 h12 (fun r13 g14 h15 => ((r13 = 0 → JX12_cell_58 C l d n K x0 x1 x2 x3 (-1) g14 h15) ∧ (¬ r13 = 0 → JX12_cell_58 C l d n K x0 x1 x2 x3 (mf_w32 (x1 + 1)) g14 h15)))) ∧ (¬ r10 = 0 → JX12_cell_58 C l d n K x0 x1 x2 x3 (mf_w32 (x1 - 1)) g11 h12))))) ∧ (r1 = 0 → K (-1) g2 h3)))) : mf_MT C l d YX12_cell [(2, x0), (0, x1), (0, x2), (0, x3)] n n g h K := by
  refine mf_entry (by decide) (Nat.le_of_ble_eq_true rfl) ?_
  refine mf_aload_n (mf_dat eX12_cell_p0 0 rfl) rfl rfl ?_
  refine mf_iload_n (mf_dat eX12_cell_p0 1 rfl) rfl rfl ?_
  refine mf_iload_n (mf_dat eX12_cell_p0 2 rfl) rfl rfl ?_
  obtain ⟨ck4, hyp⟩ := hyp
  refine mf_callV (Yc := YX12_isCell) (r := (RX12, TX12, 106)) (ci := 12) (mf_dat eX12_cell_p0 3 rfl) ml_X12_507 okX12_isCell im_X12_isCell sl_X12_isCell rfl rfl rfl rfl (Nat.le_of_ble_eq_true rfl) (mf_rr (Nat.le_trans (by decide) hd) (Nat.le_refl _)) (Nat.le_refl _) ck4 hyp (fun r1 g2 h3 hyp => ?_)
  refine mf_if_ne (tgt := 11) (mf_dat eX12_cell_p0 4 rfl) (by decide) (fun hc => ?_) (fun hc => ?_)
  · replace hyp := hyp.1 hc
    refine mf_aload_n (mf_dat eX12_cell_p0 7 rfl) rfl rfl ?_
    refine mf_aload_n (mf_dat eX12_cell_p0 8 rfl) rfl rfl ?_
    refine mf_getf (r := (RX12, TX12, 106)) (ci := 12) (k := 56) (t := 2) (v := g2 x0 56) (mf_dat eX12_cell_p0 9 rfl) fl_X12_136 rfl (by decide) rfl rfl ck4 ?_
    refine mf_iconst (v := 0) (mf_dat eX12_cell_p0 10 rfl) (by decide) ?_
    obtain ⟨ck5, hyp⟩ := hyp
    obtain ⟨ck6, hyp⟩ := hyp
    refine mf_iald (mf_dat eX12_cell_p0 11 rfl) ck5 (by decide) ck6 ?_
    refine mf_callV (Yc := YX12_openingOn) (r := (RX12, TX12, 106)) (ci := 12) (mf_dat eX12_cell_p0 12 rfl) ml_X12_487 okX12_openingOn im_X12_openingOn sl_X12_openingOn rfl rfl rfl rfl (Nat.le_of_ble_eq_true rfl) (mf_rr (Nat.le_trans (by decide) hd) (Nat.le_refl _)) (Nat.le_refl _) ck4 hyp (fun r7 g8 h9 hyp => ?_)
    refine mf_istore (mf_dat eX12_cell_p0 13 rfl) (by decide) ?_
    refine mf_aload_n (mf_dat eX12_cell_p0 14 rfl) rfl rfl ?_
    refine mf_iload_n (mf_dat eX12_cell_p0 15 rfl) rfl rfl ?_
    refine mf_iconst (v := 1) (mf_dat eX12_cell_p0 16 rfl) (by decide) ?_
    refine mf_isub (mf_dat eX12_cell_p0 17 rfl) ?_
    refine mf_iload (mf_dat eX12_cell_p0 18 rfl) rfl ?_
    refine mf_callV (Yc := YX12_liesOnNext) (r := (RX12, TX12, 106)) (ci := 12) (mf_dat eX12_cell_p0 19 rfl) ml_X12_419 okX12_liesOnNext im_X12_liesOnNext sl_X12_liesOnNext rfl rfl rfl rfl (Nat.le_of_ble_eq_true rfl) (mf_rr (Nat.le_trans (by decide) hd) (Nat.le_refl _)) (Nat.le_refl _) ck4 hyp (fun r10 g11 h12 hyp => ?_)
    refine mf_if_eq (tgt := 41) (mf_dat eX12_cell_p0 20 rfl) (by decide) (fun hc => ?_) (fun hc => ?_)
    · replace hyp := hyp.1 hc
      refine mf_aload_n (mf_dat eX12_cell_p0 25 rfl) rfl rfl ?_
      refine mf_iload_n (mf_dat eX12_cell_p0 26 rfl) rfl rfl ?_
      refine mf_iload (mf_dat eX12_cell_p0 27 rfl) rfl ?_
      refine mf_callV (Yc := YX12_liesOnNext) (r := (RX12, TX12, 106)) (ci := 12) (mf_dat eX12_cell_p0 28 rfl) ml_X12_419 okX12_liesOnNext im_X12_liesOnNext sl_X12_liesOnNext rfl rfl rfl rfl (Nat.le_of_ble_eq_true rfl) (mf_rr (Nat.le_trans (by decide) hd) (Nat.le_refl _)) (Nat.le_refl _) ck4 hyp (fun r13 g14 h15 hyp => ?_)
      refine mf_if_eq (tgt := 57) (mf_dat eX12_cell_p0 29 rfl) (by decide) (fun hc => ?_) (fun hc => ?_)
      · replace hyp := hyp.1 hc
        refine mf_iconst (v := (-1)) (mf_dat eX12_cell_p0 34 rfl) (by decide) ?_
        exact mf_sub [1, 2, 3, 4] rfl hyp
      · replace hyp := hyp.2 hc
        refine mf_iload_n (mf_dat eX12_cell_p0 30 rfl) rfl rfl ?_
        refine mf_iconst (v := 1) (mf_dat eX12_cell_p0 31 rfl) (by decide) ?_
        refine mf_iadd (mf_dat eX12_cell_p0 32 rfl) ?_
        refine mf_goto (tgt := 58) (mf_dat eX12_cell_p0 33 rfl) (by decide) ?_
        exact mf_sub [1, 2, 3, 4] rfl hyp
    · replace hyp := hyp.2 hc
      refine mf_iload_n (mf_dat eX12_cell_p0 21 rfl) rfl rfl ?_
      refine mf_iconst (v := 1) (mf_dat eX12_cell_p0 22 rfl) (by decide) ?_
      refine mf_isub (mf_dat eX12_cell_p0 23 rfl) ?_
      refine mf_goto (tgt := 58) (mf_dat eX12_cell_p0 24 rfl) (by decide) ?_
      exact mf_sub [1, 2, 3, 4] rfl hyp
  · replace hyp := hyp.2 hc
    refine mf_iconst (v := (-1)) (mf_dat eX12_cell_p0 5 rfl) (by decide) ?_
    exact mf_ireturn (mf_dat eX12_cell_p0 6 rfl) rfl (Or.inl rfl) hyp
set_option maxRecDepth 100000 in
set_option maxHeartbeats 4000000 in
theorem mX12_kept {C : mf_G} {l : Launch} {d n : Nat} {K : mf_Kt} {x0 x1 x2 : Int} {g h : mf_M} (hd : 1 ≤ d) (hyp : mf_is n x0 12 ∧ mf_is n (g x0 56) 20 ∧ 39 < mf_len (g x0 56) ∧ mf_MT C l 0 YX12_isIn [(1, x1), (1, 0), (1, mf_w32 ((h (g x0 56) 39) - 1))] n n g h (fun r4 g5 h6 => ((r4 = 0 → K (-1) g5 h6) ∧ (¬ r4 = 0 → mf_MT C l 0 YX12_isIn [(1, x2), (1, 0), (1, 2)] n n g5 h6 (fun r7 g8 h9 => ((r7 = 0 → K (-1) g8 h9) ∧ (¬ r7 = 0 → mf_is n (g8 x0 56) 20 ∧ 0 ≤ mf_w32 ((mf_w32 (40 + (mf_w32 (3 * x1)))) + x2) ∧ mf_w32 ((mf_w32 (40 + (mf_w32 (3 * x1)))) + x2) < mf_len (g8 x0 56) ∧ K (h9 (g8 x0 56) (mf_w32 ((mf_w32 (40 + (mf_w32 (3 * x1)))) + x2))) g8 h9))))))) : mf_MT C l d YX12_kept [(2, x0), (0, x1), (0, x2)] n n g h K := by
  refine mf_entry (by decide) (Nat.le_of_ble_eq_true rfl) ?_
  refine mf_iload_n (mf_dat eX12_kept 0 rfl) rfl rfl ?_
  refine mf_i2l (mf_dat eX12_kept 1 rfl) ?_
  refine mf_lconst (v := 0) (mf_dat eX12_kept 2 rfl) (by decide) ?_
  refine mf_aload_n (mf_dat eX12_kept 3 rfl) rfl rfl ?_
  obtain ⟨ck1, hyp⟩ := hyp
  refine mf_getf (r := (RX12, TX12, 106)) (ci := 12) (k := 56) (t := 2) (v := g x0 56) (mf_dat eX12_kept 4 rfl) fl_X12_136 rfl (by decide) rfl rfl ck1 ?_
  refine mf_bipush (v := 39) (mf_dat eX12_kept 5 rfl) (by decide) ?_
  obtain ⟨ck2, hyp⟩ := hyp
  obtain ⟨ck3, hyp⟩ := hyp
  refine mf_iald (mf_dat eX12_kept 6 rfl) ck2 (by decide) ck3 ?_
  refine mf_iconst (v := 1) (mf_dat eX12_kept 7 rfl) (by decide) ?_
  refine mf_isub (mf_dat eX12_kept 8 rfl) ?_
  refine mf_i2l (mf_dat eX12_kept 9 rfl) ?_
  refine mf_callS (Yc := YX12_isIn) (mf_dat eX12_kept 10 rfl) ml_X12_286 okX12_isIn sm_X12_isIn rfl rfl (Nat.le_of_ble_eq_true rfl) (mf_rr (Nat.le_trans (by decide) hd) (Nat.le_refl _)) (Nat.le_refl _) hyp (fun r4 g5 h6 hyp => ?_)
  refine mf_if_eq (tgt := 47) (mf_dat eX12_kept 11 rfl) (by decide) (fun hc => ?_) (fun hc => ?_)
  · replace hyp := hyp.1 hc
    refine mf_iconst (v := (-1)) (mf_dat eX12_kept 29 rfl) (by decide) ?_
    exact mf_ireturn (mf_dat eX12_kept 30 rfl) rfl (Or.inl rfl) hyp
  · replace hyp := hyp.2 hc
    refine mf_iload_n (mf_dat eX12_kept 12 rfl) rfl rfl ?_
    refine mf_i2l (mf_dat eX12_kept 13 rfl) ?_
    refine mf_lconst (v := 0) (mf_dat eX12_kept 14 rfl) (by decide) ?_
    refine mf_ldc2 (v := 2) cl_X12_510 (mf_dat eX12_kept 15 rfl) (by decide) ?_
    refine mf_callS (Yc := YX12_isIn) (mf_dat eX12_kept 16 rfl) ml_X12_286 okX12_isIn sm_X12_isIn rfl rfl (Nat.le_of_ble_eq_true rfl) (mf_rr (Nat.le_trans (by decide) hd) (Nat.le_refl _)) (Nat.le_refl _) hyp (fun r7 g8 h9 hyp => ?_)
    refine mf_if_eq (tgt := 47) (mf_dat eX12_kept 17 rfl) (by decide) (fun hc => ?_) (fun hc => ?_)
    · replace hyp := hyp.1 hc
      refine mf_iconst (v := (-1)) (mf_dat eX12_kept 29 rfl) (by decide) ?_
      exact mf_ireturn (mf_dat eX12_kept 30 rfl) rfl (Or.inl rfl) hyp
    · replace hyp := hyp.2 hc
      refine mf_aload_n (mf_dat eX12_kept 18 rfl) rfl rfl ?_
      refine mf_getf (r := (RX12, TX12, 106)) (ci := 12) (k := 56) (t := 2) (v := g8 x0 56) (mf_dat eX12_kept 19 rfl) fl_X12_136 rfl (by decide) rfl rfl ck1 ?_
      refine mf_bipush (v := 40) (mf_dat eX12_kept 20 rfl) (by decide) ?_
      refine mf_iconst (v := 3) (mf_dat eX12_kept 21 rfl) (by decide) ?_
      refine mf_iload_n (mf_dat eX12_kept 22 rfl) rfl rfl ?_
      refine mf_imul (mf_dat eX12_kept 23 rfl) ?_
      refine mf_iadd (mf_dat eX12_kept 24 rfl) ?_
      refine mf_iload_n (mf_dat eX12_kept 25 rfl) rfl rfl ?_
      refine mf_iadd (mf_dat eX12_kept 26 rfl) ?_
      obtain ⟨ck10, hyp⟩ := hyp
      obtain ⟨ck11, hyp⟩ := hyp
      obtain ⟨ck12, hyp⟩ := hyp
      refine mf_iald (mf_dat eX12_kept 27 rfl) ck10 ck11 ck12 ?_
      refine mf_goto (tgt := 48) (mf_dat eX12_kept 28 rfl) (by decide) ?_
      exact mf_ireturn (mf_dat eX12_kept 30 rfl) rfl (Or.inl rfl) hyp
set_option maxRecDepth 100000 in
set_option maxHeartbeats 4000000 in
theorem mX12_meets {C : mf_G} {l : Launch} {d n : Nat} {K : mf_Kt} {x0 x1 x2 : Int} {g h : mf_M} (hd : 4 ≤ d) (hyp : mf_is n x0 12 ∧ mf_MT C l 1 YX12_isBeing [(2, x0), (0, x1)] n n g h (fun r1 g2 h3 => ((r1 = 0 → K (-1) g2 h3) ∧ (¬ r1 = 0 → mf_MT C l 1 YX12_isBeing [(2, x0), (0, x2)] n n g2 h3 (fun r5 g6 h7 => ((r5 = 0 → K (-1) g6 h7) ∧ (¬ r5 = 0 → ((¬ x1 = x2 → mf_is n (g6 x0 56) 20 ∧ 0 < mf_len (g6 x0 56) ∧ mf_MT C l 3 YX12_openingOn [(2, x0), (0, h7 (g6 x0 56) 0)] n n g6 h7 (fun r10 g11 h12 => mf_MT C l 2 YX12_doMeet [(2, x0), (0, x1), (0, x2), (0, r10)] n n g11 h12 (fun r13 g14 h15 => ((r13 = 0 → K 0 g14 h15) ∧ (¬ r13 = 0 → K 1 g14 h15))))) ∧ (x1 = x2 → K (-1) g6 h7))))))))) : mf_MT C l d YX12_meets [(2, x0), (0, x1), (0, x2)] n n g h K := by
  refine mf_entry (by decide) (Nat.le_of_ble_eq_true rfl) ?_
  refine mf_aload_n (mf_dat eX12_meets 0 rfl) rfl rfl ?_
  refine mf_iload_n (mf_dat eX12_meets 1 rfl) rfl rfl ?_
  obtain ⟨ck4, hyp⟩ := hyp
  refine mf_callV (Yc := YX12_isBeing) (r := (RX12, TX12, 106)) (ci := 12) (mf_dat eX12_meets 2 rfl) ml_X12_502 okX12_isBeing im_X12_isBeing sl_X12_isBeing rfl rfl rfl rfl (Nat.le_of_ble_eq_true rfl) (mf_rr (Nat.le_trans (by decide) hd) (Nat.le_refl _)) (Nat.le_refl _) ck4 hyp (fun r1 g2 h3 hyp => ?_)
  refine mf_if_eq (tgt := 21) (mf_dat eX12_meets 3 rfl) (by decide) (fun hc => ?_) (fun hc => ?_)
  · replace hyp := hyp.1 hc
    refine mf_iconst (v := (-1)) (mf_dat eX12_meets 11 rfl) (by decide) ?_
    exact mf_ireturn (mf_dat eX12_meets 12 rfl) rfl (Or.inl rfl) hyp
  · replace hyp := hyp.2 hc
    refine mf_aload_n (mf_dat eX12_meets 4 rfl) rfl rfl ?_
    refine mf_iload_n (mf_dat eX12_meets 5 rfl) rfl rfl ?_
    refine mf_callV (Yc := YX12_isBeing) (r := (RX12, TX12, 106)) (ci := 12) (mf_dat eX12_meets 6 rfl) ml_X12_502 okX12_isBeing im_X12_isBeing sl_X12_isBeing rfl rfl rfl rfl (Nat.le_of_ble_eq_true rfl) (mf_rr (Nat.le_trans (by decide) hd) (Nat.le_refl _)) (Nat.le_refl _) ck4 hyp (fun r5 g6 h7 hyp => ?_)
    refine mf_if_eq (tgt := 21) (mf_dat eX12_meets 7 rfl) (by decide) (fun hc => ?_) (fun hc => ?_)
    · replace hyp := hyp.1 hc
      refine mf_iconst (v := (-1)) (mf_dat eX12_meets 11 rfl) (by decide) ?_
      exact mf_ireturn (mf_dat eX12_meets 12 rfl) rfl (Or.inl rfl) hyp
    · replace hyp := hyp.2 hc
      refine mf_iload_n (mf_dat eX12_meets 8 rfl) rfl rfl ?_
      refine mf_iload_n (mf_dat eX12_meets 9 rfl) rfl rfl ?_
      refine mf_icmp_ne (tgt := 23) (mf_dat eX12_meets 10 rfl) (by decide) (fun hc => ?_) (fun hc => ?_)
      · replace hyp := hyp.1 hc
        refine mf_aload_n (mf_dat eX12_meets 13 rfl) rfl rfl ?_
        refine mf_iload_n (mf_dat eX12_meets 14 rfl) rfl rfl ?_
        refine mf_iload_n (mf_dat eX12_meets 15 rfl) rfl rfl ?_
        refine mf_aload_n (mf_dat eX12_meets 16 rfl) rfl rfl ?_
        refine mf_aload_n (mf_dat eX12_meets 17 rfl) rfl rfl ?_
        refine mf_getf (r := (RX12, TX12, 106)) (ci := 12) (k := 56) (t := 2) (v := g6 x0 56) (mf_dat eX12_meets 18 rfl) fl_X12_136 rfl (by decide) rfl rfl ck4 ?_
        refine mf_iconst (v := 0) (mf_dat eX12_meets 19 rfl) (by decide) ?_
        obtain ⟨ck8, hyp⟩ := hyp
        obtain ⟨ck9, hyp⟩ := hyp
        refine mf_iald (mf_dat eX12_meets 20 rfl) ck8 (by decide) ck9 ?_
        refine mf_callV (Yc := YX12_openingOn) (r := (RX12, TX12, 106)) (ci := 12) (mf_dat eX12_meets 21 rfl) ml_X12_487 okX12_openingOn im_X12_openingOn sl_X12_openingOn rfl rfl rfl rfl (Nat.le_of_ble_eq_true rfl) (mf_rr (Nat.le_trans (by decide) hd) (Nat.le_refl _)) (Nat.le_refl _) ck4 hyp (fun r10 g11 h12 hyp => ?_)
        refine mf_callV (Yc := YX12_doMeet) (r := (RX12, TX12, 106)) (ci := 12) (mf_dat eX12_meets 22 rfl) ml_X12_471 okX12_doMeet im_X12_doMeet sl_X12_doMeet rfl rfl rfl rfl (Nat.le_of_ble_eq_true rfl) (mf_rr (Nat.le_trans (by decide) hd) (Nat.le_refl _)) (Nat.le_refl _) ck4 hyp (fun r13 g14 h15 hyp => ?_)
        refine mf_if_eq (tgt := 46) (mf_dat eX12_meets 23 rfl) (by decide) (fun hc => ?_) (fun hc => ?_)
        · replace hyp := hyp.1 hc
          refine mf_iconst (v := 0) (mf_dat eX12_meets 26 rfl) (by decide) ?_
          exact mf_ireturn (mf_dat eX12_meets 27 rfl) rfl (Or.inl rfl) hyp
        · replace hyp := hyp.2 hc
          refine mf_iconst (v := 1) (mf_dat eX12_meets 24 rfl) (by decide) ?_
          refine mf_goto (tgt := 47) (mf_dat eX12_meets 25 rfl) (by decide) ?_
          exact mf_ireturn (mf_dat eX12_meets 27 rfl) rfl (Or.inl rfl) hyp
      · replace hyp := hyp.2 hc
        refine mf_iconst (v := (-1)) (mf_dat eX12_meets 11 rfl) (by decide) ?_
        exact mf_ireturn (mf_dat eX12_meets 12 rfl) rfl (Or.inl rfl) hyp
abbrev JX12_pairsBy_4 (C : mf_G) (l : Launch) (d n : Nat) (K : mf_Kt) (x0 x1 x2 x3 : Int) (g h : mf_M) : Prop := mf_AW C l YX12_pairsBy (mf_rm d n n) n (mf_Zm C YX12_pairsBy n n K) (fun _ _ => True) 4 [(0, (2, x0)), (1, (0, x1)), (2, (0, x2)), (3, (0, x3))] [] n g h
abbrev JX12_pairsBy_17 (C : mf_G) (l : Launch) (d n : Nat) (K : mf_Kt) (x0 x1 x2 x3 x4 : Int) (g h : mf_M) : Prop := mf_AW C l YX12_pairsBy (mf_rm d n n) n (mf_Zm C YX12_pairsBy n n K) (fun _ _ => True) 17 [(0, (2, x0)), (1, (0, x1)), (2, (0, x2)), (3, (0, x3)), (4, (0, x4))] [] n g h
set_option maxRecDepth 100000 in
set_option maxHeartbeats 4000000 in
theorem bX12_pairsBy_4 {C : mf_G} {l : Launch} {d n : Nat} {K : mf_Kt} {x0 x1 x2 x3 : Int} {g h : mf_M} (hd : 1 ≤ d) (hyp : mf_is n x0 12 ∧ mf_MT C l 0 YX12_beingMany [(2, x0)] n n g h (fun r1 g2 h3 => ((r1 ≤ x3 → K x2 g2 h3) ∧ (¬ r1 ≤ x3 → (∀ v5 : Int, v5 = mf_w32 (x3 + 1) → JX12_pairsBy_17 C l d n K x0 x1 x2 x3 v5 g2 h3))))) : JX12_pairsBy_4 C l d n K x0 x1 x2 x3 g h := by
  refine mf_iload_n (mf_dat eX12_pairsBy 4 rfl) rfl rfl ?_
  refine mf_aload_n (mf_dat eX12_pairsBy 5 rfl) rfl rfl ?_
  obtain ⟨ck4, hyp⟩ := hyp
  refine mf_callV (Yc := YX12_beingMany) (r := (RX12, TX12, 106)) (ci := 12) (mf_dat eX12_pairsBy 6 rfl) ml_X12_402 okX12_beingMany im_X12_beingMany sl_X12_beingMany rfl rfl rfl rfl (Nat.le_of_ble_eq_true rfl) (mf_rr (Nat.le_trans (by decide) hd) (Nat.le_refl _)) (Nat.le_refl _) ck4 hyp (fun r1 g2 h3 hyp => ?_)
  refine mf_icmp_ge (tgt := 52) (mf_dat eX12_pairsBy 7 rfl) (by decide) (fun hc => ?_) (fun hc => ?_)
  · replace hyp := hyp.1 hc
    refine mf_iload_n (mf_dat eX12_pairsBy 27 rfl) rfl rfl ?_
    exact mf_ireturn (mf_dat eX12_pairsBy 28 rfl) rfl (Or.inl rfl) hyp
  · replace hyp := hyp.2 hc
    refine mf_iload_n (mf_dat eX12_pairsBy 8 rfl) rfl rfl ?_
    refine mf_iconst (v := 1) (mf_dat eX12_pairsBy 9 rfl) (by decide) ?_
    refine mf_iadd (mf_dat eX12_pairsBy 10 rfl) ?_
    generalize qv5 : mf_w32 (x3 + 1) = v5
    replace hyp := hyp _ qv5.symm
    refine mf_istore (mf_dat eX12_pairsBy 11 rfl) (by decide) ?_
    exact mf_sub [1, 2, 3, 4, 0] rfl hyp
set_option maxRecDepth 100000 in
set_option maxHeartbeats 4000000 in
theorem bX12_pairsBy_17 {C : mf_G} {l : Launch} {d n : Nat} {K : mf_Kt} {x0 x1 x2 x3 x4 : Int} {g h : mf_M} (hd : 3 ≤ d) (hyp : mf_is n x0 12 ∧ mf_MT C l 0 YX12_beingMany [(2, x0)] n n g h (fun r1 g2 h3 => ((r1 ≤ x4 → (∀ v5 : Int, v5 = mf_w32 (x3 + 1) → JX12_pairsBy_4 C l d n K x0 x1 x2 v5 g2 h3)) ∧ (¬ r1 ≤ x4 → mf_MT C l 2 YX12_doMeet [(2, x0), (0, x3), (0, x4), (0, x1)] n n g2 h3 (fun r6 g7 h8 => ((r6 = 0 → (∀ v9 : Int, v9 = mf_w32 (x4 + 1) → JX12_pairsBy_17 C l d n K x0 x1 x2 x3 v9 g7 h8)) ∧ (¬ r6 = 0 → (∀ v10 : Int, v10 = mf_w32 (x2 + 1) → (∀ v11 : Int, v11 = mf_w32 (x4 + 1) → JX12_pairsBy_17 C l d n K x0 x1 v10 x3 v11 g7 h8))))))))) : JX12_pairsBy_17 C l d n K x0 x1 x2 x3 x4 g h := by
  refine mf_iload (mf_dat eX12_pairsBy 12 rfl) rfl ?_
  refine mf_aload_n (mf_dat eX12_pairsBy 13 rfl) rfl rfl ?_
  obtain ⟨ck4, hyp⟩ := hyp
  refine mf_callV (Yc := YX12_beingMany) (r := (RX12, TX12, 106)) (ci := 12) (mf_dat eX12_pairsBy 14 rfl) ml_X12_402 okX12_beingMany im_X12_beingMany sl_X12_beingMany rfl rfl rfl rfl (Nat.le_of_ble_eq_true rfl) (mf_rr (Nat.le_trans (by decide) hd) (Nat.le_refl _)) (Nat.le_refl _) ck4 hyp (fun r1 g2 h3 hyp => ?_)
  refine mf_icmp_ge (tgt := 46) (mf_dat eX12_pairsBy 15 rfl) (by decide) (fun hc => ?_) (fun hc => ?_)
  · replace hyp := hyp.1 hc
    refine mf_iinc (mf_dat eX12_pairsBy 25 rfl) rfl (by decide) (by decide) ?_
    generalize qv5 : mf_w32 (x3 + 1) = v5
    replace hyp := hyp _ qv5.symm
    refine mf_goto (tgt := 4) (mf_dat eX12_pairsBy 26 rfl) (by decide) ?_
    exact mf_sub [1, 2, 3, 0] rfl hyp
  · replace hyp := hyp.2 hc
    refine mf_aload_n (mf_dat eX12_pairsBy 16 rfl) rfl rfl ?_
    refine mf_iload_n (mf_dat eX12_pairsBy 17 rfl) rfl rfl ?_
    refine mf_iload (mf_dat eX12_pairsBy 18 rfl) rfl ?_
    refine mf_iload_n (mf_dat eX12_pairsBy 19 rfl) rfl rfl ?_
    refine mf_callV (Yc := YX12_doMeet) (r := (RX12, TX12, 106)) (ci := 12) (mf_dat eX12_pairsBy 20 rfl) ml_X12_471 okX12_doMeet im_X12_doMeet sl_X12_doMeet rfl rfl rfl rfl (Nat.le_of_ble_eq_true rfl) (mf_rr (Nat.le_trans (by decide) hd) (Nat.le_refl _)) (Nat.le_refl _) ck4 hyp (fun r6 g7 h8 hyp => ?_)
    refine mf_if_eq (tgt := 40) (mf_dat eX12_pairsBy 21 rfl) (by decide) (fun hc => ?_) (fun hc => ?_)
    · replace hyp := hyp.1 hc
      refine mf_iinc (mf_dat eX12_pairsBy 23 rfl) rfl (by decide) (by decide) ?_
      generalize qv9 : mf_w32 (x4 + 1) = v9
      replace hyp := hyp _ qv9.symm
      refine mf_goto (tgt := 17) (mf_dat eX12_pairsBy 24 rfl) (by decide) ?_
      exact mf_sub [1, 2, 3, 4, 0] rfl hyp
    · replace hyp := hyp.2 hc
      refine mf_iinc (mf_dat eX12_pairsBy 22 rfl) rfl (by decide) (by decide) ?_
      generalize qv10 : mf_w32 (x2 + 1) = v10
      replace hyp := hyp _ qv10.symm
      refine mf_iinc (mf_dat eX12_pairsBy 23 rfl) rfl (by decide) (by decide) ?_
      generalize qv11 : mf_w32 (x4 + 1) = v11
      replace hyp := hyp _ qv11.symm
      refine mf_goto (tgt := 17) (mf_dat eX12_pairsBy 24 rfl) (by decide) ?_
      exact mf_sub [2, 3, 1, 4, 0] rfl hyp
set_option maxRecDepth 100000 in
set_option maxHeartbeats 4000000 in
theorem mX12_pairsBy {C : mf_G} {l : Launch} {d n : Nat} {K : mf_Kt} {x0 x1 : Int} {g h : mf_M} (hyp : JX12_pairsBy_4 C l d n K x0 x1 0 0 g h) : mf_MT C l d YX12_pairsBy [(2, x0), (0, x1)] n n g h K := by
  refine mf_entry (by decide) (Nat.le_of_ble_eq_true rfl) ?_
  refine mf_iconst (v := 0) (mf_dat eX12_pairsBy 0 rfl) (by decide) ?_
  refine mf_istore_n (mf_dat eX12_pairsBy 1 rfl) rfl (by decide) ?_
  refine mf_iconst (v := 0) (mf_dat eX12_pairsBy 2 rfl) (by decide) ?_
  refine mf_istore_n (mf_dat eX12_pairsBy 3 rfl) rfl (by decide) ?_
  exact mf_sub [2, 3, 1, 0] rfl hyp
set_option maxRecDepth 100000 in
set_option maxHeartbeats 4000000 in
theorem mX12_pairs {C : mf_G} {l : Launch} {d n : Nat} {K : mf_Kt} {x0 x1 : Int} {g h : mf_M} (hd : 4 ≤ d) (hyp : mf_is n x0 12 ∧ ((h x0 54 = 0 → K (-1) g h) ∧ (¬ h x0 54 = 0 → mf_MT C l 0 YX12_leaves [(2, x0)] n n g h (fun r2 g3 h4 => mf_MT C l 0 YX12_isIn [(1, x1), (1, (-1)), (1, r2)] n n g3 h4 (fun r5 g6 h7 => ((¬ r5 = 0 → ((¬ x1 = (-1) → mf_MT C l 3 YX12_pairsBy [(2, x0), (0, x1)] n n g6 h7 (fun r8 g9 h10 => K r8 g9 h10)) ∧ (x1 = (-1) → mf_is n (g6 x0 56) 20 ∧ 0 < mf_len (g6 x0 56) ∧ mf_MT C l 3 YX12_openingOn [(2, x0), (0, h7 (g6 x0 56) 0)] n n g6 h7 (fun r13 g14 h15 => mf_MT C l 3 YX12_pairsBy [(2, x0), (0, r13)] n n g14 h15 (fun r16 g17 h18 => K r16 g17 h18))))) ∧ (r5 = 0 → K (-1) g6 h7))))))) : mf_MT C l d YX12_pairs [(2, x0), (0, x1)] n n g h K := by
  refine mf_entry (by decide) (Nat.le_of_ble_eq_true rfl) ?_
  refine mf_aload_n (mf_dat eX12_pairs 0 rfl) rfl rfl ?_
  obtain ⟨ck1, hyp⟩ := hyp
  refine mf_getf (r := (RX12, TX12, 106)) (ci := 12) (k := 54) (t := 0) (v := h x0 54) (mf_dat eX12_pairs 1 rfl) fl_X12_389 rfl (by decide) rfl rfl ck1 ?_
  refine mf_if_eq (tgt := 23) (mf_dat eX12_pairs 2 rfl) (by decide) (fun hc => ?_) (fun hc => ?_)
  · replace hyp := hyp.1 hc
    refine mf_iconst (v := (-1)) (mf_dat eX12_pairs 11 rfl) (by decide) ?_
    exact mf_ireturn (mf_dat eX12_pairs 12 rfl) rfl (Or.inl rfl) hyp
  · replace hyp := hyp.2 hc
    refine mf_iload_n (mf_dat eX12_pairs 3 rfl) rfl rfl ?_
    refine mf_i2l (mf_dat eX12_pairs 4 rfl) ?_
    refine mf_ldc2 (v := (-1)) cl_X12_512 (mf_dat eX12_pairs 5 rfl) (by decide) ?_
    refine mf_aload_n (mf_dat eX12_pairs 6 rfl) rfl rfl ?_
    refine mf_callV (Yc := YX12_leaves) (r := (RX12, TX12, 106)) (ci := 12) (mf_dat eX12_pairs 7 rfl) ml_X12_405 okX12_leaves im_X12_leaves sl_X12_leaves rfl rfl rfl rfl (Nat.le_of_ble_eq_true rfl) (mf_rr (Nat.le_trans (by decide) hd) (Nat.le_refl _)) (Nat.le_refl _) ck1 hyp (fun r2 g3 h4 hyp => ?_)
    refine mf_i2l (mf_dat eX12_pairs 8 rfl) ?_
    refine mf_callS (Yc := YX12_isIn) (mf_dat eX12_pairs 9 rfl) ml_X12_286 okX12_isIn sm_X12_isIn rfl rfl (Nat.le_of_ble_eq_true rfl) (mf_rr (Nat.le_trans (by decide) hd) (Nat.le_refl _)) (Nat.le_refl _) hyp (fun r5 g6 h7 hyp => ?_)
    refine mf_if_ne (tgt := 25) (mf_dat eX12_pairs 10 rfl) (by decide) (fun hc => ?_) (fun hc => ?_)
    · replace hyp := hyp.1 hc
      refine mf_aload_n (mf_dat eX12_pairs 13 rfl) rfl rfl ?_
      refine mf_iload_n (mf_dat eX12_pairs 14 rfl) rfl rfl ?_
      refine mf_iconst (v := (-1)) (mf_dat eX12_pairs 15 rfl) (by decide) ?_
      refine mf_icmp_ne (tgt := 44) (mf_dat eX12_pairs 16 rfl) (by decide) (fun hc => ?_) (fun hc => ?_)
      · replace hyp := hyp.1 hc
        refine mf_iload_n (mf_dat eX12_pairs 24 rfl) rfl rfl ?_
        refine mf_callV (Yc := YX12_pairsBy) (r := (RX12, TX12, 106)) (ci := 12) (mf_dat eX12_pairs 25 rfl) ml_X12_514 okX12_pairsBy im_X12_pairsBy sl_X12_pairsBy rfl rfl rfl rfl (Nat.le_of_ble_eq_true rfl) (mf_rr (Nat.le_trans (by decide) hd) (Nat.le_refl _)) (Nat.le_refl _) ck1 hyp (fun r8 g9 h10 hyp => ?_)
        exact mf_ireturn (mf_dat eX12_pairs 26 rfl) rfl (Or.inl rfl) hyp
      · replace hyp := hyp.2 hc
        refine mf_aload_n (mf_dat eX12_pairs 17 rfl) rfl rfl ?_
        refine mf_aload_n (mf_dat eX12_pairs 18 rfl) rfl rfl ?_
        refine mf_getf (r := (RX12, TX12, 106)) (ci := 12) (k := 56) (t := 2) (v := g6 x0 56) (mf_dat eX12_pairs 19 rfl) fl_X12_136 rfl (by decide) rfl rfl ck1 ?_
        refine mf_iconst (v := 0) (mf_dat eX12_pairs 20 rfl) (by decide) ?_
        obtain ⟨ck11, hyp⟩ := hyp
        obtain ⟨ck12, hyp⟩ := hyp
        refine mf_iald (mf_dat eX12_pairs 21 rfl) ck11 (by decide) ck12 ?_
        refine mf_callV (Yc := YX12_openingOn) (r := (RX12, TX12, 106)) (ci := 12) (mf_dat eX12_pairs 22 rfl) ml_X12_487 okX12_openingOn im_X12_openingOn sl_X12_openingOn rfl rfl rfl rfl (Nat.le_of_ble_eq_true rfl) (mf_rr (Nat.le_trans (by decide) hd) (Nat.le_refl _)) (Nat.le_refl _) ck1 hyp (fun r13 g14 h15 hyp => ?_)
        refine mf_goto (tgt := 45) (mf_dat eX12_pairs 23 rfl) (by decide) ?_
        refine mf_callV (Yc := YX12_pairsBy) (r := (RX12, TX12, 106)) (ci := 12) (mf_dat eX12_pairs 25 rfl) ml_X12_514 okX12_pairsBy im_X12_pairsBy sl_X12_pairsBy rfl rfl rfl rfl (Nat.le_of_ble_eq_true rfl) (mf_rr (Nat.le_trans (by decide) hd) (Nat.le_refl _)) (Nat.le_refl _) ck1 hyp (fun r16 g17 h18 hyp => ?_)
        exact mf_ireturn (mf_dat eX12_pairs 26 rfl) rfl (Or.inl rfl) hyp
    · replace hyp := hyp.2 hc
      refine mf_iconst (v := (-1)) (mf_dat eX12_pairs 11 rfl) (by decide) ?_
      exact mf_ireturn (mf_dat eX12_pairs 12 rfl) rfl (Or.inl rfl) hyp
abbrev JX12_apart_13 (C : mf_G) (l : Launch) (d n : Nat) (K : mf_Kt) (x0 x1 x2 : Int) (g h : mf_M) : Prop := mf_AW C l YX12_apart (mf_rm d n n) n (mf_Zm C YX12_apart n n K) (fun _ _ => True) 13 [(0, (2, x0)), (1, (0, x1)), (2, (0, x2))] [] n g h
set_option maxRecDepth 100000 in
set_option maxHeartbeats 4000000 in
theorem bX12_apart_13 {C : mf_G} {l : Launch} {d n : Nat} {K : mf_Kt} {x0 x1 x2 : Int} {g h : mf_M} (hd : 4 ≤ d) (hyp : mf_is n x0 12 ∧ mf_MT C l 0 YX12_leaves [(2, x0)] n n g h (fun r1 g2 h3 => ((r1 < x2 → K x1 g2 h3) ∧ (¬ r1 < x2 → mf_MT C l 3 YX12_pairsBy [(2, x0), (0, x2)] n n g2 h3 (fun r5 g6 h7 => mf_MT C l 3 YX12_pairsBy [(2, x0), (0, x1)] n n g6 h7 (fun r8 g9 h10 => ((r8 ≤ r5 → (∀ v11 : Int, v11 = mf_w32 (x2 + 1) → JX12_apart_13 C l d n K x0 x1 v11 g9 h10)) ∧ (¬ r8 ≤ r5 → (∀ v12 : Int, v12 = mf_w32 (x2 + 1) → JX12_apart_13 C l d n K x0 x2 v12 g9 h10))))))))) : JX12_apart_13 C l d n K x0 x1 x2 g h := by
  refine mf_iload_n (mf_dat eX12_apart 9 rfl) rfl rfl ?_
  refine mf_aload_n (mf_dat eX12_apart 10 rfl) rfl rfl ?_
  obtain ⟨ck4, hyp⟩ := hyp
  refine mf_callV (Yc := YX12_leaves) (r := (RX12, TX12, 106)) (ci := 12) (mf_dat eX12_apart 11 rfl) ml_X12_405 okX12_leaves im_X12_leaves sl_X12_leaves rfl rfl rfl rfl (Nat.le_of_ble_eq_true rfl) (mf_rr (Nat.le_trans (by decide) hd) (Nat.le_refl _)) (Nat.le_refl _) ck4 hyp (fun r1 g2 h3 hyp => ?_)
  refine mf_icmp_gt (tgt := 42) (mf_dat eX12_apart 12 rfl) (by decide) (fun hc => ?_) (fun hc => ?_)
  · replace hyp := hyp.1 hc
    refine mf_iload_n (mf_dat eX12_apart 24 rfl) rfl rfl ?_
    exact mf_ireturn (mf_dat eX12_apart 25 rfl) rfl (Or.inl rfl) hyp
  · replace hyp := hyp.2 hc
    refine mf_aload_n (mf_dat eX12_apart 13 rfl) rfl rfl ?_
    refine mf_iload_n (mf_dat eX12_apart 14 rfl) rfl rfl ?_
    refine mf_callV (Yc := YX12_pairsBy) (r := (RX12, TX12, 106)) (ci := 12) (mf_dat eX12_apart 15 rfl) ml_X12_514 okX12_pairsBy im_X12_pairsBy sl_X12_pairsBy rfl rfl rfl rfl (Nat.le_of_ble_eq_true rfl) (mf_rr (Nat.le_trans (by decide) hd) (Nat.le_refl _)) (Nat.le_refl _) ck4 hyp (fun r5 g6 h7 hyp => ?_)
    refine mf_aload_n (mf_dat eX12_apart 16 rfl) rfl rfl ?_
    refine mf_iload_n (mf_dat eX12_apart 17 rfl) rfl rfl ?_
    refine mf_callV (Yc := YX12_pairsBy) (r := (RX12, TX12, 106)) (ci := 12) (mf_dat eX12_apart 18 rfl) ml_X12_514 okX12_pairsBy im_X12_pairsBy sl_X12_pairsBy rfl rfl rfl rfl (Nat.le_of_ble_eq_true rfl) (mf_rr (Nat.le_trans (by decide) hd) (Nat.le_refl _)) (Nat.le_refl _) ck4 hyp (fun r8 g9 h10 hyp => ?_)
    refine mf_icmp_ge (tgt := 36) (mf_dat eX12_apart 19 rfl) (by decide) (fun hc => ?_) (fun hc => ?_)
    · replace hyp := hyp.1 hc
      refine mf_iinc (mf_dat eX12_apart 22 rfl) rfl (by decide) (by decide) ?_
      generalize qv11 : mf_w32 (x2 + 1) = v11
      replace hyp := hyp _ qv11.symm
      refine mf_goto (tgt := 13) (mf_dat eX12_apart 23 rfl) (by decide) ?_
      exact mf_sub [1, 2, 0] rfl hyp
    · replace hyp := hyp.2 hc
      refine mf_iload_n (mf_dat eX12_apart 20 rfl) rfl rfl ?_
      refine mf_istore_n (mf_dat eX12_apart 21 rfl) rfl (by decide) ?_
      refine mf_iinc (mf_dat eX12_apart 22 rfl) rfl (by decide) (by decide) ?_
      generalize qv12 : mf_w32 (x2 + 1) = v12
      replace hyp := hyp _ qv12.symm
      refine mf_goto (tgt := 13) (mf_dat eX12_apart 23 rfl) (by decide) ?_
      exact mf_sub [2, 1, 0] rfl hyp
set_option maxRecDepth 100000 in
set_option maxHeartbeats 4000000 in
theorem mX12_apart {C : mf_G} {l : Launch} {d n : Nat} {K : mf_Kt} {x0 : Int} {g h : mf_M} (hyp : mf_is n x0 12 ∧ ((¬ h x0 54 = 0 → JX12_apart_13 C l d n K x0 0 1 g h) ∧ (h x0 54 = 0 → K (-1) g h))) : mf_MT C l d YX12_apart [(2, x0)] n n g h K := by
  refine mf_entry (by decide) (Nat.le_of_ble_eq_true rfl) ?_
  refine mf_aload_n (mf_dat eX12_apart 0 rfl) rfl rfl ?_
  obtain ⟨ck1, hyp⟩ := hyp
  refine mf_getf (r := (RX12, TX12, 106)) (ci := 12) (k := 54) (t := 0) (v := h x0 54) (mf_dat eX12_apart 1 rfl) fl_X12_389 rfl (by decide) rfl rfl ck1 ?_
  refine mf_if_ne (tgt := 9) (mf_dat eX12_apart 2 rfl) (by decide) (fun hc => ?_) (fun hc => ?_)
  · replace hyp := hyp.1 hc
    refine mf_iconst (v := 0) (mf_dat eX12_apart 5 rfl) (by decide) ?_
    refine mf_istore_n (mf_dat eX12_apart 6 rfl) rfl (by decide) ?_
    refine mf_iconst (v := 1) (mf_dat eX12_apart 7 rfl) (by decide) ?_
    refine mf_istore_n (mf_dat eX12_apart 8 rfl) rfl (by decide) ?_
    exact mf_sub [2, 1, 0] rfl hyp
  · replace hyp := hyp.2 hc
    refine mf_iconst (v := (-1)) (mf_dat eX12_apart 3 rfl) (by decide) ?_
    exact mf_ireturn (mf_dat eX12_apart 4 rfl) rfl (Or.inl rfl) hyp
abbrev JX12_rowsOf_4 (C : mf_G) (l : Launch) (d n : Nat) (K : mf_Kt) (x0 x1 x2 x3 : Int) (g h : mf_M) : Prop := mf_AW C l YX12_rowsOf (mf_rm d n n) n (mf_Zm C YX12_rowsOf n n K) (fun _ _ => True) 4 [(0, (2, x0)), (1, (0, x1)), (2, (0, x2)), (3, (0, x3))] [] n g h
set_option maxRecDepth 100000 in
set_option maxHeartbeats 4000000 in
theorem bX12_rowsOf_4 {C : mf_G} {l : Launch} {d n : Nat} {K : mf_Kt} {x0 x1 x2 x3 : Int} {g h : mf_M} (hd : 1 ≤ d) (hyp : ((x1 ≤ x3 → K x2 g h) ∧ (¬ x1 ≤ x3 → mf_is n x0 12 ∧ mf_MT C l 0 YX12_leaves [(2, x0)] n n g h (fun r1 g2 h3 => (∀ v5 : Int, v5 = mf_w32 (x2 * (mf_w32 (r1 + 1))) → (∀ v6 : Int, v6 = mf_w32 (x3 + 1) → JX12_rowsOf_4 C l d n K x0 x1 v5 v6 g2 h3)))))) : JX12_rowsOf_4 C l d n K x0 x1 x2 x3 g h := by
  refine mf_iload_n (mf_dat eX12_rowsOf 4 rfl) rfl rfl ?_
  refine mf_iload_n (mf_dat eX12_rowsOf 5 rfl) rfl rfl ?_
  refine mf_icmp_ge (tgt := 24) (mf_dat eX12_rowsOf 6 rfl) (by decide) (fun hc => ?_) (fun hc => ?_)
  · replace hyp := hyp.1 hc
    refine mf_iload_n (mf_dat eX12_rowsOf 16 rfl) rfl rfl ?_
    exact mf_ireturn (mf_dat eX12_rowsOf 17 rfl) rfl (Or.inl rfl) hyp
  · replace hyp := hyp.2 hc
    refine mf_iload_n (mf_dat eX12_rowsOf 7 rfl) rfl rfl ?_
    refine mf_aload_n (mf_dat eX12_rowsOf 8 rfl) rfl rfl ?_
    obtain ⟨ck4, hyp⟩ := hyp
    refine mf_callV (Yc := YX12_leaves) (r := (RX12, TX12, 106)) (ci := 12) (mf_dat eX12_rowsOf 9 rfl) ml_X12_405 okX12_leaves im_X12_leaves sl_X12_leaves rfl rfl rfl rfl (Nat.le_of_ble_eq_true rfl) (mf_rr (Nat.le_trans (by decide) hd) (Nat.le_refl _)) (Nat.le_refl _) ck4 hyp (fun r1 g2 h3 hyp => ?_)
    refine mf_iconst (v := 1) (mf_dat eX12_rowsOf 10 rfl) (by decide) ?_
    refine mf_iadd (mf_dat eX12_rowsOf 11 rfl) ?_
    refine mf_imul (mf_dat eX12_rowsOf 12 rfl) ?_
    generalize qv5 : mf_w32 (x2 * (mf_w32 (r1 + 1))) = v5
    replace hyp := hyp _ qv5.symm
    refine mf_istore_n (mf_dat eX12_rowsOf 13 rfl) rfl (by decide) ?_
    refine mf_iinc (mf_dat eX12_rowsOf 14 rfl) rfl (by decide) (by decide) ?_
    generalize qv6 : mf_w32 (x3 + 1) = v6
    replace hyp := hyp _ qv6.symm
    refine mf_goto (tgt := 4) (mf_dat eX12_rowsOf 15 rfl) (by decide) ?_
    exact mf_sub [2, 3, 1, 0] rfl hyp
set_option maxRecDepth 100000 in
set_option maxHeartbeats 4000000 in
theorem mX12_rowsOf {C : mf_G} {l : Launch} {d n : Nat} {K : mf_Kt} {x0 x1 : Int} {g h : mf_M} (hyp : JX12_rowsOf_4 C l d n K x0 x1 1 0 g h) : mf_MT C l d YX12_rowsOf [(2, x0), (0, x1)] n n g h K := by
  refine mf_entry (by decide) (Nat.le_of_ble_eq_true rfl) ?_
  refine mf_iconst (v := 1) (mf_dat eX12_rowsOf 0 rfl) (by decide) ?_
  refine mf_istore_n (mf_dat eX12_rowsOf 1 rfl) rfl (by decide) ?_
  refine mf_iconst (v := 0) (mf_dat eX12_rowsOf 2 rfl) (by decide) ?_
  refine mf_istore_n (mf_dat eX12_rowsOf 3 rfl) rfl (by decide) ?_
  exact mf_sub [2, 3, 1, 0] rfl hyp
set_option maxRecDepth 100000 in
set_option maxHeartbeats 4000000 in
theorem mX12_openingAt {C : mf_G} {l : Launch} {d n : Nat} {K : mf_Kt} {x0 x1 x2 x3 : Int} {g h : mf_M} (hd : 2 ≤ d) (hyp : mf_is n x0 12 ∧ mf_MT C l 1 YX12_rowsOf [(2, x0), (0, mf_w32 ((mf_w32 (x2 - 1)) - x3))] n n g h (fun r1 g2 h3 => ¬ r1 = 0 ∧ mf_MT C l 0 YX12_leaves [(2, x0)] n n g2 h3 (fun r6 g7 h8 => ¬ mf_w32 (r6 + 1) = 0 ∧ K ((mf_w32 (x1.tdiv r1)).tmod (mf_w32 (r6 + 1))) g7 h8))) : mf_MT C l d YX12_openingAt [(2, x0), (0, x1), (0, x2), (0, x3)] n n g h K := by
  refine mf_entry (by decide) (Nat.le_of_ble_eq_true rfl) ?_
  refine mf_iload_n (mf_dat eX12_openingAt 0 rfl) rfl rfl ?_
  refine mf_aload_n (mf_dat eX12_openingAt 1 rfl) rfl rfl ?_
  refine mf_iload_n (mf_dat eX12_openingAt 2 rfl) rfl rfl ?_
  refine mf_iconst (v := 1) (mf_dat eX12_openingAt 3 rfl) (by decide) ?_
  refine mf_isub (mf_dat eX12_openingAt 4 rfl) ?_
  refine mf_iload_n (mf_dat eX12_openingAt 5 rfl) rfl rfl ?_
  refine mf_isub (mf_dat eX12_openingAt 6 rfl) ?_
  obtain ⟨ck4, hyp⟩ := hyp
  refine mf_callV (Yc := YX12_rowsOf) (r := (RX12, TX12, 106)) (ci := 12) (mf_dat eX12_openingAt 7 rfl) ml_X12_517 okX12_rowsOf im_X12_rowsOf sl_X12_rowsOf rfl rfl rfl rfl (Nat.le_of_ble_eq_true rfl) (mf_rr (Nat.le_trans (by decide) hd) (Nat.le_refl _)) (Nat.le_refl _) ck4 hyp (fun r1 g2 h3 hyp => ?_)
  obtain ⟨ck5, hyp⟩ := hyp
  refine mf_idiv (mf_dat eX12_openingAt 8 rfl) ck5 ?_
  refine mf_aload_n (mf_dat eX12_openingAt 9 rfl) rfl rfl ?_
  refine mf_callV (Yc := YX12_leaves) (r := (RX12, TX12, 106)) (ci := 12) (mf_dat eX12_openingAt 10 rfl) ml_X12_405 okX12_leaves im_X12_leaves sl_X12_leaves rfl rfl rfl rfl (Nat.le_of_ble_eq_true rfl) (mf_rr (Nat.le_trans (by decide) hd) (Nat.le_refl _)) (Nat.le_refl _) ck4 hyp (fun r6 g7 h8 hyp => ?_)
  refine mf_iconst (v := 1) (mf_dat eX12_openingAt 11 rfl) (by decide) ?_
  refine mf_iadd (mf_dat eX12_openingAt 12 rfl) ?_
  obtain ⟨ck9, hyp⟩ := hyp
  refine mf_irem (mf_dat eX12_openingAt 13 rfl) ck9 ?_
  exact mf_ireturn (mf_dat eX12_openingAt 14 rfl) rfl (Or.inl rfl) hyp
abbrev JX12_reading_46 (C : mf_G) (l : Launch) (d n : Nat) (K : mf_Kt) (x0 x1 x2 x3 x4 x5 x6 : Int) (g h : mf_M) : Prop := mf_AW C l YX12_reading (mf_rm d n n) n (mf_Zm C YX12_reading n n K) (fun _ _ => True) 46 [(0, (2, x0)), (1, (0, x1)), (2, (0, x2)), (3, (0, x3)), (4, (0, x4)), (5, (0, x5)), (6, (0, x6))] [] n g h
abbrev JX12_reading_56 (C : mf_G) (l : Launch) (d n : Nat) (K : mf_Kt) (x0 x1 x2 x3 x4 x5 x6 x7 : Int) (g h : mf_M) : Prop := mf_AW C l YX12_reading (mf_rm d n n) n (mf_Zm C YX12_reading n n K) (fun _ _ => True) 56 [(0, (2, x0)), (1, (0, x1)), (2, (0, x2)), (3, (0, x3)), (4, (0, x4)), (5, (0, x5)), (6, (0, x6)), (7, (0, x7))] [] n g h
set_option maxRecDepth 100000 in
set_option maxHeartbeats 4000000 in
theorem bX12_reading_46 {C : mf_G} {l : Launch} {d n : Nat} {K : mf_Kt} {x0 x1 x2 x3 x4 x5 x6 : Int} {g h : mf_M} (hd : 3 ≤ d) (hyp : ((x5 ≤ x6 → mf_is n x0 12 ∧ mf_MT C l 0 YX12_takesBack [(2, x0)] n n g h (fun r1 g2 h3 => ((¬ x2 = (-1) → mf_MT C l 2 YX12_openingAt [(2, x0), (0, x3), (0, x1), (0, x2)] n n g2 h3 (fun r5 g6 h7 => K r5 g6 h7)) ∧ (x2 = (-1) → K x4 g2 h3)))) ∧ (¬ x5 ≤ x6 → JX12_reading_56 C l d n K x0 x1 x2 x3 x4 x5 x6 0 g h))) : JX12_reading_46 C l d n K x0 x1 x2 x3 x4 x5 x6 g h := by
  refine mf_iload (mf_dat eX12_reading_p0 29 rfl) rfl ?_
  refine mf_iload (mf_dat eX12_reading_p0 30 rfl) rfl ?_
  refine mf_icmp_ge (tgt := 120) (mf_dat eX12_reading_p0 31 rfl) (by decide) (fun hc => ?_) (fun hc => ?_)
  · replace hyp := hyp.1 hc
    refine mf_aload_n (mf_dat eX12_reading_p1 4 rfl) rfl rfl ?_
    obtain ⟨ck4, hyp⟩ := hyp
    refine mf_callV (Yc := YX12_takesBack) (r := (RX12, TX12, 106)) (ci := 12) (mf_dat eX12_reading_p1 5 rfl) ml_X12_533 okX12_takesBack im_X12_takesBack sl_X12_takesBack rfl rfl rfl rfl (Nat.le_of_ble_eq_true rfl) (mf_rr (Nat.le_trans (by decide) hd) (Nat.le_refl _)) (Nat.le_refl _) ck4 hyp (fun r1 g2 h3 hyp => ?_)
    refine mf_iload_n (mf_dat eX12_reading_p1 6 rfl) rfl rfl ?_
    refine mf_iconst (v := (-1)) (mf_dat eX12_reading_p1 7 rfl) (by decide) ?_
    refine mf_icmp_ne (tgt := 134) (mf_dat eX12_reading_p1 8 rfl) (by decide) (fun hc => ?_) (fun hc => ?_)
    · replace hyp := hyp.1 hc
      refine mf_aload_n (mf_dat eX12_reading_p1 11 rfl) rfl rfl ?_
      refine mf_iload_n (mf_dat eX12_reading_p1 12 rfl) rfl rfl ?_
      refine mf_iload_n (mf_dat eX12_reading_p1 13 rfl) rfl rfl ?_
      refine mf_iload_n (mf_dat eX12_reading_p1 14 rfl) rfl rfl ?_
      refine mf_callV (Yc := YX12_openingAt) (r := (RX12, TX12, 106)) (ci := 12) (mf_dat eX12_reading_p1 15 rfl) ml_X12_526 okX12_openingAt im_X12_openingAt sl_X12_openingAt rfl rfl rfl rfl (Nat.le_of_ble_eq_true rfl) (mf_rr (Nat.le_trans (by decide) hd) (Nat.le_refl _)) (Nat.le_refl _) ck4 hyp (fun r5 g6 h7 hyp => ?_)
      exact mf_ireturn (mf_dat eX12_reading_p1 16 rfl) rfl (Or.inl rfl) hyp
    · replace hyp := hyp.2 hc
      refine mf_iload (mf_dat eX12_reading_p1 9 rfl) rfl ?_
      refine mf_goto (tgt := 141) (mf_dat eX12_reading_p1 10 rfl) (by decide) ?_
      exact mf_ireturn (mf_dat eX12_reading_p1 16 rfl) rfl (Or.inl rfl) hyp
  · replace hyp := hyp.2 hc
    refine mf_iconst (v := 0) (mf_dat eX12_reading_p0 32 rfl) (by decide) ?_
    refine mf_istore (mf_dat eX12_reading_p0 33 rfl) (by decide) ?_
    exact mf_sub [1, 2, 3, 4, 5, 6, 7, 0] rfl hyp
set_option maxRecDepth 100000 in
set_option maxHeartbeats 4000000 in
theorem bX12_reading_56 {C : mf_G} {l : Launch} {d n : Nat} {K : mf_Kt} {x0 x1 x2 x3 x4 x5 x6 x7 : Int} {g h : mf_M} (hd : 5 ≤ d) (hyp : ((x1 ≤ x7 → mf_is n x0 12 ∧ (∀ v2 : Int, v2 = h x0 62 → mf_MT C l 0 YX12_triesAnew [(2, x0)] n n g h (fun r3 g4 h5 => ((x4 = (-1) → (∀ v6 : Int, v6 = mf_w32 (x6 + 1) → JX12_reading_46 C l d n K x0 x1 x2 x6 v2 x5 v6 g4 h5)) ∧ (¬ x4 = (-1) → ((v2 < x4 → (∀ v7 : Int, v7 = mf_w32 (x6 + 1) → JX12_reading_46 C l d n K x0 x1 x2 x6 v2 x5 v7 g4 h5)) ∧ (¬ v2 < x4 → (∀ v8 : Int, v8 = mf_w32 (x6 + 1) → JX12_reading_46 C l d n K x0 x1 x2 x3 x4 x5 v8 g4 h5)))))))) ∧ (¬ x1 ≤ x7 → mf_is n x0 12 ∧ mf_MT C l 2 YX12_openingAt [(2, x0), (0, x6), (0, x1), (0, x7)] n n g h (fun r9 g10 h11 => mf_MT C l 4 YX12_dayBy [(2, x0), (0, r9)] n n g10 h11 (fun r13 g14 h15 => (∀ v16 : Int, v16 = mf_w32 (x7 + 1) → JX12_reading_56 C l d n K x0 x1 x2 x3 x4 x5 x6 v16 g14 h15)))))) : JX12_reading_56 C l d n K x0 x1 x2 x3 x4 x5 x6 x7 g h := by
  refine mf_iload (mf_dat eX12_reading_p0 34 rfl) rfl ?_
  refine mf_iload_n (mf_dat eX12_reading_p0 35 rfl) rfl rfl ?_
  refine mf_icmp_ge (tgt := 81) (mf_dat eX12_reading_p0 36 rfl) (by decide) (fun hc => ?_) (fun hc => ?_)
  · replace hyp := hyp.1 hc
    refine mf_aload_n (mf_dat eX12_reading_p0 46 rfl) rfl rfl ?_
    obtain ⟨ck1, hyp⟩ := hyp
    refine mf_getf (r := (RX12, TX12, 106)) (ci := 12) (k := 62) (t := 0) (v := h x0 62) (mf_dat eX12_reading_p0 47 rfl) fl_X12_452 rfl (by decide) rfl rfl ck1 ?_
    generalize qv2 : h x0 62 = v2
    replace hyp := hyp _ qv2.symm
    refine mf_istore (mf_dat eX12_reading_p0 48 rfl) (by decide) ?_
    refine mf_aload_n (mf_dat eX12_reading_p0 49 rfl) rfl rfl ?_
    refine mf_callV (Yc := YX12_triesAnew) (r := (RX12, TX12, 106)) (ci := 12) (mf_dat eX12_reading_p0 50 rfl) ml_X12_530 okX12_triesAnew im_X12_triesAnew sl_X12_triesAnew rfl rfl rfl rfl (Nat.le_of_ble_eq_true rfl) (mf_rr (Nat.le_trans (by decide) hd) (Nat.le_refl _)) (Nat.le_refl _) ck1 hyp (fun r3 g4 h5 hyp => ?_)
    refine mf_iload (mf_dat eX12_reading_p0 51 rfl) rfl ?_
    refine mf_iconst (v := (-1)) (mf_dat eX12_reading_p0 52 rfl) (by decide) ?_
    refine mf_icmp_eq (tgt := 107) (mf_dat eX12_reading_p0 53 rfl) (by decide) (fun hc => ?_) (fun hc => ?_)
    · replace hyp := hyp.1 hc
      refine mf_iload (mf_dat eX12_reading_p0 58 rfl) rfl ?_
      refine mf_istore_n (mf_dat eX12_reading_p0 59 rfl) rfl (by decide) ?_
      refine mf_iload (mf_dat eX12_reading_p1 0 rfl) rfl ?_
      refine mf_istore (mf_dat eX12_reading_p1 1 rfl) (by decide) ?_
      refine mf_iinc (mf_dat eX12_reading_p1 2 rfl) rfl (by decide) (by decide) ?_
      generalize qv6 : mf_w32 (x6 + 1) = v6
      replace hyp := hyp _ qv6.symm
      refine mf_goto (tgt := 46) (mf_dat eX12_reading_p1 3 rfl) (by decide) ?_
      exact mf_sub [4, 5, 6, 2, 1, 7, 0] rfl hyp
    · replace hyp := hyp.2 hc
      refine mf_iload (mf_dat eX12_reading_p0 54 rfl) rfl ?_
      refine mf_iload (mf_dat eX12_reading_p0 55 rfl) rfl ?_
      refine mf_icmp_lt (tgt := 107) (mf_dat eX12_reading_p0 56 rfl) (by decide) (fun hc => ?_) (fun hc => ?_)
      · replace hyp := hyp.1 hc
        refine mf_iload (mf_dat eX12_reading_p0 58 rfl) rfl ?_
        refine mf_istore_n (mf_dat eX12_reading_p0 59 rfl) rfl (by decide) ?_
        refine mf_iload (mf_dat eX12_reading_p1 0 rfl) rfl ?_
        refine mf_istore (mf_dat eX12_reading_p1 1 rfl) (by decide) ?_
        refine mf_iinc (mf_dat eX12_reading_p1 2 rfl) rfl (by decide) (by decide) ?_
        generalize qv7 : mf_w32 (x6 + 1) = v7
        replace hyp := hyp _ qv7.symm
        refine mf_goto (tgt := 46) (mf_dat eX12_reading_p1 3 rfl) (by decide) ?_
        exact mf_sub [4, 5, 6, 2, 1, 7, 0] rfl hyp
      · replace hyp := hyp.2 hc
        refine mf_goto (tgt := 114) (mf_dat eX12_reading_p0 57 rfl) (by decide) ?_
        refine mf_iinc (mf_dat eX12_reading_p1 2 rfl) rfl (by decide) (by decide) ?_
        generalize qv8 : mf_w32 (x6 + 1) = v8
        replace hyp := hyp _ qv8.symm
        refine mf_goto (tgt := 46) (mf_dat eX12_reading_p1 3 rfl) (by decide) ?_
        exact mf_sub [2, 3, 4, 5, 6, 7, 0] rfl hyp
  · replace hyp := hyp.2 hc
    refine mf_aload_n (mf_dat eX12_reading_p0 37 rfl) rfl rfl ?_
    refine mf_aload_n (mf_dat eX12_reading_p0 38 rfl) rfl rfl ?_
    refine mf_iload (mf_dat eX12_reading_p0 39 rfl) rfl ?_
    refine mf_iload_n (mf_dat eX12_reading_p0 40 rfl) rfl rfl ?_
    refine mf_iload (mf_dat eX12_reading_p0 41 rfl) rfl ?_
    obtain ⟨ck12, hyp⟩ := hyp
    refine mf_callV (Yc := YX12_openingAt) (r := (RX12, TX12, 106)) (ci := 12) (mf_dat eX12_reading_p0 42 rfl) ml_X12_526 okX12_openingAt im_X12_openingAt sl_X12_openingAt rfl rfl rfl rfl (Nat.le_of_ble_eq_true rfl) (mf_rr (Nat.le_trans (by decide) hd) (Nat.le_refl _)) (Nat.le_refl _) ck12 hyp (fun r9 g10 h11 hyp => ?_)
    refine mf_callV (Yc := YX12_dayBy) (r := (RX12, TX12, 106)) (ci := 12) (mf_dat eX12_reading_p0 43 rfl) ml_X12_490 okX12_dayBy im_X12_dayBy sl_X12_dayBy rfl rfl rfl rfl (Nat.le_of_ble_eq_true rfl) (mf_rr (Nat.le_trans (by decide) hd) (Nat.le_refl _)) (Nat.le_refl _) ck12 hyp (fun r13 g14 h15 hyp => ?_)
    refine mf_iinc (mf_dat eX12_reading_p0 44 rfl) rfl (by decide) (by decide) ?_
    generalize qv16 : mf_w32 (x7 + 1) = v16
    replace hyp := hyp _ qv16.symm
    refine mf_goto (tgt := 56) (mf_dat eX12_reading_p0 45 rfl) (by decide) ?_
    exact mf_sub [1, 2, 3, 4, 5, 6, 7, 0] rfl hyp
set_option maxRecDepth 100000 in
set_option maxHeartbeats 4000000 in
theorem mX12_reading {C : mf_G} {l : Launch} {d n : Nat} {K : mf_Kt} {x0 x1 x2 : Int} {g h : mf_M} (hd : 2 ≤ d) (hyp : mf_is n x0 12 ∧ mf_MT C l 1 YX12_isAhead [(2, x0), (0, x1), (0, 1), (0, 3)] n n g h (fun r1 g2 h3 => ((r1 = 0 → K (-1) g2 h3) ∧ (¬ r1 = 0 → mf_MT C l 0 YX12_isIn [(1, x2), (1, (-1)), (1, mf_w32 (x1 - 1))] n n g2 h3 (fun r5 g6 h7 => ((¬ r5 = 0 → mf_MT C l 1 YX12_rowsOf [(2, x0), (0, x1)] n n g6 h7 (fun r8 g9 h10 => mf_MT C l 0 YX12_putsAside [(2, x0)] n n g9 h10 (fun r11 g12 h13 => JX12_reading_46 C l d n K x0 x1 x2 0 (-1) r8 0 g12 h13))) ∧ (r5 = 0 → K (-1) g6 h7))))))) : mf_MT C l d YX12_reading [(2, x0), (0, x1), (0, x2)] n n g h K := by
  refine mf_entry (by decide) (Nat.le_of_ble_eq_true rfl) ?_
  refine mf_aload_n (mf_dat eX12_reading_p0 0 rfl) rfl rfl ?_
  refine mf_iload_n (mf_dat eX12_reading_p0 1 rfl) rfl rfl ?_
  refine mf_iconst (v := 1) (mf_dat eX12_reading_p0 2 rfl) (by decide) ?_
  refine mf_iconst (v := 3) (mf_dat eX12_reading_p0 3 rfl) (by decide) ?_
  obtain ⟨ck4, hyp⟩ := hyp
  refine mf_callV (Yc := YX12_isAhead) (r := (RX12, TX12, 106)) (ci := 12) (mf_dat eX12_reading_p0 4 rfl) ml_X12_520 okX12_isAhead im_X12_isAhead sl_X12_isAhead rfl rfl rfl rfl (Nat.le_of_ble_eq_true rfl) (mf_rr (Nat.le_trans (by decide) hd) (Nat.le_refl _)) (Nat.le_refl _) ck4 hyp (fun r1 g2 h3 hyp => ?_)
  refine mf_if_eq (tgt := 25) (mf_dat eX12_reading_p0 5 rfl) (by decide) (fun hc => ?_) (fun hc => ?_)
  · replace hyp := hyp.1 hc
    refine mf_iconst (v := (-1)) (mf_dat eX12_reading_p0 15 rfl) (by decide) ?_
    exact mf_ireturn (mf_dat eX12_reading_p0 16 rfl) rfl (Or.inl rfl) hyp
  · replace hyp := hyp.2 hc
    refine mf_iload_n (mf_dat eX12_reading_p0 6 rfl) rfl rfl ?_
    refine mf_i2l (mf_dat eX12_reading_p0 7 rfl) ?_
    refine mf_ldc2 (v := (-1)) cl_X12_512 (mf_dat eX12_reading_p0 8 rfl) (by decide) ?_
    refine mf_iload_n (mf_dat eX12_reading_p0 9 rfl) rfl rfl ?_
    refine mf_iconst (v := 1) (mf_dat eX12_reading_p0 10 rfl) (by decide) ?_
    refine mf_isub (mf_dat eX12_reading_p0 11 rfl) ?_
    refine mf_i2l (mf_dat eX12_reading_p0 12 rfl) ?_
    refine mf_callS (Yc := YX12_isIn) (mf_dat eX12_reading_p0 13 rfl) ml_X12_286 okX12_isIn sm_X12_isIn rfl rfl (Nat.le_of_ble_eq_true rfl) (mf_rr (Nat.le_trans (by decide) hd) (Nat.le_refl _)) (Nat.le_refl _) hyp (fun r5 g6 h7 hyp => ?_)
    refine mf_if_ne (tgt := 27) (mf_dat eX12_reading_p0 14 rfl) (by decide) (fun hc => ?_) (fun hc => ?_)
    · replace hyp := hyp.1 hc
      refine mf_iconst (v := 0) (mf_dat eX12_reading_p0 17 rfl) (by decide) ?_
      refine mf_istore_n (mf_dat eX12_reading_p0 18 rfl) rfl (by decide) ?_
      refine mf_iconst (v := (-1)) (mf_dat eX12_reading_p0 19 rfl) (by decide) ?_
      refine mf_istore (mf_dat eX12_reading_p0 20 rfl) (by decide) ?_
      refine mf_aload_n (mf_dat eX12_reading_p0 21 rfl) rfl rfl ?_
      refine mf_iload_n (mf_dat eX12_reading_p0 22 rfl) rfl rfl ?_
      refine mf_callV (Yc := YX12_rowsOf) (r := (RX12, TX12, 106)) (ci := 12) (mf_dat eX12_reading_p0 23 rfl) ml_X12_517 okX12_rowsOf im_X12_rowsOf sl_X12_rowsOf rfl rfl rfl rfl (Nat.le_of_ble_eq_true rfl) (mf_rr (Nat.le_trans (by decide) hd) (Nat.le_refl _)) (Nat.le_refl _) ck4 hyp (fun r8 g9 h10 hyp => ?_)
      refine mf_istore (mf_dat eX12_reading_p0 24 rfl) (by decide) ?_
      refine mf_aload_n (mf_dat eX12_reading_p0 25 rfl) rfl rfl ?_
      refine mf_callV (Yc := YX12_putsAside) (r := (RX12, TX12, 106)) (ci := 12) (mf_dat eX12_reading_p0 26 rfl) ml_X12_523 okX12_putsAside im_X12_putsAside sl_X12_putsAside rfl rfl rfl rfl (Nat.le_of_ble_eq_true rfl) (mf_rr (Nat.le_trans (by decide) hd) (Nat.le_refl _)) (Nat.le_refl _) ck4 hyp (fun r11 g12 h13 hyp => ?_)
      refine mf_iconst (v := 0) (mf_dat eX12_reading_p0 27 rfl) (by decide) ?_
      refine mf_istore (mf_dat eX12_reading_p0 28 rfl) (by decide) ?_
      exact mf_sub [4, 5, 6, 3, 2, 1, 0] rfl hyp
    · replace hyp := hyp.2 hc
      refine mf_iconst (v := (-1)) (mf_dat eX12_reading_p0 15 rfl) (by decide) ?_
      exact mf_ireturn (mf_dat eX12_reading_p0 16 rfl) rfl (Or.inl rfl) hyp
set_option maxRecDepth 100000 in
set_option maxHeartbeats 4000000 in
theorem mX12_later {C : mf_G} {l : Launch} {d n : Nat} {K : mf_Kt} {x0 x1 x2 x3 : Int} {g h : mf_M} (hd : 6 ≤ d) (hyp : mf_is n x0 12 ∧ mf_MT C l 1 YX12_isBeing [(2, x0), (0, x1)] n n g h (fun r1 g2 h3 => ((r1 = 0 → K (-1) g2 h3) ∧ (¬ r1 = 0 → mf_MT C l 1 YX12_isAhead [(2, x0), (0, x2), (0, 0), (0, 60)] n n g2 h3 (fun r5 g6 h7 => ((r5 = 0 → K (-1) g6 h7) ∧ (¬ r5 = 0 → mf_MT C l 0 YX12_isIn [(1, x3), (1, 0), (1, 2)] n n g6 h7 (fun r8 g9 h10 => ((¬ r8 = 0 → mf_MT C l 0 YX12_putsAside [(2, x0)] n n g9 h10 (fun r11 g12 h13 => mf_MT C l 5 YX12_daysGo [(2, x0), (0, x2)] n n g12 h13 (fun r14 g15 h16 => ((¬ x3 = 0 → ((¬ x3 = 1 → mf_is n (g15 x0 63) 20 ∧ 0 ≤ x1 ∧ x1 < mf_len (g15 x0 63) ∧ (∀ v20 : Int, v20 = h16 (g15 x0 63) x1 → mf_MT C l 0 YX12_takesBack [(2, x0)] n n g15 h16 (fun r21 g22 h23 => K v20 g22 h23))) ∧ (x3 = 1 → mf_MT C l 0 YX12_purseOf [(2, x0), (0, x1)] n n g15 h16 (fun r24 g25 h26 => mf_MT C l 0 YX12_takesBack [(2, x0)] n n g25 h26 (fun r27 g28 h29 => K r24 g28 h29))))) ∧ (x3 = 0 → mf_MT C l 0 YX12_cellOf [(2, x0), (0, x1)] n n g15 h16 (fun r30 g31 h32 => mf_MT C l 0 YX12_takesBack [(2, x0)] n n g31 h32 (fun r33 g34 h35 => K r30 g34 h35))))))) ∧ (r8 = 0 → K (-1) g9 h10)))))))))) : mf_MT C l d YX12_later [(2, x0), (0, x1), (0, x2), (0, x3)] n n g h K := by
  refine mf_entry (by decide) (Nat.le_of_ble_eq_true rfl) ?_
  refine mf_aload_n (mf_dat eX12_later 0 rfl) rfl rfl ?_
  refine mf_iload_n (mf_dat eX12_later 1 rfl) rfl rfl ?_
  obtain ⟨ck4, hyp⟩ := hyp
  refine mf_callV (Yc := YX12_isBeing) (r := (RX12, TX12, 106)) (ci := 12) (mf_dat eX12_later 2 rfl) ml_X12_502 okX12_isBeing im_X12_isBeing sl_X12_isBeing rfl rfl rfl rfl (Nat.le_of_ble_eq_true rfl) (mf_rr (Nat.le_trans (by decide) hd) (Nat.le_refl _)) (Nat.le_refl _) ck4 hyp (fun r1 g2 h3 hyp => ?_)
  refine mf_if_eq (tgt := 31) (mf_dat eX12_later 3 rfl) (by decide) (fun hc => ?_) (fun hc => ?_)
  · replace hyp := hyp.1 hc
    refine mf_iconst (v := (-1)) (mf_dat eX12_later 16 rfl) (by decide) ?_
    exact mf_ireturn (mf_dat eX12_later 17 rfl) rfl (Or.inl rfl) hyp
  · replace hyp := hyp.2 hc
    refine mf_aload_n (mf_dat eX12_later 4 rfl) rfl rfl ?_
    refine mf_iload_n (mf_dat eX12_later 5 rfl) rfl rfl ?_
    refine mf_iconst (v := 0) (mf_dat eX12_later 6 rfl) (by decide) ?_
    refine mf_bipush (v := 60) (mf_dat eX12_later 7 rfl) (by decide) ?_
    refine mf_callV (Yc := YX12_isAhead) (r := (RX12, TX12, 106)) (ci := 12) (mf_dat eX12_later 8 rfl) ml_X12_520 okX12_isAhead im_X12_isAhead sl_X12_isAhead rfl rfl rfl rfl (Nat.le_of_ble_eq_true rfl) (mf_rr (Nat.le_trans (by decide) hd) (Nat.le_refl _)) (Nat.le_refl _) ck4 hyp (fun r5 g6 h7 hyp => ?_)
    refine mf_if_eq (tgt := 31) (mf_dat eX12_later 9 rfl) (by decide) (fun hc => ?_) (fun hc => ?_)
    · replace hyp := hyp.1 hc
      refine mf_iconst (v := (-1)) (mf_dat eX12_later 16 rfl) (by decide) ?_
      exact mf_ireturn (mf_dat eX12_later 17 rfl) rfl (Or.inl rfl) hyp
    · replace hyp := hyp.2 hc
      refine mf_iload_n (mf_dat eX12_later 10 rfl) rfl rfl ?_
      refine mf_i2l (mf_dat eX12_later 11 rfl) ?_
      refine mf_lconst (v := 0) (mf_dat eX12_later 12 rfl) (by decide) ?_
      refine mf_ldc2 (v := 2) cl_X12_510 (mf_dat eX12_later 13 rfl) (by decide) ?_
      refine mf_callS (Yc := YX12_isIn) (mf_dat eX12_later 14 rfl) ml_X12_286 okX12_isIn sm_X12_isIn rfl rfl (Nat.le_of_ble_eq_true rfl) (mf_rr (Nat.le_trans (by decide) hd) (Nat.le_refl _)) (Nat.le_refl _) hyp (fun r8 g9 h10 hyp => ?_)
      refine mf_if_ne (tgt := 33) (mf_dat eX12_later 15 rfl) (by decide) (fun hc => ?_) (fun hc => ?_)
      · replace hyp := hyp.1 hc
        refine mf_aload_n (mf_dat eX12_later 18 rfl) rfl rfl ?_
        refine mf_callV (Yc := YX12_putsAside) (r := (RX12, TX12, 106)) (ci := 12) (mf_dat eX12_later 19 rfl) ml_X12_523 okX12_putsAside im_X12_putsAside sl_X12_putsAside rfl rfl rfl rfl (Nat.le_of_ble_eq_true rfl) (mf_rr (Nat.le_trans (by decide) hd) (Nat.le_refl _)) (Nat.le_refl _) ck4 hyp (fun r11 g12 h13 hyp => ?_)
        refine mf_aload_n (mf_dat eX12_later 20 rfl) rfl rfl ?_
        refine mf_iload_n (mf_dat eX12_later 21 rfl) rfl rfl ?_
        refine mf_callV (Yc := YX12_daysGo) (r := (RX12, TX12, 106)) (ci := 12) (mf_dat eX12_later 22 rfl) ml_X12_536 okX12_daysGo im_X12_daysGo sl_X12_daysGo rfl rfl rfl rfl (Nat.le_of_ble_eq_true rfl) (mf_rr (Nat.le_trans (by decide) hd) (Nat.le_refl _)) (Nat.le_refl _) ck4 hyp (fun r14 g15 h16 hyp => ?_)
        refine mf_iload_n (mf_dat eX12_later 23 rfl) rfl rfl ?_
        refine mf_if_ne (tgt := 54) (mf_dat eX12_later 24 rfl) (by decide) (fun hc => ?_) (fun hc => ?_)
        · replace hyp := hyp.1 hc
          refine mf_iload_n (mf_dat eX12_later 29 rfl) rfl rfl ?_
          refine mf_iconst (v := 1) (mf_dat eX12_later 30 rfl) (by decide) ?_
          refine mf_icmp_ne (tgt := 67) (mf_dat eX12_later 31 rfl) (by decide) (fun hc => ?_) (fun hc => ?_)
          · replace hyp := hyp.1 hc
            refine mf_aload_n (mf_dat eX12_later 36 rfl) rfl rfl ?_
            refine mf_getf (r := (RX12, TX12, 106)) (ci := 12) (k := 63) (t := 2) (v := g15 x0 63) (mf_dat eX12_later 37 rfl) fl_X12_142 rfl (by decide) rfl rfl ck4 ?_
            refine mf_iload_n (mf_dat eX12_later 38 rfl) rfl rfl ?_
            obtain ⟨ck17, hyp⟩ := hyp
            obtain ⟨ck18, hyp⟩ := hyp
            obtain ⟨ck19, hyp⟩ := hyp
            refine mf_iald (mf_dat eX12_later 39 rfl) ck17 ck18 ck19 ?_
            generalize qv20 : h16 (g15 x0 63) x1 = v20
            replace hyp := hyp _ qv20.symm
            refine mf_istore (mf_dat eX12_later 40 rfl) (by decide) ?_
            refine mf_aload_n (mf_dat eX12_later 41 rfl) rfl rfl ?_
            refine mf_callV (Yc := YX12_takesBack) (r := (RX12, TX12, 106)) (ci := 12) (mf_dat eX12_later 42 rfl) ml_X12_533 okX12_takesBack im_X12_takesBack sl_X12_takesBack rfl rfl rfl rfl (Nat.le_of_ble_eq_true rfl) (mf_rr (Nat.le_trans (by decide) hd) (Nat.le_refl _)) (Nat.le_refl _) ck4 hyp (fun r21 g22 h23 hyp => ?_)
            refine mf_iload (mf_dat eX12_later 43 rfl) rfl ?_
            exact mf_ireturn (mf_dat eX12_later 44 rfl) rfl (Or.inl rfl) hyp
          · replace hyp := hyp.2 hc
            refine mf_aload_n (mf_dat eX12_later 32 rfl) rfl rfl ?_
            refine mf_iload_n (mf_dat eX12_later 33 rfl) rfl rfl ?_
            refine mf_callV (Yc := YX12_purseOf) (r := (RX12, TX12, 106)) (ci := 12) (mf_dat eX12_later 34 rfl) ml_X12_445 okX12_purseOf im_X12_purseOf sl_X12_purseOf rfl rfl rfl rfl (Nat.le_of_ble_eq_true rfl) (mf_rr (Nat.le_trans (by decide) hd) (Nat.le_refl _)) (Nat.le_refl _) ck4 hyp (fun r24 g25 h26 hyp => ?_)
            refine mf_goto (tgt := 73) (mf_dat eX12_later 35 rfl) (by decide) ?_
            refine mf_istore (mf_dat eX12_later 40 rfl) (by decide) ?_
            refine mf_aload_n (mf_dat eX12_later 41 rfl) rfl rfl ?_
            refine mf_callV (Yc := YX12_takesBack) (r := (RX12, TX12, 106)) (ci := 12) (mf_dat eX12_later 42 rfl) ml_X12_533 okX12_takesBack im_X12_takesBack sl_X12_takesBack rfl rfl rfl rfl (Nat.le_of_ble_eq_true rfl) (mf_rr (Nat.le_trans (by decide) hd) (Nat.le_refl _)) (Nat.le_refl _) ck4 hyp (fun r27 g28 h29 hyp => ?_)
            refine mf_iload (mf_dat eX12_later 43 rfl) rfl ?_
            exact mf_ireturn (mf_dat eX12_later 44 rfl) rfl (Or.inl rfl) hyp
        · replace hyp := hyp.2 hc
          refine mf_aload_n (mf_dat eX12_later 25 rfl) rfl rfl ?_
          refine mf_iload_n (mf_dat eX12_later 26 rfl) rfl rfl ?_
          refine mf_callV (Yc := YX12_cellOf) (r := (RX12, TX12, 106)) (ci := 12) (mf_dat eX12_later 27 rfl) ml_X12_413 okX12_cellOf im_X12_cellOf sl_X12_cellOf rfl rfl rfl rfl (Nat.le_of_ble_eq_true rfl) (mf_rr (Nat.le_trans (by decide) hd) (Nat.le_refl _)) (Nat.le_refl _) ck4 hyp (fun r30 g31 h32 hyp => ?_)
          refine mf_goto (tgt := 73) (mf_dat eX12_later 28 rfl) (by decide) ?_
          refine mf_istore (mf_dat eX12_later 40 rfl) (by decide) ?_
          refine mf_aload_n (mf_dat eX12_later 41 rfl) rfl rfl ?_
          refine mf_callV (Yc := YX12_takesBack) (r := (RX12, TX12, 106)) (ci := 12) (mf_dat eX12_later 42 rfl) ml_X12_533 okX12_takesBack im_X12_takesBack sl_X12_takesBack rfl rfl rfl rfl (Nat.le_of_ble_eq_true rfl) (mf_rr (Nat.le_trans (by decide) hd) (Nat.le_refl _)) (Nat.le_refl _) ck4 hyp (fun r33 g34 h35 hyp => ?_)
          refine mf_iload (mf_dat eX12_later 43 rfl) rfl ?_
          exact mf_ireturn (mf_dat eX12_later 44 rfl) rfl (Or.inl rfl) hyp
      · replace hyp := hyp.2 hc
        refine mf_iconst (v := (-1)) (mf_dat eX12_later 16 rfl) (by decide) ?_
        exact mf_ireturn (mf_dat eX12_later 17 rfl) rfl (Or.inl rfl) hyp
set_option maxRecDepth 100000 in
set_option maxHeartbeats 4000000 in
theorem mX12_opening {C : mf_G} {l : Launch} {d n : Nat} {K : mf_Kt} {x0 x1 : Int} {g h : mf_M} (hd : 4 ≤ d) (hyp : mf_is n x0 12 ∧ mf_MT C l 1 YX12_isAhead [(2, x0), (0, x1), (0, 0), (0, 60)] n n g h (fun r1 g2 h3 => ((r1 = 0 → K (-1) g2 h3) ∧ (¬ r1 = 0 → mf_is n (g2 x0 56) 20 ∧ 0 < mf_len (g2 x0 56) ∧ mf_MT C l 3 YX12_openingOn [(2, x0), (0, mf_w32 ((h3 (g2 x0 56) 0) + x1))] n n g2 h3 (fun r7 g8 h9 => K r7 g8 h9))))) : mf_MT C l d YX12_opening [(2, x0), (0, x1)] n n g h K := by
  refine mf_entry (by decide) (Nat.le_of_ble_eq_true rfl) ?_
  refine mf_aload_n (mf_dat eX12_opening 0 rfl) rfl rfl ?_
  refine mf_iload_n (mf_dat eX12_opening 1 rfl) rfl rfl ?_
  refine mf_iconst (v := 0) (mf_dat eX12_opening 2 rfl) (by decide) ?_
  refine mf_bipush (v := 60) (mf_dat eX12_opening 3 rfl) (by decide) ?_
  obtain ⟨ck4, hyp⟩ := hyp
  refine mf_callV (Yc := YX12_isAhead) (r := (RX12, TX12, 106)) (ci := 12) (mf_dat eX12_opening 4 rfl) ml_X12_520 okX12_isAhead im_X12_isAhead sl_X12_isAhead rfl rfl rfl rfl (Nat.le_of_ble_eq_true rfl) (mf_rr (Nat.le_trans (by decide) hd) (Nat.le_refl _)) (Nat.le_refl _) ck4 hyp (fun r1 g2 h3 hyp => ?_)
  refine mf_if_eq (tgt := 26) (mf_dat eX12_opening 5 rfl) (by decide) (fun hc => ?_) (fun hc => ?_)
  · replace hyp := hyp.1 hc
    refine mf_iconst (v := (-1)) (mf_dat eX12_opening 15 rfl) (by decide) ?_
    exact mf_ireturn (mf_dat eX12_opening 16 rfl) rfl (Or.inl rfl) hyp
  · replace hyp := hyp.2 hc
    refine mf_aload_n (mf_dat eX12_opening 6 rfl) rfl rfl ?_
    refine mf_aload_n (mf_dat eX12_opening 7 rfl) rfl rfl ?_
    refine mf_getf (r := (RX12, TX12, 106)) (ci := 12) (k := 56) (t := 2) (v := g2 x0 56) (mf_dat eX12_opening 8 rfl) fl_X12_136 rfl (by decide) rfl rfl ck4 ?_
    refine mf_iconst (v := 0) (mf_dat eX12_opening 9 rfl) (by decide) ?_
    obtain ⟨ck5, hyp⟩ := hyp
    obtain ⟨ck6, hyp⟩ := hyp
    refine mf_iald (mf_dat eX12_opening 10 rfl) ck5 (by decide) ck6 ?_
    refine mf_iload_n (mf_dat eX12_opening 11 rfl) rfl rfl ?_
    refine mf_iadd (mf_dat eX12_opening 12 rfl) ?_
    refine mf_callV (Yc := YX12_openingOn) (r := (RX12, TX12, 106)) (ci := 12) (mf_dat eX12_opening 13 rfl) ml_X12_487 okX12_openingOn im_X12_openingOn sl_X12_openingOn rfl rfl rfl rfl (Nat.le_of_ble_eq_true rfl) (mf_rr (Nat.le_trans (by decide) hd) (Nat.le_refl _)) (Nat.le_refl _) ck4 hyp (fun r7 g8 h9 hyp => ?_)
    refine mf_goto (tgt := 27) (mf_dat eX12_opening 14 rfl) (by decide) ?_
    exact mf_ireturn (mf_dat eX12_opening 16 rfl) rfl (Or.inl rfl) hyp
set_option maxRecDepth 100000 in
set_option maxHeartbeats 4000000 in
theorem mX12_comes {C : mf_G} {l : Launch} {d n : Nat} {K : mf_Kt} {x0 x1 x2 x3 : Int} {g h : mf_M} (hd : 2 ≤ d) (hyp : mf_is n x0 12 ∧ mf_MT C l 1 YX12_isCell [(2, x0), (0, x2), (0, x3)] n n g h (fun r1 g2 h3 => ((r1 = 0 → K 0 g2 h3) ∧ (¬ r1 = 0 → mf_MT C l 0 YX12_hasGloss [(2, x0), (0, x2), (0, x3)] n n g2 h3 (fun r5 g6 h7 => ((¬ r5 = 0 → K 0 g6 h7) ∧ (r5 = 0 → mf_is n (g6 x0 64) 22 ∧ 0 ≤ mf_w32 ((mf_w32 ((mf_w32 (48 * x1)) + (mf_w32 (8 * x2)))) + x3) ∧ mf_w32 ((mf_w32 ((mf_w32 (48 * x1)) + (mf_w32 (8 * x2)))) + x3) < mf_len (g6 x0 64) ∧ (∀ h11 : mf_M, h11 = mf_up h7 (g6 x0 64) (mf_w32 ((mf_w32 ((mf_w32 (48 * x1)) + (mf_w32 (8 * x2)))) + x3)) 1 → K 0 g6 h11)))))))) : mf_MT C l d YX12_comes [(2, x0), (0, x1), (0, x2), (0, x3)] n n g h K := by
  refine mf_entry (by decide) (Nat.le_of_ble_eq_true rfl) ?_
  refine mf_aload_n (mf_dat eX12_comes 0 rfl) rfl rfl ?_
  refine mf_iload_n (mf_dat eX12_comes 1 rfl) rfl rfl ?_
  refine mf_iload_n (mf_dat eX12_comes 2 rfl) rfl rfl ?_
  obtain ⟨ck4, hyp⟩ := hyp
  refine mf_callV (Yc := YX12_isCell) (r := (RX12, TX12, 106)) (ci := 12) (mf_dat eX12_comes 3 rfl) ml_X12_507 okX12_isCell im_X12_isCell sl_X12_isCell rfl rfl rfl rfl (Nat.le_of_ble_eq_true rfl) (mf_rr (Nat.le_trans (by decide) hd) (Nat.le_refl _)) (Nat.le_refl _) ck4 hyp (fun r1 g2 h3 hyp => ?_)
  refine mf_if_eq (tgt := 35) (mf_dat eX12_comes 4 rfl) (by decide) (fun hc => ?_) (fun hc => ?_)
  · replace hyp := hyp.1 hc
    exact mf_return (mf_dat eX12_comes 23 rfl) rfl hyp
  · replace hyp := hyp.2 hc
    refine mf_aload_n (mf_dat eX12_comes 5 rfl) rfl rfl ?_
    refine mf_iload_n (mf_dat eX12_comes 6 rfl) rfl rfl ?_
    refine mf_iload_n (mf_dat eX12_comes 7 rfl) rfl rfl ?_
    refine mf_callV (Yc := YX12_hasGloss) (r := (RX12, TX12, 106)) (ci := 12) (mf_dat eX12_comes 8 rfl) ml_X12_481 okX12_hasGloss im_X12_hasGloss sl_X12_hasGloss rfl rfl rfl rfl (Nat.le_of_ble_eq_true rfl) (mf_rr (Nat.le_trans (by decide) hd) (Nat.le_refl _)) (Nat.le_refl _) ck4 hyp (fun r5 g6 h7 hyp => ?_)
    refine mf_if_ne (tgt := 35) (mf_dat eX12_comes 9 rfl) (by decide) (fun hc => ?_) (fun hc => ?_)
    · replace hyp := hyp.1 hc
      exact mf_return (mf_dat eX12_comes 23 rfl) rfl hyp
    · replace hyp := hyp.2 hc
      refine mf_aload_n (mf_dat eX12_comes 10 rfl) rfl rfl ?_
      refine mf_getf (r := (RX12, TX12, 106)) (ci := 12) (k := 64) (t := 2) (v := g6 x0 64) (mf_dat eX12_comes 11 rfl) fl_X12_145 rfl (by decide) rfl rfl ck4 ?_
      refine mf_bipush (v := 48) (mf_dat eX12_comes 12 rfl) (by decide) ?_
      refine mf_iload_n (mf_dat eX12_comes 13 rfl) rfl rfl ?_
      refine mf_imul (mf_dat eX12_comes 14 rfl) ?_
      refine mf_bipush (v := 8) (mf_dat eX12_comes 15 rfl) (by decide) ?_
      refine mf_iload_n (mf_dat eX12_comes 16 rfl) rfl rfl ?_
      refine mf_imul (mf_dat eX12_comes 17 rfl) ?_
      refine mf_iadd (mf_dat eX12_comes 18 rfl) ?_
      refine mf_iload_n (mf_dat eX12_comes 19 rfl) rfl rfl ?_
      refine mf_iadd (mf_dat eX12_comes 20 rfl) ?_
      refine mf_iconst (v := 1) (mf_dat eX12_comes 21 rfl) (by decide) ?_
      obtain ⟨ck8, hyp⟩ := hyp
      obtain ⟨ck9, hyp⟩ := hyp
      obtain ⟨ck10, hyp⟩ := hyp
      refine mf_zast (mf_dat eX12_comes 22 rfl) ck8 ck9 ck10 (by decide) ?_
      generalize qh11 : mf_up h7 (g6 x0 64) (mf_w32 ((mf_w32 ((mf_w32 (48 * x1)) + (mf_w32 (8 * x2)))) + x3)) 1 = h11
      replace hyp := hyp _ qh11.symm
      exact mf_return (mf_dat eX12_comes 23 rfl) rfl hyp
abbrev JX12_goesOn_10 (C : mf_G) (l : Launch) (d n : Nat) (K : mf_Kt) (x0 x2 x3 x4 x5 : Int) (g h : mf_M) : Prop := mf_AW C l YX12_goesOn (mf_rm d n n) n (mf_Zm C YX12_goesOn n n K) (fun _ _ => True) 10 [(0, (2, x0)), (2, (0, x2)), (3, (0, x3)), (4, (0, x4)), (5, (0, x5))] [] n g h
abbrev JX12_goesOn_39 (C : mf_G) (l : Launch) (d n : Nat) (K : mf_Kt) (x0 x2 x3 x4 x5 : Int) (g h : mf_M) : Prop := mf_AW C l YX12_goesOn (mf_rm d n n) n (mf_Zm C YX12_goesOn n n K) (fun _ _ => True) 39 [(0, (2, x0)), (2, (0, x2)), (3, (0, x3)), (4, (0, x4)), (5, (0, x5))] [] n g h
abbrev JX12_goesOn_144 (C : mf_G) (l : Launch) (d n : Nat) (K : mf_Kt) (x0 x2 x3 x4 x5 x6 x7 : Int) (g h : mf_M) : Prop := mf_AW C l YX12_goesOn (mf_rm d n n) n (mf_Zm C YX12_goesOn n n K) (fun _ _ => True) 144 [(0, (2, x0)), (2, (0, x2)), (3, (0, x3)), (4, (0, x4)), (5, (0, x5)), (6, (0, x6)), (7, (0, x7))] [] n g h
abbrev JX12_goesOn_180 (C : mf_G) (l : Launch) (d n : Nat) (K : mf_Kt) (x0 x2 x3 x4 x5 x6 x7 x8 : Int) (g h : mf_M) : Prop := mf_AW C l YX12_goesOn (mf_rm d n n) n (mf_Zm C YX12_goesOn n n K) (fun _ _ => True) 180 [(0, (2, x0)), (2, (0, x2)), (3, (0, x3)), (4, (0, x4)), (5, (0, x5)), (6, (0, x6)), (7, (0, x7)), (8, (0, x8))] [] n g h
abbrev JX12_goesOn_247 (C : mf_G) (l : Launch) (d n : Nat) (K : mf_Kt) (x0 x2 x3 x4 x5 x6 x7 x8 : Int) (g h : mf_M) : Prop := mf_AW C l YX12_goesOn (mf_rm d n n) n (mf_Zm C YX12_goesOn n n K) (fun _ _ => True) 247 [(0, (2, x0)), (2, (0, x2)), (3, (0, x3)), (4, (0, x4)), (5, (0, x5)), (6, (0, x6)), (7, (0, x7)), (8, (0, x8))] [] n g h
set_option maxRecDepth 100000 in
set_option maxHeartbeats 4000000 in
theorem bX12_goesOn_10 {C : mf_G} {l : Launch} {d n : Nat} {K : mf_Kt} {x0 x2 x3 x4 x5 : Int} {g h : mf_M} (hyp : ((48 ≤ x5 → JX12_goesOn_39 C l d n K x0 x2 x3 x4 0 g h) ∧ (¬ 48 ≤ x5 → mf_is n x0 12 ∧ mf_is n (g x0 64) 22 ∧ 0 ≤ mf_w32 ((mf_w32 (48 * x3)) + x5) ∧ mf_w32 ((mf_w32 (48 * x3)) + x5) < mf_len (g x0 64) ∧ (∀ h5 : mf_M, h5 = mf_up h (g x0 64) (mf_w32 ((mf_w32 (48 * x3)) + x5)) 0 → (∀ v6 : Int, v6 = mf_w32 (x5 + 1) → JX12_goesOn_10 C l d n K x0 x2 x3 x4 v6 g h5))))) : JX12_goesOn_10 C l d n K x0 x2 x3 x4 x5 g h := by
  refine mf_iload (mf_dat eX12_goesOn_p0 6 rfl) rfl ?_
  refine mf_bipush (v := 48) (mf_dat eX12_goesOn_p0 7 rfl) (by decide) ?_
  refine mf_icmp_ge (tgt := 36) (mf_dat eX12_goesOn_p0 8 rfl) (by decide) (fun hc => ?_) (fun hc => ?_)
  · replace hyp := hyp.1 hc
    refine mf_iconst (v := 0) (mf_dat eX12_goesOn_p0 20 rfl) (by decide) ?_
    refine mf_istore (mf_dat eX12_goesOn_p0 21 rfl) (by decide) ?_
    exact mf_sub [1, 2, 3, 4, 0] rfl hyp
  · replace hyp := hyp.2 hc
    refine mf_aload_n (mf_dat eX12_goesOn_p0 9 rfl) rfl rfl ?_
    obtain ⟨ck1, hyp⟩ := hyp
    refine mf_getf (r := (RX12, TX12, 106)) (ci := 12) (k := 64) (t := 2) (v := g x0 64) (mf_dat eX12_goesOn_p0 10 rfl) fl_X12_145 rfl (by decide) rfl rfl ck1 ?_
    refine mf_bipush (v := 48) (mf_dat eX12_goesOn_p0 11 rfl) (by decide) ?_
    refine mf_iload_n (mf_dat eX12_goesOn_p0 12 rfl) rfl rfl ?_
    refine mf_imul (mf_dat eX12_goesOn_p0 13 rfl) ?_
    refine mf_iload (mf_dat eX12_goesOn_p0 14 rfl) rfl ?_
    refine mf_iadd (mf_dat eX12_goesOn_p0 15 rfl) ?_
    refine mf_iconst (v := 0) (mf_dat eX12_goesOn_p0 16 rfl) (by decide) ?_
    obtain ⟨ck2, hyp⟩ := hyp
    obtain ⟨ck3, hyp⟩ := hyp
    obtain ⟨ck4, hyp⟩ := hyp
    refine mf_zast (mf_dat eX12_goesOn_p0 17 rfl) ck2 ck3 ck4 (by decide) ?_
    generalize qh5 : mf_up h (g x0 64) (mf_w32 ((mf_w32 (48 * x3)) + x5)) 0 = h5
    replace hyp := hyp _ qh5.symm
    refine mf_iinc (mf_dat eX12_goesOn_p0 18 rfl) rfl (by decide) (by decide) ?_
    generalize qv6 : mf_w32 (x5 + 1) = v6
    replace hyp := hyp _ qv6.symm
    refine mf_goto (tgt := 10) (mf_dat eX12_goesOn_p0 19 rfl) (by decide) ?_
    exact mf_sub [1, 2, 3, 4, 0] rfl hyp
set_option maxRecDepth 100000 in
set_option maxHeartbeats 4000000 in
theorem bX12_goesOn_39 {C : mf_G} {l : Launch} {d n : Nat} {K : mf_Kt} {x0 x2 x3 x4 x5 : Int} {g h : mf_M} (hd : 3 ≤ d) (hyp : ((48 ≤ x5 → K 0 g h) ∧ (¬ 48 ≤ x5 → mf_is n x0 12 ∧ mf_is n (g x0 64) 22 ∧ 0 ≤ mf_w32 ((mf_w32 (48 * x2)) + x5) ∧ mf_w32 ((mf_w32 (48 * x2)) + x5) < mf_len (g x0 64) ∧ ((¬ h (g x0 64) (mf_w32 ((mf_w32 (48 * x2)) + x5)) = 0 → (∀ v5 : Int, v5 = mf_w32 (x5.tdiv 8) → (∀ v6 : Int, v6 = x5.tmod 8 → 0 ≤ mf_w32 ((mf_w32 (48 * x3)) + x5) ∧ mf_w32 ((mf_w32 (48 * x3)) + x5) < mf_len (g x0 64) ∧ (∀ h9 : mf_M, h9 = mf_up h (g x0 64) (mf_w32 ((mf_w32 (48 * x3)) + x5)) 1 → mf_MT C l 2 YX12_comes [(2, x0), (0, x3), (0, v5), (0, mf_w32 (v6 - 1))] n n g h9 (fun r10 g11 h12 => mf_MT C l 2 YX12_comes [(2, x0), (0, x3), (0, v5), (0, mf_w32 (v6 + 1))] n n g11 h12 (fun r13 g14 h15 => mf_MT C l 1 YX12_liesOnNext [(2, x0), (0, v5), (0, x4)] n n g14 h15 (fun r16 g17 h18 => ((r16 = 0 → JX12_goesOn_144 C l d n K x0 x2 x3 x4 x5 v5 v6 g17 h18) ∧ (¬ r16 = 0 → mf_is n (g17 x0 40) 20 ∧ 3 < mf_len (g17 x0 40) ∧ mf_MT C l 2 YX12_comes [(2, x0), (0, x3), (0, mf_w32 (v5 + 1)), (0, mf_w32 ((mf_w32 ((h18 (g17 x0 40) 3) - 1)) - v6))] n n g17 h18 (fun r21 g22 h23 => JX12_goesOn_144 C l d n K x0 x2 x3 x4 x5 v5 v6 g22 h23)))))))))) ∧ (h (g x0 64) (mf_w32 ((mf_w32 (48 * x2)) + x5)) = 0 → (∀ v24 : Int, v24 = mf_w32 (x5 + 1) → JX12_goesOn_39 C l d n K x0 x2 x3 x4 v24 g h)))))) : JX12_goesOn_39 C l d n K x0 x2 x3 x4 x5 g h := by
  refine mf_iload (mf_dat eX12_goesOn_p0 22 rfl) rfl ?_
  refine mf_bipush (v := 48) (mf_dat eX12_goesOn_p0 23 rfl) (by decide) ?_
  refine mf_icmp_ge (tgt := 295) (mf_dat eX12_goesOn_p0 24 rfl) (by decide) (fun hc => ?_) (fun hc => ?_)
  · replace hyp := hyp.1 hc
    exact mf_return (mf_dat eX12_goesOn_p2 53 rfl) rfl hyp
  · replace hyp := hyp.2 hc
    refine mf_aload_n (mf_dat eX12_goesOn_p0 25 rfl) rfl rfl ?_
    obtain ⟨ck1, hyp⟩ := hyp
    refine mf_getf (r := (RX12, TX12, 106)) (ci := 12) (k := 64) (t := 2) (v := g x0 64) (mf_dat eX12_goesOn_p0 26 rfl) fl_X12_145 rfl (by decide) rfl rfl ck1 ?_
    refine mf_bipush (v := 48) (mf_dat eX12_goesOn_p0 27 rfl) (by decide) ?_
    refine mf_iload_n (mf_dat eX12_goesOn_p0 28 rfl) rfl rfl ?_
    refine mf_imul (mf_dat eX12_goesOn_p0 29 rfl) ?_
    refine mf_iload (mf_dat eX12_goesOn_p0 30 rfl) rfl ?_
    refine mf_iadd (mf_dat eX12_goesOn_p0 31 rfl) ?_
    obtain ⟨ck2, hyp⟩ := hyp
    obtain ⟨ck3, hyp⟩ := hyp
    obtain ⟨ck4, hyp⟩ := hyp
    refine mf_zald (mf_dat eX12_goesOn_p0 32 rfl) ck2 ck3 ck4 ?_
    refine mf_if_ne (tgt := 64) (mf_dat eX12_goesOn_p0 33 rfl) (by decide) (fun hc => ?_) (fun hc => ?_)
    · replace hyp := hyp.1 hc
      refine mf_iload (mf_dat eX12_goesOn_p0 35 rfl) rfl ?_
      refine mf_bipush (v := 8) (mf_dat eX12_goesOn_p0 36 rfl) (by decide) ?_
      refine mf_idiv (mf_dat eX12_goesOn_p0 37 rfl) (by decide) ?_
      generalize qv5 : mf_w32 (x5.tdiv 8) = v5
      replace hyp := hyp _ qv5.symm
      refine mf_istore (mf_dat eX12_goesOn_p0 38 rfl) (by decide) ?_
      refine mf_iload (mf_dat eX12_goesOn_p0 39 rfl) rfl ?_
      refine mf_bipush (v := 8) (mf_dat eX12_goesOn_p0 40 rfl) (by decide) ?_
      refine mf_irem (mf_dat eX12_goesOn_p0 41 rfl) (by decide) ?_
      generalize qv6 : x5.tmod 8 = v6
      replace hyp := hyp _ qv6.symm
      refine mf_istore (mf_dat eX12_goesOn_p0 42 rfl) (by decide) ?_
      refine mf_aload_n (mf_dat eX12_goesOn_p0 43 rfl) rfl rfl ?_
      refine mf_getf (r := (RX12, TX12, 106)) (ci := 12) (k := 64) (t := 2) (v := g x0 64) (mf_dat eX12_goesOn_p0 44 rfl) fl_X12_145 rfl (by decide) rfl rfl ck1 ?_
      refine mf_bipush (v := 48) (mf_dat eX12_goesOn_p0 45 rfl) (by decide) ?_
      refine mf_iload_n (mf_dat eX12_goesOn_p0 46 rfl) rfl rfl ?_
      refine mf_imul (mf_dat eX12_goesOn_p0 47 rfl) ?_
      refine mf_iload (mf_dat eX12_goesOn_p0 48 rfl) rfl ?_
      refine mf_iadd (mf_dat eX12_goesOn_p0 49 rfl) ?_
      refine mf_iconst (v := 1) (mf_dat eX12_goesOn_p0 50 rfl) (by decide) ?_
      obtain ⟨ck7, hyp⟩ := hyp
      obtain ⟨ck8, hyp⟩ := hyp
      refine mf_zast (mf_dat eX12_goesOn_p0 51 rfl) ck2 ck7 ck8 (by decide) ?_
      generalize qh9 : mf_up h (g x0 64) (mf_w32 ((mf_w32 (48 * x3)) + x5)) 1 = h9
      replace hyp := hyp _ qh9.symm
      refine mf_aload_n (mf_dat eX12_goesOn_p0 52 rfl) rfl rfl ?_
      refine mf_iload_n (mf_dat eX12_goesOn_p0 53 rfl) rfl rfl ?_
      refine mf_iload (mf_dat eX12_goesOn_p0 54 rfl) rfl ?_
      refine mf_iload (mf_dat eX12_goesOn_p0 55 rfl) rfl ?_
      refine mf_iconst (v := 1) (mf_dat eX12_goesOn_p0 56 rfl) (by decide) ?_
      refine mf_isub (mf_dat eX12_goesOn_p0 57 rfl) ?_
      refine mf_callV (Yc := YX12_comes) (r := (RX12, TX12, 106)) (ci := 12) (mf_dat eX12_goesOn_p0 58 rfl) ml_X12_539 okX12_comes im_X12_comes sl_X12_comes rfl rfl rfl rfl (Nat.le_of_ble_eq_true rfl) (mf_rr (Nat.le_trans (by decide) hd) (Nat.le_refl _)) (Nat.le_refl _) ck1 hyp (fun r10 g11 h12 hyp => ?_)
      refine mf_aload_n (mf_dat eX12_goesOn_p0 59 rfl) rfl rfl ?_
      refine mf_iload_n (mf_dat eX12_goesOn_p1 0 rfl) rfl rfl ?_
      refine mf_iload (mf_dat eX12_goesOn_p1 1 rfl) rfl ?_
      refine mf_iload (mf_dat eX12_goesOn_p1 2 rfl) rfl ?_
      refine mf_iconst (v := 1) (mf_dat eX12_goesOn_p1 3 rfl) (by decide) ?_
      refine mf_iadd (mf_dat eX12_goesOn_p1 4 rfl) ?_
      refine mf_callV (Yc := YX12_comes) (r := (RX12, TX12, 106)) (ci := 12) (mf_dat eX12_goesOn_p1 5 rfl) ml_X12_539 okX12_comes im_X12_comes sl_X12_comes rfl rfl rfl rfl (Nat.le_of_ble_eq_true rfl) (mf_rr (Nat.le_trans (by decide) hd) (Nat.le_refl _)) (Nat.le_refl _) ck1 hyp (fun r13 g14 h15 hyp => ?_)
      refine mf_aload_n (mf_dat eX12_goesOn_p1 6 rfl) rfl rfl ?_
      refine mf_iload (mf_dat eX12_goesOn_p1 7 rfl) rfl ?_
      refine mf_iload (mf_dat eX12_goesOn_p1 8 rfl) rfl ?_
      refine mf_callV (Yc := YX12_liesOnNext) (r := (RX12, TX12, 106)) (ci := 12) (mf_dat eX12_goesOn_p1 9 rfl) ml_X12_419 okX12_liesOnNext im_X12_liesOnNext sl_X12_liesOnNext rfl rfl rfl rfl (Nat.le_of_ble_eq_true rfl) (mf_rr (Nat.le_trans (by decide) hd) (Nat.le_refl _)) (Nat.le_refl _) ck1 hyp (fun r16 g17 h18 hyp => ?_)
      refine mf_if_eq (tgt := 144) (mf_dat eX12_goesOn_p1 10 rfl) (by decide) (fun hc => ?_) (fun hc => ?_)
      · replace hyp := hyp.1 hc
        exact mf_sub [2, 3, 4, 5, 6, 1, 0] rfl hyp
      · replace hyp := hyp.2 hc
        refine mf_aload_n (mf_dat eX12_goesOn_p1 11 rfl) rfl rfl ?_
        refine mf_iload_n (mf_dat eX12_goesOn_p1 12 rfl) rfl rfl ?_
        refine mf_iload (mf_dat eX12_goesOn_p1 13 rfl) rfl ?_
        refine mf_iconst (v := 1) (mf_dat eX12_goesOn_p1 14 rfl) (by decide) ?_
        refine mf_iadd (mf_dat eX12_goesOn_p1 15 rfl) ?_
        refine mf_aload_n (mf_dat eX12_goesOn_p1 16 rfl) rfl rfl ?_
        refine mf_getf (r := (RX12, TX12, 106)) (ci := 12) (k := 40) (t := 2) (v := g17 x0 40) (mf_dat eX12_goesOn_p1 17 rfl) fl_X12_105 rfl (by decide) rfl rfl ck1 ?_
        refine mf_iconst (v := 3) (mf_dat eX12_goesOn_p1 18 rfl) (by decide) ?_
        obtain ⟨ck19, hyp⟩ := hyp
        obtain ⟨ck20, hyp⟩ := hyp
        refine mf_iald (mf_dat eX12_goesOn_p1 19 rfl) ck19 (by decide) ck20 ?_
        refine mf_iconst (v := 1) (mf_dat eX12_goesOn_p1 20 rfl) (by decide) ?_
        refine mf_isub (mf_dat eX12_goesOn_p1 21 rfl) ?_
        refine mf_iload (mf_dat eX12_goesOn_p1 22 rfl) rfl ?_
        refine mf_isub (mf_dat eX12_goesOn_p1 23 rfl) ?_
        refine mf_callV (Yc := YX12_comes) (r := (RX12, TX12, 106)) (ci := 12) (mf_dat eX12_goesOn_p1 24 rfl) ml_X12_539 okX12_comes im_X12_comes sl_X12_comes rfl rfl rfl rfl (Nat.le_of_ble_eq_true rfl) (mf_rr (Nat.le_trans (by decide) hd) (Nat.le_refl _)) (Nat.le_refl _) ck1 hyp (fun r21 g22 h23 hyp => ?_)
        exact mf_sub [2, 3, 4, 5, 6, 1, 0] rfl hyp
    · replace hyp := hyp.2 hc
      refine mf_goto (tgt := 289) (mf_dat eX12_goesOn_p0 34 rfl) (by decide) ?_
      refine mf_iinc (mf_dat eX12_goesOn_p2 51 rfl) rfl (by decide) (by decide) ?_
      generalize qv24 : mf_w32 (x5 + 1) = v24
      replace hyp := hyp _ qv24.symm
      refine mf_goto (tgt := 39) (mf_dat eX12_goesOn_p2 52 rfl) (by decide) ?_
      exact mf_sub [1, 2, 3, 4, 0] rfl hyp
set_option maxRecDepth 100000 in
set_option maxHeartbeats 4000000 in
theorem bX12_goesOn_144 {C : mf_G} {l : Launch} {d n : Nat} {K : mf_Kt} {x0 x2 x3 x4 x5 x6 x7 : Int} {g h : mf_M} (hd : 3 ≤ d) (hyp : mf_is n x0 12 ∧ mf_MT C l 1 YX12_liesOnNext [(2, x0), (0, mf_w32 (x6 - 1)), (0, x4)] n n g h (fun r1 g2 h3 => ((r1 = 0 → JX12_goesOn_180 C l d n K x0 x2 x3 x4 x5 x6 x7 0 g2 h3) ∧ (¬ r1 = 0 → mf_is n (g2 x0 40) 20 ∧ 3 < mf_len (g2 x0 40) ∧ mf_MT C l 2 YX12_comes [(2, x0), (0, x3), (0, mf_w32 (x6 - 1)), (0, mf_w32 ((mf_w32 ((h3 (g2 x0 40) 3) - 1)) - x7))] n n g2 h3 (fun r7 g8 h9 => JX12_goesOn_180 C l d n K x0 x2 x3 x4 x5 x6 x7 0 g8 h9))))) : JX12_goesOn_144 C l d n K x0 x2 x3 x4 x5 x6 x7 g h := by
  refine mf_aload_n (mf_dat eX12_goesOn_p1 25 rfl) rfl rfl ?_
  refine mf_iload (mf_dat eX12_goesOn_p1 26 rfl) rfl ?_
  refine mf_iconst (v := 1) (mf_dat eX12_goesOn_p1 27 rfl) (by decide) ?_
  refine mf_isub (mf_dat eX12_goesOn_p1 28 rfl) ?_
  refine mf_iload (mf_dat eX12_goesOn_p1 29 rfl) rfl ?_
  obtain ⟨ck4, hyp⟩ := hyp
  refine mf_callV (Yc := YX12_liesOnNext) (r := (RX12, TX12, 106)) (ci := 12) (mf_dat eX12_goesOn_p1 30 rfl) ml_X12_419 okX12_liesOnNext im_X12_liesOnNext sl_X12_liesOnNext rfl rfl rfl rfl (Nat.le_of_ble_eq_true rfl) (mf_rr (Nat.le_trans (by decide) hd) (Nat.le_refl _)) (Nat.le_refl _) ck4 hyp (fun r1 g2 h3 hyp => ?_)
  refine mf_if_eq (tgt := 177) (mf_dat eX12_goesOn_p1 31 rfl) (by decide) (fun hc => ?_) (fun hc => ?_)
  · replace hyp := hyp.1 hc
    refine mf_iconst (v := 0) (mf_dat eX12_goesOn_p1 46 rfl) (by decide) ?_
    refine mf_istore (mf_dat eX12_goesOn_p1 47 rfl) (by decide) ?_
    exact mf_sub [1, 2, 3, 4, 5, 6, 7, 0] rfl hyp
  · replace hyp := hyp.2 hc
    refine mf_aload_n (mf_dat eX12_goesOn_p1 32 rfl) rfl rfl ?_
    refine mf_iload_n (mf_dat eX12_goesOn_p1 33 rfl) rfl rfl ?_
    refine mf_iload (mf_dat eX12_goesOn_p1 34 rfl) rfl ?_
    refine mf_iconst (v := 1) (mf_dat eX12_goesOn_p1 35 rfl) (by decide) ?_
    refine mf_isub (mf_dat eX12_goesOn_p1 36 rfl) ?_
    refine mf_aload_n (mf_dat eX12_goesOn_p1 37 rfl) rfl rfl ?_
    refine mf_getf (r := (RX12, TX12, 106)) (ci := 12) (k := 40) (t := 2) (v := g2 x0 40) (mf_dat eX12_goesOn_p1 38 rfl) fl_X12_105 rfl (by decide) rfl rfl ck4 ?_
    refine mf_iconst (v := 3) (mf_dat eX12_goesOn_p1 39 rfl) (by decide) ?_
    obtain ⟨ck5, hyp⟩ := hyp
    obtain ⟨ck6, hyp⟩ := hyp
    refine mf_iald (mf_dat eX12_goesOn_p1 40 rfl) ck5 (by decide) ck6 ?_
    refine mf_iconst (v := 1) (mf_dat eX12_goesOn_p1 41 rfl) (by decide) ?_
    refine mf_isub (mf_dat eX12_goesOn_p1 42 rfl) ?_
    refine mf_iload (mf_dat eX12_goesOn_p1 43 rfl) rfl ?_
    refine mf_isub (mf_dat eX12_goesOn_p1 44 rfl) ?_
    refine mf_callV (Yc := YX12_comes) (r := (RX12, TX12, 106)) (ci := 12) (mf_dat eX12_goesOn_p1 45 rfl) ml_X12_539 okX12_comes im_X12_comes sl_X12_comes rfl rfl rfl rfl (Nat.le_of_ble_eq_true rfl) (mf_rr (Nat.le_trans (by decide) hd) (Nat.le_refl _)) (Nat.le_refl _) ck4 hyp (fun r7 g8 h9 hyp => ?_)
    refine mf_iconst (v := 0) (mf_dat eX12_goesOn_p1 46 rfl) (by decide) ?_
    refine mf_istore (mf_dat eX12_goesOn_p1 47 rfl) (by decide) ?_
    exact mf_sub [1, 2, 3, 4, 5, 6, 7, 0] rfl hyp
set_option maxRecDepth 100000 in
set_option maxHeartbeats 4000000 in
theorem bX12_goesOn_180 {C : mf_G} {l : Launch} {d n : Nat} {K : mf_Kt} {x0 x2 x3 x4 x5 x6 x7 x8 : Int} {g h : mf_M} (hd : 3 ≤ d) (hyp : mf_is n x0 12 ∧ mf_is n (g x0 41) 20 ∧ 4 < mf_len (g x0 41) ∧ ((h (g x0 41) 4 ≤ x8 → (∀ v4 : Int, v4 = mf_w32 (x5 + 1) → JX12_goesOn_39 C l d n K x0 x2 x3 x4 v4 g h)) ∧ (¬ h (g x0 41) 4 ≤ x8 → mf_is n (g x0 44) 20 ∧ 0 ≤ mf_w32 (38 + (mf_w32 (3 * x8))) ∧ mf_w32 (38 + (mf_w32 (3 * x8))) < mf_len (g x0 44) ∧ ((h (g x0 44) (mf_w32 (38 + (mf_w32 (3 * x8)))) = x7 → 0 ≤ mf_w32 (36 + (mf_w32 (3 * x8))) ∧ mf_w32 (36 + (mf_w32 (3 * x8))) < mf_len (g x0 44) ∧ ((¬ h (g x0 44) (mf_w32 (36 + (mf_w32 (3 * x8)))) = x6 → JX12_goesOn_247 C l d n K x0 x2 x3 x4 x5 x6 x7 x8 g h) ∧ (h (g x0 44) (mf_w32 (36 + (mf_w32 (3 * x8)))) = x6 → 0 ≤ mf_w32 (37 + (mf_w32 (3 * x8))) ∧ mf_w32 (37 + (mf_w32 (3 * x8))) < mf_len (g x0 44) ∧ mf_MT C l 2 YX12_comes [(2, x0), (0, x3), (0, h (g x0 44) (mf_w32 (37 + (mf_w32 (3 * x8))))), (0, x7)] n n g h (fun r12 g13 h14 => JX12_goesOn_247 C l d n K x0 x2 x3 x4 x5 x6 x7 x8 g13 h14)))) ∧ (¬ h (g x0 44) (mf_w32 (38 + (mf_w32 (3 * x8)))) = x7 → (∀ v15 : Int, v15 = mf_w32 (x8 + 1) → JX12_goesOn_180 C l d n K x0 x2 x3 x4 x5 x6 x7 v15 g h)))))) : JX12_goesOn_180 C l d n K x0 x2 x3 x4 x5 x6 x7 x8 g h := by
  refine mf_iload (mf_dat eX12_goesOn_p1 48 rfl) rfl ?_
  refine mf_aload_n (mf_dat eX12_goesOn_p1 49 rfl) rfl rfl ?_
  obtain ⟨ck1, hyp⟩ := hyp
  refine mf_getf (r := (RX12, TX12, 106)) (ci := 12) (k := 41) (t := 2) (v := g x0 41) (mf_dat eX12_goesOn_p1 50 rfl) fl_X12_108 rfl (by decide) rfl rfl ck1 ?_
  refine mf_iconst (v := 4) (mf_dat eX12_goesOn_p1 51 rfl) (by decide) ?_
  obtain ⟨ck2, hyp⟩ := hyp
  obtain ⟨ck3, hyp⟩ := hyp
  refine mf_iald (mf_dat eX12_goesOn_p1 52 rfl) ck2 (by decide) ck3 ?_
  refine mf_icmp_ge (tgt := 289) (mf_dat eX12_goesOn_p1 53 rfl) (by decide) (fun hc => ?_) (fun hc => ?_)
  · replace hyp := hyp.1 hc
    refine mf_iinc (mf_dat eX12_goesOn_p2 51 rfl) rfl (by decide) (by decide) ?_
    generalize qv4 : mf_w32 (x5 + 1) = v4
    replace hyp := hyp _ qv4.symm
    refine mf_goto (tgt := 39) (mf_dat eX12_goesOn_p2 52 rfl) (by decide) ?_
    exact mf_sub [1, 2, 3, 4, 0] rfl hyp
  · replace hyp := hyp.2 hc
    refine mf_aload_n (mf_dat eX12_goesOn_p1 54 rfl) rfl rfl ?_
    refine mf_getf (r := (RX12, TX12, 106)) (ci := 12) (k := 44) (t := 2) (v := g x0 44) (mf_dat eX12_goesOn_p1 55 rfl) fl_X12_118 rfl (by decide) rfl rfl ck1 ?_
    refine mf_bipush (v := 38) (mf_dat eX12_goesOn_p1 56 rfl) (by decide) ?_
    refine mf_iconst (v := 3) (mf_dat eX12_goesOn_p1 57 rfl) (by decide) ?_
    refine mf_iload (mf_dat eX12_goesOn_p1 58 rfl) rfl ?_
    refine mf_imul (mf_dat eX12_goesOn_p1 59 rfl) ?_
    refine mf_iadd (mf_dat eX12_goesOn_p2 0 rfl) ?_
    obtain ⟨ck5, hyp⟩ := hyp
    obtain ⟨ck6, hyp⟩ := hyp
    obtain ⟨ck7, hyp⟩ := hyp
    refine mf_iald (mf_dat eX12_goesOn_p2 1 rfl) ck5 ck6 ck7 ?_
    refine mf_iload (mf_dat eX12_goesOn_p2 2 rfl) rfl ?_
    refine mf_icmp_eq (tgt := 211) (mf_dat eX12_goesOn_p2 3 rfl) (by decide) (fun hc => ?_) (fun hc => ?_)
    · replace hyp := hyp.1 hc
      refine mf_aload_n (mf_dat eX12_goesOn_p2 5 rfl) rfl rfl ?_
      refine mf_getf (r := (RX12, TX12, 106)) (ci := 12) (k := 44) (t := 2) (v := g x0 44) (mf_dat eX12_goesOn_p2 6 rfl) fl_X12_118 rfl (by decide) rfl rfl ck1 ?_
      refine mf_bipush (v := 36) (mf_dat eX12_goesOn_p2 7 rfl) (by decide) ?_
      refine mf_iconst (v := 3) (mf_dat eX12_goesOn_p2 8 rfl) (by decide) ?_
      refine mf_iload (mf_dat eX12_goesOn_p2 9 rfl) rfl ?_
      refine mf_imul (mf_dat eX12_goesOn_p2 10 rfl) ?_
      refine mf_iadd (mf_dat eX12_goesOn_p2 11 rfl) ?_
      obtain ⟨ck8, hyp⟩ := hyp
      obtain ⟨ck9, hyp⟩ := hyp
      refine mf_iald (mf_dat eX12_goesOn_p2 12 rfl) ck5 ck8 ck9 ?_
      refine mf_iload (mf_dat eX12_goesOn_p2 13 rfl) rfl ?_
      refine mf_icmp_ne (tgt := 247) (mf_dat eX12_goesOn_p2 14 rfl) (by decide) (fun hc => ?_) (fun hc => ?_)
      · replace hyp := hyp.1 hc
        exact mf_sub [0, 1, 2, 3, 4, 5, 6, 7] rfl hyp
      · replace hyp := hyp.2 hc
        refine mf_aload_n (mf_dat eX12_goesOn_p2 15 rfl) rfl rfl ?_
        refine mf_iload_n (mf_dat eX12_goesOn_p2 16 rfl) rfl rfl ?_
        refine mf_aload_n (mf_dat eX12_goesOn_p2 17 rfl) rfl rfl ?_
        refine mf_getf (r := (RX12, TX12, 106)) (ci := 12) (k := 44) (t := 2) (v := g x0 44) (mf_dat eX12_goesOn_p2 18 rfl) fl_X12_118 rfl (by decide) rfl rfl ck1 ?_
        refine mf_bipush (v := 37) (mf_dat eX12_goesOn_p2 19 rfl) (by decide) ?_
        refine mf_iconst (v := 3) (mf_dat eX12_goesOn_p2 20 rfl) (by decide) ?_
        refine mf_iload (mf_dat eX12_goesOn_p2 21 rfl) rfl ?_
        refine mf_imul (mf_dat eX12_goesOn_p2 22 rfl) ?_
        refine mf_iadd (mf_dat eX12_goesOn_p2 23 rfl) ?_
        obtain ⟨ck10, hyp⟩ := hyp
        obtain ⟨ck11, hyp⟩ := hyp
        refine mf_iald (mf_dat eX12_goesOn_p2 24 rfl) ck5 ck10 ck11 ?_
        refine mf_iload (mf_dat eX12_goesOn_p2 25 rfl) rfl ?_
        refine mf_callV (Yc := YX12_comes) (r := (RX12, TX12, 106)) (ci := 12) (mf_dat eX12_goesOn_p2 26 rfl) ml_X12_539 okX12_comes im_X12_comes sl_X12_comes rfl rfl rfl rfl (Nat.le_of_ble_eq_true rfl) (mf_rr (Nat.le_trans (by decide) hd) (Nat.le_refl _)) (Nat.le_refl _) ck1 hyp (fun r12 g13 h14 hyp => ?_)
        exact mf_sub [0, 1, 2, 3, 4, 5, 6, 7] rfl hyp
    · replace hyp := hyp.2 hc
      refine mf_goto (tgt := 283) (mf_dat eX12_goesOn_p2 4 rfl) (by decide) ?_
      refine mf_iinc (mf_dat eX12_goesOn_p2 49 rfl) rfl (by decide) (by decide) ?_
      generalize qv15 : mf_w32 (x8 + 1) = v15
      replace hyp := hyp _ qv15.symm
      refine mf_goto (tgt := 180) (mf_dat eX12_goesOn_p2 50 rfl) (by decide) ?_
      exact mf_sub [1, 2, 3, 4, 5, 6, 7, 0] rfl hyp
set_option maxRecDepth 100000 in
set_option maxHeartbeats 4000000 in
theorem bX12_goesOn_247 {C : mf_G} {l : Launch} {d n : Nat} {K : mf_Kt} {x0 x2 x3 x4 x5 x6 x7 x8 : Int} {g h : mf_M} (hd : 3 ≤ d) (hyp : mf_is n x0 12 ∧ mf_is n (g x0 44) 20 ∧ 0 ≤ mf_w32 (37 + (mf_w32 (3 * x8))) ∧ mf_w32 (37 + (mf_w32 (3 * x8))) < mf_len (g x0 44) ∧ ((¬ h (g x0 44) (mf_w32 (37 + (mf_w32 (3 * x8)))) = x6 → (∀ v5 : Int, v5 = mf_w32 (x8 + 1) → JX12_goesOn_180 C l d n K x0 x2 x3 x4 x5 x6 x7 v5 g h)) ∧ (h (g x0 44) (mf_w32 (37 + (mf_w32 (3 * x8)))) = x6 → 0 ≤ mf_w32 (36 + (mf_w32 (3 * x8))) ∧ mf_w32 (36 + (mf_w32 (3 * x8))) < mf_len (g x0 44) ∧ mf_MT C l 2 YX12_comes [(2, x0), (0, x3), (0, h (g x0 44) (mf_w32 (36 + (mf_w32 (3 * x8))))), (0, x7)] n n g h (fun r8 g9 h10 => (∀ v11 : Int, v11 = mf_w32 (x8 + 1) → JX12_goesOn_180 C l d n K x0 x2 x3 x4 x5 x6 x7 v11 g9 h10))))) : JX12_goesOn_247 C l d n K x0 x2 x3 x4 x5 x6 x7 x8 g h := by
  refine mf_aload_n (mf_dat eX12_goesOn_p2 27 rfl) rfl rfl ?_
  obtain ⟨ck1, hyp⟩ := hyp
  refine mf_getf (r := (RX12, TX12, 106)) (ci := 12) (k := 44) (t := 2) (v := g x0 44) (mf_dat eX12_goesOn_p2 28 rfl) fl_X12_118 rfl (by decide) rfl rfl ck1 ?_
  refine mf_bipush (v := 37) (mf_dat eX12_goesOn_p2 29 rfl) (by decide) ?_
  refine mf_iconst (v := 3) (mf_dat eX12_goesOn_p2 30 rfl) (by decide) ?_
  refine mf_iload (mf_dat eX12_goesOn_p2 31 rfl) rfl ?_
  refine mf_imul (mf_dat eX12_goesOn_p2 32 rfl) ?_
  refine mf_iadd (mf_dat eX12_goesOn_p2 33 rfl) ?_
  obtain ⟨ck2, hyp⟩ := hyp
  obtain ⟨ck3, hyp⟩ := hyp
  obtain ⟨ck4, hyp⟩ := hyp
  refine mf_iald (mf_dat eX12_goesOn_p2 34 rfl) ck2 ck3 ck4 ?_
  refine mf_iload (mf_dat eX12_goesOn_p2 35 rfl) rfl ?_
  refine mf_icmp_ne (tgt := 283) (mf_dat eX12_goesOn_p2 36 rfl) (by decide) (fun hc => ?_) (fun hc => ?_)
  · replace hyp := hyp.1 hc
    refine mf_iinc (mf_dat eX12_goesOn_p2 49 rfl) rfl (by decide) (by decide) ?_
    generalize qv5 : mf_w32 (x8 + 1) = v5
    replace hyp := hyp _ qv5.symm
    refine mf_goto (tgt := 180) (mf_dat eX12_goesOn_p2 50 rfl) (by decide) ?_
    exact mf_sub [1, 2, 3, 4, 5, 6, 7, 0] rfl hyp
  · replace hyp := hyp.2 hc
    refine mf_aload_n (mf_dat eX12_goesOn_p2 37 rfl) rfl rfl ?_
    refine mf_iload_n (mf_dat eX12_goesOn_p2 38 rfl) rfl rfl ?_
    refine mf_aload_n (mf_dat eX12_goesOn_p2 39 rfl) rfl rfl ?_
    refine mf_getf (r := (RX12, TX12, 106)) (ci := 12) (k := 44) (t := 2) (v := g x0 44) (mf_dat eX12_goesOn_p2 40 rfl) fl_X12_118 rfl (by decide) rfl rfl ck1 ?_
    refine mf_bipush (v := 36) (mf_dat eX12_goesOn_p2 41 rfl) (by decide) ?_
    refine mf_iconst (v := 3) (mf_dat eX12_goesOn_p2 42 rfl) (by decide) ?_
    refine mf_iload (mf_dat eX12_goesOn_p2 43 rfl) rfl ?_
    refine mf_imul (mf_dat eX12_goesOn_p2 44 rfl) ?_
    refine mf_iadd (mf_dat eX12_goesOn_p2 45 rfl) ?_
    obtain ⟨ck6, hyp⟩ := hyp
    obtain ⟨ck7, hyp⟩ := hyp
    refine mf_iald (mf_dat eX12_goesOn_p2 46 rfl) ck2 ck6 ck7 ?_
    refine mf_iload (mf_dat eX12_goesOn_p2 47 rfl) rfl ?_
    refine mf_callV (Yc := YX12_comes) (r := (RX12, TX12, 106)) (ci := 12) (mf_dat eX12_goesOn_p2 48 rfl) ml_X12_539 okX12_comes im_X12_comes sl_X12_comes rfl rfl rfl rfl (Nat.le_of_ble_eq_true rfl) (mf_rr (Nat.le_trans (by decide) hd) (Nat.le_refl _)) (Nat.le_refl _) ck1 hyp (fun r8 g9 h10 hyp => ?_)
    refine mf_iinc (mf_dat eX12_goesOn_p2 49 rfl) rfl (by decide) (by decide) ?_
    generalize qv11 : mf_w32 (x8 + 1) = v11
    replace hyp := hyp _ qv11.symm
    refine mf_goto (tgt := 180) (mf_dat eX12_goesOn_p2 50 rfl) (by decide) ?_
    exact mf_sub [1, 2, 3, 4, 5, 6, 7, 0] rfl hyp
set_option maxRecDepth 100000 in
set_option maxHeartbeats 4000000 in
theorem mX12_goesOn {C : mf_G} {l : Launch} {d n : Nat} {K : mf_Kt} {x0 x1 x2 x3 : Int} {g h : mf_M} (hd : 4 ≤ d) (hyp : mf_is n x0 12 ∧ mf_MT C l 3 YX12_openingOn [(2, x0), (0, x1)] n n g h (fun r1 g2 h3 => JX12_goesOn_10 C l d n K x0 x2 x3 r1 0 g2 h3)) : mf_MT C l d YX12_goesOn [(2, x0), (0, x1), (0, x2), (0, x3)] n n g h K := by
  refine mf_entry (by decide) (Nat.le_of_ble_eq_true rfl) ?_
  refine mf_aload_n (mf_dat eX12_goesOn_p0 0 rfl) rfl rfl ?_
  refine mf_iload_n (mf_dat eX12_goesOn_p0 1 rfl) rfl rfl ?_
  obtain ⟨ck4, hyp⟩ := hyp
  refine mf_callV (Yc := YX12_openingOn) (r := (RX12, TX12, 106)) (ci := 12) (mf_dat eX12_goesOn_p0 2 rfl) ml_X12_487 okX12_openingOn im_X12_openingOn sl_X12_openingOn rfl rfl rfl rfl (Nat.le_of_ble_eq_true rfl) (mf_rr (Nat.le_trans (by decide) hd) (Nat.le_refl _)) (Nat.le_refl _) ck4 hyp (fun r1 g2 h3 hyp => ?_)
  refine mf_istore (mf_dat eX12_goesOn_p0 3 rfl) (by decide) ?_
  refine mf_iconst (v := 0) (mf_dat eX12_goesOn_p0 4 rfl) (by decide) ?_
  refine mf_istore (mf_dat eX12_goesOn_p0 5 rfl) (by decide) ?_
  exact mf_sub [2, 4, 5, 1, 0] rfl hyp
abbrev JX12_way_22 (C : mf_G) (l : Launch) (d n : Nat) (K : mf_Kt) (x0 x1 x2 x3 x4 : Int) (g h : mf_M) : Prop := mf_AW C l YX12_way (mf_rm d n n) n (mf_Zm C YX12_way n n K) (fun _ _ => True) 22 [(0, (2, x0)), (1, (0, x1)), (2, (0, x2)), (3, (0, x3)), (4, (0, x4))] [] n g h
abbrev JX12_way_66 (C : mf_G) (l : Launch) (d n : Nat) (K : mf_Kt) (x0 x2 x3 x4 : Int) (g h : mf_M) : Prop := mf_AW C l YX12_way (mf_rm d n n) n (mf_Zm C YX12_way n n K) (fun _ _ => True) 66 [(0, (2, x0)), (2, (0, x2)), (3, (0, x3)), (4, (0, x4))] [] n g h
set_option maxRecDepth 100000 in
set_option maxHeartbeats 4000000 in
theorem bX12_way_22 {C : mf_G} {l : Launch} {d n : Nat} {K : mf_Kt} {x0 x1 x2 x3 x4 : Int} {g h : mf_M} (hd : 1 ≤ d) (hyp : ((96 ≤ x4 → mf_is n x0 12 ∧ mf_MT C l 0 YX12_leafOf [(2, x0), (0, x1)] n n g h (fun r2 g3 h4 => mf_MT C l 0 YX12_cellOf [(2, x0), (0, x1)] n n g3 h4 (fun r5 g6 h7 => mf_is n (g x0 64) 22 ∧ 0 ≤ mf_w32 ((mf_w32 (8 * r2)) + r5) ∧ mf_w32 ((mf_w32 (8 * r2)) + r5) < mf_len (g x0 64) ∧ (∀ h11 : mf_M, h11 = mf_up h7 (g x0 64) (mf_w32 ((mf_w32 (8 * r2)) + r5)) 1 → JX12_way_66 C l d n K x0 x2 x3 0 g6 h11)))) ∧ (¬ 96 ≤ x4 → mf_is n x0 12 ∧ mf_is n (g x0 64) 22 ∧ 0 ≤ x4 ∧ x4 < mf_len (g x0 64) ∧ (∀ h16 : mf_M, h16 = mf_up h (g x0 64) x4 0 → (∀ v17 : Int, v17 = mf_w32 (x4 + 1) → JX12_way_22 C l d n K x0 x1 x2 x3 v17 g h16))))) : JX12_way_22 C l d n K x0 x1 x2 x3 x4 g h := by
  refine mf_iload (mf_dat eX12_way_p0 13 rfl) rfl ?_
  refine mf_bipush (v := 96) (mf_dat eX12_way_p0 14 rfl) (by decide) ?_
  refine mf_icmp_ge (tgt := 43) (mf_dat eX12_way_p0 15 rfl) (by decide) (fun hc => ?_) (fun hc => ?_)
  · replace hyp := hyp.1 hc
    refine mf_aload_n (mf_dat eX12_way_p0 23 rfl) rfl rfl ?_
    obtain ⟨ck1, hyp⟩ := hyp
    refine mf_getf (r := (RX12, TX12, 106)) (ci := 12) (k := 64) (t := 2) (v := g x0 64) (mf_dat eX12_way_p0 24 rfl) fl_X12_145 rfl (by decide) rfl rfl ck1 ?_
    refine mf_bipush (v := 8) (mf_dat eX12_way_p0 25 rfl) (by decide) ?_
    refine mf_aload_n (mf_dat eX12_way_p0 26 rfl) rfl rfl ?_
    refine mf_iload_n (mf_dat eX12_way_p0 27 rfl) rfl rfl ?_
    refine mf_callV (Yc := YX12_leafOf) (r := (RX12, TX12, 106)) (ci := 12) (mf_dat eX12_way_p0 28 rfl) ml_X12_410 okX12_leafOf im_X12_leafOf sl_X12_leafOf rfl rfl rfl rfl (Nat.le_of_ble_eq_true rfl) (mf_rr (Nat.le_trans (by decide) hd) (Nat.le_refl _)) (Nat.le_refl _) ck1 hyp (fun r2 g3 h4 hyp => ?_)
    refine mf_imul (mf_dat eX12_way_p0 29 rfl) ?_
    refine mf_aload_n (mf_dat eX12_way_p0 30 rfl) rfl rfl ?_
    refine mf_iload_n (mf_dat eX12_way_p0 31 rfl) rfl rfl ?_
    refine mf_callV (Yc := YX12_cellOf) (r := (RX12, TX12, 106)) (ci := 12) (mf_dat eX12_way_p0 32 rfl) ml_X12_413 okX12_cellOf im_X12_cellOf sl_X12_cellOf rfl rfl rfl rfl (Nat.le_of_ble_eq_true rfl) (mf_rr (Nat.le_trans (by decide) hd) (Nat.le_refl _)) (Nat.le_refl _) ck1 hyp (fun r5 g6 h7 hyp => ?_)
    refine mf_iadd (mf_dat eX12_way_p0 33 rfl) ?_
    refine mf_iconst (v := 1) (mf_dat eX12_way_p0 34 rfl) (by decide) ?_
    obtain ⟨ck8, hyp⟩ := hyp
    obtain ⟨ck9, hyp⟩ := hyp
    obtain ⟨ck10, hyp⟩ := hyp
    refine mf_zast (mf_dat eX12_way_p0 35 rfl) ck8 ck9 ck10 (by decide) ?_
    generalize qh11 : mf_up h7 (g x0 64) (mf_w32 ((mf_w32 (8 * r2)) + r5)) 1 = h11
    replace hyp := hyp _ qh11.symm
    refine mf_iconst (v := 0) (mf_dat eX12_way_p0 36 rfl) (by decide) ?_
    refine mf_istore (mf_dat eX12_way_p0 37 rfl) (by decide) ?_
    exact mf_sub [1, 3, 4, 0] rfl hyp
  · replace hyp := hyp.2 hc
    refine mf_aload_n (mf_dat eX12_way_p0 16 rfl) rfl rfl ?_
    obtain ⟨ck12, hyp⟩ := hyp
    refine mf_getf (r := (RX12, TX12, 106)) (ci := 12) (k := 64) (t := 2) (v := g x0 64) (mf_dat eX12_way_p0 17 rfl) fl_X12_145 rfl (by decide) rfl rfl ck12 ?_
    refine mf_iload (mf_dat eX12_way_p0 18 rfl) rfl ?_
    refine mf_iconst (v := 0) (mf_dat eX12_way_p0 19 rfl) (by decide) ?_
    obtain ⟨ck13, hyp⟩ := hyp
    obtain ⟨ck14, hyp⟩ := hyp
    obtain ⟨ck15, hyp⟩ := hyp
    refine mf_zast (mf_dat eX12_way_p0 20 rfl) ck13 ck14 ck15 (by decide) ?_
    generalize qh16 : mf_up h (g x0 64) x4 0 = h16
    replace hyp := hyp _ qh16.symm
    refine mf_iinc (mf_dat eX12_way_p0 21 rfl) rfl (by decide) (by decide) ?_
    generalize qv17 : mf_w32 (x4 + 1) = v17
    replace hyp := hyp _ qv17.symm
    refine mf_goto (tgt := 22) (mf_dat eX12_way_p0 22 rfl) (by decide) ?_
    exact mf_sub [1, 2, 3, 4, 0] rfl hyp
set_option maxRecDepth 100000 in
set_option maxHeartbeats 4000000 in
theorem bX12_way_66 {C : mf_G} {l : Launch} {d n : Nat} {K : mf_Kt} {x0 x2 x3 x4 : Int} {g h : mf_M} (hd : 5 ≤ d) (hyp : ((40 < x4 → K (-1) g h) ∧ (¬ 40 < x4 → mf_is n x0 12 ∧ mf_is n (g x0 56) 20 ∧ 0 < mf_len (g x0 56) ∧ ((999 < mf_w32 ((h (g x0 56) 0) + x4) → K (-1) g h) ∧ (¬ 999 < mf_w32 ((h (g x0 56) 0) + x4) → mf_is n (g x0 64) 22 ∧ 0 ≤ mf_w32 ((mf_w32 ((mf_w32 (48 * (x4.tmod 2))) + (mf_w32 (8 * x2)))) + x3) ∧ mf_w32 ((mf_w32 ((mf_w32 (48 * (x4.tmod 2))) + (mf_w32 (8 * x2)))) + x3) < mf_len (g x0 64) ∧ ((h (g x0 64) (mf_w32 ((mf_w32 ((mf_w32 (48 * (x4.tmod 2))) + (mf_w32 (8 * x2)))) + x3)) = 0 → mf_MT C l 4 YX12_goesOn [(2, x0), (0, mf_w32 ((h (g x0 56) 0) + x4)), (0, x4.tmod 2), (0, mf_w32 (1 - (x4.tmod 2)))] n n g h (fun r7 g8 h9 => (∀ v10 : Int, v10 = mf_w32 (x4 + 1) → JX12_way_66 C l d n K x0 x2 x3 v10 g8 h9))) ∧ (¬ h (g x0 64) (mf_w32 ((mf_w32 ((mf_w32 (48 * (x4.tmod 2))) + (mf_w32 (8 * x2)))) + x3)) = 0 → K x4 g h))))))) : JX12_way_66 C l d n K x0 x2 x3 x4 g h := by
  refine mf_iload (mf_dat eX12_way_p0 38 rfl) rfl ?_
  refine mf_bipush (v := 40) (mf_dat eX12_way_p0 39 rfl) (by decide) ?_
  refine mf_icmp_gt (tgt := 142) (mf_dat eX12_way_p0 40 rfl) (by decide) (fun hc => ?_) (fun hc => ?_)
  · replace hyp := hyp.1 hc
    refine mf_iconst (v := (-1)) (mf_dat eX12_way_p1 24 rfl) (by decide) ?_
    exact mf_ireturn (mf_dat eX12_way_p1 25 rfl) rfl (Or.inl rfl) hyp
  · replace hyp := hyp.2 hc
    refine mf_aload_n (mf_dat eX12_way_p0 41 rfl) rfl rfl ?_
    obtain ⟨ck1, hyp⟩ := hyp
    refine mf_getf (r := (RX12, TX12, 106)) (ci := 12) (k := 56) (t := 2) (v := g x0 56) (mf_dat eX12_way_p0 42 rfl) fl_X12_136 rfl (by decide) rfl rfl ck1 ?_
    refine mf_iconst (v := 0) (mf_dat eX12_way_p0 43 rfl) (by decide) ?_
    obtain ⟨ck2, hyp⟩ := hyp
    obtain ⟨ck3, hyp⟩ := hyp
    refine mf_iald (mf_dat eX12_way_p0 44 rfl) ck2 (by decide) ck3 ?_
    refine mf_iload (mf_dat eX12_way_p0 45 rfl) rfl ?_
    refine mf_iadd (mf_dat eX12_way_p0 46 rfl) ?_
    refine mf_sipush (v := 999) (mf_dat eX12_way_p0 47 rfl) (by decide) ?_
    refine mf_icmp_gt (tgt := 142) (mf_dat eX12_way_p0 48 rfl) (by decide) (fun hc => ?_) (fun hc => ?_)
    · replace hyp := hyp.1 hc
      refine mf_iconst (v := (-1)) (mf_dat eX12_way_p1 24 rfl) (by decide) ?_
      exact mf_ireturn (mf_dat eX12_way_p1 25 rfl) rfl (Or.inl rfl) hyp
    · replace hyp := hyp.2 hc
      refine mf_aload_n (mf_dat eX12_way_p0 49 rfl) rfl rfl ?_
      refine mf_getf (r := (RX12, TX12, 106)) (ci := 12) (k := 64) (t := 2) (v := g x0 64) (mf_dat eX12_way_p0 50 rfl) fl_X12_145 rfl (by decide) rfl rfl ck1 ?_
      refine mf_bipush (v := 48) (mf_dat eX12_way_p0 51 rfl) (by decide) ?_
      refine mf_iload (mf_dat eX12_way_p0 52 rfl) rfl ?_
      refine mf_iconst (v := 2) (mf_dat eX12_way_p0 53 rfl) (by decide) ?_
      refine mf_irem (mf_dat eX12_way_p0 54 rfl) (by decide) ?_
      refine mf_imul (mf_dat eX12_way_p0 55 rfl) ?_
      refine mf_bipush (v := 8) (mf_dat eX12_way_p0 56 rfl) (by decide) ?_
      refine mf_iload_n (mf_dat eX12_way_p0 57 rfl) rfl rfl ?_
      refine mf_imul (mf_dat eX12_way_p0 58 rfl) ?_
      refine mf_iadd (mf_dat eX12_way_p0 59 rfl) ?_
      refine mf_iload_n (mf_dat eX12_way_p1 0 rfl) rfl rfl ?_
      refine mf_iadd (mf_dat eX12_way_p1 1 rfl) ?_
      obtain ⟨ck4, hyp⟩ := hyp
      obtain ⟨ck5, hyp⟩ := hyp
      obtain ⟨ck6, hyp⟩ := hyp
      refine mf_zald (mf_dat eX12_way_p1 2 rfl) ck4 ck5 ck6 ?_
      refine mf_if_eq (tgt := 113) (mf_dat eX12_way_p1 3 rfl) (by decide) (fun hc => ?_) (fun hc => ?_)
      · replace hyp := hyp.1 hc
        refine mf_aload_n (mf_dat eX12_way_p1 6 rfl) rfl rfl ?_
        refine mf_aload_n (mf_dat eX12_way_p1 7 rfl) rfl rfl ?_
        refine mf_getf (r := (RX12, TX12, 106)) (ci := 12) (k := 56) (t := 2) (v := g x0 56) (mf_dat eX12_way_p1 8 rfl) fl_X12_136 rfl (by decide) rfl rfl ck1 ?_
        refine mf_iconst (v := 0) (mf_dat eX12_way_p1 9 rfl) (by decide) ?_
        refine mf_iald (mf_dat eX12_way_p1 10 rfl) ck2 (by decide) ck3 ?_
        refine mf_iload (mf_dat eX12_way_p1 11 rfl) rfl ?_
        refine mf_iadd (mf_dat eX12_way_p1 12 rfl) ?_
        refine mf_iload (mf_dat eX12_way_p1 13 rfl) rfl ?_
        refine mf_iconst (v := 2) (mf_dat eX12_way_p1 14 rfl) (by decide) ?_
        refine mf_irem (mf_dat eX12_way_p1 15 rfl) (by decide) ?_
        refine mf_iconst (v := 1) (mf_dat eX12_way_p1 16 rfl) (by decide) ?_
        refine mf_iload (mf_dat eX12_way_p1 17 rfl) rfl ?_
        refine mf_iconst (v := 2) (mf_dat eX12_way_p1 18 rfl) (by decide) ?_
        refine mf_irem (mf_dat eX12_way_p1 19 rfl) (by decide) ?_
        refine mf_isub (mf_dat eX12_way_p1 20 rfl) ?_
        refine mf_callV (Yc := YX12_goesOn) (r := (RX12, TX12, 106)) (ci := 12) (mf_dat eX12_way_p1 21 rfl) ml_X12_543 okX12_goesOn im_X12_goesOn sl_X12_goesOn rfl rfl rfl rfl (Nat.le_of_ble_eq_true rfl) (mf_rr (Nat.le_trans (by decide) hd) (Nat.le_refl _)) (Nat.le_refl _) ck1 hyp (fun r7 g8 h9 hyp => ?_)
        refine mf_iinc (mf_dat eX12_way_p1 22 rfl) rfl (by decide) (by decide) ?_
        generalize qv10 : mf_w32 (x4 + 1) = v10
        replace hyp := hyp _ qv10.symm
        refine mf_goto (tgt := 66) (mf_dat eX12_way_p1 23 rfl) (by decide) ?_
        exact mf_sub [1, 2, 3, 0] rfl hyp
      · replace hyp := hyp.2 hc
        refine mf_iload (mf_dat eX12_way_p1 4 rfl) rfl ?_
        exact mf_ireturn (mf_dat eX12_way_p1 5 rfl) rfl (Or.inl rfl) hyp
set_option maxRecDepth 100000 in
set_option maxHeartbeats 4000000 in
theorem mX12_way {C : mf_G} {l : Launch} {d n : Nat} {K : mf_Kt} {x0 x1 x2 x3 : Int} {g h : mf_M} (hd : 2 ≤ d) (hyp : mf_is n x0 12 ∧ mf_MT C l 1 YX12_isBeing [(2, x0), (0, x1)] n n g h (fun r1 g2 h3 => ((r1 = 0 → K (-1) g2 h3) ∧ (¬ r1 = 0 → mf_MT C l 1 YX12_isCell [(2, x0), (0, x2), (0, x3)] n n g2 h3 (fun r5 g6 h7 => ((¬ r5 = 0 → JX12_way_22 C l d n K x0 x1 x2 x3 0 g6 h7) ∧ (r5 = 0 → K (-1) g6 h7))))))) : mf_MT C l d YX12_way [(2, x0), (0, x1), (0, x2), (0, x3)] n n g h K := by
  refine mf_entry (by decide) (Nat.le_of_ble_eq_true rfl) ?_
  refine mf_aload_n (mf_dat eX12_way_p0 0 rfl) rfl rfl ?_
  refine mf_iload_n (mf_dat eX12_way_p0 1 rfl) rfl rfl ?_
  obtain ⟨ck4, hyp⟩ := hyp
  refine mf_callV (Yc := YX12_isBeing) (r := (RX12, TX12, 106)) (ci := 12) (mf_dat eX12_way_p0 2 rfl) ml_X12_502 okX12_isBeing im_X12_isBeing sl_X12_isBeing rfl rfl rfl rfl (Nat.le_of_ble_eq_true rfl) (mf_rr (Nat.le_trans (by decide) hd) (Nat.le_refl _)) (Nat.le_refl _) ck4 hyp (fun r1 g2 h3 hyp => ?_)
  refine mf_if_eq (tgt := 17) (mf_dat eX12_way_p0 3 rfl) (by decide) (fun hc => ?_) (fun hc => ?_)
  · replace hyp := hyp.1 hc
    refine mf_iconst (v := (-1)) (mf_dat eX12_way_p0 9 rfl) (by decide) ?_
    exact mf_ireturn (mf_dat eX12_way_p0 10 rfl) rfl (Or.inl rfl) hyp
  · replace hyp := hyp.2 hc
    refine mf_aload_n (mf_dat eX12_way_p0 4 rfl) rfl rfl ?_
    refine mf_iload_n (mf_dat eX12_way_p0 5 rfl) rfl rfl ?_
    refine mf_iload_n (mf_dat eX12_way_p0 6 rfl) rfl rfl ?_
    refine mf_callV (Yc := YX12_isCell) (r := (RX12, TX12, 106)) (ci := 12) (mf_dat eX12_way_p0 7 rfl) ml_X12_507 okX12_isCell im_X12_isCell sl_X12_isCell rfl rfl rfl rfl (Nat.le_of_ble_eq_true rfl) (mf_rr (Nat.le_trans (by decide) hd) (Nat.le_refl _)) (Nat.le_refl _) ck4 hyp (fun r5 g6 h7 hyp => ?_)
    refine mf_if_ne (tgt := 19) (mf_dat eX12_way_p0 8 rfl) (by decide) (fun hc => ?_) (fun hc => ?_)
    · replace hyp := hyp.1 hc
      refine mf_iconst (v := 0) (mf_dat eX12_way_p0 11 rfl) (by decide) ?_
      refine mf_istore (mf_dat eX12_way_p0 12 rfl) (by decide) ?_
      exact mf_sub [1, 2, 3, 4, 0] rfl hyp
    · replace hyp := hyp.2 hc
      refine mf_iconst (v := (-1)) (mf_dat eX12_way_p0 9 rfl) (by decide) ?_
      exact mf_ireturn (mf_dat eX12_way_p0 10 rfl) rfl (Or.inl rfl) hyp
set_option maxRecDepth 100000 in
set_option maxHeartbeats 4000000 in
theorem mX12_refuses {C : mf_G} {l : Launch} {d n : Nat} {K : mf_Kt} {x0 x1 : Int} {g h : mf_M} (hyp : mf_is n x0 12 ∧ mf_is n (g x0 9) 20 ∧ 0 ≤ x1 ∧ x1 < mf_len (g x0 9) ∧ (∀ h5 : mf_M, h5 = mf_up h (g x0 9) x1 (mf_w32 ((h (g x0 9) x1) + 1)) → K (-1) g h5)) : mf_MT C l d YX12_refuses [(2, x0), (0, x1)] n n g h K := by
  refine mf_entry (by decide) (Nat.le_of_ble_eq_true rfl) ?_
  refine mf_aload_n (mf_dat eX12_refuses 0 rfl) rfl rfl ?_
  obtain ⟨ck1, hyp⟩ := hyp
  refine mf_getf (r := (RX12, TX12, 106)) (ci := 12) (k := 9) (t := 2) (v := g x0 9) (mf_dat eX12_refuses 1 rfl) fl_X12_17 rfl (by decide) rfl rfl ck1 ?_
  refine mf_iload_n (mf_dat eX12_refuses 2 rfl) rfl rfl ?_
  refine mf_dup2 (mf_dat eX12_refuses 3 rfl) (by decide) (by decide) ?_
  obtain ⟨ck2, hyp⟩ := hyp
  obtain ⟨ck3, hyp⟩ := hyp
  obtain ⟨ck4, hyp⟩ := hyp
  refine mf_iald (mf_dat eX12_refuses 4 rfl) ck2 ck3 ck4 ?_
  refine mf_iconst (v := 1) (mf_dat eX12_refuses 5 rfl) (by decide) ?_
  refine mf_iadd (mf_dat eX12_refuses 6 rfl) ?_
  refine mf_iast (mf_dat eX12_refuses 7 rfl) ck2 ck3 ck4 ?_
  generalize qh5 : mf_up h (g x0 9) x1 (mf_w32 ((h (g x0 9) x1) + 1)) = h5
  replace hyp := hyp _ qh5.symm
  refine mf_iconst (v := (-1)) (mf_dat eX12_refuses 8 rfl) (by decide) ?_
  exact mf_ireturn (mf_dat eX12_refuses 9 rfl) rfl (Or.inl rfl) hyp
