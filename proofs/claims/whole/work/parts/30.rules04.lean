abbrev JX12_see_36 (C : mf_G) (l : Launch) (d n : Nat) (K : mf_Kt) (x0 x1 x2 x3 : Int) (g h : mf_M) : Prop := mf_AW C l YX12_see (mf_rm d n n) n (mf_Zm C YX12_see n n K) (fun _ _ => True) 36 [(0, (2, x0)), (1, (0, x1)), (2, (0, x2)), (3, (0, x3))] [] n g h
abbrev JX12_see_99 (C : mf_G) (l : Launch) (d n : Nat) (K : mf_Kt) (x0 x1 x3 : Int) (g h : mf_M) : Prop := mf_AW C l YX12_see (mf_rm d n n) n (mf_Zm C YX12_see n n K) (fun _ _ => True) 99 [(0, (2, x0)), (1, (0, x1)), (3, (0, x3))] [] n g h
set_option maxRecDepth 100000 in
set_option maxHeartbeats 4000000 in
theorem bX12_see_36 {C : mf_G} {l : Launch} {d n : Nat} {K : mf_Kt} {x0 x1 x2 x3 : Int} {g h : mf_M} (hd : 2 ≤ d) (hyp : ((x1 ≤ x3 → ((¬ x2 = 0 → JX12_see_99 C l d n K x0 x1 0 g h) ∧ (x2 = 0 → mf_is n x0 12 ∧ mf_MT C l 0 YX12_refuses [(2, x0), (0, 1)] n n g h (fun r1 g2 h3 => K r1 g2 h3)))) ∧ (¬ x1 ≤ x3 → ((x2 = 0 → ((¬ x2 = 0 → JX12_see_99 C l d n K x0 x1 0 g h) ∧ (x2 = 0 → mf_is n x0 12 ∧ mf_MT C l 0 YX12_refuses [(2, x0), (0, 1)] n n g h (fun r5 g6 h7 => K r5 g6 h7)))) ∧ (¬ x2 = 0 → mf_is n x0 12 ∧ mf_is n (g x0 0) 20 ∧ 0 ≤ x3 ∧ x3 < mf_len (g x0 0) ∧ mf_MT C l 1 YX12_isBeing [(2, x0), (0, h (g x0 0) x3)] n n g h (fun r13 g14 h15 => ((r13 = 0 → (∀ v16 : Int, v16 = mf_w32 (x3 + 2) → JX12_see_36 C l d n K x0 x1 0 v16 g14 h15)) ∧ (¬ r13 = 0 → mf_is n (g14 x0 0) 20 ∧ 0 ≤ mf_w32 (x3 + 1) ∧ mf_w32 (x3 + 1) < mf_len (g14 x0 0) ∧ mf_is n (g14 x0 40) 20 ∧ 3 < mf_len (g14 x0 40) ∧ ((h15 (g14 x0 40) 3 ≤ h15 (g14 x0 0) (mf_w32 (x3 + 1)) → (∀ v22 : Int, v22 = mf_w32 (x3 + 2) → JX12_see_36 C l d n K x0 x1 0 v22 g14 h15)) ∧ (¬ h15 (g14 x0 40) 3 ≤ h15 (g14 x0 0) (mf_w32 (x3 + 1)) → (∀ v23 : Int, v23 = mf_w32 (x3 + 2) → JX12_see_36 C l d n K x0 x1 1 v23 g14 h15))))))))))) : JX12_see_36 C l d n K x0 x1 x2 x3 g h := by
  refine mf_iload_n (mf_dat eX12_see_p0 23 rfl) rfl rfl ?_
  refine mf_iload_n (mf_dat eX12_see_p0 24 rfl) rfl rfl ?_
  refine mf_icmp_ge (tgt := 87) (mf_dat eX12_see_p0 25 rfl) (by decide) (fun hc => ?_) (fun hc => ?_)
  · replace hyp := hyp.1 hc
    refine mf_iload_n (mf_dat eX12_see_p0 52 rfl) rfl rfl ?_
    refine mf_if_ne (tgt := 97) (mf_dat eX12_see_p0 53 rfl) (by decide) (fun hc => ?_) (fun hc => ?_)
    · replace hyp := hyp.1 hc
      refine mf_iconst (v := 0) (mf_dat eX12_see_p0 58 rfl) (by decide) ?_
      refine mf_istore_n (mf_dat eX12_see_p0 59 rfl) rfl (by decide) ?_
      exact mf_sub [1, 2, 0] rfl hyp
    · replace hyp := hyp.2 hc
      refine mf_aload_n (mf_dat eX12_see_p0 54 rfl) rfl rfl ?_
      refine mf_iconst (v := 1) (mf_dat eX12_see_p0 55 rfl) (by decide) ?_
      obtain ⟨ck4, hyp⟩ := hyp
      refine mf_callV (Yc := YX12_refuses) (r := (RX12, TX12, 106)) (ci := 12) (mf_dat eX12_see_p0 56 rfl) ml_X12_546 okX12_refuses im_X12_refuses sl_X12_refuses rfl rfl rfl rfl (Nat.le_of_ble_eq_true rfl) (mf_rr (Nat.le_trans (by decide) hd) (Nat.le_refl _)) (Nat.le_refl _) ck4 hyp (fun r1 g2 h3 hyp => ?_)
      exact mf_ireturn (mf_dat eX12_see_p0 57 rfl) rfl (Or.inl rfl) hyp
  · replace hyp := hyp.2 hc
    refine mf_iload_n (mf_dat eX12_see_p0 26 rfl) rfl rfl ?_
    refine mf_if_eq (tgt := 87) (mf_dat eX12_see_p0 27 rfl) (by decide) (fun hc => ?_) (fun hc => ?_)
    · replace hyp := hyp.1 hc
      refine mf_iload_n (mf_dat eX12_see_p0 52 rfl) rfl rfl ?_
      refine mf_if_ne (tgt := 97) (mf_dat eX12_see_p0 53 rfl) (by decide) (fun hc => ?_) (fun hc => ?_)
      · replace hyp := hyp.1 hc
        refine mf_iconst (v := 0) (mf_dat eX12_see_p0 58 rfl) (by decide) ?_
        refine mf_istore_n (mf_dat eX12_see_p0 59 rfl) rfl (by decide) ?_
        exact mf_sub [1, 2, 0] rfl hyp
      · replace hyp := hyp.2 hc
        refine mf_aload_n (mf_dat eX12_see_p0 54 rfl) rfl rfl ?_
        refine mf_iconst (v := 1) (mf_dat eX12_see_p0 55 rfl) (by decide) ?_
        obtain ⟨ck8, hyp⟩ := hyp
        refine mf_callV (Yc := YX12_refuses) (r := (RX12, TX12, 106)) (ci := 12) (mf_dat eX12_see_p0 56 rfl) ml_X12_546 okX12_refuses im_X12_refuses sl_X12_refuses rfl rfl rfl rfl (Nat.le_of_ble_eq_true rfl) (mf_rr (Nat.le_trans (by decide) hd) (Nat.le_refl _)) (Nat.le_refl _) ck8 hyp (fun r5 g6 h7 hyp => ?_)
        exact mf_ireturn (mf_dat eX12_see_p0 57 rfl) rfl (Or.inl rfl) hyp
    · replace hyp := hyp.2 hc
      refine mf_aload_n (mf_dat eX12_see_p0 28 rfl) rfl rfl ?_
      refine mf_aload_n (mf_dat eX12_see_p0 29 rfl) rfl rfl ?_
      obtain ⟨ck9, hyp⟩ := hyp
      refine mf_getf (r := (RX12, TX12, 106)) (ci := 12) (k := 0) (t := 2) (v := g x0 0) (mf_dat eX12_see_p0 30 rfl) fl_X12_7 rfl (by decide) rfl rfl ck9 ?_
      refine mf_iload_n (mf_dat eX12_see_p0 31 rfl) rfl rfl ?_
      obtain ⟨ck10, hyp⟩ := hyp
      obtain ⟨ck11, hyp⟩ := hyp
      obtain ⟨ck12, hyp⟩ := hyp
      refine mf_iald (mf_dat eX12_see_p0 32 rfl) ck10 ck11 ck12 ?_
      refine mf_callV (Yc := YX12_isBeing) (r := (RX12, TX12, 106)) (ci := 12) (mf_dat eX12_see_p0 33 rfl) ml_X12_502 okX12_isBeing im_X12_isBeing sl_X12_isBeing rfl rfl rfl rfl (Nat.le_of_ble_eq_true rfl) (mf_rr (Nat.le_trans (by decide) hd) (Nat.le_refl _)) (Nat.le_refl _) ck9 hyp (fun r13 g14 h15 hyp => ?_)
      refine mf_if_eq (tgt := 79) (mf_dat eX12_see_p0 34 rfl) (by decide) (fun hc => ?_) (fun hc => ?_)
      · replace hyp := hyp.1 hc
        refine mf_iconst (v := 0) (mf_dat eX12_see_p0 48 rfl) (by decide) ?_
        refine mf_istore_n (mf_dat eX12_see_p0 49 rfl) rfl (by decide) ?_
        refine mf_iinc (mf_dat eX12_see_p0 50 rfl) rfl (by decide) (by decide) ?_
        generalize qv16 : mf_w32 (x3 + 2) = v16
        replace hyp := hyp _ qv16.symm
        refine mf_goto (tgt := 36) (mf_dat eX12_see_p0 51 rfl) (by decide) ?_
        exact mf_sub [2, 3, 1, 0] rfl hyp
      · replace hyp := hyp.2 hc
        refine mf_aload_n (mf_dat eX12_see_p0 35 rfl) rfl rfl ?_
        refine mf_getf (r := (RX12, TX12, 106)) (ci := 12) (k := 0) (t := 2) (v := g14 x0 0) (mf_dat eX12_see_p0 36 rfl) fl_X12_7 rfl (by decide) rfl rfl ck9 ?_
        refine mf_iload_n (mf_dat eX12_see_p0 37 rfl) rfl rfl ?_
        refine mf_iconst (v := 1) (mf_dat eX12_see_p0 38 rfl) (by decide) ?_
        refine mf_iadd (mf_dat eX12_see_p0 39 rfl) ?_
        obtain ⟨ck17, hyp⟩ := hyp
        obtain ⟨ck18, hyp⟩ := hyp
        obtain ⟨ck19, hyp⟩ := hyp
        refine mf_iald (mf_dat eX12_see_p0 40 rfl) ck17 ck18 ck19 ?_
        refine mf_aload_n (mf_dat eX12_see_p0 41 rfl) rfl rfl ?_
        refine mf_getf (r := (RX12, TX12, 106)) (ci := 12) (k := 40) (t := 2) (v := g14 x0 40) (mf_dat eX12_see_p0 42 rfl) fl_X12_105 rfl (by decide) rfl rfl ck9 ?_
        refine mf_iconst (v := 3) (mf_dat eX12_see_p0 43 rfl) (by decide) ?_
        obtain ⟨ck20, hyp⟩ := hyp
        obtain ⟨ck21, hyp⟩ := hyp
        refine mf_iald (mf_dat eX12_see_p0 44 rfl) ck20 (by decide) ck21 ?_
        refine mf_icmp_ge (tgt := 79) (mf_dat eX12_see_p0 45 rfl) (by decide) (fun hc => ?_) (fun hc => ?_)
        · replace hyp := hyp.1 hc
          refine mf_iconst (v := 0) (mf_dat eX12_see_p0 48 rfl) (by decide) ?_
          refine mf_istore_n (mf_dat eX12_see_p0 49 rfl) rfl (by decide) ?_
          refine mf_iinc (mf_dat eX12_see_p0 50 rfl) rfl (by decide) (by decide) ?_
          generalize qv22 : mf_w32 (x3 + 2) = v22
          replace hyp := hyp _ qv22.symm
          refine mf_goto (tgt := 36) (mf_dat eX12_see_p0 51 rfl) (by decide) ?_
          exact mf_sub [2, 3, 1, 0] rfl hyp
        · replace hyp := hyp.2 hc
          refine mf_iconst (v := 1) (mf_dat eX12_see_p0 46 rfl) (by decide) ?_
          refine mf_goto (tgt := 80) (mf_dat eX12_see_p0 47 rfl) (by decide) ?_
          refine mf_istore_n (mf_dat eX12_see_p0 49 rfl) rfl (by decide) ?_
          refine mf_iinc (mf_dat eX12_see_p0 50 rfl) rfl (by decide) (by decide) ?_
          generalize qv23 : mf_w32 (x3 + 2) = v23
          replace hyp := hyp _ qv23.symm
          refine mf_goto (tgt := 36) (mf_dat eX12_see_p0 51 rfl) (by decide) ?_
          exact mf_sub [2, 3, 1, 0] rfl hyp
set_option maxRecDepth 100000 in
set_option maxHeartbeats 4000000 in
theorem bX12_see_99 {C : mf_G} {l : Launch} {d n : Nat} {K : mf_Kt} {x0 x1 x3 : Int} {g h : mf_M} (hyp : ((x1 ≤ x3 → mf_is n x0 12 ∧ (∀ h2 : mf_M, h2 = mf_up h x0 65 (mf_w32 (x1.tdiv 2)) → K (h2 x0 65) g h2)) ∧ (¬ x1 ≤ x3 → mf_is n x0 12 ∧ mf_is n (g x0 0) 20 ∧ 0 ≤ x3 ∧ x3 < mf_len (g x0 0) ∧ mf_is n (g x0 66) 20 ∧ x3 < mf_len (g x0 66) ∧ (∀ h9 : mf_M, h9 = mf_up h (g x0 66) x3 (h (g x0 0) x3) → (∀ v10 : Int, v10 = mf_w32 (x3 + 1) → JX12_see_99 C l d n K x0 x1 v10 g h9))))) : JX12_see_99 C l d n K x0 x1 x3 g h := by
  refine mf_iload_n (mf_dat eX12_see_p1 0 rfl) rfl rfl ?_
  refine mf_iload_n (mf_dat eX12_see_p1 1 rfl) rfl rfl ?_
  refine mf_icmp_ge (tgt := 122) (mf_dat eX12_see_p1 2 rfl) (by decide) (fun hc => ?_) (fun hc => ?_)
  · replace hyp := hyp.1 hc
    refine mf_aload_n (mf_dat eX12_see_p1 13 rfl) rfl rfl ?_
    refine mf_iload_n (mf_dat eX12_see_p1 14 rfl) rfl rfl ?_
    refine mf_iconst (v := 2) (mf_dat eX12_see_p1 15 rfl) (by decide) ?_
    refine mf_idiv (mf_dat eX12_see_p1 16 rfl) (by decide) ?_
    obtain ⟨ck1, hyp⟩ := hyp
    refine mf_putI (r := (RX12, TX12, 106)) (ci := 12) (k := 65) (kI := 65) (t := 0) (mf_dat eX12_see_p1 17 rfl) fl_X12_399 rfl rfl (by decide) rfl (by decide) rfl (by decide) (fun h9 => absurd h9 (by decide)) ck1 ?_
    generalize qh2 : mf_up h x0 65 (mf_w32 (x1.tdiv 2)) = h2
    replace hyp := hyp _ qh2.symm
    refine mf_aload_n (mf_dat eX12_see_p1 18 rfl) rfl rfl ?_
    refine mf_getf (r := (RX12, TX12, 106)) (ci := 12) (k := 65) (t := 0) (v := h2 x0 65) (mf_dat eX12_see_p1 19 rfl) fl_X12_399 rfl (by decide) rfl rfl ck1 ?_
    exact mf_ireturn (mf_dat eX12_see_p1 20 rfl) rfl (Or.inl rfl) hyp
  · replace hyp := hyp.2 hc
    refine mf_aload_n (mf_dat eX12_see_p1 3 rfl) rfl rfl ?_
    obtain ⟨ck3, hyp⟩ := hyp
    refine mf_getf (r := (RX12, TX12, 106)) (ci := 12) (k := 66) (t := 2) (v := g x0 66) (mf_dat eX12_see_p1 4 rfl) fl_X12_149 rfl (by decide) rfl rfl ck3 ?_
    refine mf_iload_n (mf_dat eX12_see_p1 5 rfl) rfl rfl ?_
    refine mf_aload_n (mf_dat eX12_see_p1 6 rfl) rfl rfl ?_
    refine mf_getf (r := (RX12, TX12, 106)) (ci := 12) (k := 0) (t := 2) (v := g x0 0) (mf_dat eX12_see_p1 7 rfl) fl_X12_7 rfl (by decide) rfl rfl ck3 ?_
    refine mf_iload_n (mf_dat eX12_see_p1 8 rfl) rfl rfl ?_
    obtain ⟨ck4, hyp⟩ := hyp
    obtain ⟨ck5, hyp⟩ := hyp
    obtain ⟨ck6, hyp⟩ := hyp
    refine mf_iald (mf_dat eX12_see_p1 9 rfl) ck4 ck5 ck6 ?_
    obtain ⟨ck7, hyp⟩ := hyp
    obtain ⟨ck8, hyp⟩ := hyp
    refine mf_iast (mf_dat eX12_see_p1 10 rfl) ck7 ck5 ck8 ?_
    generalize qh9 : mf_up h (g x0 66) x3 (h (g x0 0) x3) = h9
    replace hyp := hyp _ qh9.symm
    refine mf_iinc (mf_dat eX12_see_p1 11 rfl) rfl (by decide) (by decide) ?_
    generalize qv10 : mf_w32 (x3 + 1) = v10
    replace hyp := hyp _ qv10.symm
    refine mf_goto (tgt := 99) (mf_dat eX12_see_p1 12 rfl) (by decide) ?_
    exact mf_sub [1, 2, 0] rfl hyp
set_option maxRecDepth 100000 in
set_option maxHeartbeats 4000000 in
theorem mX12_see {C : mf_G} {l : Launch} {d n : Nat} {K : mf_Kt} {x0 : Int} {g h : mf_M} (hyp : mf_is n x0 12 ∧ (∀ v2 : Int, v2 = h x0 1 → (∀ h3 : mf_M, h3 = mf_up h x0 1 0 → ((v2 ≤ 0 → JX12_see_36 C l d n K x0 v2 0 0 g h3) ∧ (¬ v2 ≤ 0 → ((¬ v2.tmod 2 = 0 → JX12_see_36 C l d n K x0 v2 0 0 g h3) ∧ (v2.tmod 2 = 0 → ((16 < mf_w32 (v2.tdiv 2) → JX12_see_36 C l d n K x0 v2 0 0 g h3) ∧ (¬ 16 < mf_w32 (v2.tdiv 2) → JX12_see_36 C l d n K x0 v2 1 0 g h3))))))))) : mf_MT C l d YX12_see [(2, x0)] n n g h K := by
  refine mf_entry (by decide) (Nat.le_of_ble_eq_true rfl) ?_
  refine mf_aload_n (mf_dat eX12_see_p0 0 rfl) rfl rfl ?_
  obtain ⟨ck1, hyp⟩ := hyp
  refine mf_getf (r := (RX12, TX12, 106)) (ci := 12) (k := 1) (t := 0) (v := h x0 1) (mf_dat eX12_see_p0 1 rfl) fl_X12_240 rfl (by decide) rfl rfl ck1 ?_
  generalize qv2 : h x0 1 = v2
  replace hyp := hyp _ qv2.symm
  refine mf_istore_n (mf_dat eX12_see_p0 2 rfl) rfl (by decide) ?_
  refine mf_aload_n (mf_dat eX12_see_p0 3 rfl) rfl rfl ?_
  refine mf_iconst (v := 0) (mf_dat eX12_see_p0 4 rfl) (by decide) ?_
  refine mf_putI (r := (RX12, TX12, 106)) (ci := 12) (k := 1) (kI := 1) (t := 0) (mf_dat eX12_see_p0 5 rfl) fl_X12_240 rfl rfl (by decide) rfl (by decide) rfl (by decide) (fun h9 => absurd h9 (by decide)) ck1 ?_
  generalize qh3 : mf_up h x0 1 0 = h3
  replace hyp := hyp _ qh3.symm
  refine mf_iload_n (mf_dat eX12_see_p0 6 rfl) rfl rfl ?_
  refine mf_if_le (tgt := 32) (mf_dat eX12_see_p0 7 rfl) (by decide) (fun hc => ?_) (fun hc => ?_)
  · replace hyp := hyp.1 hc
    refine mf_iconst (v := 0) (mf_dat eX12_see_p0 19 rfl) (by decide) ?_
    refine mf_istore_n (mf_dat eX12_see_p0 20 rfl) rfl (by decide) ?_
    refine mf_iconst (v := 0) (mf_dat eX12_see_p0 21 rfl) (by decide) ?_
    refine mf_istore_n (mf_dat eX12_see_p0 22 rfl) rfl (by decide) ?_
    exact mf_sub [3, 2, 1, 0] rfl hyp
  · replace hyp := hyp.2 hc
    refine mf_iload_n (mf_dat eX12_see_p0 8 rfl) rfl rfl ?_
    refine mf_iconst (v := 2) (mf_dat eX12_see_p0 9 rfl) (by decide) ?_
    refine mf_irem (mf_dat eX12_see_p0 10 rfl) (by decide) ?_
    refine mf_if_ne (tgt := 32) (mf_dat eX12_see_p0 11 rfl) (by decide) (fun hc => ?_) (fun hc => ?_)
    · replace hyp := hyp.1 hc
      refine mf_iconst (v := 0) (mf_dat eX12_see_p0 19 rfl) (by decide) ?_
      refine mf_istore_n (mf_dat eX12_see_p0 20 rfl) rfl (by decide) ?_
      refine mf_iconst (v := 0) (mf_dat eX12_see_p0 21 rfl) (by decide) ?_
      refine mf_istore_n (mf_dat eX12_see_p0 22 rfl) rfl (by decide) ?_
      exact mf_sub [3, 2, 1, 0] rfl hyp
    · replace hyp := hyp.2 hc
      refine mf_iload_n (mf_dat eX12_see_p0 12 rfl) rfl rfl ?_
      refine mf_iconst (v := 2) (mf_dat eX12_see_p0 13 rfl) (by decide) ?_
      refine mf_idiv (mf_dat eX12_see_p0 14 rfl) (by decide) ?_
      refine mf_bipush (v := 16) (mf_dat eX12_see_p0 15 rfl) (by decide) ?_
      refine mf_icmp_gt (tgt := 32) (mf_dat eX12_see_p0 16 rfl) (by decide) (fun hc => ?_) (fun hc => ?_)
      · replace hyp := hyp.1 hc
        refine mf_iconst (v := 0) (mf_dat eX12_see_p0 19 rfl) (by decide) ?_
        refine mf_istore_n (mf_dat eX12_see_p0 20 rfl) rfl (by decide) ?_
        refine mf_iconst (v := 0) (mf_dat eX12_see_p0 21 rfl) (by decide) ?_
        refine mf_istore_n (mf_dat eX12_see_p0 22 rfl) rfl (by decide) ?_
        exact mf_sub [3, 2, 1, 0] rfl hyp
      · replace hyp := hyp.2 hc
        refine mf_iconst (v := 1) (mf_dat eX12_see_p0 17 rfl) (by decide) ?_
        refine mf_goto (tgt := 33) (mf_dat eX12_see_p0 18 rfl) (by decide) ?_
        refine mf_istore_n (mf_dat eX12_see_p0 20 rfl) rfl (by decide) ?_
        refine mf_iconst (v := 0) (mf_dat eX12_see_p0 21 rfl) (by decide) ?_
        refine mf_istore_n (mf_dat eX12_see_p0 22 rfl) rfl (by decide) ?_
        exact mf_sub [3, 2, 1, 0] rfl hyp
abbrev JX12_isAsSeen_2 (C : mf_G) (l : Launch) (d n : Nat) (K : mf_Kt) (x0 x1 x2 : Int) (g h : mf_M) : Prop := mf_AW C l YX12_isAsSeen (mf_rm d n n) n (mf_Zm C YX12_isAsSeen n n K) (fun _ _ => True) 2 [(0, (2, x0)), (1, (0, x1)), (2, (0, x2))] [] n g h
set_option maxRecDepth 100000 in
set_option maxHeartbeats 4000000 in
theorem bX12_isAsSeen_2 {C : mf_G} {l : Launch} {d n : Nat} {K : mf_Kt} {x0 x1 x2 : Int} {g h : mf_M} (hyp : mf_is n x0 12 ∧ ((h x0 65 ≤ x2 → K 1 g h) ∧ (¬ h x0 65 ≤ x2 → mf_is n (g x0 66) 20 ∧ 0 ≤ mf_w32 (2 * x2) ∧ mf_w32 (2 * x2) < mf_len (g x0 66) ∧ mf_is n (g x0 67) 20 ∧ 0 ≤ mf_w32 ((mf_w32 (8 * x1)) + (h (g x0 66) (mf_w32 (2 * x2)))) ∧ mf_w32 ((mf_w32 (8 * x1)) + (h (g x0 66) (mf_w32 (2 * x2)))) < mf_len (g x0 67) ∧ 0 ≤ mf_w32 ((mf_w32 (2 * x2)) + 1) ∧ mf_w32 ((mf_w32 (2 * x2)) + 1) < mf_len (g x0 66) ∧ ((h (g x0 67) (mf_w32 ((mf_w32 (8 * x1)) + (h (g x0 66) (mf_w32 (2 * x2))))) = h (g x0 66) (mf_w32 ((mf_w32 (2 * x2)) + 1)) → (∀ v10 : Int, v10 = mf_w32 (x2 + 1) → JX12_isAsSeen_2 C l d n K x0 x1 v10 g h)) ∧ (¬ h (g x0 67) (mf_w32 ((mf_w32 (8 * x1)) + (h (g x0 66) (mf_w32 (2 * x2))))) = h (g x0 66) (mf_w32 ((mf_w32 (2 * x2)) + 1)) → K 0 g h))))) : JX12_isAsSeen_2 C l d n K x0 x1 x2 g h := by
  refine mf_iload_n (mf_dat eX12_isAsSeen 2 rfl) rfl rfl ?_
  refine mf_aload_n (mf_dat eX12_isAsSeen 3 rfl) rfl rfl ?_
  obtain ⟨ck1, hyp⟩ := hyp
  refine mf_getf (r := (RX12, TX12, 106)) (ci := 12) (k := 65) (t := 0) (v := h x0 65) (mf_dat eX12_isAsSeen 4 rfl) fl_X12_399 rfl (by decide) rfl rfl ck1 ?_
  refine mf_icmp_ge (tgt := 49) (mf_dat eX12_isAsSeen 5 rfl) (by decide) (fun hc => ?_) (fun hc => ?_)
  · replace hyp := hyp.1 hc
    refine mf_iconst (v := 1) (mf_dat eX12_isAsSeen 32 rfl) (by decide) ?_
    exact mf_ireturn (mf_dat eX12_isAsSeen 33 rfl) rfl (Or.inr ⟨rfl, by decide⟩) hyp
  · replace hyp := hyp.2 hc
    refine mf_aload_n (mf_dat eX12_isAsSeen 6 rfl) rfl rfl ?_
    refine mf_getf (r := (RX12, TX12, 106)) (ci := 12) (k := 67) (t := 2) (v := g x0 67) (mf_dat eX12_isAsSeen 7 rfl) fl_X12_152 rfl (by decide) rfl rfl ck1 ?_
    refine mf_bipush (v := 8) (mf_dat eX12_isAsSeen 8 rfl) (by decide) ?_
    refine mf_iload_n (mf_dat eX12_isAsSeen 9 rfl) rfl rfl ?_
    refine mf_imul (mf_dat eX12_isAsSeen 10 rfl) ?_
    refine mf_aload_n (mf_dat eX12_isAsSeen 11 rfl) rfl rfl ?_
    refine mf_getf (r := (RX12, TX12, 106)) (ci := 12) (k := 66) (t := 2) (v := g x0 66) (mf_dat eX12_isAsSeen 12 rfl) fl_X12_149 rfl (by decide) rfl rfl ck1 ?_
    refine mf_iconst (v := 2) (mf_dat eX12_isAsSeen 13 rfl) (by decide) ?_
    refine mf_iload_n (mf_dat eX12_isAsSeen 14 rfl) rfl rfl ?_
    refine mf_imul (mf_dat eX12_isAsSeen 15 rfl) ?_
    obtain ⟨ck2, hyp⟩ := hyp
    obtain ⟨ck3, hyp⟩ := hyp
    obtain ⟨ck4, hyp⟩ := hyp
    refine mf_iald (mf_dat eX12_isAsSeen 16 rfl) ck2 ck3 ck4 ?_
    refine mf_iadd (mf_dat eX12_isAsSeen 17 rfl) ?_
    obtain ⟨ck5, hyp⟩ := hyp
    obtain ⟨ck6, hyp⟩ := hyp
    obtain ⟨ck7, hyp⟩ := hyp
    refine mf_iald (mf_dat eX12_isAsSeen 18 rfl) ck5 ck6 ck7 ?_
    refine mf_aload_n (mf_dat eX12_isAsSeen 19 rfl) rfl rfl ?_
    refine mf_getf (r := (RX12, TX12, 106)) (ci := 12) (k := 66) (t := 2) (v := g x0 66) (mf_dat eX12_isAsSeen 20 rfl) fl_X12_149 rfl (by decide) rfl rfl ck1 ?_
    refine mf_iconst (v := 2) (mf_dat eX12_isAsSeen 21 rfl) (by decide) ?_
    refine mf_iload_n (mf_dat eX12_isAsSeen 22 rfl) rfl rfl ?_
    refine mf_imul (mf_dat eX12_isAsSeen 23 rfl) ?_
    refine mf_iconst (v := 1) (mf_dat eX12_isAsSeen 24 rfl) (by decide) ?_
    refine mf_iadd (mf_dat eX12_isAsSeen 25 rfl) ?_
    obtain ⟨ck8, hyp⟩ := hyp
    obtain ⟨ck9, hyp⟩ := hyp
    refine mf_iald (mf_dat eX12_isAsSeen 26 rfl) ck2 ck8 ck9 ?_
    refine mf_icmp_eq (tgt := 43) (mf_dat eX12_isAsSeen 27 rfl) (by decide) (fun hc => ?_) (fun hc => ?_)
    · replace hyp := hyp.1 hc
      refine mf_iinc (mf_dat eX12_isAsSeen 30 rfl) rfl (by decide) (by decide) ?_
      generalize qv10 : mf_w32 (x2 + 1) = v10
      replace hyp := hyp _ qv10.symm
      refine mf_goto (tgt := 2) (mf_dat eX12_isAsSeen 31 rfl) (by decide) ?_
      exact mf_sub [1, 2, 0] rfl hyp
    · replace hyp := hyp.2 hc
      refine mf_iconst (v := 0) (mf_dat eX12_isAsSeen 28 rfl) (by decide) ?_
      exact mf_ireturn (mf_dat eX12_isAsSeen 29 rfl) rfl (Or.inr ⟨rfl, by decide⟩) hyp
set_option maxRecDepth 100000 in
set_option maxHeartbeats 4000000 in
theorem mX12_isAsSeen {C : mf_G} {l : Launch} {d n : Nat} {K : mf_Kt} {x0 x1 : Int} {g h : mf_M} (hyp : JX12_isAsSeen_2 C l d n K x0 x1 0 g h) : mf_MT C l d YX12_isAsSeen [(2, x0), (0, x1)] n n g h K := by
  refine mf_entry (by decide) (Nat.le_of_ble_eq_true rfl) ?_
  refine mf_iconst (v := 0) (mf_dat eX12_isAsSeen 0 rfl) (by decide) ?_
  refine mf_istore_n (mf_dat eX12_isAsSeen 1 rfl) rfl (by decide) ?_
  exact mf_sub [1, 2, 0] rfl hyp
abbrev JX12_openingsSeen_8 (C : mf_G) (l : Launch) (d n : Nat) (K : mf_Kt) (x0 x1 x2 : Int) (g h : mf_M) : Prop := mf_AW C l YX12_openingsSeen (mf_rm d n n) n (mf_Zm C YX12_openingsSeen n n K) (fun _ _ => True) 8 [(0, (2, x0)), (1, (0, x1)), (2, (0, x2))] [] n g h
abbrev JX12_openingsSeen_23 (C : mf_G) (l : Launch) (d n : Nat) (K : mf_Kt) (x0 x1 x2 x3 : Int) (g h : mf_M) : Prop := mf_AW C l YX12_openingsSeen (mf_rm d n n) n (mf_Zm C YX12_openingsSeen n n K) (fun _ _ => True) 23 [(0, (2, x0)), (1, (0, x1)), (2, (0, x2)), (3, (0, x3))] [] n g h
set_option maxRecDepth 100000 in
set_option maxHeartbeats 4000000 in
theorem bX12_openingsSeen_8 {C : mf_G} {l : Launch} {d n : Nat} {K : mf_Kt} {x0 x1 x2 : Int} {g h : mf_M} (hd : 5 ≤ d) (hyp : mf_is n x0 12 ∧ mf_MT C l 0 YX12_leaves [(2, x0)] n n g h (fun r1 g2 h3 => ((r1 < x2 → mf_MT C l 0 YX12_takesBack [(2, x0)] n n g2 h3 (fun r5 g6 h7 => K x1 g6 h7)) ∧ (¬ r1 < x2 → mf_MT C l 4 YX12_dayBy [(2, x0), (0, x2)] n n g2 h3 (fun r8 g9 h10 => JX12_openingsSeen_23 C l d n K x0 x1 x2 0 g9 h10))))) : JX12_openingsSeen_8 C l d n K x0 x1 x2 g h := by
  refine mf_iload_n (mf_dat eX12_openingsSeen 6 rfl) rfl rfl ?_
  refine mf_aload_n (mf_dat eX12_openingsSeen 7 rfl) rfl rfl ?_
  obtain ⟨ck4, hyp⟩ := hyp
  refine mf_callV (Yc := YX12_leaves) (r := (RX12, TX12, 106)) (ci := 12) (mf_dat eX12_openingsSeen 8 rfl) ml_X12_405 okX12_leaves im_X12_leaves sl_X12_leaves rfl rfl rfl rfl (Nat.le_of_ble_eq_true rfl) (mf_rr (Nat.le_trans (by decide) hd) (Nat.le_refl _)) (Nat.le_refl _) ck4 hyp (fun r1 g2 h3 hyp => ?_)
  refine mf_icmp_gt (tgt := 77) (mf_dat eX12_openingsSeen 9 rfl) (by decide) (fun hc => ?_) (fun hc => ?_)
  · replace hyp := hyp.1 hc
    refine mf_aload_n (mf_dat eX12_openingsSeen 46 rfl) rfl rfl ?_
    refine mf_callV (Yc := YX12_takesBack) (r := (RX12, TX12, 106)) (ci := 12) (mf_dat eX12_openingsSeen 47 rfl) ml_X12_533 okX12_takesBack im_X12_takesBack sl_X12_takesBack rfl rfl rfl rfl (Nat.le_of_ble_eq_true rfl) (mf_rr (Nat.le_trans (by decide) hd) (Nat.le_refl _)) (Nat.le_refl _) ck4 hyp (fun r5 g6 h7 hyp => ?_)
    refine mf_iload_n (mf_dat eX12_openingsSeen 48 rfl) rfl rfl ?_
    exact mf_ireturn (mf_dat eX12_openingsSeen 49 rfl) rfl (Or.inl rfl) hyp
  · replace hyp := hyp.2 hc
    refine mf_aload_n (mf_dat eX12_openingsSeen 10 rfl) rfl rfl ?_
    refine mf_iload_n (mf_dat eX12_openingsSeen 11 rfl) rfl rfl ?_
    refine mf_callV (Yc := YX12_dayBy) (r := (RX12, TX12, 106)) (ci := 12) (mf_dat eX12_openingsSeen 12 rfl) ml_X12_490 okX12_dayBy im_X12_dayBy sl_X12_dayBy rfl rfl rfl rfl (Nat.le_of_ble_eq_true rfl) (mf_rr (Nat.le_trans (by decide) hd) (Nat.le_refl _)) (Nat.le_refl _) ck4 hyp (fun r8 g9 h10 hyp => ?_)
    refine mf_iconst (v := 0) (mf_dat eX12_openingsSeen 13 rfl) (by decide) ?_
    refine mf_istore_n (mf_dat eX12_openingsSeen 14 rfl) rfl (by decide) ?_
    exact mf_sub [1, 2, 3, 0] rfl hyp
set_option maxRecDepth 100000 in
set_option maxHeartbeats 4000000 in
theorem bX12_openingsSeen_23 {C : mf_G} {l : Launch} {d n : Nat} {K : mf_Kt} {x0 x1 x2 x3 : Int} {g h : mf_M} (hd : 1 ≤ d) (hyp : mf_is n x0 12 ∧ mf_MT C l 0 YX12_beingMany [(2, x0)] n n g h (fun r1 g2 h3 => ((r1 ≤ x3 → mf_MT C l 0 YX12_triesAnew [(2, x0)] n n g2 h3 (fun r5 g6 h7 => mf_MT C l 0 YX12_isAsSeen [(2, x0), (0, x2)] n n g6 h7 (fun r8 g9 h10 => ((r8 = 0 → (∀ v11 : Int, v11 = mf_w32 (x2 + 1) → JX12_openingsSeen_8 C l d n K x0 x1 v11 g9 h10)) ∧ (¬ r8 = 0 → (∀ v12 : Int, v12 = mf_or x1 (mf_shl 1 x2) → (∀ v13 : Int, v13 = mf_w32 (x2 + 1) → JX12_openingsSeen_8 C l d n K x0 v12 v13 g9 h10))))))) ∧ (¬ r1 ≤ x3 → mf_MT C l 0 YX12_cellOf [(2, x0), (0, x3)] n n g2 h3 (fun r14 g15 h16 => mf_is n (g2 x0 67) 20 ∧ 0 ≤ mf_w32 ((mf_w32 (8 * x2)) + x3) ∧ mf_w32 ((mf_w32 (8 * x2)) + x3) < mf_len (g2 x0 67) ∧ (∀ h20 : mf_M, h20 = mf_up h16 (g2 x0 67) (mf_w32 ((mf_w32 (8 * x2)) + x3)) r14 → (∀ v21 : Int, v21 = mf_w32 (x3 + 1) → JX12_openingsSeen_23 C l d n K x0 x1 x2 v21 g15 h20))))))) : JX12_openingsSeen_23 C l d n K x0 x1 x2 x3 g h := by
  refine mf_iload_n (mf_dat eX12_openingsSeen 15 rfl) rfl rfl ?_
  refine mf_aload_n (mf_dat eX12_openingsSeen 16 rfl) rfl rfl ?_
  obtain ⟨ck4, hyp⟩ := hyp
  refine mf_callV (Yc := YX12_beingMany) (r := (RX12, TX12, 106)) (ci := 12) (mf_dat eX12_openingsSeen 17 rfl) ml_X12_402 okX12_beingMany im_X12_beingMany sl_X12_beingMany rfl rfl rfl rfl (Nat.le_of_ble_eq_true rfl) (mf_rr (Nat.le_trans (by decide) hd) (Nat.le_refl _)) (Nat.le_refl _) ck4 hyp (fun r1 g2 h3 hyp => ?_)
  refine mf_icmp_ge (tgt := 53) (mf_dat eX12_openingsSeen 18 rfl) (by decide) (fun hc => ?_) (fun hc => ?_)
  · replace hyp := hyp.1 hc
    refine mf_aload_n (mf_dat eX12_openingsSeen 32 rfl) rfl rfl ?_
    refine mf_callV (Yc := YX12_triesAnew) (r := (RX12, TX12, 106)) (ci := 12) (mf_dat eX12_openingsSeen 33 rfl) ml_X12_530 okX12_triesAnew im_X12_triesAnew sl_X12_triesAnew rfl rfl rfl rfl (Nat.le_of_ble_eq_true rfl) (mf_rr (Nat.le_trans (by decide) hd) (Nat.le_refl _)) (Nat.le_refl _) ck4 hyp (fun r5 g6 h7 hyp => ?_)
    refine mf_aload_n (mf_dat eX12_openingsSeen 34 rfl) rfl rfl ?_
    refine mf_iload_n (mf_dat eX12_openingsSeen 35 rfl) rfl rfl ?_
    refine mf_callV (Yc := YX12_isAsSeen) (r := (RX12, TX12, 106)) (ci := 12) (mf_dat eX12_openingsSeen 36 rfl) ml_X12_549 okX12_isAsSeen im_X12_isAsSeen sl_X12_isAsSeen rfl rfl rfl rfl (Nat.le_of_ble_eq_true rfl) (mf_rr (Nat.le_trans (by decide) hd) (Nat.le_refl _)) (Nat.le_refl _) ck4 hyp (fun r8 g9 h10 hyp => ?_)
    refine mf_if_eq (tgt := 71) (mf_dat eX12_openingsSeen 37 rfl) (by decide) (fun hc => ?_) (fun hc => ?_)
    · replace hyp := hyp.1 hc
      refine mf_iinc (mf_dat eX12_openingsSeen 44 rfl) rfl (by decide) (by decide) ?_
      generalize qv11 : mf_w32 (x2 + 1) = v11
      replace hyp := hyp _ qv11.symm
      refine mf_goto (tgt := 8) (mf_dat eX12_openingsSeen 45 rfl) (by decide) ?_
      exact mf_sub [1, 2, 0] rfl hyp
    · replace hyp := hyp.2 hc
      refine mf_iload_n (mf_dat eX12_openingsSeen 38 rfl) rfl rfl ?_
      refine mf_iconst (v := 1) (mf_dat eX12_openingsSeen 39 rfl) (by decide) ?_
      refine mf_iload_n (mf_dat eX12_openingsSeen 40 rfl) rfl rfl ?_
      refine mf_ishl (mf_dat eX12_openingsSeen 41 rfl) ?_
      refine mf_ior (mf_dat eX12_openingsSeen 42 rfl) ?_
      generalize qv12 : mf_or x1 (mf_shl 1 x2) = v12
      replace hyp := hyp _ qv12.symm
      refine mf_istore_n (mf_dat eX12_openingsSeen 43 rfl) rfl (by decide) ?_
      refine mf_iinc (mf_dat eX12_openingsSeen 44 rfl) rfl (by decide) (by decide) ?_
      generalize qv13 : mf_w32 (x2 + 1) = v13
      replace hyp := hyp _ qv13.symm
      refine mf_goto (tgt := 8) (mf_dat eX12_openingsSeen 45 rfl) (by decide) ?_
      exact mf_sub [2, 1, 0] rfl hyp
  · replace hyp := hyp.2 hc
    refine mf_aload_n (mf_dat eX12_openingsSeen 19 rfl) rfl rfl ?_
    refine mf_getf (r := (RX12, TX12, 106)) (ci := 12) (k := 67) (t := 2) (v := g2 x0 67) (mf_dat eX12_openingsSeen 20 rfl) fl_X12_152 rfl (by decide) rfl rfl ck4 ?_
    refine mf_bipush (v := 8) (mf_dat eX12_openingsSeen 21 rfl) (by decide) ?_
    refine mf_iload_n (mf_dat eX12_openingsSeen 22 rfl) rfl rfl ?_
    refine mf_imul (mf_dat eX12_openingsSeen 23 rfl) ?_
    refine mf_iload_n (mf_dat eX12_openingsSeen 24 rfl) rfl rfl ?_
    refine mf_iadd (mf_dat eX12_openingsSeen 25 rfl) ?_
    refine mf_aload_n (mf_dat eX12_openingsSeen 26 rfl) rfl rfl ?_
    refine mf_iload_n (mf_dat eX12_openingsSeen 27 rfl) rfl rfl ?_
    refine mf_callV (Yc := YX12_cellOf) (r := (RX12, TX12, 106)) (ci := 12) (mf_dat eX12_openingsSeen 28 rfl) ml_X12_413 okX12_cellOf im_X12_cellOf sl_X12_cellOf rfl rfl rfl rfl (Nat.le_of_ble_eq_true rfl) (mf_rr (Nat.le_trans (by decide) hd) (Nat.le_refl _)) (Nat.le_refl _) ck4 hyp (fun r14 g15 h16 hyp => ?_)
    obtain ⟨ck17, hyp⟩ := hyp
    obtain ⟨ck18, hyp⟩ := hyp
    obtain ⟨ck19, hyp⟩ := hyp
    refine mf_iast (mf_dat eX12_openingsSeen 29 rfl) ck17 ck18 ck19 ?_
    generalize qh20 : mf_up h16 (g2 x0 67) (mf_w32 ((mf_w32 (8 * x2)) + x3)) r14 = h20
    replace hyp := hyp _ qh20.symm
    refine mf_iinc (mf_dat eX12_openingsSeen 30 rfl) rfl (by decide) (by decide) ?_
    generalize qv21 : mf_w32 (x3 + 1) = v21
    replace hyp := hyp _ qv21.symm
    refine mf_goto (tgt := 23) (mf_dat eX12_openingsSeen 31 rfl) (by decide) ?_
    exact mf_sub [1, 2, 3, 0] rfl hyp
set_option maxRecDepth 100000 in
set_option maxHeartbeats 4000000 in
theorem mX12_openingsSeen {C : mf_G} {l : Launch} {d n : Nat} {K : mf_Kt} {x0 : Int} {g h : mf_M} (hd : 1 ≤ d) (hyp : mf_is n x0 12 ∧ mf_MT C l 0 YX12_putsAside [(2, x0)] n n g h (fun r1 g2 h3 => JX12_openingsSeen_8 C l d n K x0 0 0 g2 h3)) : mf_MT C l d YX12_openingsSeen [(2, x0)] n n g h K := by
  refine mf_entry (by decide) (Nat.le_of_ble_eq_true rfl) ?_
  refine mf_iconst (v := 0) (mf_dat eX12_openingsSeen 0 rfl) (by decide) ?_
  refine mf_istore_n (mf_dat eX12_openingsSeen 1 rfl) rfl (by decide) ?_
  refine mf_aload_n (mf_dat eX12_openingsSeen 2 rfl) rfl rfl ?_
  obtain ⟨ck4, hyp⟩ := hyp
  refine mf_callV (Yc := YX12_putsAside) (r := (RX12, TX12, 106)) (ci := 12) (mf_dat eX12_openingsSeen 3 rfl) ml_X12_523 okX12_putsAside im_X12_putsAside sl_X12_putsAside rfl rfl rfl rfl (Nat.le_of_ble_eq_true rfl) (mf_rr (Nat.le_trans (by decide) hd) (Nat.le_refl _)) (Nat.le_refl _) ck4 hyp (fun r1 g2 h3 hyp => ?_)
  refine mf_iconst (v := 0) (mf_dat eX12_openingsSeen 4 rfl) (by decide) ?_
  refine mf_istore_n (mf_dat eX12_openingsSeen 5 rfl) rfl (by decide) ?_
  exact mf_sub [2, 1, 0] rfl hyp
set_option maxRecDepth 100000 in
set_option maxHeartbeats 4000000 in
theorem mX12_lay {C : mf_G} {l : Launch} {d n : Nat} {K : mf_Kt} {x0 x1 : Int} {g h : mf_M} (hd : 6 ≤ d) (hyp : mf_is n x0 12 ∧ mf_MT C l 1 YX12_isAhead [(2, x0), (0, 1), (0, 1), (0, 1)] n n g h (fun r1 g2 h3 => ((r1 = 0 → K (-1) g2 h3) ∧ (¬ r1 = 0 → mf_MT C l 0 YX12_isIn [(1, x1), (1, 0), (1, 1)] n n g2 h3 (fun r5 g6 h7 => ((¬ r5 = 0 → mf_MT C l 5 YX12_openingsSeen [(2, x0)] n n g6 h7 (fun r8 g9 h10 => ((¬ x1 = 0 → K r8 g9 h10) ∧ (x1 = 0 → mf_MT C l 0 YX12_bits [(0, r8)] n n g9 h10 (fun r11 g12 h13 => K r11 g12 h13))))) ∧ (r5 = 0 → K (-1) g6 h7))))))) : mf_MT C l d YX12_lay [(2, x0), (0, x1)] n n g h K := by
  refine mf_entry (by decide) (Nat.le_of_ble_eq_true rfl) ?_
  refine mf_aload_n (mf_dat eX12_lay 0 rfl) rfl rfl ?_
  refine mf_iconst (v := 1) (mf_dat eX12_lay 1 rfl) (by decide) ?_
  refine mf_iconst (v := 1) (mf_dat eX12_lay 2 rfl) (by decide) ?_
  refine mf_iconst (v := 1) (mf_dat eX12_lay 3 rfl) (by decide) ?_
  obtain ⟨ck4, hyp⟩ := hyp
  refine mf_callV (Yc := YX12_isAhead) (r := (RX12, TX12, 106)) (ci := 12) (mf_dat eX12_lay 4 rfl) ml_X12_520 okX12_isAhead im_X12_isAhead sl_X12_isAhead rfl rfl rfl rfl (Nat.le_of_ble_eq_true rfl) (mf_rr (Nat.le_trans (by decide) hd) (Nat.le_refl _)) (Nat.le_refl _) ck4 hyp (fun r1 g2 h3 hyp => ?_)
  refine mf_if_eq (tgt := 20) (mf_dat eX12_lay 5 rfl) (by decide) (fun hc => ?_) (fun hc => ?_)
  · replace hyp := hyp.1 hc
    refine mf_iconst (v := (-1)) (mf_dat eX12_lay 12 rfl) (by decide) ?_
    exact mf_ireturn (mf_dat eX12_lay 13 rfl) rfl (Or.inl rfl) hyp
  · replace hyp := hyp.2 hc
    refine mf_iload_n (mf_dat eX12_lay 6 rfl) rfl rfl ?_
    refine mf_i2l (mf_dat eX12_lay 7 rfl) ?_
    refine mf_lconst (v := 0) (mf_dat eX12_lay 8 rfl) (by decide) ?_
    refine mf_lconst (v := 1) (mf_dat eX12_lay 9 rfl) (by decide) ?_
    refine mf_callS (Yc := YX12_isIn) (mf_dat eX12_lay 10 rfl) ml_X12_286 okX12_isIn sm_X12_isIn rfl rfl (Nat.le_of_ble_eq_true rfl) (mf_rr (Nat.le_trans (by decide) hd) (Nat.le_refl _)) (Nat.le_refl _) hyp (fun r5 g6 h7 hyp => ?_)
    refine mf_if_ne (tgt := 22) (mf_dat eX12_lay 11 rfl) (by decide) (fun hc => ?_) (fun hc => ?_)
    · replace hyp := hyp.1 hc
      refine mf_aload_n (mf_dat eX12_lay 14 rfl) rfl rfl ?_
      refine mf_callV (Yc := YX12_openingsSeen) (r := (RX12, TX12, 106)) (ci := 12) (mf_dat eX12_lay 15 rfl) ml_X12_552 okX12_openingsSeen im_X12_openingsSeen sl_X12_openingsSeen rfl rfl rfl rfl (Nat.le_of_ble_eq_true rfl) (mf_rr (Nat.le_trans (by decide) hd) (Nat.le_refl _)) (Nat.le_refl _) ck4 hyp (fun r8 g9 h10 hyp => ?_)
      refine mf_istore_n (mf_dat eX12_lay 16 rfl) rfl (by decide) ?_
      refine mf_iload_n (mf_dat eX12_lay 17 rfl) rfl rfl ?_
      refine mf_if_ne (tgt := 38) (mf_dat eX12_lay 18 rfl) (by decide) (fun hc => ?_) (fun hc => ?_)
      · replace hyp := hyp.1 hc
        refine mf_iload_n (mf_dat eX12_lay 22 rfl) rfl rfl ?_
        exact mf_ireturn (mf_dat eX12_lay 23 rfl) rfl (Or.inl rfl) hyp
      · replace hyp := hyp.2 hc
        refine mf_iload_n (mf_dat eX12_lay 19 rfl) rfl rfl ?_
        refine mf_callS (Yc := YX12_bits) (mf_dat eX12_lay 20 rfl) ml_X12_493 okX12_bits sm_X12_bits rfl rfl (Nat.le_of_ble_eq_true rfl) (mf_rr (Nat.le_trans (by decide) hd) (Nat.le_refl _)) (Nat.le_refl _) hyp (fun r11 g12 h13 hyp => ?_)
        refine mf_goto (tgt := 39) (mf_dat eX12_lay 21 rfl) (by decide) ?_
        exact mf_ireturn (mf_dat eX12_lay 23 rfl) rfl (Or.inl rfl) hyp
    · replace hyp := hyp.2 hc
      refine mf_iconst (v := (-1)) (mf_dat eX12_lay 12 rfl) (by decide) ?_
      exact mf_ireturn (mf_dat eX12_lay 13 rfl) rfl (Or.inl rfl) hyp
abbrev JX12_after_35 (C : mf_G) (l : Launch) (d n : Nat) (K : mf_Kt) (x0 x1 x2 x3 x4 x5 : Int) (g h : mf_M) : Prop := mf_AW C l YX12_after (mf_rm d n n) n (mf_Zm C YX12_after n n K) (fun _ _ => True) 35 [(0, (2, x0)), (1, (0, x1)), (2, (0, x2)), (3, (0, x3)), (4, (0, x4)), (5, (0, x5))] [] n g h
abbrev JX12_after_54 (C : mf_G) (l : Launch) (d n : Nat) (K : mf_Kt) (x0 x1 x2 x3 x4 x5 x6 x7 : Int) (g h : mf_M) : Prop := mf_AW C l YX12_after (mf_rm d n n) n (mf_Zm C YX12_after n n K) (fun _ _ => True) 54 [(0, (2, x0)), (1, (0, x1)), (2, (0, x2)), (3, (0, x3)), (4, (0, x4)), (5, (0, x5)), (6, (0, x6)), (7, (0, x7))] [] n g h
abbrev JX12_after_71 (C : mf_G) (l : Launch) (d n : Nat) (K : mf_Kt) (x0 x1 x2 x3 x4 x5 x6 x7 x8 x9 : Int) (g h : mf_M) : Prop := mf_AW C l YX12_after (mf_rm d n n) n (mf_Zm C YX12_after n n K) (fun _ _ => True) 71 [(0, (2, x0)), (1, (0, x1)), (2, (0, x2)), (3, (0, x3)), (4, (0, x4)), (5, (0, x5)), (6, (0, x6)), (7, (0, x7)), (8, (0, x8)), (9, (0, x9))] [] n g h
set_option maxRecDepth 100000 in
set_option maxHeartbeats 4000000 in
theorem bX12_after_35 {C : mf_G} {l : Launch} {d n : Nat} {K : mf_Kt} {x0 x1 x2 x3 x4 x5 : Int} {g h : mf_M} (hd : 1 ≤ d) (hyp : mf_is n x0 12 ∧ mf_MT C l 0 YX12_beingMany [(2, x0)] n n g h (fun r1 g2 h3 => ((r1 ≤ x5 → ((¬ x3 = (-1) → ((¬ x1 = 0 → K x4 g2 h3) ∧ (x1 = 0 → K x3 g2 h3))) ∧ (x3 = (-1) → K (-1) g2 h3))) ∧ (¬ r1 ≤ x5 → ((x2 = 0 → ((¬ x3 = (-1) → ((¬ x1 = 0 → K x4 g2 h3) ∧ (x1 = 0 → K x3 g2 h3))) ∧ (x3 = (-1) → K (-1) g2 h3))) ∧ (¬ x2 = 0 → JX12_after_54 C l d n K x0 x1 x2 x3 x4 x5 0 0 g2 h3)))))) : JX12_after_35 C l d n K x0 x1 x2 x3 x4 x5 g h := by
  refine mf_iload (mf_dat eX12_after_p0 23 rfl) rfl ?_
  refine mf_aload_n (mf_dat eX12_after_p0 24 rfl) rfl rfl ?_
  obtain ⟨ck4, hyp⟩ := hyp
  refine mf_callV (Yc := YX12_beingMany) (r := (RX12, TX12, 106)) (ci := 12) (mf_dat eX12_after_p0 25 rfl) ml_X12_402 okX12_beingMany im_X12_beingMany sl_X12_beingMany rfl rfl rfl rfl (Nat.le_of_ble_eq_true rfl) (mf_rr (Nat.le_trans (by decide) hd) (Nat.le_refl _)) (Nat.le_refl _) ck4 hyp (fun r1 g2 h3 hyp => ?_)
  refine mf_icmp_ge (tgt := 162) (mf_dat eX12_after_p0 26 rfl) (by decide) (fun hc => ?_) (fun hc => ?_)
  · replace hyp := hyp.1 hc
    refine mf_iload_n (mf_dat eX12_after_p1 27 rfl) rfl rfl ?_
    refine mf_iconst (v := (-1)) (mf_dat eX12_after_p1 28 rfl) (by decide) ?_
    refine mf_icmp_ne (tgt := 171) (mf_dat eX12_after_p1 29 rfl) (by decide) (fun hc => ?_) (fun hc => ?_)
    · replace hyp := hyp.1 hc
      refine mf_iload_n (mf_dat eX12_after_p1 32 rfl) rfl rfl ?_
      refine mf_if_ne (tgt := 179) (mf_dat eX12_after_p1 33 rfl) (by decide) (fun hc => ?_) (fun hc => ?_)
      · replace hyp := hyp.1 hc
        refine mf_iload (mf_dat eX12_after_p1 36 rfl) rfl ?_
        exact mf_ireturn (mf_dat eX12_after_p1 37 rfl) rfl (Or.inl rfl) hyp
      · replace hyp := hyp.2 hc
        refine mf_iload_n (mf_dat eX12_after_p1 34 rfl) rfl rfl ?_
        refine mf_goto (tgt := 181) (mf_dat eX12_after_p1 35 rfl) (by decide) ?_
        exact mf_ireturn (mf_dat eX12_after_p1 37 rfl) rfl (Or.inl rfl) hyp
    · replace hyp := hyp.2 hc
      refine mf_iconst (v := (-1)) (mf_dat eX12_after_p1 30 rfl) (by decide) ?_
      refine mf_goto (tgt := 181) (mf_dat eX12_after_p1 31 rfl) (by decide) ?_
      exact mf_ireturn (mf_dat eX12_after_p1 37 rfl) rfl (Or.inl rfl) hyp
  · replace hyp := hyp.2 hc
    refine mf_iload_n (mf_dat eX12_after_p0 27 rfl) rfl rfl ?_
    refine mf_if_eq (tgt := 162) (mf_dat eX12_after_p0 28 rfl) (by decide) (fun hc => ?_) (fun hc => ?_)
    · replace hyp := hyp.1 hc
      refine mf_iload_n (mf_dat eX12_after_p1 27 rfl) rfl rfl ?_
      refine mf_iconst (v := (-1)) (mf_dat eX12_after_p1 28 rfl) (by decide) ?_
      refine mf_icmp_ne (tgt := 171) (mf_dat eX12_after_p1 29 rfl) (by decide) (fun hc => ?_) (fun hc => ?_)
      · replace hyp := hyp.1 hc
        refine mf_iload_n (mf_dat eX12_after_p1 32 rfl) rfl rfl ?_
        refine mf_if_ne (tgt := 179) (mf_dat eX12_after_p1 33 rfl) (by decide) (fun hc => ?_) (fun hc => ?_)
        · replace hyp := hyp.1 hc
          refine mf_iload (mf_dat eX12_after_p1 36 rfl) rfl ?_
          exact mf_ireturn (mf_dat eX12_after_p1 37 rfl) rfl (Or.inl rfl) hyp
        · replace hyp := hyp.2 hc
          refine mf_iload_n (mf_dat eX12_after_p1 34 rfl) rfl rfl ?_
          refine mf_goto (tgt := 181) (mf_dat eX12_after_p1 35 rfl) (by decide) ?_
          exact mf_ireturn (mf_dat eX12_after_p1 37 rfl) rfl (Or.inl rfl) hyp
      · replace hyp := hyp.2 hc
        refine mf_iconst (v := (-1)) (mf_dat eX12_after_p1 30 rfl) (by decide) ?_
        refine mf_goto (tgt := 181) (mf_dat eX12_after_p1 31 rfl) (by decide) ?_
        exact mf_ireturn (mf_dat eX12_after_p1 37 rfl) rfl (Or.inl rfl) hyp
    · replace hyp := hyp.2 hc
      refine mf_iconst (v := 0) (mf_dat eX12_after_p0 29 rfl) (by decide) ?_
      refine mf_istore (mf_dat eX12_after_p0 30 rfl) (by decide) ?_
      refine mf_iconst (v := 0) (mf_dat eX12_after_p0 31 rfl) (by decide) ?_
      refine mf_istore (mf_dat eX12_after_p0 32 rfl) (by decide) ?_
      exact mf_sub [2, 3, 4, 5, 6, 7, 1, 0] rfl hyp
set_option maxRecDepth 100000 in
set_option maxHeartbeats 4000000 in
theorem bX12_after_54 {C : mf_G} {l : Launch} {d n : Nat} {K : mf_Kt} {x0 x1 x2 x3 x4 x5 x6 x7 : Int} {g h : mf_M} (hyp : mf_is n x0 12 ∧ mf_is n (g x0 40) 20 ∧ 3 < mf_len (g x0 40) ∧ ((h (g x0 40) 3 ≤ x7 → ((x3 = (-1) → (∀ v4 : Int, v4 = mf_w32 (x5 + 1) → JX12_after_35 C l d n K x0 x1 x2 x5 x6 v4 g h)) ∧ (¬ x3 = (-1) → ((x6 < x4 → (∀ v5 : Int, v5 = mf_w32 (x5 + 1) → JX12_after_35 C l d n K x0 x1 x2 x5 x6 v5 g h)) ∧ (¬ x6 < x4 → (∀ v6 : Int, v6 = mf_w32 (x5 + 1) → JX12_after_35 C l d n K x0 x1 x2 x3 x4 v6 g h)))))) ∧ (¬ h (g x0 40) 3 ≤ x7 → JX12_after_71 C l d n K x0 x1 x2 x3 x4 x5 x6 x7 0 0 g h))) : JX12_after_54 C l d n K x0 x1 x2 x3 x4 x5 x6 x7 g h := by
  refine mf_iload (mf_dat eX12_after_p0 33 rfl) rfl ?_
  refine mf_aload_n (mf_dat eX12_after_p0 34 rfl) rfl rfl ?_
  obtain ⟨ck1, hyp⟩ := hyp
  refine mf_getf (r := (RX12, TX12, 106)) (ci := 12) (k := 40) (t := 2) (v := g x0 40) (mf_dat eX12_after_p0 35 rfl) fl_X12_105 rfl (by decide) rfl rfl ck1 ?_
  refine mf_iconst (v := 3) (mf_dat eX12_after_p0 36 rfl) (by decide) ?_
  obtain ⟨ck2, hyp⟩ := hyp
  obtain ⟨ck3, hyp⟩ := hyp
  refine mf_iald (mf_dat eX12_after_p0 37 rfl) ck2 (by decide) ck3 ?_
  refine mf_icmp_ge (tgt := 134) (mf_dat eX12_after_p0 38 rfl) (by decide) (fun hc => ?_) (fun hc => ?_)
  · replace hyp := hyp.1 hc
    refine mf_iload_n (mf_dat eX12_after_p1 14 rfl) rfl rfl ?_
    refine mf_iconst (v := (-1)) (mf_dat eX12_after_p1 15 rfl) (by decide) ?_
    refine mf_icmp_eq (tgt := 149) (mf_dat eX12_after_p1 16 rfl) (by decide) (fun hc => ?_) (fun hc => ?_)
    · replace hyp := hyp.1 hc
      refine mf_iload (mf_dat eX12_after_p1 21 rfl) rfl ?_
      refine mf_istore_n (mf_dat eX12_after_p1 22 rfl) rfl (by decide) ?_
      refine mf_iload (mf_dat eX12_after_p1 23 rfl) rfl ?_
      refine mf_istore (mf_dat eX12_after_p1 24 rfl) (by decide) ?_
      refine mf_iinc (mf_dat eX12_after_p1 25 rfl) rfl (by decide) (by decide) ?_
      generalize qv4 : mf_w32 (x5 + 1) = v4
      replace hyp := hyp _ qv4.symm
      refine mf_goto (tgt := 35) (mf_dat eX12_after_p1 26 rfl) (by decide) ?_
      exact mf_sub [3, 4, 5, 2, 1, 0] rfl hyp
    · replace hyp := hyp.2 hc
      refine mf_iload (mf_dat eX12_after_p1 17 rfl) rfl ?_
      refine mf_iload (mf_dat eX12_after_p1 18 rfl) rfl ?_
      refine mf_icmp_lt (tgt := 149) (mf_dat eX12_after_p1 19 rfl) (by decide) (fun hc => ?_) (fun hc => ?_)
      · replace hyp := hyp.1 hc
        refine mf_iload (mf_dat eX12_after_p1 21 rfl) rfl ?_
        refine mf_istore_n (mf_dat eX12_after_p1 22 rfl) rfl (by decide) ?_
        refine mf_iload (mf_dat eX12_after_p1 23 rfl) rfl ?_
        refine mf_istore (mf_dat eX12_after_p1 24 rfl) (by decide) ?_
        refine mf_iinc (mf_dat eX12_after_p1 25 rfl) rfl (by decide) (by decide) ?_
        generalize qv5 : mf_w32 (x5 + 1) = v5
        replace hyp := hyp _ qv5.symm
        refine mf_goto (tgt := 35) (mf_dat eX12_after_p1 26 rfl) (by decide) ?_
        exact mf_sub [3, 4, 5, 2, 1, 0] rfl hyp
      · replace hyp := hyp.2 hc
        refine mf_goto (tgt := 156) (mf_dat eX12_after_p1 20 rfl) (by decide) ?_
        refine mf_iinc (mf_dat eX12_after_p1 25 rfl) rfl (by decide) (by decide) ?_
        generalize qv6 : mf_w32 (x5 + 1) = v6
        replace hyp := hyp _ qv6.symm
        refine mf_goto (tgt := 35) (mf_dat eX12_after_p1 26 rfl) (by decide) ?_
        exact mf_sub [1, 2, 3, 4, 5, 0] rfl hyp
  · replace hyp := hyp.2 hc
    refine mf_iconst (v := 0) (mf_dat eX12_after_p0 39 rfl) (by decide) ?_
    refine mf_istore (mf_dat eX12_after_p0 40 rfl) (by decide) ?_
    refine mf_iconst (v := 0) (mf_dat eX12_after_p0 41 rfl) (by decide) ?_
    refine mf_istore (mf_dat eX12_after_p0 42 rfl) (by decide) ?_
    exact mf_sub [2, 3, 4, 5, 6, 7, 8, 9, 1, 0] rfl hyp
set_option maxRecDepth 100000 in
set_option maxHeartbeats 4000000 in
theorem bX12_after_71 {C : mf_G} {l : Launch} {d n : Nat} {K : mf_Kt} {x0 x1 x2 x3 x4 x5 x6 x7 x8 x9 : Int} {g h : mf_M} (hd : 1 ≤ d) (hyp : mf_is n x0 12 ∧ mf_MT C l 0 YX12_leaves [(2, x0)] n n g h (fun r1 g2 h3 => ((r1 < x9 → ((x8 ≤ x6 → (∀ v5 : Int, v5 = mf_w32 (x7 + 1) → JX12_after_54 C l d n K x0 x1 x2 x3 x4 x5 x6 v5 g2 h3)) ∧ (¬ x8 ≤ x6 → (∀ v6 : Int, v6 = mf_w32 (x7 + 1) → JX12_after_54 C l d n K x0 x1 x2 x3 x4 x5 x8 v6 g2 h3)))) ∧ (¬ r1 < x9 → ((¬ mf_and (mf_shr x2 x9) 1 = 1 → (∀ v7 : Int, v7 = mf_w32 (x9 + 1) → JX12_after_71 C l d n K x0 x1 x2 x3 x4 x5 x6 x7 x8 v7 g2 h3)) ∧ (mf_and (mf_shr x2 x9) 1 = 1 → mf_is n (g2 x0 67) 20 ∧ 0 ≤ mf_w32 ((mf_w32 (8 * x9)) + x5) ∧ mf_w32 ((mf_w32 (8 * x9)) + x5) < mf_len (g2 x0 67) ∧ ((¬ h3 (g2 x0 67) (mf_w32 ((mf_w32 (8 * x9)) + x5)) = x7 → (∀ v11 : Int, v11 = mf_w32 (x9 + 1) → JX12_after_71 C l d n K x0 x1 x2 x3 x4 x5 x6 x7 x8 v11 g2 h3)) ∧ (h3 (g2 x0 67) (mf_w32 ((mf_w32 (8 * x9)) + x5)) = x7 → (∀ v12 : Int, v12 = mf_w32 (x8 + 1) → (∀ v13 : Int, v13 = mf_w32 (x9 + 1) → JX12_after_71 C l d n K x0 x1 x2 x3 x4 x5 x6 x7 v12 v13 g2 h3)))))))))) : JX12_after_71 C l d n K x0 x1 x2 x3 x4 x5 x6 x7 x8 x9 g h := by
  refine mf_iload (mf_dat eX12_after_p0 43 rfl) rfl ?_
  refine mf_aload_n (mf_dat eX12_after_p0 44 rfl) rfl rfl ?_
  obtain ⟨ck4, hyp⟩ := hyp
  refine mf_callV (Yc := YX12_leaves) (r := (RX12, TX12, 106)) (ci := 12) (mf_dat eX12_after_p0 45 rfl) ml_X12_405 okX12_leaves im_X12_leaves sl_X12_leaves rfl rfl rfl rfl (Nat.le_of_ble_eq_true rfl) (mf_rr (Nat.le_trans (by decide) hd) (Nat.le_refl _)) (Nat.le_refl _) ck4 hyp (fun r1 g2 h3 hyp => ?_)
  refine mf_icmp_gt (tgt := 117) (mf_dat eX12_after_p0 46 rfl) (by decide) (fun hc => ?_) (fun hc => ?_)
  · replace hyp := hyp.1 hc
    refine mf_iload (mf_dat eX12_after_p1 7 rfl) rfl ?_
    refine mf_iload (mf_dat eX12_after_p1 8 rfl) rfl ?_
    refine mf_icmp_le (tgt := 128) (mf_dat eX12_after_p1 9 rfl) (by decide) (fun hc => ?_) (fun hc => ?_)
    · replace hyp := hyp.1 hc
      refine mf_iinc (mf_dat eX12_after_p1 12 rfl) rfl (by decide) (by decide) ?_
      generalize qv5 : mf_w32 (x7 + 1) = v5
      replace hyp := hyp _ qv5.symm
      refine mf_goto (tgt := 54) (mf_dat eX12_after_p1 13 rfl) (by decide) ?_
      exact mf_sub [1, 2, 3, 4, 5, 6, 7, 0] rfl hyp
    · replace hyp := hyp.2 hc
      refine mf_iload (mf_dat eX12_after_p1 10 rfl) rfl ?_
      refine mf_istore (mf_dat eX12_after_p1 11 rfl) (by decide) ?_
      refine mf_iinc (mf_dat eX12_after_p1 12 rfl) rfl (by decide) (by decide) ?_
      generalize qv6 : mf_w32 (x7 + 1) = v6
      replace hyp := hyp _ qv6.symm
      refine mf_goto (tgt := 54) (mf_dat eX12_after_p1 13 rfl) (by decide) ?_
      exact mf_sub [2, 3, 4, 5, 6, 7, 1, 0] rfl hyp
  · replace hyp := hyp.2 hc
    refine mf_iload_n (mf_dat eX12_after_p0 47 rfl) rfl rfl ?_
    refine mf_iload (mf_dat eX12_after_p0 48 rfl) rfl ?_
    refine mf_ishr (mf_dat eX12_after_p0 49 rfl) ?_
    refine mf_iconst (v := 1) (mf_dat eX12_after_p0 50 rfl) (by decide) ?_
    refine mf_iand (mf_dat eX12_after_p0 51 rfl) ?_
    refine mf_iconst (v := 1) (mf_dat eX12_after_p0 52 rfl) (by decide) ?_
    refine mf_icmp_ne (tgt := 111) (mf_dat eX12_after_p0 53 rfl) (by decide) (fun hc => ?_) (fun hc => ?_)
    · replace hyp := hyp.1 hc
      refine mf_iinc (mf_dat eX12_after_p1 5 rfl) rfl (by decide) (by decide) ?_
      generalize qv7 : mf_w32 (x9 + 1) = v7
      replace hyp := hyp _ qv7.symm
      refine mf_goto (tgt := 71) (mf_dat eX12_after_p1 6 rfl) (by decide) ?_
      exact mf_sub [1, 2, 3, 4, 5, 6, 7, 8, 9, 0] rfl hyp
    · replace hyp := hyp.2 hc
      refine mf_aload_n (mf_dat eX12_after_p0 54 rfl) rfl rfl ?_
      refine mf_getf (r := (RX12, TX12, 106)) (ci := 12) (k := 67) (t := 2) (v := g2 x0 67) (mf_dat eX12_after_p0 55 rfl) fl_X12_152 rfl (by decide) rfl rfl ck4 ?_
      refine mf_bipush (v := 8) (mf_dat eX12_after_p0 56 rfl) (by decide) ?_
      refine mf_iload (mf_dat eX12_after_p0 57 rfl) rfl ?_
      refine mf_imul (mf_dat eX12_after_p0 58 rfl) ?_
      refine mf_iload (mf_dat eX12_after_p0 59 rfl) rfl ?_
      refine mf_iadd (mf_dat eX12_after_p1 0 rfl) ?_
      obtain ⟨ck8, hyp⟩ := hyp
      obtain ⟨ck9, hyp⟩ := hyp
      obtain ⟨ck10, hyp⟩ := hyp
      refine mf_iald (mf_dat eX12_after_p1 1 rfl) ck8 ck9 ck10 ?_
      refine mf_iload (mf_dat eX12_after_p1 2 rfl) rfl ?_
      refine mf_icmp_ne (tgt := 111) (mf_dat eX12_after_p1 3 rfl) (by decide) (fun hc => ?_) (fun hc => ?_)
      · replace hyp := hyp.1 hc
        refine mf_iinc (mf_dat eX12_after_p1 5 rfl) rfl (by decide) (by decide) ?_
        generalize qv11 : mf_w32 (x9 + 1) = v11
        replace hyp := hyp _ qv11.symm
        refine mf_goto (tgt := 71) (mf_dat eX12_after_p1 6 rfl) (by decide) ?_
        exact mf_sub [1, 2, 3, 4, 5, 6, 7, 8, 9, 0] rfl hyp
      · replace hyp := hyp.2 hc
        refine mf_iinc (mf_dat eX12_after_p1 4 rfl) rfl (by decide) (by decide) ?_
        generalize qv12 : mf_w32 (x8 + 1) = v12
        replace hyp := hyp _ qv12.symm
        refine mf_iinc (mf_dat eX12_after_p1 5 rfl) rfl (by decide) (by decide) ?_
        generalize qv13 : mf_w32 (x9 + 1) = v13
        replace hyp := hyp _ qv13.symm
        refine mf_goto (tgt := 71) (mf_dat eX12_after_p1 6 rfl) (by decide) ?_
        exact mf_sub [2, 3, 4, 5, 6, 7, 8, 9, 1, 0] rfl hyp
set_option maxRecDepth 100000 in
set_option maxHeartbeats 4000000 in
theorem mX12_after {C : mf_G} {l : Launch} {d n : Nat} {K : mf_Kt} {x0 x1 : Int} {g h : mf_M} (hd : 6 ≤ d) (hyp : mf_is n x0 12 ∧ mf_MT C l 1 YX12_isAhead [(2, x0), (0, 1), (0, 1), (0, 1)] n n g h (fun r1 g2 h3 => ((r1 = 0 → K (-1) g2 h3) ∧ (¬ r1 = 0 → mf_MT C l 0 YX12_isIn [(1, x1), (1, 0), (1, 1)] n n g2 h3 (fun r5 g6 h7 => ((¬ r5 = 0 → mf_MT C l 5 YX12_openingsSeen [(2, x0)] n n g6 h7 (fun r8 g9 h10 => JX12_after_35 C l d n K x0 x1 r8 (-1) 0 0 g9 h10)) ∧ (r5 = 0 → K (-1) g6 h7))))))) : mf_MT C l d YX12_after [(2, x0), (0, x1)] n n g h K := by
  refine mf_entry (by decide) (Nat.le_of_ble_eq_true rfl) ?_
  refine mf_aload_n (mf_dat eX12_after_p0 0 rfl) rfl rfl ?_
  refine mf_iconst (v := 1) (mf_dat eX12_after_p0 1 rfl) (by decide) ?_
  refine mf_iconst (v := 1) (mf_dat eX12_after_p0 2 rfl) (by decide) ?_
  refine mf_iconst (v := 1) (mf_dat eX12_after_p0 3 rfl) (by decide) ?_
  obtain ⟨ck4, hyp⟩ := hyp
  refine mf_callV (Yc := YX12_isAhead) (r := (RX12, TX12, 106)) (ci := 12) (mf_dat eX12_after_p0 4 rfl) ml_X12_520 okX12_isAhead im_X12_isAhead sl_X12_isAhead rfl rfl rfl rfl (Nat.le_of_ble_eq_true rfl) (mf_rr (Nat.le_trans (by decide) hd) (Nat.le_refl _)) (Nat.le_refl _) ck4 hyp (fun r1 g2 h3 hyp => ?_)
  refine mf_if_eq (tgt := 20) (mf_dat eX12_after_p0 5 rfl) (by decide) (fun hc => ?_) (fun hc => ?_)
  · replace hyp := hyp.1 hc
    refine mf_iconst (v := (-1)) (mf_dat eX12_after_p0 12 rfl) (by decide) ?_
    exact mf_ireturn (mf_dat eX12_after_p0 13 rfl) rfl (Or.inl rfl) hyp
  · replace hyp := hyp.2 hc
    refine mf_iload_n (mf_dat eX12_after_p0 6 rfl) rfl rfl ?_
    refine mf_i2l (mf_dat eX12_after_p0 7 rfl) ?_
    refine mf_lconst (v := 0) (mf_dat eX12_after_p0 8 rfl) (by decide) ?_
    refine mf_lconst (v := 1) (mf_dat eX12_after_p0 9 rfl) (by decide) ?_
    refine mf_callS (Yc := YX12_isIn) (mf_dat eX12_after_p0 10 rfl) ml_X12_286 okX12_isIn sm_X12_isIn rfl rfl (Nat.le_of_ble_eq_true rfl) (mf_rr (Nat.le_trans (by decide) hd) (Nat.le_refl _)) (Nat.le_refl _) hyp (fun r5 g6 h7 hyp => ?_)
    refine mf_if_ne (tgt := 22) (mf_dat eX12_after_p0 11 rfl) (by decide) (fun hc => ?_) (fun hc => ?_)
    · replace hyp := hyp.1 hc
      refine mf_aload_n (mf_dat eX12_after_p0 14 rfl) rfl rfl ?_
      refine mf_callV (Yc := YX12_openingsSeen) (r := (RX12, TX12, 106)) (ci := 12) (mf_dat eX12_after_p0 15 rfl) ml_X12_552 okX12_openingsSeen im_X12_openingsSeen sl_X12_openingsSeen rfl rfl rfl rfl (Nat.le_of_ble_eq_true rfl) (mf_rr (Nat.le_trans (by decide) hd) (Nat.le_refl _)) (Nat.le_refl _) ck4 hyp (fun r8 g9 h10 hyp => ?_)
      refine mf_istore_n (mf_dat eX12_after_p0 16 rfl) rfl (by decide) ?_
      refine mf_iconst (v := (-1)) (mf_dat eX12_after_p0 17 rfl) (by decide) ?_
      refine mf_istore_n (mf_dat eX12_after_p0 18 rfl) rfl (by decide) ?_
      refine mf_iconst (v := 0) (mf_dat eX12_after_p0 19 rfl) (by decide) ?_
      refine mf_istore (mf_dat eX12_after_p0 20 rfl) (by decide) ?_
      refine mf_iconst (v := 0) (mf_dat eX12_after_p0 21 rfl) (by decide) ?_
      refine mf_istore (mf_dat eX12_after_p0 22 rfl) (by decide) ?_
      exact mf_sub [4, 5, 3, 2, 1, 0] rfl hyp
    · replace hyp := hyp.2 hc
      refine mf_iconst (v := (-1)) (mf_dat eX12_after_p0 12 rfl) (by decide) ?_
      exact mf_ireturn (mf_dat eX12_after_p0 13 rfl) rfl (Or.inl rfl) hyp
abbrev JX12_trim_63 (C : mf_G) (l : Launch) (d n : Nat) (K : mf_Kt) (x0 x1 x4 x5 x6 : Int) (g h : mf_M) : Prop := mf_AW C l YX12_trim (mf_rm d n n) n (mf_Zm C YX12_trim n n K) (fun _ _ => True) 63 [(0, (2, x0)), (1, (0, x1)), (4, (0, x4)), (5, (0, x5)), (6, (0, x6))] [] n g h
abbrev JX12_trim_88 (C : mf_G) (l : Launch) (d n : Nat) (K : mf_Kt) (x0 x1 x4 x5 x6 : Int) (g h : mf_M) : Prop := mf_AW C l YX12_trim (mf_rm d n n) n (mf_Zm C YX12_trim n n K) (fun _ _ => True) 88 [(0, (2, x0)), (1, (0, x1)), (4, (0, x4)), (5, (0, x5)), (6, (0, x6))] [] n g h
set_option maxRecDepth 100000 in
set_option maxHeartbeats 4000000 in
theorem bX12_trim_63 {C : mf_G} {l : Launch} {d n : Nat} {K : mf_Kt} {x0 x1 x4 x5 x6 : Int} {g h : mf_M} (hd : 2 ≤ d) (hyp : mf_is n x0 12 ∧ mf_is n (g x0 40) 20 ∧ 3 < mf_len (g x0 40) ∧ ((h (g x0 40) 3 ≤ x6 → K x5 g h) ∧ (¬ h (g x0 40) 3 ≤ x6 → mf_MT C l 1 YX12_standsOn [(2, x0), (0, x1), (0, x6)] n n g h (fun r4 g5 h6 => ((¬ r4 = (-1) → JX12_trim_88 C l d n K x0 x1 x4 x5 x6 g5 h6) ∧ (r4 = (-1) → (∀ v7 : Int, v7 = mf_w32 (x6 + 1) → JX12_trim_63 C l d n K x0 x1 x4 x5 v7 g5 h6))))))) : JX12_trim_63 C l d n K x0 x1 x4 x5 x6 g h := by
  refine mf_iload (mf_dat eX12_trim_p0 42 rfl) rfl ?_
  refine mf_aload_n (mf_dat eX12_trim_p0 43 rfl) rfl rfl ?_
  obtain ⟨ck1, hyp⟩ := hyp
  refine mf_getf (r := (RX12, TX12, 106)) (ci := 12) (k := 40) (t := 2) (v := g x0 40) (mf_dat eX12_trim_p0 44 rfl) fl_X12_105 rfl (by decide) rfl rfl ck1 ?_
  refine mf_iconst (v := 3) (mf_dat eX12_trim_p0 45 rfl) (by decide) ?_
  obtain ⟨ck2, hyp⟩ := hyp
  obtain ⟨ck3, hyp⟩ := hyp
  refine mf_iald (mf_dat eX12_trim_p0 46 rfl) ck2 (by decide) ck3 ?_
  refine mf_icmp_ge (tgt := 146) (mf_dat eX12_trim_p0 47 rfl) (by decide) (fun hc => ?_) (fun hc => ?_)
  · replace hyp := hyp.1 hc
    refine mf_iload (mf_dat eX12_trim_p1 23 rfl) rfl ?_
    exact mf_ireturn (mf_dat eX12_trim_p1 24 rfl) rfl (Or.inl rfl) hyp
  · replace hyp := hyp.2 hc
    refine mf_aload_n (mf_dat eX12_trim_p0 48 rfl) rfl rfl ?_
    refine mf_iload_n (mf_dat eX12_trim_p0 49 rfl) rfl rfl ?_
    refine mf_iload (mf_dat eX12_trim_p0 50 rfl) rfl ?_
    refine mf_callV (Yc := YX12_standsOn) (r := (RX12, TX12, 106)) (ci := 12) (mf_dat eX12_trim_p0 51 rfl) ml_X12_484 okX12_standsOn im_X12_standsOn sl_X12_standsOn rfl rfl rfl rfl (Nat.le_of_ble_eq_true rfl) (mf_rr (Nat.le_trans (by decide) hd) (Nat.le_refl _)) (Nat.le_refl _) ck1 hyp (fun r4 g5 h6 hyp => ?_)
    refine mf_iconst (v := (-1)) (mf_dat eX12_trim_p0 52 rfl) (by decide) ?_
    refine mf_icmp_ne (tgt := 88) (mf_dat eX12_trim_p0 53 rfl) (by decide) (fun hc => ?_) (fun hc => ?_)
    · replace hyp := hyp.1 hc
      exact mf_sub [0, 1, 2, 3, 4] rfl hyp
    · replace hyp := hyp.2 hc
      refine mf_goto (tgt := 140) (mf_dat eX12_trim_p0 54 rfl) (by decide) ?_
      refine mf_iinc (mf_dat eX12_trim_p1 21 rfl) rfl (by decide) (by decide) ?_
      generalize qv7 : mf_w32 (x6 + 1) = v7
      replace hyp := hyp _ qv7.symm
      refine mf_goto (tgt := 63) (mf_dat eX12_trim_p1 22 rfl) (by decide) ?_
      exact mf_sub [1, 2, 3, 4, 0] rfl hyp
set_option maxRecDepth 100000 in
set_option maxHeartbeats 4000000 in
theorem bX12_trim_88 {C : mf_G} {l : Launch} {d n : Nat} {K : mf_Kt} {x0 x1 x4 x5 x6 : Int} {g h : mf_M} (hd : 2 ≤ d) (hyp : ((x4 < 0 → ((0 ≤ x4 → (∀ v1 : Int, v1 = mf_w32 (x5 + (mf_w32 (x6 - x4))) → (∀ v2 : Int, v2 = mf_w32 (x4 + (-1)) → (∀ v3 : Int, v3 = mf_w32 (x6 + 1) → JX12_trim_63 C l d n K x0 x1 v2 v1 v3 g h)))) ∧ (¬ 0 ≤ x4 → K (-1) g h))) ∧ (¬ x4 < 0 → mf_is n x0 12 ∧ mf_MT C l 0 YX12_hasGloss [(2, x0), (0, x1), (0, x4)] n n g h (fun r4 g5 h6 => ((¬ r4 = 0 → (∀ v8 : Int, v8 = mf_w32 (x4 + (-1)) → JX12_trim_88 C l d n K x0 x1 v8 x5 x6 g5 h6)) ∧ (r4 = 0 → mf_MT C l 1 YX12_standsOn [(2, x0), (0, x1), (0, x4)] n n g5 h6 (fun r9 g10 h11 => ((r9 = (-1) → ((0 ≤ x4 → (∀ v12 : Int, v12 = mf_w32 (x5 + (mf_w32 (x6 - x4))) → (∀ v13 : Int, v13 = mf_w32 (x4 + (-1)) → (∀ v14 : Int, v14 = mf_w32 (x6 + 1) → JX12_trim_63 C l d n K x0 x1 v13 v12 v14 g10 h11)))) ∧ (¬ 0 ≤ x4 → K (-1) g10 h11))) ∧ (¬ r9 = (-1) → (∀ v15 : Int, v15 = mf_w32 (x4 + (-1)) → JX12_trim_88 C l d n K x0 x1 v15 x5 x6 g10 h11)))))))))) : JX12_trim_88 C l d n K x0 x1 x4 x5 x6 g h := by
  refine mf_iload (mf_dat eX12_trim_p0 55 rfl) rfl ?_
  refine mf_if_lt (tgt := 120) (mf_dat eX12_trim_p0 56 rfl) (by decide) (fun hc => ?_) (fun hc => ?_)
  · replace hyp := hyp.1 hc
    refine mf_iload (mf_dat eX12_trim_p1 10 rfl) rfl ?_
    refine mf_if_ge (tgt := 127) (mf_dat eX12_trim_p1 11 rfl) (by decide) (fun hc => ?_) (fun hc => ?_)
    · replace hyp := hyp.1 hc
      refine mf_iload (mf_dat eX12_trim_p1 14 rfl) rfl ?_
      refine mf_iload (mf_dat eX12_trim_p1 15 rfl) rfl ?_
      refine mf_iload (mf_dat eX12_trim_p1 16 rfl) rfl ?_
      refine mf_isub (mf_dat eX12_trim_p1 17 rfl) ?_
      refine mf_iadd (mf_dat eX12_trim_p1 18 rfl) ?_
      generalize qv1 : mf_w32 (x5 + (mf_w32 (x6 - x4))) = v1
      replace hyp := hyp _ qv1.symm
      refine mf_istore (mf_dat eX12_trim_p1 19 rfl) (by decide) ?_
      refine mf_iinc (mf_dat eX12_trim_p1 20 rfl) rfl (by decide) (by decide) ?_
      generalize qv2 : mf_w32 (x4 + (-1)) = v2
      replace hyp := hyp _ qv2.symm
      refine mf_iinc (mf_dat eX12_trim_p1 21 rfl) rfl (by decide) (by decide) ?_
      generalize qv3 : mf_w32 (x6 + 1) = v3
      replace hyp := hyp _ qv3.symm
      refine mf_goto (tgt := 63) (mf_dat eX12_trim_p1 22 rfl) (by decide) ?_
      exact mf_sub [3, 4, 1, 2, 0] rfl hyp
    · replace hyp := hyp.2 hc
      refine mf_iconst (v := (-1)) (mf_dat eX12_trim_p1 12 rfl) (by decide) ?_
      exact mf_ireturn (mf_dat eX12_trim_p1 13 rfl) rfl (Or.inl rfl) hyp
  · replace hyp := hyp.2 hc
    refine mf_aload_n (mf_dat eX12_trim_p0 57 rfl) rfl rfl ?_
    refine mf_iload_n (mf_dat eX12_trim_p0 58 rfl) rfl rfl ?_
    refine mf_iload (mf_dat eX12_trim_p0 59 rfl) rfl ?_
    obtain ⟨ck7, hyp⟩ := hyp
    refine mf_callV (Yc := YX12_hasGloss) (r := (RX12, TX12, 106)) (ci := 12) (mf_dat eX12_trim_p1 0 rfl) ml_X12_481 okX12_hasGloss im_X12_hasGloss sl_X12_hasGloss rfl rfl rfl rfl (Nat.le_of_ble_eq_true rfl) (mf_rr (Nat.le_trans (by decide) hd) (Nat.le_refl _)) (Nat.le_refl _) ck7 hyp (fun r4 g5 h6 hyp => ?_)
    refine mf_if_ne (tgt := 114) (mf_dat eX12_trim_p1 1 rfl) (by decide) (fun hc => ?_) (fun hc => ?_)
    · replace hyp := hyp.1 hc
      refine mf_iinc (mf_dat eX12_trim_p1 8 rfl) rfl (by decide) (by decide) ?_
      generalize qv8 : mf_w32 (x4 + (-1)) = v8
      replace hyp := hyp _ qv8.symm
      refine mf_goto (tgt := 88) (mf_dat eX12_trim_p1 9 rfl) (by decide) ?_
      exact mf_sub [1, 2, 0, 3, 4] rfl hyp
    · replace hyp := hyp.2 hc
      refine mf_aload_n (mf_dat eX12_trim_p1 2 rfl) rfl rfl ?_
      refine mf_iload_n (mf_dat eX12_trim_p1 3 rfl) rfl rfl ?_
      refine mf_iload (mf_dat eX12_trim_p1 4 rfl) rfl ?_
      refine mf_callV (Yc := YX12_standsOn) (r := (RX12, TX12, 106)) (ci := 12) (mf_dat eX12_trim_p1 5 rfl) ml_X12_484 okX12_standsOn im_X12_standsOn sl_X12_standsOn rfl rfl rfl rfl (Nat.le_of_ble_eq_true rfl) (mf_rr (Nat.le_trans (by decide) hd) (Nat.le_refl _)) (Nat.le_refl _) ck7 hyp (fun r9 g10 h11 hyp => ?_)
      refine mf_iconst (v := (-1)) (mf_dat eX12_trim_p1 6 rfl) (by decide) ?_
      refine mf_icmp_eq (tgt := 120) (mf_dat eX12_trim_p1 7 rfl) (by decide) (fun hc => ?_) (fun hc => ?_)
      · replace hyp := hyp.1 hc
        refine mf_iload (mf_dat eX12_trim_p1 10 rfl) rfl ?_
        refine mf_if_ge (tgt := 127) (mf_dat eX12_trim_p1 11 rfl) (by decide) (fun hc => ?_) (fun hc => ?_)
        · replace hyp := hyp.1 hc
          refine mf_iload (mf_dat eX12_trim_p1 14 rfl) rfl ?_
          refine mf_iload (mf_dat eX12_trim_p1 15 rfl) rfl ?_
          refine mf_iload (mf_dat eX12_trim_p1 16 rfl) rfl ?_
          refine mf_isub (mf_dat eX12_trim_p1 17 rfl) ?_
          refine mf_iadd (mf_dat eX12_trim_p1 18 rfl) ?_
          generalize qv12 : mf_w32 (x5 + (mf_w32 (x6 - x4))) = v12
          replace hyp := hyp _ qv12.symm
          refine mf_istore (mf_dat eX12_trim_p1 19 rfl) (by decide) ?_
          refine mf_iinc (mf_dat eX12_trim_p1 20 rfl) rfl (by decide) (by decide) ?_
          generalize qv13 : mf_w32 (x4 + (-1)) = v13
          replace hyp := hyp _ qv13.symm
          refine mf_iinc (mf_dat eX12_trim_p1 21 rfl) rfl (by decide) (by decide) ?_
          generalize qv14 : mf_w32 (x6 + 1) = v14
          replace hyp := hyp _ qv14.symm
          refine mf_goto (tgt := 63) (mf_dat eX12_trim_p1 22 rfl) (by decide) ?_
          exact mf_sub [3, 4, 1, 2, 0] rfl hyp
        · replace hyp := hyp.2 hc
          refine mf_iconst (v := (-1)) (mf_dat eX12_trim_p1 12 rfl) (by decide) ?_
          exact mf_ireturn (mf_dat eX12_trim_p1 13 rfl) rfl (Or.inl rfl) hyp
      · replace hyp := hyp.2 hc
        refine mf_iinc (mf_dat eX12_trim_p1 8 rfl) rfl (by decide) (by decide) ?_
        generalize qv15 : mf_w32 (x4 + (-1)) = v15
        replace hyp := hyp _ qv15.symm
        refine mf_goto (tgt := 88) (mf_dat eX12_trim_p1 9 rfl) (by decide) ?_
        exact mf_sub [1, 2, 0, 3, 4] rfl hyp
set_option maxRecDepth 100000 in
set_option maxHeartbeats 4000000 in
theorem mX12_trim {C : mf_G} {l : Launch} {d n : Nat} {K : mf_Kt} {x0 x1 x2 : Int} {g h : mf_M} (hd : 1 ≤ d) (hyp : mf_is n x0 12 ∧ ((h x0 54 = 0 → K (-1) g h) ∧ (¬ h x0 54 = 0 → mf_MT C l 0 YX12_leaves [(2, x0)] n n g h (fun r2 g3 h4 => mf_MT C l 0 YX12_isIn [(1, x1), (1, 0), (1, mf_w32 (r2 - 1))] n n g3 h4 (fun r5 g6 h7 => ((r5 = 0 → K (-1) g6 h7) ∧ (¬ r5 = 0 → mf_is n (g6 x0 40) 20 ∧ 3 < mf_len (g6 x0 40) ∧ mf_MT C l 0 YX12_isIn [(1, x2), (1, 1), (1, mf_w32 ((h7 (g6 x0 40) 3) - 1))] n n g6 h7 (fun r10 g11 h12 => ((¬ r10 = 0 → mf_is n (g11 x0 40) 20 ∧ 3 < mf_len (g11 x0 40) ∧ (∀ v15 : Int, v15 = mf_w32 ((h12 (g11 x0 40) 3) - x2) → (∀ v16 : Int, v16 = mf_w32 (v15 - 1) → JX12_trim_63 C l d n K x0 x1 v16 0 v15 g11 h12))) ∧ (r10 = 0 → K (-1) g11 h12)))))))))) : mf_MT C l d YX12_trim [(2, x0), (0, x1), (0, x2)] n n g h K := by
  refine mf_entry (by decide) (Nat.le_of_ble_eq_true rfl) ?_
  refine mf_aload_n (mf_dat eX12_trim_p0 0 rfl) rfl rfl ?_
  obtain ⟨ck1, hyp⟩ := hyp
  refine mf_getf (r := (RX12, TX12, 106)) (ci := 12) (k := 54) (t := 0) (v := h x0 54) (mf_dat eX12_trim_p0 1 rfl) fl_X12_389 rfl (by decide) rfl rfl ck1 ?_
  refine mf_if_eq (tgt := 41) (mf_dat eX12_trim_p0 2 rfl) (by decide) (fun hc => ?_) (fun hc => ?_)
  · replace hyp := hyp.1 hc
    refine mf_iconst (v := (-1)) (mf_dat eX12_trim_p0 25 rfl) (by decide) ?_
    exact mf_ireturn (mf_dat eX12_trim_p0 26 rfl) rfl (Or.inl rfl) hyp
  · replace hyp := hyp.2 hc
    refine mf_iload_n (mf_dat eX12_trim_p0 3 rfl) rfl rfl ?_
    refine mf_i2l (mf_dat eX12_trim_p0 4 rfl) ?_
    refine mf_lconst (v := 0) (mf_dat eX12_trim_p0 5 rfl) (by decide) ?_
    refine mf_aload_n (mf_dat eX12_trim_p0 6 rfl) rfl rfl ?_
    refine mf_callV (Yc := YX12_leaves) (r := (RX12, TX12, 106)) (ci := 12) (mf_dat eX12_trim_p0 7 rfl) ml_X12_405 okX12_leaves im_X12_leaves sl_X12_leaves rfl rfl rfl rfl (Nat.le_of_ble_eq_true rfl) (mf_rr (Nat.le_trans (by decide) hd) (Nat.le_refl _)) (Nat.le_refl _) ck1 hyp (fun r2 g3 h4 hyp => ?_)
    refine mf_iconst (v := 1) (mf_dat eX12_trim_p0 8 rfl) (by decide) ?_
    refine mf_isub (mf_dat eX12_trim_p0 9 rfl) ?_
    refine mf_i2l (mf_dat eX12_trim_p0 10 rfl) ?_
    refine mf_callS (Yc := YX12_isIn) (mf_dat eX12_trim_p0 11 rfl) ml_X12_286 okX12_isIn sm_X12_isIn rfl rfl (Nat.le_of_ble_eq_true rfl) (mf_rr (Nat.le_trans (by decide) hd) (Nat.le_refl _)) (Nat.le_refl _) hyp (fun r5 g6 h7 hyp => ?_)
    refine mf_if_eq (tgt := 41) (mf_dat eX12_trim_p0 12 rfl) (by decide) (fun hc => ?_) (fun hc => ?_)
    · replace hyp := hyp.1 hc
      refine mf_iconst (v := (-1)) (mf_dat eX12_trim_p0 25 rfl) (by decide) ?_
      exact mf_ireturn (mf_dat eX12_trim_p0 26 rfl) rfl (Or.inl rfl) hyp
    · replace hyp := hyp.2 hc
      refine mf_iload_n (mf_dat eX12_trim_p0 13 rfl) rfl rfl ?_
      refine mf_i2l (mf_dat eX12_trim_p0 14 rfl) ?_
      refine mf_lconst (v := 1) (mf_dat eX12_trim_p0 15 rfl) (by decide) ?_
      refine mf_aload_n (mf_dat eX12_trim_p0 16 rfl) rfl rfl ?_
      refine mf_getf (r := (RX12, TX12, 106)) (ci := 12) (k := 40) (t := 2) (v := g6 x0 40) (mf_dat eX12_trim_p0 17 rfl) fl_X12_105 rfl (by decide) rfl rfl ck1 ?_
      refine mf_iconst (v := 3) (mf_dat eX12_trim_p0 18 rfl) (by decide) ?_
      obtain ⟨ck8, hyp⟩ := hyp
      obtain ⟨ck9, hyp⟩ := hyp
      refine mf_iald (mf_dat eX12_trim_p0 19 rfl) ck8 (by decide) ck9 ?_
      refine mf_iconst (v := 1) (mf_dat eX12_trim_p0 20 rfl) (by decide) ?_
      refine mf_isub (mf_dat eX12_trim_p0 21 rfl) ?_
      refine mf_i2l (mf_dat eX12_trim_p0 22 rfl) ?_
      refine mf_callS (Yc := YX12_isIn) (mf_dat eX12_trim_p0 23 rfl) ml_X12_286 okX12_isIn sm_X12_isIn rfl rfl (Nat.le_of_ble_eq_true rfl) (mf_rr (Nat.le_trans (by decide) hd) (Nat.le_refl _)) (Nat.le_refl _) hyp (fun r10 g11 h12 hyp => ?_)
      refine mf_if_ne (tgt := 43) (mf_dat eX12_trim_p0 24 rfl) (by decide) (fun hc => ?_) (fun hc => ?_)
      · replace hyp := hyp.1 hc
        refine mf_aload_n (mf_dat eX12_trim_p0 27 rfl) rfl rfl ?_
        refine mf_getf (r := (RX12, TX12, 106)) (ci := 12) (k := 40) (t := 2) (v := g11 x0 40) (mf_dat eX12_trim_p0 28 rfl) fl_X12_105 rfl (by decide) rfl rfl ck1 ?_
        refine mf_iconst (v := 3) (mf_dat eX12_trim_p0 29 rfl) (by decide) ?_
        obtain ⟨ck13, hyp⟩ := hyp
        obtain ⟨ck14, hyp⟩ := hyp
        refine mf_iald (mf_dat eX12_trim_p0 30 rfl) ck13 (by decide) ck14 ?_
        refine mf_iload_n (mf_dat eX12_trim_p0 31 rfl) rfl rfl ?_
        refine mf_isub (mf_dat eX12_trim_p0 32 rfl) ?_
        generalize qv15 : mf_w32 ((h12 (g11 x0 40) 3) - x2) = v15
        replace hyp := hyp _ qv15.symm
        refine mf_istore_n (mf_dat eX12_trim_p0 33 rfl) rfl (by decide) ?_
        refine mf_iload_n (mf_dat eX12_trim_p0 34 rfl) rfl rfl ?_
        refine mf_iconst (v := 1) (mf_dat eX12_trim_p0 35 rfl) (by decide) ?_
        refine mf_isub (mf_dat eX12_trim_p0 36 rfl) ?_
        generalize qv16 : mf_w32 (v15 - 1) = v16
        replace hyp := hyp _ qv16.symm
        refine mf_istore (mf_dat eX12_trim_p0 37 rfl) (by decide) ?_
        refine mf_iconst (v := 0) (mf_dat eX12_trim_p0 38 rfl) (by decide) ?_
        refine mf_istore (mf_dat eX12_trim_p0 39 rfl) (by decide) ?_
        refine mf_iload_n (mf_dat eX12_trim_p0 40 rfl) rfl rfl ?_
        refine mf_istore (mf_dat eX12_trim_p0 41 rfl) (by decide) ?_
        exact mf_sub [4, 5, 2, 1, 0] rfl hyp
      · replace hyp := hyp.2 hc
        refine mf_iconst (v := (-1)) (mf_dat eX12_trim_p0 25 rfl) (by decide) ?_
        exact mf_ireturn (mf_dat eX12_trim_p0 26 rfl) rfl (Or.inl rfl) hyp
abbrev JX12_keeps_15 (C : mf_G) (l : Launch) (d n : Nat) (K : mf_Kt) (x0 x1 : Int) (g h : mf_M) : Prop := mf_AW C l YX12_keeps (mf_rm d n n) n (mf_Zm C YX12_keeps n n K) (fun _ _ => True) 15 [(0, (2, x0)), (1, (0, x1))] [] n g h
set_option maxRecDepth 100000 in
set_option maxHeartbeats 4000000 in
theorem bX12_keeps_15 {C : mf_G} {l : Launch} {d n : Nat} {K : mf_Kt} {x0 x1 : Int} {g h : mf_M} (hyp : ((160 ≤ x1 → mf_is n x0 12 ∧ ((20 ≤ h x0 69 → K 0 g h) ∧ (¬ 20 ≤ h x0 69 → (∀ h2 : mf_M, h2 = mf_up h x0 69 (mf_w32 ((h x0 69) + 1)) → K 0 g h2)))) ∧ (¬ 160 ≤ x1 → mf_is n x0 12 ∧ mf_is n (g x0 56) 20 ∧ 0 ≤ x1 ∧ x1 < mf_len (g x0 56) ∧ mf_is n (g x0 68) 20 ∧ 0 ≤ mf_w32 ((mf_w32 (160 * (h x0 70))) + x1) ∧ mf_w32 ((mf_w32 (160 * (h x0 70))) + x1) < mf_len (g x0 68) ∧ (∀ h10 : mf_M, h10 = mf_up h (g x0 68) (mf_w32 ((mf_w32 (160 * (h x0 70))) + x1)) (h (g x0 56) x1) → (∀ v11 : Int, v11 = mf_w32 (x1 + 1) → JX12_keeps_15 C l d n K x0 v11 g h10))))) : JX12_keeps_15 C l d n K x0 x1 g h := by
  refine mf_iload_n (mf_dat eX12_keeps 10 rfl) rfl rfl ?_
  refine mf_sipush (v := 160) (mf_dat eX12_keeps 11 rfl) (by decide) ?_
  refine mf_icmp_ge (tgt := 49) (mf_dat eX12_keeps 12 rfl) (by decide) (fun hc => ?_) (fun hc => ?_)
  · replace hyp := hyp.1 hc
    refine mf_aload_n (mf_dat eX12_keeps 28 rfl) rfl rfl ?_
    obtain ⟨ck1, hyp⟩ := hyp
    refine mf_getf (r := (RX12, TX12, 106)) (ci := 12) (k := 69) (t := 0) (v := h x0 69) (mf_dat eX12_keeps 29 rfl) fl_X12_396 rfl (by decide) rfl rfl ck1 ?_
    refine mf_bipush (v := 20) (mf_dat eX12_keeps 30 rfl) (by decide) ?_
    refine mf_icmp_ge (tgt := 68) (mf_dat eX12_keeps 31 rfl) (by decide) (fun hc => ?_) (fun hc => ?_)
    · replace hyp := hyp.1 hc
      exact mf_return (mf_dat eX12_keeps 38 rfl) rfl hyp
    · replace hyp := hyp.2 hc
      refine mf_aload_n (mf_dat eX12_keeps 32 rfl) rfl rfl ?_
      refine mf_dup (mf_dat eX12_keeps 33 rfl) (by decide) ?_
      refine mf_getf (r := (RX12, TX12, 106)) (ci := 12) (k := 69) (t := 0) (v := h x0 69) (mf_dat eX12_keeps 34 rfl) fl_X12_396 rfl (by decide) rfl rfl ck1 ?_
      refine mf_iconst (v := 1) (mf_dat eX12_keeps 35 rfl) (by decide) ?_
      refine mf_iadd (mf_dat eX12_keeps 36 rfl) ?_
      refine mf_putI (r := (RX12, TX12, 106)) (ci := 12) (k := 69) (kI := 69) (t := 0) (mf_dat eX12_keeps 37 rfl) fl_X12_396 rfl rfl (by decide) rfl (by decide) rfl (by decide) (fun h9 => absurd h9 (by decide)) ck1 ?_
      generalize qh2 : mf_up h x0 69 (mf_w32 ((h x0 69) + 1)) = h2
      replace hyp := hyp _ qh2.symm
      exact mf_return (mf_dat eX12_keeps 38 rfl) rfl hyp
  · replace hyp := hyp.2 hc
    refine mf_aload_n (mf_dat eX12_keeps 13 rfl) rfl rfl ?_
    obtain ⟨ck3, hyp⟩ := hyp
    refine mf_getf (r := (RX12, TX12, 106)) (ci := 12) (k := 68) (t := 2) (v := g x0 68) (mf_dat eX12_keeps 14 rfl) fl_X12_155 rfl (by decide) rfl rfl ck3 ?_
    refine mf_sipush (v := 160) (mf_dat eX12_keeps 15 rfl) (by decide) ?_
    refine mf_aload_n (mf_dat eX12_keeps 16 rfl) rfl rfl ?_
    refine mf_getf (r := (RX12, TX12, 106)) (ci := 12) (k := 70) (t := 0) (v := h x0 70) (mf_dat eX12_keeps 17 rfl) fl_X12_555 rfl (by decide) rfl rfl ck3 ?_
    refine mf_imul (mf_dat eX12_keeps 18 rfl) ?_
    refine mf_iload_n (mf_dat eX12_keeps 19 rfl) rfl rfl ?_
    refine mf_iadd (mf_dat eX12_keeps 20 rfl) ?_
    refine mf_aload_n (mf_dat eX12_keeps 21 rfl) rfl rfl ?_
    refine mf_getf (r := (RX12, TX12, 106)) (ci := 12) (k := 56) (t := 2) (v := g x0 56) (mf_dat eX12_keeps 22 rfl) fl_X12_136 rfl (by decide) rfl rfl ck3 ?_
    refine mf_iload_n (mf_dat eX12_keeps 23 rfl) rfl rfl ?_
    obtain ⟨ck4, hyp⟩ := hyp
    obtain ⟨ck5, hyp⟩ := hyp
    obtain ⟨ck6, hyp⟩ := hyp
    refine mf_iald (mf_dat eX12_keeps 24 rfl) ck4 ck5 ck6 ?_
    obtain ⟨ck7, hyp⟩ := hyp
    obtain ⟨ck8, hyp⟩ := hyp
    obtain ⟨ck9, hyp⟩ := hyp
    refine mf_iast (mf_dat eX12_keeps 25 rfl) ck7 ck8 ck9 ?_
    generalize qh10 : mf_up h (g x0 68) (mf_w32 ((mf_w32 (160 * (h x0 70))) + x1)) (h (g x0 56) x1) = h10
    replace hyp := hyp _ qh10.symm
    refine mf_iinc (mf_dat eX12_keeps 26 rfl) rfl (by decide) (by decide) ?_
    generalize qv11 : mf_w32 (x1 + 1) = v11
    replace hyp := hyp _ qv11.symm
    refine mf_goto (tgt := 15) (mf_dat eX12_keeps 27 rfl) (by decide) ?_
    exact mf_sub [1, 0] rfl hyp
set_option maxRecDepth 100000 in
set_option maxHeartbeats 4000000 in
theorem mX12_keeps {C : mf_G} {l : Launch} {d n : Nat} {K : mf_Kt} {x0 : Int} {g h : mf_M} (hyp : mf_is n x0 12 ∧ (∀ h2 : mf_M, h2 = mf_up h x0 70 ((mf_w32 ((h x0 70) + 1)).tmod 20) → JX12_keeps_15 C l d n K x0 0 g h2)) : mf_MT C l d YX12_keeps [(2, x0)] n n g h K := by
  refine mf_entry (by decide) (Nat.le_of_ble_eq_true rfl) ?_
  refine mf_aload_n (mf_dat eX12_keeps 0 rfl) rfl rfl ?_
  refine mf_aload_n (mf_dat eX12_keeps 1 rfl) rfl rfl ?_
  obtain ⟨ck1, hyp⟩ := hyp
  refine mf_getf (r := (RX12, TX12, 106)) (ci := 12) (k := 70) (t := 0) (v := h x0 70) (mf_dat eX12_keeps 2 rfl) fl_X12_555 rfl (by decide) rfl rfl ck1 ?_
  refine mf_iconst (v := 1) (mf_dat eX12_keeps 3 rfl) (by decide) ?_
  refine mf_iadd (mf_dat eX12_keeps 4 rfl) ?_
  refine mf_bipush (v := 20) (mf_dat eX12_keeps 5 rfl) (by decide) ?_
  refine mf_irem (mf_dat eX12_keeps 6 rfl) (by decide) ?_
  refine mf_putI (r := (RX12, TX12, 106)) (ci := 12) (k := 70) (kI := 70) (t := 0) (mf_dat eX12_keeps 7 rfl) fl_X12_555 rfl rfl (by decide) rfl (by decide) rfl (by decide) (fun h9 => absurd h9 (by decide)) ck1 ?_
  generalize qh2 : mf_up h x0 70 ((mf_w32 ((h x0 70) + 1)).tmod 20) = h2
  replace hyp := hyp _ qh2.symm
  refine mf_iconst (v := 0) (mf_dat eX12_keeps 8 rfl) (by decide) ?_
  refine mf_istore_n (mf_dat eX12_keeps 9 rfl) rfl (by decide) ?_
  exact mf_sub [1, 0] rfl hyp
abbrev JX12_undo_21 (C : mf_G) (l : Launch) (d n : Nat) (K : mf_Kt) (x0 x1 : Int) (g h : mf_M) : Prop := mf_AW C l YX12_undo (mf_rm d n n) n (mf_Zm C YX12_undo n n K) (fun _ _ => True) 21 [(0, (2, x0)), (1, (0, x1))] [] n g h
set_option maxRecDepth 100000 in
set_option maxHeartbeats 4000000 in
theorem bX12_undo_21 {C : mf_G} {l : Launch} {d n : Nat} {K : mf_Kt} {x0 x1 : Int} {g h : mf_M} (hyp : ((160 ≤ x1 → mf_is n x0 12 ∧ (∀ h2 : mf_M, h2 = mf_up h x0 70 ((mf_w32 ((mf_w32 ((h x0 70) + 20)) - 1)).tmod 20) → (∀ h3 : mf_M, h3 = mf_up h2 x0 69 (mf_w32 ((h2 x0 69) - 1)) → K 1 g h3))) ∧ (¬ 160 ≤ x1 → mf_is n x0 12 ∧ mf_is n (g x0 68) 20 ∧ 0 ≤ mf_w32 ((mf_w32 (160 * (h x0 70))) + x1) ∧ mf_w32 ((mf_w32 (160 * (h x0 70))) + x1) < mf_len (g x0 68) ∧ mf_is n (g x0 56) 20 ∧ 0 ≤ x1 ∧ x1 < mf_len (g x0 56) ∧ (∀ h11 : mf_M, h11 = mf_up h (g x0 56) x1 (h (g x0 68) (mf_w32 ((mf_w32 (160 * (h x0 70))) + x1))) → (∀ v12 : Int, v12 = mf_w32 (x1 + 1) → JX12_undo_21 C l d n K x0 v12 g h11))))) : JX12_undo_21 C l d n K x0 x1 g h := by
  refine mf_iload_n (mf_dat eX12_undo 15 rfl) rfl rfl ?_
  refine mf_sipush (v := 160) (mf_dat eX12_undo 16 rfl) (by decide) ?_
  refine mf_icmp_ge (tgt := 55) (mf_dat eX12_undo 17 rfl) (by decide) (fun hc => ?_) (fun hc => ?_)
  · replace hyp := hyp.1 hc
    refine mf_aload_n (mf_dat eX12_undo 33 rfl) rfl rfl ?_
    refine mf_aload_n (mf_dat eX12_undo 34 rfl) rfl rfl ?_
    obtain ⟨ck1, hyp⟩ := hyp
    refine mf_getf (r := (RX12, TX12, 106)) (ci := 12) (k := 70) (t := 0) (v := h x0 70) (mf_dat eX12_undo 35 rfl) fl_X12_555 rfl (by decide) rfl rfl ck1 ?_
    refine mf_bipush (v := 20) (mf_dat eX12_undo 36 rfl) (by decide) ?_
    refine mf_iadd (mf_dat eX12_undo 37 rfl) ?_
    refine mf_iconst (v := 1) (mf_dat eX12_undo 38 rfl) (by decide) ?_
    refine mf_isub (mf_dat eX12_undo 39 rfl) ?_
    refine mf_bipush (v := 20) (mf_dat eX12_undo 40 rfl) (by decide) ?_
    refine mf_irem (mf_dat eX12_undo 41 rfl) (by decide) ?_
    refine mf_putI (r := (RX12, TX12, 106)) (ci := 12) (k := 70) (kI := 70) (t := 0) (mf_dat eX12_undo 42 rfl) fl_X12_555 rfl rfl (by decide) rfl (by decide) rfl (by decide) (fun h9 => absurd h9 (by decide)) ck1 ?_
    generalize qh2 : mf_up h x0 70 ((mf_w32 ((mf_w32 ((h x0 70) + 20)) - 1)).tmod 20) = h2
    replace hyp := hyp _ qh2.symm
    refine mf_aload_n (mf_dat eX12_undo 43 rfl) rfl rfl ?_
    refine mf_dup (mf_dat eX12_undo 44 rfl) (by decide) ?_
    refine mf_getf (r := (RX12, TX12, 106)) (ci := 12) (k := 69) (t := 0) (v := h2 x0 69) (mf_dat eX12_undo 45 rfl) fl_X12_396 rfl (by decide) rfl rfl ck1 ?_
    refine mf_iconst (v := 1) (mf_dat eX12_undo 46 rfl) (by decide) ?_
    refine mf_isub (mf_dat eX12_undo 47 rfl) ?_
    refine mf_putI (r := (RX12, TX12, 106)) (ci := 12) (k := 69) (kI := 69) (t := 0) (mf_dat eX12_undo 48 rfl) fl_X12_396 rfl rfl (by decide) rfl (by decide) rfl (by decide) (fun h9 => absurd h9 (by decide)) ck1 ?_
    generalize qh3 : mf_up h2 x0 69 (mf_w32 ((h2 x0 69) - 1)) = h3
    replace hyp := hyp _ qh3.symm
    refine mf_iconst (v := 1) (mf_dat eX12_undo 49 rfl) (by decide) ?_
    exact mf_ireturn (mf_dat eX12_undo 50 rfl) rfl (Or.inr ⟨rfl, by decide⟩) hyp
  · replace hyp := hyp.2 hc
    refine mf_aload_n (mf_dat eX12_undo 18 rfl) rfl rfl ?_
    obtain ⟨ck4, hyp⟩ := hyp
    refine mf_getf (r := (RX12, TX12, 106)) (ci := 12) (k := 56) (t := 2) (v := g x0 56) (mf_dat eX12_undo 19 rfl) fl_X12_136 rfl (by decide) rfl rfl ck4 ?_
    refine mf_iload_n (mf_dat eX12_undo 20 rfl) rfl rfl ?_
    refine mf_aload_n (mf_dat eX12_undo 21 rfl) rfl rfl ?_
    refine mf_getf (r := (RX12, TX12, 106)) (ci := 12) (k := 68) (t := 2) (v := g x0 68) (mf_dat eX12_undo 22 rfl) fl_X12_155 rfl (by decide) rfl rfl ck4 ?_
    refine mf_sipush (v := 160) (mf_dat eX12_undo 23 rfl) (by decide) ?_
    refine mf_aload_n (mf_dat eX12_undo 24 rfl) rfl rfl ?_
    refine mf_getf (r := (RX12, TX12, 106)) (ci := 12) (k := 70) (t := 0) (v := h x0 70) (mf_dat eX12_undo 25 rfl) fl_X12_555 rfl (by decide) rfl rfl ck4 ?_
    refine mf_imul (mf_dat eX12_undo 26 rfl) ?_
    refine mf_iload_n (mf_dat eX12_undo 27 rfl) rfl rfl ?_
    refine mf_iadd (mf_dat eX12_undo 28 rfl) ?_
    obtain ⟨ck5, hyp⟩ := hyp
    obtain ⟨ck6, hyp⟩ := hyp
    obtain ⟨ck7, hyp⟩ := hyp
    refine mf_iald (mf_dat eX12_undo 29 rfl) ck5 ck6 ck7 ?_
    obtain ⟨ck8, hyp⟩ := hyp
    obtain ⟨ck9, hyp⟩ := hyp
    obtain ⟨ck10, hyp⟩ := hyp
    refine mf_iast (mf_dat eX12_undo 30 rfl) ck8 ck9 ck10 ?_
    generalize qh11 : mf_up h (g x0 56) x1 (h (g x0 68) (mf_w32 ((mf_w32 (160 * (h x0 70))) + x1))) = h11
    replace hyp := hyp _ qh11.symm
    refine mf_iinc (mf_dat eX12_undo 31 rfl) rfl (by decide) (by decide) ?_
    generalize qv12 : mf_w32 (x1 + 1) = v12
    replace hyp := hyp _ qv12.symm
    refine mf_goto (tgt := 21) (mf_dat eX12_undo 32 rfl) (by decide) ?_
    exact mf_sub [1, 0] rfl hyp
set_option maxRecDepth 100000 in
set_option maxHeartbeats 4000000 in
theorem mX12_undo {C : mf_G} {l : Launch} {d n : Nat} {K : mf_Kt} {x0 : Int} {g h : mf_M} (hyp : mf_is n x0 12 ∧ ((¬ h x0 69 = 0 → JX12_undo_21 C l d n K x0 0 g h) ∧ (h x0 69 = 0 → mf_is n (g x0 9) 20 ∧ 4 < mf_len (g x0 9) ∧ (∀ h4 : mf_M, h4 = mf_up h (g x0 9) 4 (mf_w32 ((h (g x0 9) 4) + 1)) → K 0 g h4)))) : mf_MT C l d YX12_undo [(2, x0)] n n g h K := by
  refine mf_entry (by decide) (Nat.le_of_ble_eq_true rfl) ?_
  refine mf_aload_n (mf_dat eX12_undo 0 rfl) rfl rfl ?_
  obtain ⟨ck1, hyp⟩ := hyp
  refine mf_getf (r := (RX12, TX12, 106)) (ci := 12) (k := 69) (t := 0) (v := h x0 69) (mf_dat eX12_undo 1 rfl) fl_X12_396 rfl (by decide) rfl rfl ck1 ?_
  refine mf_if_ne (tgt := 19) (mf_dat eX12_undo 2 rfl) (by decide) (fun hc => ?_) (fun hc => ?_)
  · replace hyp := hyp.1 hc
    refine mf_iconst (v := 0) (mf_dat eX12_undo 13 rfl) (by decide) ?_
    refine mf_istore_n (mf_dat eX12_undo 14 rfl) rfl (by decide) ?_
    exact mf_sub [1, 0] rfl hyp
  · replace hyp := hyp.2 hc
    refine mf_aload_n (mf_dat eX12_undo 3 rfl) rfl rfl ?_
    refine mf_getf (r := (RX12, TX12, 106)) (ci := 12) (k := 9) (t := 2) (v := g x0 9) (mf_dat eX12_undo 4 rfl) fl_X12_17 rfl (by decide) rfl rfl ck1 ?_
    refine mf_iconst (v := 4) (mf_dat eX12_undo 5 rfl) (by decide) ?_
    refine mf_dup2 (mf_dat eX12_undo 6 rfl) (by decide) (by decide) ?_
    obtain ⟨ck2, hyp⟩ := hyp
    obtain ⟨ck3, hyp⟩ := hyp
    refine mf_iald (mf_dat eX12_undo 7 rfl) ck2 (by decide) ck3 ?_
    refine mf_iconst (v := 1) (mf_dat eX12_undo 8 rfl) (by decide) ?_
    refine mf_iadd (mf_dat eX12_undo 9 rfl) ?_
    refine mf_iast (mf_dat eX12_undo 10 rfl) ck2 (by decide) ck3 ?_
    generalize qh4 : mf_up h (g x0 9) 4 (mf_w32 ((h (g x0 9) 4) + 1)) = h4
    replace hyp := hyp _ qh4.symm
    refine mf_iconst (v := 0) (mf_dat eX12_undo 11 rfl) (by decide) ?_
    exact mf_ireturn (mf_dat eX12_undo 12 rfl) rfl (Or.inr ⟨rfl, by decide⟩) hyp
set_option maxRecDepth 100000 in
set_option maxHeartbeats 4000000 in
theorem mX12_go {C : mf_G} {l : Launch} {d n : Nat} {K : mf_Kt} {x0 x1 x2 x3 : Int} {g h : mf_M} (hd : 2 ≤ d) (hyp : mf_is n x0 12 ∧ mf_MT C l 1 YX12_isBeing [(2, x0), (0, x1)] n n g h (fun r1 g2 h3 => ((r1 = 0 → mf_is n (g2 x0 9) 20 ∧ 2 < mf_len (g2 x0 9) ∧ (∀ h7 : mf_M, h7 = mf_up h3 (g2 x0 9) 2 (mf_w32 ((h3 (g2 x0 9) 2) + 1)) → K 0 g2 h7)) ∧ (¬ r1 = 0 → mf_MT C l 1 YX12_isCell [(2, x0), (0, x2), (0, x3)] n n g2 h3 (fun r8 g9 h10 => ((r8 = 0 → mf_is n (g9 x0 9) 20 ∧ 2 < mf_len (g9 x0 9) ∧ (∀ h13 : mf_M, h13 = mf_up h10 (g9 x0 9) 2 (mf_w32 ((h10 (g9 x0 9) 2) + 1)) → K 0 g9 h13)) ∧ (¬ r8 = 0 → mf_MT C l 0 YX12_hasGloss [(2, x0), (0, x2), (0, x3)] n n g9 h10 (fun r14 g15 h16 => ((¬ r14 = 0 → mf_is n (g15 x0 9) 20 ∧ 2 < mf_len (g15 x0 9) ∧ (∀ h19 : mf_M, h19 = mf_up h16 (g15 x0 9) 2 (mf_w32 ((h16 (g15 x0 9) 2) + 1)) → K 0 g15 h19)) ∧ (r14 = 0 → mf_MT C l 1 YX12_standsOn [(2, x0), (0, x2), (0, x3)] n n g15 h16 (fun r20 g21 h22 => ((r20 = (-1) → mf_MT C l 0 YX12_keeps [(2, x0)] n n g21 h22 (fun r23 g24 h25 => mf_is n (g24 x0 56) 20 ∧ 0 ≤ mf_w32 (7 + (mf_w32 (4 * x1))) ∧ mf_w32 (7 + (mf_w32 (4 * x1))) < mf_len (g24 x0 56) ∧ (∀ h29 : mf_M, h29 = mf_up h25 (g24 x0 56) (mf_w32 (7 + (mf_w32 (4 * x1)))) x2 → 0 ≤ mf_w32 ((mf_w32 (7 + (mf_w32 (4 * x1)))) + 1) ∧ mf_w32 ((mf_w32 (7 + (mf_w32 (4 * x1)))) + 1) < mf_len (g24 x0 56) ∧ (∀ h32 : mf_M, h32 = mf_up h29 (g24 x0 56) (mf_w32 ((mf_w32 (7 + (mf_w32 (4 * x1)))) + 1)) x3 → K 1 g24 h32)))) ∧ (¬ r20 = (-1) → mf_is n (g21 x0 9) 20 ∧ 2 < mf_len (g21 x0 9) ∧ (∀ h35 : mf_M, h35 = mf_up h22 (g21 x0 9) 2 (mf_w32 ((h22 (g21 x0 9) 2) + 1)) → K 0 g21 h35)))))))))))))) : mf_MT C l d YX12_go [(2, x0), (0, x1), (0, x2), (0, x3)] n n g h K := by
  refine mf_entry (by decide) (Nat.le_of_ble_eq_true rfl) ?_
  refine mf_aload_n (mf_dat eX12_go 0 rfl) rfl rfl ?_
  refine mf_iload_n (mf_dat eX12_go 1 rfl) rfl rfl ?_
  obtain ⟨ck4, hyp⟩ := hyp
  refine mf_callV (Yc := YX12_isBeing) (r := (RX12, TX12, 106)) (ci := 12) (mf_dat eX12_go 2 rfl) ml_X12_502 okX12_isBeing im_X12_isBeing sl_X12_isBeing rfl rfl rfl rfl (Nat.le_of_ble_eq_true rfl) (mf_rr (Nat.le_trans (by decide) hd) (Nat.le_refl _)) (Nat.le_refl _) ck4 hyp (fun r1 g2 h3 hyp => ?_)
  refine mf_if_eq (tgt := 36) (mf_dat eX12_go 3 rfl) (by decide) (fun hc => ?_) (fun hc => ?_)
  · replace hyp := hyp.1 hc
    refine mf_aload_n (mf_dat eX12_go 20 rfl) rfl rfl ?_
    refine mf_getf (r := (RX12, TX12, 106)) (ci := 12) (k := 9) (t := 2) (v := g2 x0 9) (mf_dat eX12_go 21 rfl) fl_X12_17 rfl (by decide) rfl rfl ck4 ?_
    refine mf_iconst (v := 2) (mf_dat eX12_go 22 rfl) (by decide) ?_
    refine mf_dup2 (mf_dat eX12_go 23 rfl) (by decide) (by decide) ?_
    obtain ⟨ck5, hyp⟩ := hyp
    obtain ⟨ck6, hyp⟩ := hyp
    refine mf_iald (mf_dat eX12_go 24 rfl) ck5 (by decide) ck6 ?_
    refine mf_iconst (v := 1) (mf_dat eX12_go 25 rfl) (by decide) ?_
    refine mf_iadd (mf_dat eX12_go 26 rfl) ?_
    refine mf_iast (mf_dat eX12_go 27 rfl) ck5 (by decide) ck6 ?_
    generalize qh7 : mf_up h3 (g2 x0 9) 2 (mf_w32 ((h3 (g2 x0 9) 2) + 1)) = h7
    replace hyp := hyp _ qh7.symm
    refine mf_iconst (v := 0) (mf_dat eX12_go 28 rfl) (by decide) ?_
    exact mf_ireturn (mf_dat eX12_go 29 rfl) rfl (Or.inr ⟨rfl, by decide⟩) hyp
  · replace hyp := hyp.2 hc
    refine mf_aload_n (mf_dat eX12_go 4 rfl) rfl rfl ?_
    refine mf_iload_n (mf_dat eX12_go 5 rfl) rfl rfl ?_
    refine mf_iload_n (mf_dat eX12_go 6 rfl) rfl rfl ?_
    refine mf_callV (Yc := YX12_isCell) (r := (RX12, TX12, 106)) (ci := 12) (mf_dat eX12_go 7 rfl) ml_X12_507 okX12_isCell im_X12_isCell sl_X12_isCell rfl rfl rfl rfl (Nat.le_of_ble_eq_true rfl) (mf_rr (Nat.le_trans (by decide) hd) (Nat.le_refl _)) (Nat.le_refl _) ck4 hyp (fun r8 g9 h10 hyp => ?_)
    refine mf_if_eq (tgt := 36) (mf_dat eX12_go 8 rfl) (by decide) (fun hc => ?_) (fun hc => ?_)
    · replace hyp := hyp.1 hc
      refine mf_aload_n (mf_dat eX12_go 20 rfl) rfl rfl ?_
      refine mf_getf (r := (RX12, TX12, 106)) (ci := 12) (k := 9) (t := 2) (v := g9 x0 9) (mf_dat eX12_go 21 rfl) fl_X12_17 rfl (by decide) rfl rfl ck4 ?_
      refine mf_iconst (v := 2) (mf_dat eX12_go 22 rfl) (by decide) ?_
      refine mf_dup2 (mf_dat eX12_go 23 rfl) (by decide) (by decide) ?_
      obtain ⟨ck11, hyp⟩ := hyp
      obtain ⟨ck12, hyp⟩ := hyp
      refine mf_iald (mf_dat eX12_go 24 rfl) ck11 (by decide) ck12 ?_
      refine mf_iconst (v := 1) (mf_dat eX12_go 25 rfl) (by decide) ?_
      refine mf_iadd (mf_dat eX12_go 26 rfl) ?_
      refine mf_iast (mf_dat eX12_go 27 rfl) ck11 (by decide) ck12 ?_
      generalize qh13 : mf_up h10 (g9 x0 9) 2 (mf_w32 ((h10 (g9 x0 9) 2) + 1)) = h13
      replace hyp := hyp _ qh13.symm
      refine mf_iconst (v := 0) (mf_dat eX12_go 28 rfl) (by decide) ?_
      exact mf_ireturn (mf_dat eX12_go 29 rfl) rfl (Or.inr ⟨rfl, by decide⟩) hyp
    · replace hyp := hyp.2 hc
      refine mf_aload_n (mf_dat eX12_go 9 rfl) rfl rfl ?_
      refine mf_iload_n (mf_dat eX12_go 10 rfl) rfl rfl ?_
      refine mf_iload_n (mf_dat eX12_go 11 rfl) rfl rfl ?_
      refine mf_callV (Yc := YX12_hasGloss) (r := (RX12, TX12, 106)) (ci := 12) (mf_dat eX12_go 12 rfl) ml_X12_481 okX12_hasGloss im_X12_hasGloss sl_X12_hasGloss rfl rfl rfl rfl (Nat.le_of_ble_eq_true rfl) (mf_rr (Nat.le_trans (by decide) hd) (Nat.le_refl _)) (Nat.le_refl _) ck4 hyp (fun r14 g15 h16 hyp => ?_)
      refine mf_if_ne (tgt := 36) (mf_dat eX12_go 13 rfl) (by decide) (fun hc => ?_) (fun hc => ?_)
      · replace hyp := hyp.1 hc
        refine mf_aload_n (mf_dat eX12_go 20 rfl) rfl rfl ?_
        refine mf_getf (r := (RX12, TX12, 106)) (ci := 12) (k := 9) (t := 2) (v := g15 x0 9) (mf_dat eX12_go 21 rfl) fl_X12_17 rfl (by decide) rfl rfl ck4 ?_
        refine mf_iconst (v := 2) (mf_dat eX12_go 22 rfl) (by decide) ?_
        refine mf_dup2 (mf_dat eX12_go 23 rfl) (by decide) (by decide) ?_
        obtain ⟨ck17, hyp⟩ := hyp
        obtain ⟨ck18, hyp⟩ := hyp
        refine mf_iald (mf_dat eX12_go 24 rfl) ck17 (by decide) ck18 ?_
        refine mf_iconst (v := 1) (mf_dat eX12_go 25 rfl) (by decide) ?_
        refine mf_iadd (mf_dat eX12_go 26 rfl) ?_
        refine mf_iast (mf_dat eX12_go 27 rfl) ck17 (by decide) ck18 ?_
        generalize qh19 : mf_up h16 (g15 x0 9) 2 (mf_w32 ((h16 (g15 x0 9) 2) + 1)) = h19
        replace hyp := hyp _ qh19.symm
        refine mf_iconst (v := 0) (mf_dat eX12_go 28 rfl) (by decide) ?_
        exact mf_ireturn (mf_dat eX12_go 29 rfl) rfl (Or.inr ⟨rfl, by decide⟩) hyp
      · replace hyp := hyp.2 hc
        refine mf_aload_n (mf_dat eX12_go 14 rfl) rfl rfl ?_
        refine mf_iload_n (mf_dat eX12_go 15 rfl) rfl rfl ?_
        refine mf_iload_n (mf_dat eX12_go 16 rfl) rfl rfl ?_
        refine mf_callV (Yc := YX12_standsOn) (r := (RX12, TX12, 106)) (ci := 12) (mf_dat eX12_go 17 rfl) ml_X12_484 okX12_standsOn im_X12_standsOn sl_X12_standsOn rfl rfl rfl rfl (Nat.le_of_ble_eq_true rfl) (mf_rr (Nat.le_trans (by decide) hd) (Nat.le_refl _)) (Nat.le_refl _) ck4 hyp (fun r20 g21 h22 hyp => ?_)
        refine mf_iconst (v := (-1)) (mf_dat eX12_go 18 rfl) (by decide) ?_
        refine mf_icmp_eq (tgt := 48) (mf_dat eX12_go 19 rfl) (by decide) (fun hc => ?_) (fun hc => ?_)
        · replace hyp := hyp.1 hc
          refine mf_aload_n (mf_dat eX12_go 30 rfl) rfl rfl ?_
          refine mf_callV (Yc := YX12_keeps) (r := (RX12, TX12, 106)) (ci := 12) (mf_dat eX12_go 31 rfl) ml_X12_558 okX12_keeps im_X12_keeps sl_X12_keeps rfl rfl rfl rfl (Nat.le_of_ble_eq_true rfl) (mf_rr (Nat.le_trans (by decide) hd) (Nat.le_refl _)) (Nat.le_refl _) ck4 hyp (fun r23 g24 h25 hyp => ?_)
          refine mf_aload_n (mf_dat eX12_go 32 rfl) rfl rfl ?_
          refine mf_getf (r := (RX12, TX12, 106)) (ci := 12) (k := 56) (t := 2) (v := g24 x0 56) (mf_dat eX12_go 33 rfl) fl_X12_136 rfl (by decide) rfl rfl ck4 ?_
          refine mf_bipush (v := 7) (mf_dat eX12_go 34 rfl) (by decide) ?_
          refine mf_iconst (v := 4) (mf_dat eX12_go 35 rfl) (by decide) ?_
          refine mf_iload_n (mf_dat eX12_go 36 rfl) rfl rfl ?_
          refine mf_imul (mf_dat eX12_go 37 rfl) ?_
          refine mf_iadd (mf_dat eX12_go 38 rfl) ?_
          refine mf_iload_n (mf_dat eX12_go 39 rfl) rfl rfl ?_
          obtain ⟨ck26, hyp⟩ := hyp
          obtain ⟨ck27, hyp⟩ := hyp
          obtain ⟨ck28, hyp⟩ := hyp
          refine mf_iast (mf_dat eX12_go 40 rfl) ck26 ck27 ck28 ?_
          generalize qh29 : mf_up h25 (g24 x0 56) (mf_w32 (7 + (mf_w32 (4 * x1)))) x2 = h29
          replace hyp := hyp _ qh29.symm
          refine mf_aload_n (mf_dat eX12_go 41 rfl) rfl rfl ?_
          refine mf_getf (r := (RX12, TX12, 106)) (ci := 12) (k := 56) (t := 2) (v := g24 x0 56) (mf_dat eX12_go 42 rfl) fl_X12_136 rfl (by decide) rfl rfl ck4 ?_
          refine mf_bipush (v := 7) (mf_dat eX12_go 43 rfl) (by decide) ?_
          refine mf_iconst (v := 4) (mf_dat eX12_go 44 rfl) (by decide) ?_
          refine mf_iload_n (mf_dat eX12_go 45 rfl) rfl rfl ?_
          refine mf_imul (mf_dat eX12_go 46 rfl) ?_
          refine mf_iadd (mf_dat eX12_go 47 rfl) ?_
          refine mf_iconst (v := 1) (mf_dat eX12_go 48 rfl) (by decide) ?_
          refine mf_iadd (mf_dat eX12_go 49 rfl) ?_
          refine mf_iload_n (mf_dat eX12_go 50 rfl) rfl rfl ?_
          obtain ⟨ck30, hyp⟩ := hyp
          obtain ⟨ck31, hyp⟩ := hyp
          refine mf_iast (mf_dat eX12_go 51 rfl) ck26 ck30 ck31 ?_
          generalize qh32 : mf_up h29 (g24 x0 56) (mf_w32 ((mf_w32 (7 + (mf_w32 (4 * x1)))) + 1)) x3 = h32
          replace hyp := hyp _ qh32.symm
          refine mf_iconst (v := 1) (mf_dat eX12_go 52 rfl) (by decide) ?_
          exact mf_ireturn (mf_dat eX12_go 53 rfl) rfl (Or.inr ⟨rfl, by decide⟩) hyp
        · replace hyp := hyp.2 hc
          refine mf_aload_n (mf_dat eX12_go 20 rfl) rfl rfl ?_
          refine mf_getf (r := (RX12, TX12, 106)) (ci := 12) (k := 9) (t := 2) (v := g21 x0 9) (mf_dat eX12_go 21 rfl) fl_X12_17 rfl (by decide) rfl rfl ck4 ?_
          refine mf_iconst (v := 2) (mf_dat eX12_go 22 rfl) (by decide) ?_
          refine mf_dup2 (mf_dat eX12_go 23 rfl) (by decide) (by decide) ?_
          obtain ⟨ck33, hyp⟩ := hyp
          obtain ⟨ck34, hyp⟩ := hyp
          refine mf_iald (mf_dat eX12_go 24 rfl) ck33 (by decide) ck34 ?_
          refine mf_iconst (v := 1) (mf_dat eX12_go 25 rfl) (by decide) ?_
          refine mf_iadd (mf_dat eX12_go 26 rfl) ?_
          refine mf_iast (mf_dat eX12_go 27 rfl) ck33 (by decide) ck34 ?_
          generalize qh35 : mf_up h22 (g21 x0 9) 2 (mf_w32 ((h22 (g21 x0 9) 2) + 1)) = h35
          replace hyp := hyp _ qh35.symm
          refine mf_iconst (v := 0) (mf_dat eX12_go 28 rfl) (by decide) ?_
          exact mf_ireturn (mf_dat eX12_go 29 rfl) rfl (Or.inr ⟨rfl, by decide⟩) hyp
set_option maxRecDepth 100000 in
set_option maxHeartbeats 4000000 in
theorem mX12_isFree {C : mf_G} {l : Launch} {d n : Nat} {K : mf_Kt} {x0 x1 x2 : Int} {g h : mf_M} (hd : 2 ≤ d) (hyp : mf_is n x0 12 ∧ mf_MT C l 1 YX12_isCell [(2, x0), (0, x1), (0, x2)] n n g h (fun r1 g2 h3 => ((r1 = 0 → K 0 g2 h3) ∧ (¬ r1 = 0 → mf_MT C l 0 YX12_hasGloss [(2, x0), (0, x1), (0, x2)] n n g2 h3 (fun r5 g6 h7 => ((¬ r5 = 0 → K 0 g6 h7) ∧ (r5 = 0 → mf_MT C l 1 YX12_standsOn [(2, x0), (0, x1), (0, x2)] n n g6 h7 (fun r8 g9 h10 => ((¬ r8 = (-1) → K 0 g9 h10) ∧ (r8 = (-1) → K 1 g9 h10)))))))))) : mf_MT C l d YX12_isFree [(2, x0), (0, x1), (0, x2)] n n g h K := by
  refine mf_entry (by decide) (Nat.le_of_ble_eq_true rfl) ?_
  refine mf_aload_n (mf_dat eX12_isFree 0 rfl) rfl rfl ?_
  refine mf_iload_n (mf_dat eX12_isFree 1 rfl) rfl rfl ?_
  refine mf_iload_n (mf_dat eX12_isFree 2 rfl) rfl rfl ?_
  obtain ⟨ck4, hyp⟩ := hyp
  refine mf_callV (Yc := YX12_isCell) (r := (RX12, TX12, 106)) (ci := 12) (mf_dat eX12_isFree 3 rfl) ml_X12_507 okX12_isCell im_X12_isCell sl_X12_isCell rfl rfl rfl rfl (Nat.le_of_ble_eq_true rfl) (mf_rr (Nat.le_trans (by decide) hd) (Nat.le_refl _)) (Nat.le_refl _) ck4 hyp (fun r1 g2 h3 hyp => ?_)
  refine mf_if_eq (tgt := 32) (mf_dat eX12_isFree 4 rfl) (by decide) (fun hc => ?_) (fun hc => ?_)
  · replace hyp := hyp.1 hc
    refine mf_iconst (v := 0) (mf_dat eX12_isFree 18 rfl) (by decide) ?_
    exact mf_ireturn (mf_dat eX12_isFree 19 rfl) rfl (Or.inr ⟨rfl, by decide⟩) hyp
  · replace hyp := hyp.2 hc
    refine mf_aload_n (mf_dat eX12_isFree 5 rfl) rfl rfl ?_
    refine mf_iload_n (mf_dat eX12_isFree 6 rfl) rfl rfl ?_
    refine mf_iload_n (mf_dat eX12_isFree 7 rfl) rfl rfl ?_
    refine mf_callV (Yc := YX12_hasGloss) (r := (RX12, TX12, 106)) (ci := 12) (mf_dat eX12_isFree 8 rfl) ml_X12_481 okX12_hasGloss im_X12_hasGloss sl_X12_hasGloss rfl rfl rfl rfl (Nat.le_of_ble_eq_true rfl) (mf_rr (Nat.le_trans (by decide) hd) (Nat.le_refl _)) (Nat.le_refl _) ck4 hyp (fun r5 g6 h7 hyp => ?_)
    refine mf_if_ne (tgt := 32) (mf_dat eX12_isFree 9 rfl) (by decide) (fun hc => ?_) (fun hc => ?_)
    · replace hyp := hyp.1 hc
      refine mf_iconst (v := 0) (mf_dat eX12_isFree 18 rfl) (by decide) ?_
      exact mf_ireturn (mf_dat eX12_isFree 19 rfl) rfl (Or.inr ⟨rfl, by decide⟩) hyp
    · replace hyp := hyp.2 hc
      refine mf_aload_n (mf_dat eX12_isFree 10 rfl) rfl rfl ?_
      refine mf_iload_n (mf_dat eX12_isFree 11 rfl) rfl rfl ?_
      refine mf_iload_n (mf_dat eX12_isFree 12 rfl) rfl rfl ?_
      refine mf_callV (Yc := YX12_standsOn) (r := (RX12, TX12, 106)) (ci := 12) (mf_dat eX12_isFree 13 rfl) ml_X12_484 okX12_standsOn im_X12_standsOn sl_X12_standsOn rfl rfl rfl rfl (Nat.le_of_ble_eq_true rfl) (mf_rr (Nat.le_trans (by decide) hd) (Nat.le_refl _)) (Nat.le_refl _) ck4 hyp (fun r8 g9 h10 hyp => ?_)
      refine mf_iconst (v := (-1)) (mf_dat eX12_isFree 14 rfl) (by decide) ?_
      refine mf_icmp_ne (tgt := 32) (mf_dat eX12_isFree 15 rfl) (by decide) (fun hc => ?_) (fun hc => ?_)
      · replace hyp := hyp.1 hc
        refine mf_iconst (v := 0) (mf_dat eX12_isFree 18 rfl) (by decide) ?_
        exact mf_ireturn (mf_dat eX12_isFree 19 rfl) rfl (Or.inr ⟨rfl, by decide⟩) hyp
      · replace hyp := hyp.2 hc
        refine mf_iconst (v := 1) (mf_dat eX12_isFree 16 rfl) (by decide) ?_
        refine mf_goto (tgt := 33) (mf_dat eX12_isFree 17 rfl) (by decide) ?_
        exact mf_ireturn (mf_dat eX12_isFree 19 rfl) rfl (Or.inr ⟨rfl, by decide⟩) hyp
abbrev JX12_refuge_2 (C : mf_G) (l : Launch) (d n : Nat) (K : mf_Kt) (x0 x1 x2 x3 : Int) (g h : mf_M) : Prop := mf_AW C l YX12_refuge (mf_rm d n n) n (mf_Zm C YX12_refuge n n K) (fun _ _ => True) 2 [(0, (2, x0)), (1, (0, x1)), (2, (0, x2)), (3, (0, x3))] [] n g h
set_option maxRecDepth 100000 in
set_option maxHeartbeats 4000000 in
theorem bX12_refuge_2 {C : mf_G} {l : Launch} {d n : Nat} {K : mf_Kt} {x0 x1 x2 x3 : Int} {g h : mf_M} (hd : 3 ≤ d) (hyp : ((8 ≤ x3 → K (-1) g h) ∧ (¬ 8 ≤ x3 → mf_is n x0 12 ∧ mf_MT C l 2 YX12_isFree [(2, x0), (0, x1), (0, mf_w32 (x2 - x3))] n n g h (fun r1 g2 h3 => ((r1 = 0 → mf_MT C l 2 YX12_isFree [(2, x0), (0, x1), (0, mf_w32 (x2 + x3))] n n g2 h3 (fun r5 g6 h7 => ((r5 = 0 → (∀ v8 : Int, v8 = mf_w32 (x3 + 1) → JX12_refuge_2 C l d n K x0 x1 x2 v8 g6 h7)) ∧ (¬ r5 = 0 → K (mf_w32 (x2 + x3)) g6 h7)))) ∧ (¬ r1 = 0 → K (mf_w32 (x2 - x3)) g2 h3)))))) : JX12_refuge_2 C l d n K x0 x1 x2 x3 g h := by
  refine mf_iload_n (mf_dat eX12_refuge 2 rfl) rfl rfl ?_
  refine mf_bipush (v := 8) (mf_dat eX12_refuge 3 rfl) (by decide) ?_
  refine mf_icmp_ge (tgt := 44) (mf_dat eX12_refuge 4 rfl) (by decide) (fun hc => ?_) (fun hc => ?_)
  · replace hyp := hyp.1 hc
    refine mf_iconst (v := (-1)) (mf_dat eX12_refuge 29 rfl) (by decide) ?_
    exact mf_ireturn (mf_dat eX12_refuge 30 rfl) rfl (Or.inl rfl) hyp
  · replace hyp := hyp.2 hc
    refine mf_aload_n (mf_dat eX12_refuge 5 rfl) rfl rfl ?_
    refine mf_iload_n (mf_dat eX12_refuge 6 rfl) rfl rfl ?_
    refine mf_iload_n (mf_dat eX12_refuge 7 rfl) rfl rfl ?_
    refine mf_iload_n (mf_dat eX12_refuge 8 rfl) rfl rfl ?_
    refine mf_isub (mf_dat eX12_refuge 9 rfl) ?_
    obtain ⟨ck4, hyp⟩ := hyp
    refine mf_callV (Yc := YX12_isFree) (r := (RX12, TX12, 106)) (ci := 12) (mf_dat eX12_refuge 10 rfl) ml_X12_561 okX12_isFree im_X12_isFree sl_X12_isFree rfl rfl rfl rfl (Nat.le_of_ble_eq_true rfl) (mf_rr (Nat.le_trans (by decide) hd) (Nat.le_refl _)) (Nat.le_refl _) ck4 hyp (fun r1 g2 h3 hyp => ?_)
    refine mf_if_eq (tgt := 23) (mf_dat eX12_refuge 11 rfl) (by decide) (fun hc => ?_) (fun hc => ?_)
    · replace hyp := hyp.1 hc
      refine mf_aload_n (mf_dat eX12_refuge 16 rfl) rfl rfl ?_
      refine mf_iload_n (mf_dat eX12_refuge 17 rfl) rfl rfl ?_
      refine mf_iload_n (mf_dat eX12_refuge 18 rfl) rfl rfl ?_
      refine mf_iload_n (mf_dat eX12_refuge 19 rfl) rfl rfl ?_
      refine mf_iadd (mf_dat eX12_refuge 20 rfl) ?_
      refine mf_callV (Yc := YX12_isFree) (r := (RX12, TX12, 106)) (ci := 12) (mf_dat eX12_refuge 21 rfl) ml_X12_561 okX12_isFree im_X12_isFree sl_X12_isFree rfl rfl rfl rfl (Nat.le_of_ble_eq_true rfl) (mf_rr (Nat.le_trans (by decide) hd) (Nat.le_refl _)) (Nat.le_refl _) ck4 hyp (fun r5 g6 h7 hyp => ?_)
      refine mf_if_eq (tgt := 38) (mf_dat eX12_refuge 22 rfl) (by decide) (fun hc => ?_) (fun hc => ?_)
      · replace hyp := hyp.1 hc
        refine mf_iinc (mf_dat eX12_refuge 27 rfl) rfl (by decide) (by decide) ?_
        generalize qv8 : mf_w32 (x3 + 1) = v8
        replace hyp := hyp _ qv8.symm
        refine mf_goto (tgt := 2) (mf_dat eX12_refuge 28 rfl) (by decide) ?_
        exact mf_sub [1, 2, 3, 0] rfl hyp
      · replace hyp := hyp.2 hc
        refine mf_iload_n (mf_dat eX12_refuge 23 rfl) rfl rfl ?_
        refine mf_iload_n (mf_dat eX12_refuge 24 rfl) rfl rfl ?_
        refine mf_iadd (mf_dat eX12_refuge 25 rfl) ?_
        exact mf_ireturn (mf_dat eX12_refuge 26 rfl) rfl (Or.inl rfl) hyp
    · replace hyp := hyp.2 hc
      refine mf_iload_n (mf_dat eX12_refuge 12 rfl) rfl rfl ?_
      refine mf_iload_n (mf_dat eX12_refuge 13 rfl) rfl rfl ?_
      refine mf_isub (mf_dat eX12_refuge 14 rfl) ?_
      exact mf_ireturn (mf_dat eX12_refuge 15 rfl) rfl (Or.inl rfl) hyp
set_option maxRecDepth 100000 in
set_option maxHeartbeats 4000000 in
theorem mX12_refuge {C : mf_G} {l : Launch} {d n : Nat} {K : mf_Kt} {x0 x1 x2 : Int} {g h : mf_M} (hyp : JX12_refuge_2 C l d n K x0 x1 x2 1 g h) : mf_MT C l d YX12_refuge [(2, x0), (0, x1), (0, x2)] n n g h K := by
  refine mf_entry (by decide) (Nat.le_of_ble_eq_true rfl) ?_
  refine mf_iconst (v := 1) (mf_dat eX12_refuge 0 rfl) (by decide) ?_
  refine mf_istore_n (mf_dat eX12_refuge 1 rfl) rfl (by decide) ?_
  exact mf_sub [1, 2, 3, 0] rfl hyp
abbrev JX12_gloss_47 (C : mf_G) (l : Launch) (d n : Nat) (K : mf_Kt) (x0 x1 x2 x3 s0 : Int) (g h : mf_M) : Prop := mf_AW C l YX12_gloss (mf_rm d n n) n (mf_Zm C YX12_gloss n n K) (fun _ _ => True) 47 [(0, (2, x0)), (1, (0, x1)), (2, (0, x2)), (3, (0, x3))] [(0, s0)] n g h
set_option maxRecDepth 100000 in
set_option maxHeartbeats 4000000 in
theorem bX12_gloss_47 {C : mf_G} {l : Launch} {d n : Nat} {K : mf_Kt} {x0 x1 x2 x3 s0 : Int} {g h : mf_M} (hd : 1 ≤ d) (hyp : ((¬ s0 = (-1) → mf_is n x0 12 ∧ mf_MT C l 0 YX12_keeps [(2, x0)] n n g h (fun r1 g2 h3 => mf_is n (g2 x0 56) 20 ∧ 0 ≤ mf_w32 (1 + x1) ∧ mf_w32 (1 + x1) < mf_len (g2 x0 56) ∧ (∀ h8 : mf_M, h8 = mf_up h3 (g2 x0 56) (mf_w32 (1 + x1)) (mf_or (h3 (g2 x0 56) (mf_w32 (1 + x1))) (mf_shl 1 x2)) → ((x3 = (-1) → K s0 g2 h8) ∧ (¬ x3 = (-1) → 0 ≤ mf_w32 ((mf_w32 (7 + (mf_w32 (4 * x3)))) + 1) ∧ mf_w32 ((mf_w32 (7 + (mf_w32 (4 * x3)))) + 1) < mf_len (g2 x0 56) ∧ (∀ h11 : mf_M, h11 = mf_up h8 (g2 x0 56) (mf_w32 ((mf_w32 (7 + (mf_w32 (4 * x3)))) + 1)) s0 → K s0 g2 h11)))))) ∧ (s0 = (-1) → mf_is n x0 12 ∧ mf_MT C l 0 YX12_refuses [(2, x0), (0, 2)] n n g h (fun r12 g13 h14 => K r12 g13 h14)))) : JX12_gloss_47 C l d n K x0 x1 x2 x3 s0 g h := by
  refine mf_istore (mf_dat eX12_gloss_p0 28 rfl) (by decide) ?_
  refine mf_iload (mf_dat eX12_gloss_p0 29 rfl) rfl ?_
  refine mf_iconst (v := (-1)) (mf_dat eX12_gloss_p0 30 rfl) (by decide) ?_
  refine mf_icmp_ne (tgt := 61) (mf_dat eX12_gloss_p0 31 rfl) (by decide) (fun hc => ?_) (fun hc => ?_)
  · replace hyp := hyp.1 hc
    refine mf_aload_n (mf_dat eX12_gloss_p0 36 rfl) rfl rfl ?_
    obtain ⟨ck4, hyp⟩ := hyp
    refine mf_callV (Yc := YX12_keeps) (r := (RX12, TX12, 106)) (ci := 12) (mf_dat eX12_gloss_p0 37 rfl) ml_X12_558 okX12_keeps im_X12_keeps sl_X12_keeps rfl rfl rfl rfl (Nat.le_of_ble_eq_true rfl) (mf_rr (Nat.le_trans (by decide) hd) (Nat.le_refl _)) (Nat.le_refl _) ck4 hyp (fun r1 g2 h3 hyp => ?_)
    refine mf_aload_n (mf_dat eX12_gloss_p0 38 rfl) rfl rfl ?_
    refine mf_getf (r := (RX12, TX12, 106)) (ci := 12) (k := 56) (t := 2) (v := g2 x0 56) (mf_dat eX12_gloss_p0 39 rfl) fl_X12_136 rfl (by decide) rfl rfl ck4 ?_
    refine mf_iconst (v := 1) (mf_dat eX12_gloss_p0 40 rfl) (by decide) ?_
    refine mf_iload_n (mf_dat eX12_gloss_p0 41 rfl) rfl rfl ?_
    refine mf_iadd (mf_dat eX12_gloss_p0 42 rfl) ?_
    refine mf_dup2 (mf_dat eX12_gloss_p0 43 rfl) (by decide) (by decide) ?_
    obtain ⟨ck5, hyp⟩ := hyp
    obtain ⟨ck6, hyp⟩ := hyp
    obtain ⟨ck7, hyp⟩ := hyp
    refine mf_iald (mf_dat eX12_gloss_p0 44 rfl) ck5 ck6 ck7 ?_
    refine mf_iconst (v := 1) (mf_dat eX12_gloss_p0 45 rfl) (by decide) ?_
    refine mf_iload_n (mf_dat eX12_gloss_p0 46 rfl) rfl rfl ?_
    refine mf_ishl (mf_dat eX12_gloss_p0 47 rfl) ?_
    refine mf_ior (mf_dat eX12_gloss_p0 48 rfl) ?_
    refine mf_iast (mf_dat eX12_gloss_p0 49 rfl) ck5 ck6 ck7 ?_
    generalize qh8 : mf_up h3 (g2 x0 56) (mf_w32 (1 + x1)) (mf_or (h3 (g2 x0 56) (mf_w32 (1 + x1))) (mf_shl 1 x2)) = h8
    replace hyp := hyp _ qh8.symm
    refine mf_iload_n (mf_dat eX12_gloss_p0 50 rfl) rfl rfl ?_
    refine mf_iconst (v := (-1)) (mf_dat eX12_gloss_p0 51 rfl) (by decide) ?_
    refine mf_icmp_eq (tgt := 99) (mf_dat eX12_gloss_p0 52 rfl) (by decide) (fun hc => ?_) (fun hc => ?_)
    · replace hyp := hyp.1 hc
      refine mf_iload (mf_dat eX12_gloss_p1 4 rfl) rfl ?_
      exact mf_ireturn (mf_dat eX12_gloss_p1 5 rfl) rfl (Or.inl rfl) hyp
    · replace hyp := hyp.2 hc
      refine mf_aload_n (mf_dat eX12_gloss_p0 53 rfl) rfl rfl ?_
      refine mf_getf (r := (RX12, TX12, 106)) (ci := 12) (k := 56) (t := 2) (v := g2 x0 56) (mf_dat eX12_gloss_p0 54 rfl) fl_X12_136 rfl (by decide) rfl rfl ck4 ?_
      refine mf_bipush (v := 7) (mf_dat eX12_gloss_p0 55 rfl) (by decide) ?_
      refine mf_iconst (v := 4) (mf_dat eX12_gloss_p0 56 rfl) (by decide) ?_
      refine mf_iload_n (mf_dat eX12_gloss_p0 57 rfl) rfl rfl ?_
      refine mf_imul (mf_dat eX12_gloss_p0 58 rfl) ?_
      refine mf_iadd (mf_dat eX12_gloss_p0 59 rfl) ?_
      refine mf_iconst (v := 1) (mf_dat eX12_gloss_p1 0 rfl) (by decide) ?_
      refine mf_iadd (mf_dat eX12_gloss_p1 1 rfl) ?_
      refine mf_iload (mf_dat eX12_gloss_p1 2 rfl) rfl ?_
      obtain ⟨ck9, hyp⟩ := hyp
      obtain ⟨ck10, hyp⟩ := hyp
      refine mf_iast (mf_dat eX12_gloss_p1 3 rfl) ck5 ck9 ck10 ?_
      generalize qh11 : mf_up h8 (g2 x0 56) (mf_w32 ((mf_w32 (7 + (mf_w32 (4 * x3)))) + 1)) s0 = h11
      replace hyp := hyp _ qh11.symm
      refine mf_iload (mf_dat eX12_gloss_p1 4 rfl) rfl ?_
      exact mf_ireturn (mf_dat eX12_gloss_p1 5 rfl) rfl (Or.inl rfl) hyp
  · replace hyp := hyp.2 hc
    refine mf_aload_n (mf_dat eX12_gloss_p0 32 rfl) rfl rfl ?_
    refine mf_iconst (v := 2) (mf_dat eX12_gloss_p0 33 rfl) (by decide) ?_
    obtain ⟨ck15, hyp⟩ := hyp
    refine mf_callV (Yc := YX12_refuses) (r := (RX12, TX12, 106)) (ci := 12) (mf_dat eX12_gloss_p0 34 rfl) ml_X12_546 okX12_refuses im_X12_refuses sl_X12_refuses rfl rfl rfl rfl (Nat.le_of_ble_eq_true rfl) (mf_rr (Nat.le_trans (by decide) hd) (Nat.le_refl _)) (Nat.le_refl _) ck15 hyp (fun r12 g13 h14 hyp => ?_)
    exact mf_ireturn (mf_dat eX12_gloss_p0 35 rfl) rfl (Or.inl rfl) hyp
set_option maxRecDepth 100000 in
set_option maxHeartbeats 4000000 in
theorem mX12_gloss {C : mf_G} {l : Launch} {d n : Nat} {K : mf_Kt} {x0 x1 x2 : Int} {g h : mf_M} (hd : 4 ≤ d) (hyp : mf_is n x0 12 ∧ mf_MT C l 1 YX12_isCell [(2, x0), (0, x1), (0, x2)] n n g h (fun r1 g2 h3 => ((r1 = 0 → mf_MT C l 0 YX12_refuses [(2, x0), (0, 2)] n n g2 h3 (fun r5 g6 h7 => K r5 g6 h7)) ∧ (¬ r1 = 0 → mf_MT C l 0 YX12_hasGloss [(2, x0), (0, x1), (0, x2)] n n g2 h3 (fun r8 g9 h10 => ((r8 = 0 → mf_MT C l 1 YX12_standsOn [(2, x0), (0, x1), (0, x2)] n n g9 h10 (fun r11 g12 h13 => ((¬ r11 = (-1) → mf_MT C l 3 YX12_refuge [(2, x0), (0, x1), (0, x2)] n n g12 h13 (fun r14 g15 h16 => JX12_gloss_47 C l d n K x0 x1 x2 r11 r14 g15 h16)) ∧ (r11 = (-1) → JX12_gloss_47 C l d n K x0 x1 x2 r11 100 g12 h13)))) ∧ (¬ r8 = 0 → mf_MT C l 0 YX12_refuses [(2, x0), (0, 2)] n n g9 h10 (fun r17 g18 h19 => K r17 g18 h19)))))))) : mf_MT C l d YX12_gloss [(2, x0), (0, x1), (0, x2)] n n g h K := by
  refine mf_entry (by decide) (Nat.le_of_ble_eq_true rfl) ?_
  refine mf_aload_n (mf_dat eX12_gloss_p0 0 rfl) rfl rfl ?_
  refine mf_iload_n (mf_dat eX12_gloss_p0 1 rfl) rfl rfl ?_
  refine mf_iload_n (mf_dat eX12_gloss_p0 2 rfl) rfl rfl ?_
  obtain ⟨ck4, hyp⟩ := hyp
  refine mf_callV (Yc := YX12_isCell) (r := (RX12, TX12, 106)) (ci := 12) (mf_dat eX12_gloss_p0 3 rfl) ml_X12_507 okX12_isCell im_X12_isCell sl_X12_isCell rfl rfl rfl rfl (Nat.le_of_ble_eq_true rfl) (mf_rr (Nat.le_trans (by decide) hd) (Nat.le_refl _)) (Nat.le_refl _) ck4 hyp (fun r1 g2 h3 hyp => ?_)
  refine mf_if_eq (tgt := 18) (mf_dat eX12_gloss_p0 4 rfl) (by decide) (fun hc => ?_) (fun hc => ?_)
  · replace hyp := hyp.1 hc
    refine mf_aload_n (mf_dat eX12_gloss_p0 10 rfl) rfl rfl ?_
    refine mf_iconst (v := 2) (mf_dat eX12_gloss_p0 11 rfl) (by decide) ?_
    refine mf_callV (Yc := YX12_refuses) (r := (RX12, TX12, 106)) (ci := 12) (mf_dat eX12_gloss_p0 12 rfl) ml_X12_546 okX12_refuses im_X12_refuses sl_X12_refuses rfl rfl rfl rfl (Nat.le_of_ble_eq_true rfl) (mf_rr (Nat.le_trans (by decide) hd) (Nat.le_refl _)) (Nat.le_refl _) ck4 hyp (fun r5 g6 h7 hyp => ?_)
    exact mf_ireturn (mf_dat eX12_gloss_p0 13 rfl) rfl (Or.inl rfl) hyp
  · replace hyp := hyp.2 hc
    refine mf_aload_n (mf_dat eX12_gloss_p0 5 rfl) rfl rfl ?_
    refine mf_iload_n (mf_dat eX12_gloss_p0 6 rfl) rfl rfl ?_
    refine mf_iload_n (mf_dat eX12_gloss_p0 7 rfl) rfl rfl ?_
    refine mf_callV (Yc := YX12_hasGloss) (r := (RX12, TX12, 106)) (ci := 12) (mf_dat eX12_gloss_p0 8 rfl) ml_X12_481 okX12_hasGloss im_X12_hasGloss sl_X12_hasGloss rfl rfl rfl rfl (Nat.le_of_ble_eq_true rfl) (mf_rr (Nat.le_trans (by decide) hd) (Nat.le_refl _)) (Nat.le_refl _) ck4 hyp (fun r8 g9 h10 hyp => ?_)
    refine mf_if_eq (tgt := 24) (mf_dat eX12_gloss_p0 9 rfl) (by decide) (fun hc => ?_) (fun hc => ?_)
    · replace hyp := hyp.1 hc
      refine mf_aload_n (mf_dat eX12_gloss_p0 14 rfl) rfl rfl ?_
      refine mf_iload_n (mf_dat eX12_gloss_p0 15 rfl) rfl rfl ?_
      refine mf_iload_n (mf_dat eX12_gloss_p0 16 rfl) rfl rfl ?_
      refine mf_callV (Yc := YX12_standsOn) (r := (RX12, TX12, 106)) (ci := 12) (mf_dat eX12_gloss_p0 17 rfl) ml_X12_484 okX12_standsOn im_X12_standsOn sl_X12_standsOn rfl rfl rfl rfl (Nat.le_of_ble_eq_true rfl) (mf_rr (Nat.le_trans (by decide) hd) (Nat.le_refl _)) (Nat.le_refl _) ck4 hyp (fun r11 g12 h13 hyp => ?_)
      refine mf_istore_n (mf_dat eX12_gloss_p0 18 rfl) rfl (by decide) ?_
      refine mf_iload_n (mf_dat eX12_gloss_p0 19 rfl) rfl rfl ?_
      refine mf_iconst (v := (-1)) (mf_dat eX12_gloss_p0 20 rfl) (by decide) ?_
      refine mf_icmp_ne (tgt := 41) (mf_dat eX12_gloss_p0 21 rfl) (by decide) (fun hc => ?_) (fun hc => ?_)
      · replace hyp := hyp.1 hc
        refine mf_aload_n (mf_dat eX12_gloss_p0 24 rfl) rfl rfl ?_
        refine mf_iload_n (mf_dat eX12_gloss_p0 25 rfl) rfl rfl ?_
        refine mf_iload_n (mf_dat eX12_gloss_p0 26 rfl) rfl rfl ?_
        refine mf_callV (Yc := YX12_refuge) (r := (RX12, TX12, 106)) (ci := 12) (mf_dat eX12_gloss_p0 27 rfl) ml_X12_564 okX12_refuge im_X12_refuge sl_X12_refuge rfl rfl rfl rfl (Nat.le_of_ble_eq_true rfl) (mf_rr (Nat.le_trans (by decide) hd) (Nat.le_refl _)) (Nat.le_refl _) ck4 hyp (fun r14 g15 h16 hyp => ?_)
        exact mf_sub [1, 2, 3, 0] rfl hyp
      · replace hyp := hyp.2 hc
        refine mf_bipush (v := 100) (mf_dat eX12_gloss_p0 22 rfl) (by decide) ?_
        refine mf_goto (tgt := 47) (mf_dat eX12_gloss_p0 23 rfl) (by decide) ?_
        exact mf_sub [1, 2, 3, 0] rfl hyp
    · replace hyp := hyp.2 hc
      refine mf_aload_n (mf_dat eX12_gloss_p0 10 rfl) rfl rfl ?_
      refine mf_iconst (v := 2) (mf_dat eX12_gloss_p0 11 rfl) (by decide) ?_
      refine mf_callV (Yc := YX12_refuses) (r := (RX12, TX12, 106)) (ci := 12) (mf_dat eX12_gloss_p0 12 rfl) ml_X12_546 okX12_refuses im_X12_refuses sl_X12_refuses rfl rfl rfl rfl (Nat.le_of_ble_eq_true rfl) (mf_rr (Nat.le_trans (by decide) hd) (Nat.le_refl _)) (Nat.le_refl _) ck4 hyp (fun r17 g18 h19 hyp => ?_)
      exact mf_ireturn (mf_dat eX12_gloss_p0 13 rfl) rfl (Or.inl rfl) hyp
set_option maxRecDepth 100000 in
set_option maxHeartbeats 4000000 in
theorem mX12_days {C : mf_G} {l : Launch} {d n : Nat} {K : mf_Kt} {x0 x1 : Int} {g h : mf_M} (hd : 6 ≤ d) (hyp : mf_is n x0 12 ∧ mf_MT C l 1 YX12_isAhead [(2, x0), (0, x1), (0, 1), (0, 100)] n n g h (fun r1 g2 h3 => ((¬ r1 = 0 → mf_MT C l 0 YX12_keeps [(2, x0)] n n g2 h3 (fun r5 g6 h7 => (∀ h8 : mf_M, h8 = mf_up h7 x0 62 0 → mf_MT C l 5 YX12_daysGo [(2, x0), (0, x1)] n n g6 h8 (fun r9 g10 h11 => K (h11 x0 62) g10 h11)))) ∧ (r1 = 0 → mf_MT C l 0 YX12_refuses [(2, x0), (0, 3)] n n g2 h3 (fun r12 g13 h14 => K r12 g13 h14))))) : mf_MT C l d YX12_days [(2, x0), (0, x1)] n n g h K := by
  refine mf_entry (by decide) (Nat.le_of_ble_eq_true rfl) ?_
  refine mf_aload_n (mf_dat eX12_days 0 rfl) rfl rfl ?_
  refine mf_iload_n (mf_dat eX12_days 1 rfl) rfl rfl ?_
  refine mf_iconst (v := 1) (mf_dat eX12_days 2 rfl) (by decide) ?_
  refine mf_bipush (v := 100) (mf_dat eX12_days 3 rfl) (by decide) ?_
  obtain ⟨ck4, hyp⟩ := hyp
  refine mf_callV (Yc := YX12_isAhead) (r := (RX12, TX12, 106)) (ci := 12) (mf_dat eX12_days 4 rfl) ml_X12_520 okX12_isAhead im_X12_isAhead sl_X12_isAhead rfl rfl rfl rfl (Nat.le_of_ble_eq_true rfl) (mf_rr (Nat.le_trans (by decide) hd) (Nat.le_refl _)) (Nat.le_refl _) ck4 hyp (fun r1 g2 h3 hyp => ?_)
  refine mf_if_ne (tgt := 17) (mf_dat eX12_days 5 rfl) (by decide) (fun hc => ?_) (fun hc => ?_)
  · replace hyp := hyp.1 hc
    refine mf_aload_n (mf_dat eX12_days 10 rfl) rfl rfl ?_
    refine mf_callV (Yc := YX12_keeps) (r := (RX12, TX12, 106)) (ci := 12) (mf_dat eX12_days 11 rfl) ml_X12_558 okX12_keeps im_X12_keeps sl_X12_keeps rfl rfl rfl rfl (Nat.le_of_ble_eq_true rfl) (mf_rr (Nat.le_trans (by decide) hd) (Nat.le_refl _)) (Nat.le_refl _) ck4 hyp (fun r5 g6 h7 hyp => ?_)
    refine mf_aload_n (mf_dat eX12_days 12 rfl) rfl rfl ?_
    refine mf_iconst (v := 0) (mf_dat eX12_days 13 rfl) (by decide) ?_
    refine mf_putI (r := (RX12, TX12, 106)) (ci := 12) (k := 62) (kI := 62) (t := 0) (mf_dat eX12_days 14 rfl) fl_X12_452 rfl rfl (by decide) rfl (by decide) rfl (by decide) (fun h9 => absurd h9 (by decide)) ck4 ?_
    generalize qh8 : mf_up h7 x0 62 0 = h8
    replace hyp := hyp _ qh8.symm
    refine mf_aload_n (mf_dat eX12_days 15 rfl) rfl rfl ?_
    refine mf_iload_n (mf_dat eX12_days 16 rfl) rfl rfl ?_
    refine mf_callV (Yc := YX12_daysGo) (r := (RX12, TX12, 106)) (ci := 12) (mf_dat eX12_days 17 rfl) ml_X12_536 okX12_daysGo im_X12_daysGo sl_X12_daysGo rfl rfl rfl rfl (Nat.le_of_ble_eq_true rfl) (mf_rr (Nat.le_trans (by decide) hd) (Nat.le_refl _)) (Nat.le_refl _) ck4 hyp (fun r9 g10 h11 hyp => ?_)
    refine mf_aload_n (mf_dat eX12_days 18 rfl) rfl rfl ?_
    refine mf_getf (r := (RX12, TX12, 106)) (ci := 12) (k := 62) (t := 0) (v := h11 x0 62) (mf_dat eX12_days 19 rfl) fl_X12_452 rfl (by decide) rfl rfl ck4 ?_
    exact mf_ireturn (mf_dat eX12_days 20 rfl) rfl (Or.inl rfl) hyp
  · replace hyp := hyp.2 hc
    refine mf_aload_n (mf_dat eX12_days 6 rfl) rfl rfl ?_
    refine mf_iconst (v := 3) (mf_dat eX12_days 7 rfl) (by decide) ?_
    refine mf_callV (Yc := YX12_refuses) (r := (RX12, TX12, 106)) (ci := 12) (mf_dat eX12_days 8 rfl) ml_X12_546 okX12_refuses im_X12_refuses sl_X12_refuses rfl rfl rfl rfl (Nat.le_of_ble_eq_true rfl) (mf_rr (Nat.le_trans (by decide) hd) (Nat.le_refl _)) (Nat.le_refl _) ck4 hyp (fun r12 g13 h14 hyp => ?_)
    exact mf_ireturn (mf_dat eX12_days 9 rfl) rfl (Or.inl rfl) hyp
set_option maxRecDepth 100000 in
set_option maxHeartbeats 4000000 in
theorem mX12_seed {C : mf_G} {l : Launch} {d n : Nat} {K : mf_Kt} {x0 x1 : Int} {g h : mf_M} (hyp : ((0 ≤ x1 → mf_is n x0 12 ∧ (∀ h2 : mf_M, h2 = mf_up h x0 71 x1 → K 1 g h2)) ∧ (¬ 0 ≤ x1 → mf_is n x0 12 ∧ mf_is n (g x0 9) 20 ∧ 5 < mf_len (g x0 9) ∧ (∀ h6 : mf_M, h6 = mf_up h (g x0 9) 5 (mf_w32 ((h (g x0 9) 5) + 1)) → K 0 g h6)))) : mf_MT C l d YX12_seed [(2, x0), (0, x1)] n n g h K := by
  refine mf_entry (by decide) (Nat.le_of_ble_eq_true rfl) ?_
  refine mf_iload_n (mf_dat eX12_seed 0 rfl) rfl rfl ?_
  refine mf_if_ge (tgt := 16) (mf_dat eX12_seed 1 rfl) (by decide) (fun hc => ?_) (fun hc => ?_)
  · replace hyp := hyp.1 hc
    refine mf_aload_n (mf_dat eX12_seed 12 rfl) rfl rfl ?_
    refine mf_iload_n (mf_dat eX12_seed 13 rfl) rfl rfl ?_
    refine mf_i2l (mf_dat eX12_seed 14 rfl) ?_
    obtain ⟨ck1, hyp⟩ := hyp
    refine mf_putI (r := (RX12, TX12, 106)) (ci := 12) (k := 71) (kI := 71) (t := 1) (mf_dat eX12_seed 15 rfl) fl_X12_158 rfl rfl (by decide) rfl (by decide) rfl (by decide) (fun h9 => absurd h9 (by decide)) ck1 ?_
    generalize qh2 : mf_up h x0 71 x1 = h2
    replace hyp := hyp _ qh2.symm
    refine mf_iconst (v := 1) (mf_dat eX12_seed 16 rfl) (by decide) ?_
    exact mf_ireturn (mf_dat eX12_seed 17 rfl) rfl (Or.inr ⟨rfl, by decide⟩) hyp
  · replace hyp := hyp.2 hc
    refine mf_aload_n (mf_dat eX12_seed 2 rfl) rfl rfl ?_
    obtain ⟨ck3, hyp⟩ := hyp
    refine mf_getf (r := (RX12, TX12, 106)) (ci := 12) (k := 9) (t := 2) (v := g x0 9) (mf_dat eX12_seed 3 rfl) fl_X12_17 rfl (by decide) rfl rfl ck3 ?_
    refine mf_iconst (v := 5) (mf_dat eX12_seed 4 rfl) (by decide) ?_
    refine mf_dup2 (mf_dat eX12_seed 5 rfl) (by decide) (by decide) ?_
    obtain ⟨ck4, hyp⟩ := hyp
    obtain ⟨ck5, hyp⟩ := hyp
    refine mf_iald (mf_dat eX12_seed 6 rfl) ck4 (by decide) ck5 ?_
    refine mf_iconst (v := 1) (mf_dat eX12_seed 7 rfl) (by decide) ?_
    refine mf_iadd (mf_dat eX12_seed 8 rfl) ?_
    refine mf_iast (mf_dat eX12_seed 9 rfl) ck4 (by decide) ck5 ?_
    generalize qh6 : mf_up h (g x0 9) 5 (mf_w32 ((h (g x0 9) 5) + 1)) = h6
    replace hyp := hyp _ qh6.symm
    refine mf_iconst (v := 0) (mf_dat eX12_seed 10 rfl) (by decide) ?_
    exact mf_ireturn (mf_dat eX12_seed 11 rfl) rfl (Or.inr ⟨rfl, by decide⟩) hyp
set_option maxRecDepth 100000 in
set_option maxHeartbeats 4000000 in
theorem mX12_drawOf {C : mf_G} {l : Launch} {d n : Nat} {K : mf_Kt} {x0 x1 : Int} {g h : mf_M} (hyp : mf_is n x0 12 ∧ (∀ h2 : mf_M, h2 = mf_up h x0 71 ((mf_w64 ((mf_w64 (1103515245 * (h x0 71))) + 12345)).tmod 2147483648) → ¬ x1 = 0 ∧ K (mf_w32 ((mf_w64 ((h2 x0 71).tdiv 64)).tmod x1)) g h2)) : mf_MT C l d YX12_drawOf [(2, x0), (0, x1)] n n g h K := by
  refine mf_entry (by decide) (Nat.le_of_ble_eq_true rfl) ?_
  refine mf_aload_n (mf_dat eX12_drawOf 0 rfl) rfl rfl ?_
  refine mf_ldc2 (v := 1103515245) cl_X12_567 (mf_dat eX12_drawOf 1 rfl) (by decide) ?_
  refine mf_aload_n (mf_dat eX12_drawOf 2 rfl) rfl rfl ?_
  obtain ⟨ck1, hyp⟩ := hyp
  refine mf_getf (r := (RX12, TX12, 106)) (ci := 12) (k := 71) (t := 1) (v := h x0 71) (mf_dat eX12_drawOf 3 rfl) fl_X12_158 rfl (by decide) rfl rfl ck1 ?_
  refine mf_lmul (mf_dat eX12_drawOf 4 rfl) ?_
  refine mf_ldc2 (v := 12345) cl_X12_569 (mf_dat eX12_drawOf 5 rfl) (by decide) ?_
  refine mf_ladd (mf_dat eX12_drawOf 6 rfl) ?_
  refine mf_ldc2 (v := 2147483648) cl_X12_571 (mf_dat eX12_drawOf 7 rfl) (by decide) ?_
  refine mf_lrem (mf_dat eX12_drawOf 8 rfl) (by decide) ?_
  refine mf_putI (r := (RX12, TX12, 106)) (ci := 12) (k := 71) (kI := 71) (t := 1) (mf_dat eX12_drawOf 9 rfl) fl_X12_158 rfl rfl (by decide) rfl (by decide) rfl (by decide) (fun h9 => absurd h9 (by decide)) ck1 ?_
  generalize qh2 : mf_up h x0 71 ((mf_w64 ((mf_w64 (1103515245 * (h x0 71))) + 12345)).tmod 2147483648) = h2
  replace hyp := hyp _ qh2.symm
  refine mf_aload_n (mf_dat eX12_drawOf 10 rfl) rfl rfl ?_
  refine mf_getf (r := (RX12, TX12, 106)) (ci := 12) (k := 71) (t := 1) (v := h2 x0 71) (mf_dat eX12_drawOf 11 rfl) fl_X12_158 rfl (by decide) rfl rfl ck1 ?_
  refine mf_ldc2 (v := 64) cl_X12_573 (mf_dat eX12_drawOf 12 rfl) (by decide) ?_
  refine mf_ldiv (mf_dat eX12_drawOf 13 rfl) (by decide) ?_
  refine mf_iload_n (mf_dat eX12_drawOf 14 rfl) rfl rfl ?_
  refine mf_i2l (mf_dat eX12_drawOf 15 rfl) ?_
  obtain ⟨ck3, hyp⟩ := hyp
  refine mf_lrem (mf_dat eX12_drawOf 16 rfl) ck3 ?_
  refine mf_l2i (mf_dat eX12_drawOf 17 rfl) ?_
  exact mf_ireturn (mf_dat eX12_drawOf 18 rfl) rfl (Or.inl rfl) hyp
abbrev JX12_chance_25 (C : mf_G) (l : Launch) (d n : Nat) (K : mf_Kt) (x0 x1 x2 x3 : Int) (g h : mf_M) : Prop := mf_AW C l YX12_chance (mf_rm d n n) n (mf_Zm C YX12_chance n n K) (fun _ _ => True) 25 [(0, (2, x0)), (1, (0, x1)), (2, (0, x2)), (3, (0, x3))] [] n g h
set_option maxRecDepth 100000 in
set_option maxHeartbeats 4000000 in
theorem bX12_chance_25 {C : mf_G} {l : Launch} {d n : Nat} {K : mf_Kt} {x0 x1 x2 x3 : Int} {g h : mf_M} (hd : 5 ≤ d) (hyp : ((x1 ≤ x3 → K x2 g h) ∧ (¬ x1 ≤ x3 → mf_is n x0 12 ∧ mf_MT C l 0 YX12_drawOf [(2, x0), (0, 100)] n n g h (fun r1 g2 h3 => ((h3 x0 48 ≤ r1 → mf_is n (g2 x0 56) 20 ∧ 0 < mf_len (g2 x0 56) ∧ mf_MT C l 3 YX12_openingOn [(2, x0), (0, h3 (g2 x0 56) 0)] n n g2 h3 (fun r7 g8 h9 => mf_MT C l 4 YX12_dayBy [(2, x0), (0, r7)] n n g8 h9 (fun r10 g11 h12 => (∀ v13 : Int, v13 = mf_w32 (x3 + 1) → JX12_chance_25 C l d n K x0 x1 x2 v13 g11 h12)))) ∧ (¬ h3 x0 48 ≤ r1 → mf_MT C l 0 YX12_beingMany [(2, x0)] n n g2 h3 (fun r14 g15 h16 => ((r14 ≤ 0 → mf_is n (g15 x0 56) 20 ∧ 0 < mf_len (g15 x0 56) ∧ mf_MT C l 3 YX12_openingOn [(2, x0), (0, h16 (g15 x0 56) 0)] n n g15 h16 (fun r19 g20 h21 => mf_MT C l 4 YX12_dayBy [(2, x0), (0, r19)] n n g20 h21 (fun r22 g23 h24 => (∀ v25 : Int, v25 = mf_w32 (x3 + 1) → JX12_chance_25 C l d n K x0 x1 x2 v25 g23 h24)))) ∧ (¬ r14 ≤ 0 → mf_MT C l 0 YX12_beingMany [(2, x0)] n n g15 h16 (fun r26 g27 h28 => mf_MT C l 0 YX12_drawOf [(2, x0), (0, r26)] n n g27 h28 (fun r29 g30 h31 => mf_MT C l 0 YX12_purseOf [(2, x0), (0, r29)] n n g30 h31 (fun r32 g33 h34 => mf_MT C l 0 YX12_purseIs [(2, x0), (0, r29), (1, mf_w32 (r32.tdiv 2))] n n g33 h34 (fun r35 g36 h37 => (∀ v38 : Int, v38 = mf_w32 (x2 + 1) → mf_is n (g36 x0 56) 20 ∧ 0 < mf_len (g36 x0 56) ∧ mf_MT C l 3 YX12_openingOn [(2, x0), (0, h37 (g36 x0 56) 0)] n n g36 h37 (fun r41 g42 h43 => mf_MT C l 4 YX12_dayBy [(2, x0), (0, r41)] n n g42 h43 (fun r44 g45 h46 => (∀ v47 : Int, v47 = mf_w32 (x3 + 1) → JX12_chance_25 C l d n K x0 x1 v38 v47 g45 h46))))))))))))))))) : JX12_chance_25 C l d n K x0 x1 x2 x3 g h := by
  refine mf_iload_n (mf_dat eX12_chance 16 rfl) rfl rfl ?_
  refine mf_iload_n (mf_dat eX12_chance 17 rfl) rfl rfl ?_
  refine mf_icmp_ge (tgt := 98) (mf_dat eX12_chance 18 rfl) (by decide) (fun hc => ?_) (fun hc => ?_)
  · replace hyp := hyp.1 hc
    refine mf_iload_n (mf_dat eX12_chance 53 rfl) rfl rfl ?_
    exact mf_ireturn (mf_dat eX12_chance 54 rfl) rfl (Or.inl rfl) hyp
  · replace hyp := hyp.2 hc
    refine mf_aload_n (mf_dat eX12_chance 19 rfl) rfl rfl ?_
    refine mf_bipush (v := 100) (mf_dat eX12_chance 20 rfl) (by decide) ?_
    obtain ⟨ck4, hyp⟩ := hyp
    refine mf_callV (Yc := YX12_drawOf) (r := (RX12, TX12, 106)) (ci := 12) (mf_dat eX12_chance 21 rfl) ml_X12_575 okX12_drawOf im_X12_drawOf sl_X12_drawOf rfl rfl rfl rfl (Nat.le_of_ble_eq_true rfl) (mf_rr (Nat.le_trans (by decide) hd) (Nat.le_refl _)) (Nat.le_refl _) ck4 hyp (fun r1 g2 h3 hyp => ?_)
    refine mf_aload_n (mf_dat eX12_chance 22 rfl) rfl rfl ?_
    refine mf_getf (r := (RX12, TX12, 106)) (ci := 12) (k := 48) (t := 0) (v := h3 x0 48) (mf_dat eX12_chance 23 rfl) fl_X12_393 rfl (by decide) rfl rfl ck4 ?_
    refine mf_icmp_ge (tgt := 78) (mf_dat eX12_chance 24 rfl) (by decide) (fun hc => ?_) (fun hc => ?_)
    · replace hyp := hyp.1 hc
      refine mf_aload_n (mf_dat eX12_chance 43 rfl) rfl rfl ?_
      refine mf_aload_n (mf_dat eX12_chance 44 rfl) rfl rfl ?_
      refine mf_aload_n (mf_dat eX12_chance 45 rfl) rfl rfl ?_
      refine mf_getf (r := (RX12, TX12, 106)) (ci := 12) (k := 56) (t := 2) (v := g2 x0 56) (mf_dat eX12_chance 46 rfl) fl_X12_136 rfl (by decide) rfl rfl ck4 ?_
      refine mf_iconst (v := 0) (mf_dat eX12_chance 47 rfl) (by decide) ?_
      obtain ⟨ck5, hyp⟩ := hyp
      obtain ⟨ck6, hyp⟩ := hyp
      refine mf_iald (mf_dat eX12_chance 48 rfl) ck5 (by decide) ck6 ?_
      refine mf_callV (Yc := YX12_openingOn) (r := (RX12, TX12, 106)) (ci := 12) (mf_dat eX12_chance 49 rfl) ml_X12_487 okX12_openingOn im_X12_openingOn sl_X12_openingOn rfl rfl rfl rfl (Nat.le_of_ble_eq_true rfl) (mf_rr (Nat.le_trans (by decide) hd) (Nat.le_refl _)) (Nat.le_refl _) ck4 hyp (fun r7 g8 h9 hyp => ?_)
      refine mf_callV (Yc := YX12_dayBy) (r := (RX12, TX12, 106)) (ci := 12) (mf_dat eX12_chance 50 rfl) ml_X12_490 okX12_dayBy im_X12_dayBy sl_X12_dayBy rfl rfl rfl rfl (Nat.le_of_ble_eq_true rfl) (mf_rr (Nat.le_trans (by decide) hd) (Nat.le_refl _)) (Nat.le_refl _) ck4 hyp (fun r10 g11 h12 hyp => ?_)
      refine mf_iinc (mf_dat eX12_chance 51 rfl) rfl (by decide) (by decide) ?_
      generalize qv13 : mf_w32 (x3 + 1) = v13
      replace hyp := hyp _ qv13.symm
      refine mf_goto (tgt := 25) (mf_dat eX12_chance 52 rfl) (by decide) ?_
      exact mf_sub [1, 2, 3, 0] rfl hyp
    · replace hyp := hyp.2 hc
      refine mf_aload_n (mf_dat eX12_chance 25 rfl) rfl rfl ?_
      refine mf_callV (Yc := YX12_beingMany) (r := (RX12, TX12, 106)) (ci := 12) (mf_dat eX12_chance 26 rfl) ml_X12_402 okX12_beingMany im_X12_beingMany sl_X12_beingMany rfl rfl rfl rfl (Nat.le_of_ble_eq_true rfl) (mf_rr (Nat.le_trans (by decide) hd) (Nat.le_refl _)) (Nat.le_refl _) ck4 hyp (fun r14 g15 h16 hyp => ?_)
      refine mf_if_le (tgt := 78) (mf_dat eX12_chance 27 rfl) (by decide) (fun hc => ?_) (fun hc => ?_)
      · replace hyp := hyp.1 hc
        refine mf_aload_n (mf_dat eX12_chance 43 rfl) rfl rfl ?_
        refine mf_aload_n (mf_dat eX12_chance 44 rfl) rfl rfl ?_
        refine mf_aload_n (mf_dat eX12_chance 45 rfl) rfl rfl ?_
        refine mf_getf (r := (RX12, TX12, 106)) (ci := 12) (k := 56) (t := 2) (v := g15 x0 56) (mf_dat eX12_chance 46 rfl) fl_X12_136 rfl (by decide) rfl rfl ck4 ?_
        refine mf_iconst (v := 0) (mf_dat eX12_chance 47 rfl) (by decide) ?_
        obtain ⟨ck17, hyp⟩ := hyp
        obtain ⟨ck18, hyp⟩ := hyp
        refine mf_iald (mf_dat eX12_chance 48 rfl) ck17 (by decide) ck18 ?_
        refine mf_callV (Yc := YX12_openingOn) (r := (RX12, TX12, 106)) (ci := 12) (mf_dat eX12_chance 49 rfl) ml_X12_487 okX12_openingOn im_X12_openingOn sl_X12_openingOn rfl rfl rfl rfl (Nat.le_of_ble_eq_true rfl) (mf_rr (Nat.le_trans (by decide) hd) (Nat.le_refl _)) (Nat.le_refl _) ck4 hyp (fun r19 g20 h21 hyp => ?_)
        refine mf_callV (Yc := YX12_dayBy) (r := (RX12, TX12, 106)) (ci := 12) (mf_dat eX12_chance 50 rfl) ml_X12_490 okX12_dayBy im_X12_dayBy sl_X12_dayBy rfl rfl rfl rfl (Nat.le_of_ble_eq_true rfl) (mf_rr (Nat.le_trans (by decide) hd) (Nat.le_refl _)) (Nat.le_refl _) ck4 hyp (fun r22 g23 h24 hyp => ?_)
        refine mf_iinc (mf_dat eX12_chance 51 rfl) rfl (by decide) (by decide) ?_
        generalize qv25 : mf_w32 (x3 + 1) = v25
        replace hyp := hyp _ qv25.symm
        refine mf_goto (tgt := 25) (mf_dat eX12_chance 52 rfl) (by decide) ?_
        exact mf_sub [1, 2, 3, 0] rfl hyp
      · replace hyp := hyp.2 hc
        refine mf_aload_n (mf_dat eX12_chance 28 rfl) rfl rfl ?_
        refine mf_aload_n (mf_dat eX12_chance 29 rfl) rfl rfl ?_
        refine mf_callV (Yc := YX12_beingMany) (r := (RX12, TX12, 106)) (ci := 12) (mf_dat eX12_chance 30 rfl) ml_X12_402 okX12_beingMany im_X12_beingMany sl_X12_beingMany rfl rfl rfl rfl (Nat.le_of_ble_eq_true rfl) (mf_rr (Nat.le_trans (by decide) hd) (Nat.le_refl _)) (Nat.le_refl _) ck4 hyp (fun r26 g27 h28 hyp => ?_)
        refine mf_callV (Yc := YX12_drawOf) (r := (RX12, TX12, 106)) (ci := 12) (mf_dat eX12_chance 31 rfl) ml_X12_575 okX12_drawOf im_X12_drawOf sl_X12_drawOf rfl rfl rfl rfl (Nat.le_of_ble_eq_true rfl) (mf_rr (Nat.le_trans (by decide) hd) (Nat.le_refl _)) (Nat.le_refl _) ck4 hyp (fun r29 g30 h31 hyp => ?_)
        refine mf_istore (mf_dat eX12_chance 32 rfl) (by decide) ?_
        refine mf_aload_n (mf_dat eX12_chance 33 rfl) rfl rfl ?_
        refine mf_iload (mf_dat eX12_chance 34 rfl) rfl ?_
        refine mf_aload_n (mf_dat eX12_chance 35 rfl) rfl rfl ?_
        refine mf_iload (mf_dat eX12_chance 36 rfl) rfl ?_
        refine mf_callV (Yc := YX12_purseOf) (r := (RX12, TX12, 106)) (ci := 12) (mf_dat eX12_chance 37 rfl) ml_X12_445 okX12_purseOf im_X12_purseOf sl_X12_purseOf rfl rfl rfl rfl (Nat.le_of_ble_eq_true rfl) (mf_rr (Nat.le_trans (by decide) hd) (Nat.le_refl _)) (Nat.le_refl _) ck4 hyp (fun r32 g33 h34 hyp => ?_)
        refine mf_iconst (v := 2) (mf_dat eX12_chance 38 rfl) (by decide) ?_
        refine mf_idiv (mf_dat eX12_chance 39 rfl) (by decide) ?_
        refine mf_i2l (mf_dat eX12_chance 40 rfl) ?_
        refine mf_callV (Yc := YX12_purseIs) (r := (RX12, TX12, 106)) (ci := 12) (mf_dat eX12_chance 41 rfl) ml_X12_448 okX12_purseIs im_X12_purseIs sl_X12_purseIs rfl rfl rfl rfl (Nat.le_of_ble_eq_true rfl) (mf_rr (Nat.le_trans (by decide) hd) (Nat.le_refl _)) (Nat.le_refl _) ck4 hyp (fun r35 g36 h37 hyp => ?_)
        refine mf_iinc (mf_dat eX12_chance 42 rfl) rfl (by decide) (by decide) ?_
        generalize qv38 : mf_w32 (x2 + 1) = v38
        replace hyp := hyp _ qv38.symm
        refine mf_aload_n (mf_dat eX12_chance 43 rfl) rfl rfl ?_
        refine mf_aload_n (mf_dat eX12_chance 44 rfl) rfl rfl ?_
        refine mf_aload_n (mf_dat eX12_chance 45 rfl) rfl rfl ?_
        refine mf_getf (r := (RX12, TX12, 106)) (ci := 12) (k := 56) (t := 2) (v := g36 x0 56) (mf_dat eX12_chance 46 rfl) fl_X12_136 rfl (by decide) rfl rfl ck4 ?_
        refine mf_iconst (v := 0) (mf_dat eX12_chance 47 rfl) (by decide) ?_
        obtain ⟨ck39, hyp⟩ := hyp
        obtain ⟨ck40, hyp⟩ := hyp
        refine mf_iald (mf_dat eX12_chance 48 rfl) ck39 (by decide) ck40 ?_
        refine mf_callV (Yc := YX12_openingOn) (r := (RX12, TX12, 106)) (ci := 12) (mf_dat eX12_chance 49 rfl) ml_X12_487 okX12_openingOn im_X12_openingOn sl_X12_openingOn rfl rfl rfl rfl (Nat.le_of_ble_eq_true rfl) (mf_rr (Nat.le_trans (by decide) hd) (Nat.le_refl _)) (Nat.le_refl _) ck4 hyp (fun r41 g42 h43 hyp => ?_)
        refine mf_callV (Yc := YX12_dayBy) (r := (RX12, TX12, 106)) (ci := 12) (mf_dat eX12_chance 50 rfl) ml_X12_490 okX12_dayBy im_X12_dayBy sl_X12_dayBy rfl rfl rfl rfl (Nat.le_of_ble_eq_true rfl) (mf_rr (Nat.le_trans (by decide) hd) (Nat.le_refl _)) (Nat.le_refl _) ck4 hyp (fun r44 g45 h46 hyp => ?_)
        refine mf_iinc (mf_dat eX12_chance 51 rfl) rfl (by decide) (by decide) ?_
        generalize qv47 : mf_w32 (x3 + 1) = v47
        replace hyp := hyp _ qv47.symm
        refine mf_goto (tgt := 25) (mf_dat eX12_chance 52 rfl) (by decide) ?_
        exact mf_sub [3, 4, 1, 0] rfl hyp
set_option maxRecDepth 100000 in
set_option maxHeartbeats 4000000 in
theorem mX12_chance {C : mf_G} {l : Launch} {d n : Nat} {K : mf_Kt} {x0 x1 : Int} {g h : mf_M} (hd : 2 ≤ d) (hyp : mf_is n x0 12 ∧ mf_MT C l 1 YX12_isAhead [(2, x0), (0, x1), (0, 1), (0, 100)] n n g h (fun r1 g2 h3 => ((¬ r1 = 0 → mf_MT C l 0 YX12_keeps [(2, x0)] n n g2 h3 (fun r5 g6 h7 => JX12_chance_25 C l d n K x0 x1 0 0 g6 h7)) ∧ (r1 = 0 → mf_MT C l 0 YX12_refuses [(2, x0), (0, 3)] n n g2 h3 (fun r8 g9 h10 => K r8 g9 h10))))) : mf_MT C l d YX12_chance [(2, x0), (0, x1)] n n g h K := by
  refine mf_entry (by decide) (Nat.le_of_ble_eq_true rfl) ?_
  refine mf_aload_n (mf_dat eX12_chance 0 rfl) rfl rfl ?_
  refine mf_iload_n (mf_dat eX12_chance 1 rfl) rfl rfl ?_
  refine mf_iconst (v := 1) (mf_dat eX12_chance 2 rfl) (by decide) ?_
  refine mf_bipush (v := 100) (mf_dat eX12_chance 3 rfl) (by decide) ?_
  obtain ⟨ck4, hyp⟩ := hyp
  refine mf_callV (Yc := YX12_isAhead) (r := (RX12, TX12, 106)) (ci := 12) (mf_dat eX12_chance 4 rfl) ml_X12_520 okX12_isAhead im_X12_isAhead sl_X12_isAhead rfl rfl rfl rfl (Nat.le_of_ble_eq_true rfl) (mf_rr (Nat.le_trans (by decide) hd) (Nat.le_refl _)) (Nat.le_refl _) ck4 hyp (fun r1 g2 h3 hyp => ?_)
  refine mf_if_ne (tgt := 17) (mf_dat eX12_chance 5 rfl) (by decide) (fun hc => ?_) (fun hc => ?_)
  · replace hyp := hyp.1 hc
    refine mf_aload_n (mf_dat eX12_chance 10 rfl) rfl rfl ?_
    refine mf_callV (Yc := YX12_keeps) (r := (RX12, TX12, 106)) (ci := 12) (mf_dat eX12_chance 11 rfl) ml_X12_558 okX12_keeps im_X12_keeps sl_X12_keeps rfl rfl rfl rfl (Nat.le_of_ble_eq_true rfl) (mf_rr (Nat.le_trans (by decide) hd) (Nat.le_refl _)) (Nat.le_refl _) ck4 hyp (fun r5 g6 h7 hyp => ?_)
    refine mf_iconst (v := 0) (mf_dat eX12_chance 12 rfl) (by decide) ?_
    refine mf_istore_n (mf_dat eX12_chance 13 rfl) rfl (by decide) ?_
    refine mf_iconst (v := 0) (mf_dat eX12_chance 14 rfl) (by decide) ?_
    refine mf_istore_n (mf_dat eX12_chance 15 rfl) rfl (by decide) ?_
    exact mf_sub [2, 3, 1, 0] rfl hyp
  · replace hyp := hyp.2 hc
    refine mf_aload_n (mf_dat eX12_chance 6 rfl) rfl rfl ?_
    refine mf_iconst (v := 3) (mf_dat eX12_chance 7 rfl) (by decide) ?_
    refine mf_callV (Yc := YX12_refuses) (r := (RX12, TX12, 106)) (ci := 12) (mf_dat eX12_chance 8 rfl) ml_X12_546 okX12_refuses im_X12_refuses sl_X12_refuses rfl rfl rfl rfl (Nat.le_of_ble_eq_true rfl) (mf_rr (Nat.le_trans (by decide) hd) (Nat.le_refl _)) (Nat.le_refl _) ck4 hyp (fun r8 g9 h10 hyp => ?_)
    exact mf_ireturn (mf_dat eX12_chance 9 rfl) rfl (Or.inl rfl) hyp
set_option maxRecDepth 100000 in
set_option maxHeartbeats 4000000 in
theorem mX12_qCode {C : mf_G} {l : Launch} {d n : Nat} {K : mf_Kt} {x0 x1 : Int} {g h : mf_M} (hyp : mf_is n x0 12 ∧ mf_is n (g x0 94) 20 ∧ 0 ≤ h x0 95 ∧ h x0 95 < mf_len (g x0 94) ∧ (∀ h5 : mf_M, h5 = mf_up h (g x0 94) (h x0 95) x1 → (∀ h6 : mf_M, h6 = mf_up h5 x0 95 (mf_w32 ((h5 x0 95) + 1)) → K 0 g h6))) : mf_MT C l d YX12_qCode [(2, x0), (0, x1)] n n g h K := by
  refine mf_entry (by decide) (Nat.le_of_ble_eq_true rfl) ?_
  refine mf_aload_n (mf_dat eX12_qCode 0 rfl) rfl rfl ?_
  obtain ⟨ck1, hyp⟩ := hyp
  refine mf_getf (r := (RX12, TX12, 106)) (ci := 12) (k := 94) (t := 2) (v := g x0 94) (mf_dat eX12_qCode 1 rfl) fl_X12_228 rfl (by decide) rfl rfl ck1 ?_
  refine mf_aload_n (mf_dat eX12_qCode 2 rfl) rfl rfl ?_
  refine mf_getf (r := (RX12, TX12, 106)) (ci := 12) (k := 95) (t := 0) (v := h x0 95) (mf_dat eX12_qCode 3 rfl) fl_X12_338 rfl (by decide) rfl rfl ck1 ?_
  refine mf_iload_n (mf_dat eX12_qCode 4 rfl) rfl rfl ?_
  obtain ⟨ck2, hyp⟩ := hyp
  obtain ⟨ck3, hyp⟩ := hyp
  obtain ⟨ck4, hyp⟩ := hyp
  refine mf_iast (mf_dat eX12_qCode 5 rfl) ck2 ck3 ck4 ?_
  generalize qh5 : mf_up h (g x0 94) (h x0 95) x1 = h5
  replace hyp := hyp _ qh5.symm
  refine mf_aload_n (mf_dat eX12_qCode 6 rfl) rfl rfl ?_
  refine mf_dup (mf_dat eX12_qCode 7 rfl) (by decide) ?_
  refine mf_getf (r := (RX12, TX12, 106)) (ci := 12) (k := 95) (t := 0) (v := h5 x0 95) (mf_dat eX12_qCode 8 rfl) fl_X12_338 rfl (by decide) rfl rfl ck1 ?_
  refine mf_iconst (v := 1) (mf_dat eX12_qCode 9 rfl) (by decide) ?_
  refine mf_iadd (mf_dat eX12_qCode 10 rfl) ?_
  refine mf_putI (r := (RX12, TX12, 106)) (ci := 12) (k := 95) (kI := 95) (t := 0) (mf_dat eX12_qCode 11 rfl) fl_X12_338 rfl rfl (by decide) rfl (by decide) rfl (by decide) (fun h9 => absurd h9 (by decide)) ck1 ?_
  generalize qh6 : mf_up h5 x0 95 (mf_w32 ((h5 x0 95) + 1)) = h6
  replace hyp := hyp _ qh6.symm
  exact mf_return (mf_dat eX12_qCode 12 rfl) rfl hyp
set_option maxRecDepth 100000 in
set_option maxHeartbeats 4000000 in
theorem mX12_qOpens {C : mf_G} {l : Launch} {d n : Nat} {K : mf_Kt} {x0 x1 x2 : Int} {g h : mf_M} (hd : 1 ≤ d) (hyp : mf_is n x0 12 ∧ ((h x0 5 = 0 → ((¬ h x0 98 = 6 → (∀ h2 : mf_M, h2 = mf_up h x0 98 (mf_w32 ((h x0 98) + 1)) → mf_is n (g x0 96) 20 ∧ 0 ≤ h2 x0 97 ∧ h2 x0 97 < mf_len (g x0 96) ∧ (∀ h6 : mf_M, h6 = mf_up h2 (g x0 96) (h2 x0 97) x1 → (∀ h7 : mf_M, h7 = mf_up h6 x0 97 (mf_w32 ((h6 x0 97) + 1)) → K 0 g h7)))) ∧ (h x0 98 = 6 → mf_MT C l 0 YX12_fail [(2, x0), (0, 4), (0, x2)] n n g h (fun r8 g9 h10 => K 0 g9 h10)))) ∧ (¬ h x0 5 = 0 → K 0 g h))) : mf_MT C l d YX12_qOpens [(2, x0), (0, x1), (0, x2)] n n g h K := by
  refine mf_entry (by decide) (Nat.le_of_ble_eq_true rfl) ?_
  refine mf_aload_n (mf_dat eX12_qOpens 0 rfl) rfl rfl ?_
  obtain ⟨ck1, hyp⟩ := hyp
  refine mf_getf (r := (RX12, TX12, 106)) (ci := 12) (k := 5) (t := 0) (v := h x0 5) (mf_dat eX12_qOpens 1 rfl) fl_X12_243 rfl (by decide) rfl rfl ck1 ?_
  refine mf_if_eq (tgt := 8) (mf_dat eX12_qOpens 2 rfl) (by decide) (fun hc => ?_) (fun hc => ?_)
  · replace hyp := hyp.1 hc
    refine mf_aload_n (mf_dat eX12_qOpens 4 rfl) rfl rfl ?_
    refine mf_getf (r := (RX12, TX12, 106)) (ci := 12) (k := 98) (t := 0) (v := h x0 98) (mf_dat eX12_qOpens 5 rfl) fl_X12_344 rfl (by decide) rfl rfl ck1 ?_
    refine mf_bipush (v := 6) (mf_dat eX12_qOpens 6 rfl) (by decide) ?_
    refine mf_icmp_ne (tgt := 24) (mf_dat eX12_qOpens 7 rfl) (by decide) (fun hc => ?_) (fun hc => ?_)
    · replace hyp := hyp.1 hc
      refine mf_aload_n (mf_dat eX12_qOpens 13 rfl) rfl rfl ?_
      refine mf_dup (mf_dat eX12_qOpens 14 rfl) (by decide) ?_
      refine mf_getf (r := (RX12, TX12, 106)) (ci := 12) (k := 98) (t := 0) (v := h x0 98) (mf_dat eX12_qOpens 15 rfl) fl_X12_344 rfl (by decide) rfl rfl ck1 ?_
      refine mf_iconst (v := 1) (mf_dat eX12_qOpens 16 rfl) (by decide) ?_
      refine mf_iadd (mf_dat eX12_qOpens 17 rfl) ?_
      refine mf_putI (r := (RX12, TX12, 106)) (ci := 12) (k := 98) (kI := 98) (t := 0) (mf_dat eX12_qOpens 18 rfl) fl_X12_344 rfl rfl (by decide) rfl (by decide) rfl (by decide) (fun h9 => absurd h9 (by decide)) ck1 ?_
      generalize qh2 : mf_up h x0 98 (mf_w32 ((h x0 98) + 1)) = h2
      replace hyp := hyp _ qh2.symm
      refine mf_aload_n (mf_dat eX12_qOpens 19 rfl) rfl rfl ?_
      refine mf_getf (r := (RX12, TX12, 106)) (ci := 12) (k := 96) (t := 2) (v := g x0 96) (mf_dat eX12_qOpens 20 rfl) fl_X12_231 rfl (by decide) rfl rfl ck1 ?_
      refine mf_aload_n (mf_dat eX12_qOpens 21 rfl) rfl rfl ?_
      refine mf_getf (r := (RX12, TX12, 106)) (ci := 12) (k := 97) (t := 0) (v := h2 x0 97) (mf_dat eX12_qOpens 22 rfl) fl_X12_341 rfl (by decide) rfl rfl ck1 ?_
      refine mf_iload_n (mf_dat eX12_qOpens 23 rfl) rfl rfl ?_
      obtain ⟨ck3, hyp⟩ := hyp
      obtain ⟨ck4, hyp⟩ := hyp
      obtain ⟨ck5, hyp⟩ := hyp
      refine mf_iast (mf_dat eX12_qOpens 24 rfl) ck3 ck4 ck5 ?_
      generalize qh6 : mf_up h2 (g x0 96) (h2 x0 97) x1 = h6
      replace hyp := hyp _ qh6.symm
      refine mf_aload_n (mf_dat eX12_qOpens 25 rfl) rfl rfl ?_
      refine mf_dup (mf_dat eX12_qOpens 26 rfl) (by decide) ?_
      refine mf_getf (r := (RX12, TX12, 106)) (ci := 12) (k := 97) (t := 0) (v := h6 x0 97) (mf_dat eX12_qOpens 27 rfl) fl_X12_341 rfl (by decide) rfl rfl ck1 ?_
      refine mf_iconst (v := 1) (mf_dat eX12_qOpens 28 rfl) (by decide) ?_
      refine mf_iadd (mf_dat eX12_qOpens 29 rfl) ?_
      refine mf_putI (r := (RX12, TX12, 106)) (ci := 12) (k := 97) (kI := 97) (t := 0) (mf_dat eX12_qOpens 30 rfl) fl_X12_341 rfl rfl (by decide) rfl (by decide) rfl (by decide) (fun h9 => absurd h9 (by decide)) ck1 ?_
      generalize qh7 : mf_up h6 x0 97 (mf_w32 ((h6 x0 97) + 1)) = h7
      replace hyp := hyp _ qh7.symm
      exact mf_return (mf_dat eX12_qOpens 31 rfl) rfl hyp
    · replace hyp := hyp.2 hc
      refine mf_aload_n (mf_dat eX12_qOpens 8 rfl) rfl rfl ?_
      refine mf_iconst (v := 4) (mf_dat eX12_qOpens 9 rfl) (by decide) ?_
      refine mf_iload_n (mf_dat eX12_qOpens 10 rfl) rfl rfl ?_
      refine mf_callV (Yc := YX12_fail) (r := (RX12, TX12, 106)) (ci := 12) (mf_dat eX12_qOpens 11 rfl) ml_X12_273 okX12_fail im_X12_fail sl_X12_fail rfl rfl rfl rfl (Nat.le_of_ble_eq_true rfl) (mf_rr (Nat.le_trans (by decide) hd) (Nat.le_refl _)) (Nat.le_refl _) ck1 hyp (fun r8 g9 h10 hyp => ?_)
      exact mf_return (mf_dat eX12_qOpens 12 rfl) rfl hyp
  · replace hyp := hyp.2 hc
    exact mf_return (mf_dat eX12_qOpens 3 rfl) rfl hyp
set_option maxRecDepth 100000 in
set_option maxHeartbeats 4000000 in
theorem mX12_qIsOn {C : mf_G} {l : Launch} {d n : Nat} {K : mf_Kt} {x0 x1 : Int} {g h : mf_M} (hyp : mf_is n x0 12 ∧ ((h x0 97 ≤ 0 → K 0 g h) ∧ (¬ h x0 97 ≤ 0 → mf_is n (g x0 96) 20 ∧ 0 ≤ mf_w32 ((h x0 97) - 1) ∧ mf_w32 ((h x0 97) - 1) < mf_len (g x0 96) ∧ ((¬ h (g x0 96) (mf_w32 ((h x0 97) - 1)) = x1 → K 0 g h) ∧ (h (g x0 96) (mf_w32 ((h x0 97) - 1)) = x1 → K 1 g h))))) : mf_MT C l d YX12_qIsOn [(2, x0), (0, x1)] n n g h K := by
  refine mf_entry (by decide) (Nat.le_of_ble_eq_true rfl) ?_
  refine mf_aload_n (mf_dat eX12_qIsOn 0 rfl) rfl rfl ?_
  obtain ⟨ck1, hyp⟩ := hyp
  refine mf_getf (r := (RX12, TX12, 106)) (ci := 12) (k := 97) (t := 0) (v := h x0 97) (mf_dat eX12_qIsOn 1 rfl) fl_X12_341 rfl (by decide) rfl rfl ck1 ?_
  refine mf_if_le (tgt := 26) (mf_dat eX12_qIsOn 2 rfl) (by decide) (fun hc => ?_) (fun hc => ?_)
  · replace hyp := hyp.1 hc
    refine mf_iconst (v := 0) (mf_dat eX12_qIsOn 14 rfl) (by decide) ?_
    exact mf_ireturn (mf_dat eX12_qIsOn 15 rfl) rfl (Or.inr ⟨rfl, by decide⟩) hyp
  · replace hyp := hyp.2 hc
    refine mf_aload_n (mf_dat eX12_qIsOn 3 rfl) rfl rfl ?_
    refine mf_getf (r := (RX12, TX12, 106)) (ci := 12) (k := 96) (t := 2) (v := g x0 96) (mf_dat eX12_qIsOn 4 rfl) fl_X12_231 rfl (by decide) rfl rfl ck1 ?_
    refine mf_aload_n (mf_dat eX12_qIsOn 5 rfl) rfl rfl ?_
    refine mf_getf (r := (RX12, TX12, 106)) (ci := 12) (k := 97) (t := 0) (v := h x0 97) (mf_dat eX12_qIsOn 6 rfl) fl_X12_341 rfl (by decide) rfl rfl ck1 ?_
    refine mf_iconst (v := 1) (mf_dat eX12_qIsOn 7 rfl) (by decide) ?_
    refine mf_isub (mf_dat eX12_qIsOn 8 rfl) ?_
    obtain ⟨ck2, hyp⟩ := hyp
    obtain ⟨ck3, hyp⟩ := hyp
    obtain ⟨ck4, hyp⟩ := hyp
    refine mf_iald (mf_dat eX12_qIsOn 9 rfl) ck2 ck3 ck4 ?_
    refine mf_iload_n (mf_dat eX12_qIsOn 10 rfl) rfl rfl ?_
    refine mf_icmp_ne (tgt := 26) (mf_dat eX12_qIsOn 11 rfl) (by decide) (fun hc => ?_) (fun hc => ?_)
    · replace hyp := hyp.1 hc
      refine mf_iconst (v := 0) (mf_dat eX12_qIsOn 14 rfl) (by decide) ?_
      exact mf_ireturn (mf_dat eX12_qIsOn 15 rfl) rfl (Or.inr ⟨rfl, by decide⟩) hyp
    · replace hyp := hyp.2 hc
      refine mf_iconst (v := 1) (mf_dat eX12_qIsOn 12 rfl) (by decide) ?_
      refine mf_goto (tgt := 27) (mf_dat eX12_qIsOn 13 rfl) (by decide) ?_
      exact mf_ireturn (mf_dat eX12_qIsOn 15 rfl) rfl (Or.inr ⟨rfl, by decide⟩) hyp
set_option maxRecDepth 100000 in
set_option maxHeartbeats 4000000 in
theorem mX12_qDrops {C : mf_G} {l : Launch} {d n : Nat} {K : mf_Kt} {x0 : Int} {g h : mf_M} (hd : 1 ≤ d) (hyp : mf_is n x0 12 ∧ (∀ h2 : mf_M, h2 = mf_up h x0 97 (mf_w32 ((h x0 97) - 1)) → mf_is n (g x0 96) 20 ∧ 0 ≤ h2 x0 97 ∧ h2 x0 97 < mf_len (g x0 96) ∧ mf_MT C l 0 YX12_qCode [(2, x0), (0, h2 (g x0 96) (h2 x0 97))] n n g h2 (fun r6 g7 h8 => K 0 g7 h8))) : mf_MT C l d YX12_qDrops [(2, x0)] n n g h K := by
  refine mf_entry (by decide) (Nat.le_of_ble_eq_true rfl) ?_
  refine mf_aload_n (mf_dat eX12_qDrops 0 rfl) rfl rfl ?_
  refine mf_dup (mf_dat eX12_qDrops 1 rfl) (by decide) ?_
  obtain ⟨ck1, hyp⟩ := hyp
  refine mf_getf (r := (RX12, TX12, 106)) (ci := 12) (k := 97) (t := 0) (v := h x0 97) (mf_dat eX12_qDrops 2 rfl) fl_X12_341 rfl (by decide) rfl rfl ck1 ?_
  refine mf_iconst (v := 1) (mf_dat eX12_qDrops 3 rfl) (by decide) ?_
  refine mf_isub (mf_dat eX12_qDrops 4 rfl) ?_
  refine mf_putI (r := (RX12, TX12, 106)) (ci := 12) (k := 97) (kI := 97) (t := 0) (mf_dat eX12_qDrops 5 rfl) fl_X12_341 rfl rfl (by decide) rfl (by decide) rfl (by decide) (fun h9 => absurd h9 (by decide)) ck1 ?_
  generalize qh2 : mf_up h x0 97 (mf_w32 ((h x0 97) - 1)) = h2
  replace hyp := hyp _ qh2.symm
  refine mf_aload_n (mf_dat eX12_qDrops 6 rfl) rfl rfl ?_
  refine mf_aload_n (mf_dat eX12_qDrops 7 rfl) rfl rfl ?_
  refine mf_getf (r := (RX12, TX12, 106)) (ci := 12) (k := 96) (t := 2) (v := g x0 96) (mf_dat eX12_qDrops 8 rfl) fl_X12_231 rfl (by decide) rfl rfl ck1 ?_
  refine mf_aload_n (mf_dat eX12_qDrops 9 rfl) rfl rfl ?_
  refine mf_getf (r := (RX12, TX12, 106)) (ci := 12) (k := 97) (t := 0) (v := h2 x0 97) (mf_dat eX12_qDrops 10 rfl) fl_X12_341 rfl (by decide) rfl rfl ck1 ?_
  obtain ⟨ck3, hyp⟩ := hyp
  obtain ⟨ck4, hyp⟩ := hyp
  obtain ⟨ck5, hyp⟩ := hyp
  refine mf_iald (mf_dat eX12_qDrops 11 rfl) ck3 ck4 ck5 ?_
  refine mf_callV (Yc := YX12_qCode) (r := (RX12, TX12, 106)) (ci := 12) (mf_dat eX12_qDrops 12 rfl) ml_X12_578 okX12_qCode im_X12_qCode sl_X12_qCode rfl rfl rfl rfl (Nat.le_of_ble_eq_true rfl) (mf_rr (Nat.le_trans (by decide) hd) (Nat.le_refl _)) (Nat.le_refl _) ck1 hyp (fun r6 g7 h8 hyp => ?_)
  exact mf_return (mf_dat eX12_qDrops 13 rfl) rfl hyp
set_option maxRecDepth 100000 in
set_option maxHeartbeats 4000000 in
theorem mX12_qIsBracket {C : mf_G} {l : Launch} {d n : Nat} {K : mf_Kt} {x0 : Int} {g h : mf_M} (hyp : ((x0 < 20 → K 0 g h) ∧ (¬ x0 < 20 → ((24 < x0 → K 0 g h) ∧ (¬ 24 < x0 → K 1 g h))))) : mf_MT C l d YX12_qIsBracket [(0, x0)] n n g h K := by
  refine mf_entry (by decide) (Nat.le_of_ble_eq_true rfl) ?_
  refine mf_iload_n (mf_dat eX12_qIsBracket 0 rfl) rfl rfl ?_
  refine mf_bipush (v := 20) (mf_dat eX12_qIsBracket 1 rfl) (by decide) ?_
  refine mf_icmp_lt (tgt := 16) (mf_dat eX12_qIsBracket 2 rfl) (by decide) (fun hc => ?_) (fun hc => ?_)
  · replace hyp := hyp.1 hc
    refine mf_iconst (v := 0) (mf_dat eX12_qIsBracket 8 rfl) (by decide) ?_
    exact mf_ireturn (mf_dat eX12_qIsBracket 9 rfl) rfl (Or.inr ⟨rfl, by decide⟩) hyp
  · replace hyp := hyp.2 hc
    refine mf_iload_n (mf_dat eX12_qIsBracket 3 rfl) rfl rfl ?_
    refine mf_bipush (v := 24) (mf_dat eX12_qIsBracket 4 rfl) (by decide) ?_
    refine mf_icmp_gt (tgt := 16) (mf_dat eX12_qIsBracket 5 rfl) (by decide) (fun hc => ?_) (fun hc => ?_)
    · replace hyp := hyp.1 hc
      refine mf_iconst (v := 0) (mf_dat eX12_qIsBracket 8 rfl) (by decide) ?_
      exact mf_ireturn (mf_dat eX12_qIsBracket 9 rfl) rfl (Or.inr ⟨rfl, by decide⟩) hyp
    · replace hyp := hyp.2 hc
      refine mf_iconst (v := 1) (mf_dat eX12_qIsBracket 6 rfl) (by decide) ?_
      refine mf_goto (tgt := 17) (mf_dat eX12_qIsBracket 7 rfl) (by decide) ?_
      exact mf_ireturn (mf_dat eX12_qIsBracket 9 rfl) rfl (Or.inr ⟨rfl, by decide⟩) hyp
abbrev JX12_qBracket_7 (C : mf_G) (l : Launch) (d n : Nat) (K : mf_Kt) (x0 x1 : Int) (g h : mf_M) : Prop := mf_AW C l YX12_qBracket (mf_rm d n n) n (mf_Zm C YX12_qBracket n n K) (fun _ _ => True) 7 [(0, (2, x0)), (1, (0, x1))] [] n g h
set_option maxRecDepth 100000 in
set_option maxHeartbeats 4000000 in
theorem bX12_qBracket_7 {C : mf_G} {l : Launch} {d n : Nat} {K : mf_Kt} {x0 x1 : Int} {g h : mf_M} (hd : 1 ≤ d) (hyp : mf_is n x0 12 ∧ ((x1 < h x0 99 → ((x1 < h x0 99 → K (-1) g h) ∧ (¬ x1 < h x0 99 → mf_is n (g x0 96) 20 ∧ 0 ≤ x1 ∧ x1 < mf_len (g x0 96) ∧ K (h (g x0 96) x1) g h))) ∧ (¬ x1 < h x0 99 → mf_is n (g x0 96) 20 ∧ 0 ≤ x1 ∧ x1 < mf_len (g x0 96) ∧ mf_MT C l 0 YX12_qIsBracket [(0, h (g x0 96) x1)] n n g h (fun r8 g9 h10 => ((¬ r8 = 0 → ((x1 < h10 x0 99 → K (-1) g9 h10) ∧ (¬ x1 < h10 x0 99 → mf_is n (g9 x0 96) 20 ∧ x1 < mf_len (g9 x0 96) ∧ K (h10 (g9 x0 96) x1) g9 h10))) ∧ (r8 = 0 → (∀ v13 : Int, v13 = mf_w32 (x1 + (-1)) → JX12_qBracket_7 C l d n K x0 v13 g9 h10))))))) : JX12_qBracket_7 C l d n K x0 x1 g h := by
  refine mf_iload_n (mf_dat eX12_qBracket 5 rfl) rfl rfl ?_
  refine mf_aload_n (mf_dat eX12_qBracket 6 rfl) rfl rfl ?_
  obtain ⟨ck1, hyp⟩ := hyp
  refine mf_getf (r := (RX12, TX12, 106)) (ci := 12) (k := 99) (t := 0) (v := h x0 99) (mf_dat eX12_qBracket 7 rfl) fl_X12_347 rfl (by decide) rfl rfl ck1 ?_
  refine mf_icmp_lt (tgt := 33) (mf_dat eX12_qBracket 8 rfl) (by decide) (fun hc => ?_) (fun hc => ?_)
  · replace hyp := hyp.1 hc
    refine mf_iload_n (mf_dat eX12_qBracket 17 rfl) rfl rfl ?_
    refine mf_aload_n (mf_dat eX12_qBracket 18 rfl) rfl rfl ?_
    refine mf_getf (r := (RX12, TX12, 106)) (ci := 12) (k := 99) (t := 0) (v := h x0 99) (mf_dat eX12_qBracket 19 rfl) fl_X12_347 rfl (by decide) rfl rfl ck1 ?_
    refine mf_icmp_lt (tgt := 50) (mf_dat eX12_qBracket 20 rfl) (by decide) (fun hc => ?_) (fun hc => ?_)
    · replace hyp := hyp.1 hc
      refine mf_iconst (v := (-1)) (mf_dat eX12_qBracket 26 rfl) (by decide) ?_
      exact mf_ireturn (mf_dat eX12_qBracket 27 rfl) rfl (Or.inl rfl) hyp
    · replace hyp := hyp.2 hc
      refine mf_aload_n (mf_dat eX12_qBracket 21 rfl) rfl rfl ?_
      refine mf_getf (r := (RX12, TX12, 106)) (ci := 12) (k := 96) (t := 2) (v := g x0 96) (mf_dat eX12_qBracket 22 rfl) fl_X12_231 rfl (by decide) rfl rfl ck1 ?_
      refine mf_iload_n (mf_dat eX12_qBracket 23 rfl) rfl rfl ?_
      obtain ⟨ck2, hyp⟩ := hyp
      obtain ⟨ck3, hyp⟩ := hyp
      obtain ⟨ck4, hyp⟩ := hyp
      refine mf_iald (mf_dat eX12_qBracket 24 rfl) ck2 ck3 ck4 ?_
      refine mf_goto (tgt := 51) (mf_dat eX12_qBracket 25 rfl) (by decide) ?_
      exact mf_ireturn (mf_dat eX12_qBracket 27 rfl) rfl (Or.inl rfl) hyp
  · replace hyp := hyp.2 hc
    refine mf_aload_n (mf_dat eX12_qBracket 9 rfl) rfl rfl ?_
    refine mf_getf (r := (RX12, TX12, 106)) (ci := 12) (k := 96) (t := 2) (v := g x0 96) (mf_dat eX12_qBracket 10 rfl) fl_X12_231 rfl (by decide) rfl rfl ck1 ?_
    refine mf_iload_n (mf_dat eX12_qBracket 11 rfl) rfl rfl ?_
    obtain ⟨ck5, hyp⟩ := hyp
    obtain ⟨ck6, hyp⟩ := hyp
    obtain ⟨ck7, hyp⟩ := hyp
    refine mf_iald (mf_dat eX12_qBracket 12 rfl) ck5 ck6 ck7 ?_
    refine mf_callS (Yc := YX12_qIsBracket) (mf_dat eX12_qBracket 13 rfl) ml_X12_581 okX12_qIsBracket sm_X12_qIsBracket rfl rfl (Nat.le_of_ble_eq_true rfl) (mf_rr (Nat.le_trans (by decide) hd) (Nat.le_refl _)) (Nat.le_refl _) hyp (fun r8 g9 h10 hyp => ?_)
    refine mf_if_ne (tgt := 33) (mf_dat eX12_qBracket 14 rfl) (by decide) (fun hc => ?_) (fun hc => ?_)
    · replace hyp := hyp.1 hc
      refine mf_iload_n (mf_dat eX12_qBracket 17 rfl) rfl rfl ?_
      refine mf_aload_n (mf_dat eX12_qBracket 18 rfl) rfl rfl ?_
      refine mf_getf (r := (RX12, TX12, 106)) (ci := 12) (k := 99) (t := 0) (v := h10 x0 99) (mf_dat eX12_qBracket 19 rfl) fl_X12_347 rfl (by decide) rfl rfl ck1 ?_
      refine mf_icmp_lt (tgt := 50) (mf_dat eX12_qBracket 20 rfl) (by decide) (fun hc => ?_) (fun hc => ?_)
      · replace hyp := hyp.1 hc
        refine mf_iconst (v := (-1)) (mf_dat eX12_qBracket 26 rfl) (by decide) ?_
        exact mf_ireturn (mf_dat eX12_qBracket 27 rfl) rfl (Or.inl rfl) hyp
      · replace hyp := hyp.2 hc
        refine mf_aload_n (mf_dat eX12_qBracket 21 rfl) rfl rfl ?_
        refine mf_getf (r := (RX12, TX12, 106)) (ci := 12) (k := 96) (t := 2) (v := g9 x0 96) (mf_dat eX12_qBracket 22 rfl) fl_X12_231 rfl (by decide) rfl rfl ck1 ?_
        refine mf_iload_n (mf_dat eX12_qBracket 23 rfl) rfl rfl ?_
        obtain ⟨ck11, hyp⟩ := hyp
        obtain ⟨ck12, hyp⟩ := hyp
        refine mf_iald (mf_dat eX12_qBracket 24 rfl) ck11 ck6 ck12 ?_
        refine mf_goto (tgt := 51) (mf_dat eX12_qBracket 25 rfl) (by decide) ?_
        exact mf_ireturn (mf_dat eX12_qBracket 27 rfl) rfl (Or.inl rfl) hyp
    · replace hyp := hyp.2 hc
      refine mf_iinc (mf_dat eX12_qBracket 15 rfl) rfl (by decide) (by decide) ?_
      generalize qv13 : mf_w32 (x1 + (-1)) = v13
      replace hyp := hyp _ qv13.symm
      refine mf_goto (tgt := 7) (mf_dat eX12_qBracket 16 rfl) (by decide) ?_
      exact mf_sub [1, 0] rfl hyp
set_option maxRecDepth 100000 in
set_option maxHeartbeats 4000000 in
theorem mX12_qBracket {C : mf_G} {l : Launch} {d n : Nat} {K : mf_Kt} {x0 : Int} {g h : mf_M} (hyp : mf_is n x0 12 ∧ (∀ v2 : Int, v2 = mf_w32 ((h x0 97) - 1) → JX12_qBracket_7 C l d n K x0 v2 g h)) : mf_MT C l d YX12_qBracket [(2, x0)] n n g h K := by
  refine mf_entry (by decide) (Nat.le_of_ble_eq_true rfl) ?_
  refine mf_aload_n (mf_dat eX12_qBracket 0 rfl) rfl rfl ?_
  obtain ⟨ck1, hyp⟩ := hyp
  refine mf_getf (r := (RX12, TX12, 106)) (ci := 12) (k := 97) (t := 0) (v := h x0 97) (mf_dat eX12_qBracket 1 rfl) fl_X12_341 rfl (by decide) rfl rfl ck1 ?_
  refine mf_iconst (v := 1) (mf_dat eX12_qBracket 2 rfl) (by decide) ?_
  refine mf_isub (mf_dat eX12_qBracket 3 rfl) ?_
  generalize qv2 : mf_w32 ((h x0 97) - 1) = v2
  replace hyp := hyp _ qv2.symm
  refine mf_istore_n (mf_dat eX12_qBracket 4 rfl) rfl (by decide) ?_
  exact mf_sub [1, 0] rfl hyp
abbrev JX12_qDropsToBracket_0 (C : mf_G) (l : Launch) (d n : Nat) (K : mf_Kt) (x0 : Int) (g h : mf_M) : Prop := mf_AW C l YX12_qDropsToBracket (mf_rm d n n) n (mf_Zm C YX12_qDropsToBracket n n K) (fun _ _ => True) 0 [(0, (2, x0))] [] n g h
set_option maxRecDepth 100000 in
set_option maxHeartbeats 4000000 in
theorem bX12_qDropsToBracket_0 {C : mf_G} {l : Launch} {d n : Nat} {K : mf_Kt} {x0 : Int} {g h : mf_M} (hd : 2 ≤ d) (hyp : mf_is n x0 12 ∧ ((h x0 97 ≤ h x0 99 → K 0 g h) ∧ (¬ h x0 97 ≤ h x0 99 → mf_is n (g x0 96) 20 ∧ 0 ≤ mf_w32 ((h x0 97) - 1) ∧ mf_w32 ((h x0 97) - 1) < mf_len (g x0 96) ∧ mf_MT C l 0 YX12_qIsBracket [(0, h (g x0 96) (mf_w32 ((h x0 97) - 1)))] n n g h (fun r5 g6 h7 => ((¬ r5 = 0 → K 0 g6 h7) ∧ (r5 = 0 → mf_MT C l 1 YX12_qDrops [(2, x0)] n n g6 h7 (fun r8 g9 h10 => JX12_qDropsToBracket_0 C l d n K x0 g9 h10))))))) : JX12_qDropsToBracket_0 C l d n K x0 g h := by
  refine mf_aload_n (mf_dat eX12_qDropsToBracket 0 rfl) rfl rfl ?_
  obtain ⟨ck1, hyp⟩ := hyp
  refine mf_getf (r := (RX12, TX12, 106)) (ci := 12) (k := 97) (t := 0) (v := h x0 97) (mf_dat eX12_qDropsToBracket 1 rfl) fl_X12_341 rfl (by decide) rfl rfl ck1 ?_
  refine mf_aload_n (mf_dat eX12_qDropsToBracket 2 rfl) rfl rfl ?_
  refine mf_getf (r := (RX12, TX12, 106)) (ci := 12) (k := 99) (t := 0) (v := h x0 99) (mf_dat eX12_qDropsToBracket 3 rfl) fl_X12_347 rfl (by decide) rfl rfl ck1 ?_
  refine mf_icmp_le (tgt := 35) (mf_dat eX12_qDropsToBracket 4 rfl) (by decide) (fun hc => ?_) (fun hc => ?_)
  · replace hyp := hyp.1 hc
    exact mf_return (mf_dat eX12_qDropsToBracket 17 rfl) rfl hyp
  · replace hyp := hyp.2 hc
    refine mf_aload_n (mf_dat eX12_qDropsToBracket 5 rfl) rfl rfl ?_
    refine mf_getf (r := (RX12, TX12, 106)) (ci := 12) (k := 96) (t := 2) (v := g x0 96) (mf_dat eX12_qDropsToBracket 6 rfl) fl_X12_231 rfl (by decide) rfl rfl ck1 ?_
    refine mf_aload_n (mf_dat eX12_qDropsToBracket 7 rfl) rfl rfl ?_
    refine mf_getf (r := (RX12, TX12, 106)) (ci := 12) (k := 97) (t := 0) (v := h x0 97) (mf_dat eX12_qDropsToBracket 8 rfl) fl_X12_341 rfl (by decide) rfl rfl ck1 ?_
    refine mf_iconst (v := 1) (mf_dat eX12_qDropsToBracket 9 rfl) (by decide) ?_
    refine mf_isub (mf_dat eX12_qDropsToBracket 10 rfl) ?_
    obtain ⟨ck2, hyp⟩ := hyp
    obtain ⟨ck3, hyp⟩ := hyp
    obtain ⟨ck4, hyp⟩ := hyp
    refine mf_iald (mf_dat eX12_qDropsToBracket 11 rfl) ck2 ck3 ck4 ?_
    refine mf_callS (Yc := YX12_qIsBracket) (mf_dat eX12_qDropsToBracket 12 rfl) ml_X12_581 okX12_qIsBracket sm_X12_qIsBracket rfl rfl (Nat.le_of_ble_eq_true rfl) (mf_rr (Nat.le_trans (by decide) hd) (Nat.le_refl _)) (Nat.le_refl _) hyp (fun r5 g6 h7 hyp => ?_)
    refine mf_if_ne (tgt := 35) (mf_dat eX12_qDropsToBracket 13 rfl) (by decide) (fun hc => ?_) (fun hc => ?_)
    · replace hyp := hyp.1 hc
      exact mf_return (mf_dat eX12_qDropsToBracket 17 rfl) rfl hyp
    · replace hyp := hyp.2 hc
      refine mf_aload_n (mf_dat eX12_qDropsToBracket 14 rfl) rfl rfl ?_
      refine mf_callV (Yc := YX12_qDrops) (r := (RX12, TX12, 106)) (ci := 12) (mf_dat eX12_qDropsToBracket 15 rfl) ml_X12_584 okX12_qDrops im_X12_qDrops sl_X12_qDrops rfl rfl rfl rfl (Nat.le_of_ble_eq_true rfl) (mf_rr (Nat.le_trans (by decide) hd) (Nat.le_refl _)) (Nat.le_refl _) ck1 hyp (fun r8 g9 h10 hyp => ?_)
      refine mf_goto (tgt := 0) (mf_dat eX12_qDropsToBracket 16 rfl) (by decide) ?_
      exact mf_sub [0] rfl hyp
set_option maxRecDepth 100000 in
set_option maxHeartbeats 4000000 in
theorem mX12_qDropsToBracket {C : mf_G} {l : Launch} {d n : Nat} {K : mf_Kt} {x0 : Int} {g h : mf_M} (hyp : JX12_qDropsToBracket_0 C l d n K x0 g h) : mf_MT C l d YX12_qDropsToBracket [(2, x0)] n n g h K := by
  refine mf_entry (by decide) (Nat.le_of_ble_eq_true rfl) ?_
  exact mf_sub [0] rfl hyp
set_option maxRecDepth 100000 in
set_option maxHeartbeats 4000000 in
theorem mX12_qWordHere {C : mf_G} {l : Launch} {d n : Nat} {K : mf_Kt} {x0 : Int} {g h : mf_M} (hd : 2 ≤ d) (hyp : mf_is n x0 12 ∧ mf_MT C l 1 YX12_isHere [(2, x0), (2, g x0 84)] n n g h (fun r2 g3 h4 => ((r2 = 0 → mf_MT C l 1 YX12_isHere [(2, x0), (2, g3 x0 85)] n n g3 h4 (fun r5 g6 h7 => ((r5 = 0 → mf_MT C l 1 YX12_isHere [(2, x0), (2, g6 x0 86)] n n g6 h7 (fun r8 g9 h10 => ((r8 = 0 → mf_MT C l 1 YX12_isHere [(2, x0), (2, g9 x0 87)] n n g9 h10 (fun r11 g12 h13 => ((r11 = 0 → mf_MT C l 1 YX12_isHere [(2, x0), (2, g12 x0 88)] n n g12 h13 (fun r14 g15 h16 => ((r14 = 0 → mf_MT C l 1 YX12_isHere [(2, x0), (2, g15 x0 89)] n n g15 h16 (fun r17 g18 h19 => ((r17 = 0 → mf_MT C l 1 YX12_isHere [(2, x0), (2, g18 x0 90)] n n g18 h19 (fun r20 g21 h22 => ((r20 = 0 → mf_MT C l 1 YX12_isHere [(2, x0), (2, g21 x0 91)] n n g21 h22 (fun r23 g24 h25 => ((r23 = 0 → mf_MT C l 1 YX12_isHere [(2, x0), (2, g24 x0 92)] n n g24 h25 (fun r26 g27 h28 => ((r26 = 0 → mf_MT C l 1 YX12_isHere [(2, x0), (2, g27 x0 93)] n n g27 h28 (fun r29 g30 h31 => ((r29 = 0 → K (-1) g30 h31) ∧ (¬ r29 = 0 → K 9 g30 h31)))) ∧ (¬ r26 = 0 → K 8 g27 h28)))) ∧ (¬ r23 = 0 → K 7 g24 h25)))) ∧ (¬ r20 = 0 → K 6 g21 h22)))) ∧ (¬ r17 = 0 → K 5 g18 h19)))) ∧ (¬ r14 = 0 → K 4 g15 h16)))) ∧ (¬ r11 = 0 → K 3 g12 h13)))) ∧ (¬ r8 = 0 → K 2 g9 h10)))) ∧ (¬ r5 = 0 → K 1 g6 h7)))) ∧ (¬ r2 = 0 → K 0 g3 h4)))) : mf_MT C l d YX12_qWordHere [(2, x0)] n n g h K := by
  refine mf_entry (by decide) (Nat.le_of_ble_eq_true rfl) ?_
  refine mf_aload_n (mf_dat eX12_qWordHere_p0 0 rfl) rfl rfl ?_
  refine mf_aload_n (mf_dat eX12_qWordHere_p0 1 rfl) rfl rfl ?_
  obtain ⟨ck1, hyp⟩ := hyp
  refine mf_getf (r := (RX12, TX12, 106)) (ci := 12) (k := 84) (t := 2) (v := g x0 84) (mf_dat eX12_qWordHere_p0 2 rfl) fl_X12_198 rfl (by decide) rfl rfl ck1 ?_
  refine mf_callV (Yc := YX12_isHere) (r := (RX12, TX12, 106)) (ci := 12) (mf_dat eX12_qWordHere_p0 3 rfl) ml_X12_266 okX12_isHere im_X12_isHere sl_X12_isHere rfl rfl rfl rfl (Nat.le_of_ble_eq_true rfl) (mf_rr (Nat.le_trans (by decide) hd) (Nat.le_refl _)) (Nat.le_refl _) ck1 hyp (fun r2 g3 h4 hyp => ?_)
  refine mf_if_eq (tgt := 13) (mf_dat eX12_qWordHere_p0 4 rfl) (by decide) (fun hc => ?_) (fun hc => ?_)
  · replace hyp := hyp.1 hc
    refine mf_aload_n (mf_dat eX12_qWordHere_p0 7 rfl) rfl rfl ?_
    refine mf_aload_n (mf_dat eX12_qWordHere_p0 8 rfl) rfl rfl ?_
    refine mf_getf (r := (RX12, TX12, 106)) (ci := 12) (k := 85) (t := 2) (v := g3 x0 85) (mf_dat eX12_qWordHere_p0 9 rfl) fl_X12_201 rfl (by decide) rfl rfl ck1 ?_
    refine mf_callV (Yc := YX12_isHere) (r := (RX12, TX12, 106)) (ci := 12) (mf_dat eX12_qWordHere_p0 10 rfl) ml_X12_266 okX12_isHere im_X12_isHere sl_X12_isHere rfl rfl rfl rfl (Nat.le_of_ble_eq_true rfl) (mf_rr (Nat.le_trans (by decide) hd) (Nat.le_refl _)) (Nat.le_refl _) ck1 hyp (fun r5 g6 h7 hyp => ?_)
    refine mf_if_eq (tgt := 26) (mf_dat eX12_qWordHere_p0 11 rfl) (by decide) (fun hc => ?_) (fun hc => ?_)
    · replace hyp := hyp.1 hc
      refine mf_aload_n (mf_dat eX12_qWordHere_p0 14 rfl) rfl rfl ?_
      refine mf_aload_n (mf_dat eX12_qWordHere_p0 15 rfl) rfl rfl ?_
      refine mf_getf (r := (RX12, TX12, 106)) (ci := 12) (k := 86) (t := 2) (v := g6 x0 86) (mf_dat eX12_qWordHere_p0 16 rfl) fl_X12_204 rfl (by decide) rfl rfl ck1 ?_
      refine mf_callV (Yc := YX12_isHere) (r := (RX12, TX12, 106)) (ci := 12) (mf_dat eX12_qWordHere_p0 17 rfl) ml_X12_266 okX12_isHere im_X12_isHere sl_X12_isHere rfl rfl rfl rfl (Nat.le_of_ble_eq_true rfl) (mf_rr (Nat.le_trans (by decide) hd) (Nat.le_refl _)) (Nat.le_refl _) ck1 hyp (fun r8 g9 h10 hyp => ?_)
      refine mf_if_eq (tgt := 39) (mf_dat eX12_qWordHere_p0 18 rfl) (by decide) (fun hc => ?_) (fun hc => ?_)
      · replace hyp := hyp.1 hc
        refine mf_aload_n (mf_dat eX12_qWordHere_p0 21 rfl) rfl rfl ?_
        refine mf_aload_n (mf_dat eX12_qWordHere_p0 22 rfl) rfl rfl ?_
        refine mf_getf (r := (RX12, TX12, 106)) (ci := 12) (k := 87) (t := 2) (v := g9 x0 87) (mf_dat eX12_qWordHere_p0 23 rfl) fl_X12_207 rfl (by decide) rfl rfl ck1 ?_
        refine mf_callV (Yc := YX12_isHere) (r := (RX12, TX12, 106)) (ci := 12) (mf_dat eX12_qWordHere_p0 24 rfl) ml_X12_266 okX12_isHere im_X12_isHere sl_X12_isHere rfl rfl rfl rfl (Nat.le_of_ble_eq_true rfl) (mf_rr (Nat.le_trans (by decide) hd) (Nat.le_refl _)) (Nat.le_refl _) ck1 hyp (fun r11 g12 h13 hyp => ?_)
        refine mf_if_eq (tgt := 52) (mf_dat eX12_qWordHere_p0 25 rfl) (by decide) (fun hc => ?_) (fun hc => ?_)
        · replace hyp := hyp.1 hc
          refine mf_aload_n (mf_dat eX12_qWordHere_p0 28 rfl) rfl rfl ?_
          refine mf_aload_n (mf_dat eX12_qWordHere_p0 29 rfl) rfl rfl ?_
          refine mf_getf (r := (RX12, TX12, 106)) (ci := 12) (k := 88) (t := 2) (v := g12 x0 88) (mf_dat eX12_qWordHere_p0 30 rfl) fl_X12_210 rfl (by decide) rfl rfl ck1 ?_
          refine mf_callV (Yc := YX12_isHere) (r := (RX12, TX12, 106)) (ci := 12) (mf_dat eX12_qWordHere_p0 31 rfl) ml_X12_266 okX12_isHere im_X12_isHere sl_X12_isHere rfl rfl rfl rfl (Nat.le_of_ble_eq_true rfl) (mf_rr (Nat.le_trans (by decide) hd) (Nat.le_refl _)) (Nat.le_refl _) ck1 hyp (fun r14 g15 h16 hyp => ?_)
          refine mf_if_eq (tgt := 65) (mf_dat eX12_qWordHere_p0 32 rfl) (by decide) (fun hc => ?_) (fun hc => ?_)
          · replace hyp := hyp.1 hc
            refine mf_aload_n (mf_dat eX12_qWordHere_p0 35 rfl) rfl rfl ?_
            refine mf_aload_n (mf_dat eX12_qWordHere_p0 36 rfl) rfl rfl ?_
            refine mf_getf (r := (RX12, TX12, 106)) (ci := 12) (k := 89) (t := 2) (v := g15 x0 89) (mf_dat eX12_qWordHere_p0 37 rfl) fl_X12_213 rfl (by decide) rfl rfl ck1 ?_
            refine mf_callV (Yc := YX12_isHere) (r := (RX12, TX12, 106)) (ci := 12) (mf_dat eX12_qWordHere_p0 38 rfl) ml_X12_266 okX12_isHere im_X12_isHere sl_X12_isHere rfl rfl rfl rfl (Nat.le_of_ble_eq_true rfl) (mf_rr (Nat.le_trans (by decide) hd) (Nat.le_refl _)) (Nat.le_refl _) ck1 hyp (fun r17 g18 h19 hyp => ?_)
            refine mf_if_eq (tgt := 78) (mf_dat eX12_qWordHere_p0 39 rfl) (by decide) (fun hc => ?_) (fun hc => ?_)
            · replace hyp := hyp.1 hc
              refine mf_aload_n (mf_dat eX12_qWordHere_p0 42 rfl) rfl rfl ?_
              refine mf_aload_n (mf_dat eX12_qWordHere_p0 43 rfl) rfl rfl ?_
              refine mf_getf (r := (RX12, TX12, 106)) (ci := 12) (k := 90) (t := 2) (v := g18 x0 90) (mf_dat eX12_qWordHere_p0 44 rfl) fl_X12_216 rfl (by decide) rfl rfl ck1 ?_
              refine mf_callV (Yc := YX12_isHere) (r := (RX12, TX12, 106)) (ci := 12) (mf_dat eX12_qWordHere_p0 45 rfl) ml_X12_266 okX12_isHere im_X12_isHere sl_X12_isHere rfl rfl rfl rfl (Nat.le_of_ble_eq_true rfl) (mf_rr (Nat.le_trans (by decide) hd) (Nat.le_refl _)) (Nat.le_refl _) ck1 hyp (fun r20 g21 h22 hyp => ?_)
              refine mf_if_eq (tgt := 92) (mf_dat eX12_qWordHere_p0 46 rfl) (by decide) (fun hc => ?_) (fun hc => ?_)
              · replace hyp := hyp.1 hc
                refine mf_aload_n (mf_dat eX12_qWordHere_p0 49 rfl) rfl rfl ?_
                refine mf_aload_n (mf_dat eX12_qWordHere_p0 50 rfl) rfl rfl ?_
                refine mf_getf (r := (RX12, TX12, 106)) (ci := 12) (k := 91) (t := 2) (v := g21 x0 91) (mf_dat eX12_qWordHere_p0 51 rfl) fl_X12_219 rfl (by decide) rfl rfl ck1 ?_
                refine mf_callV (Yc := YX12_isHere) (r := (RX12, TX12, 106)) (ci := 12) (mf_dat eX12_qWordHere_p0 52 rfl) ml_X12_266 okX12_isHere im_X12_isHere sl_X12_isHere rfl rfl rfl rfl (Nat.le_of_ble_eq_true rfl) (mf_rr (Nat.le_trans (by decide) hd) (Nat.le_refl _)) (Nat.le_refl _) ck1 hyp (fun r23 g24 h25 hyp => ?_)
                refine mf_if_eq (tgt := 106) (mf_dat eX12_qWordHere_p0 53 rfl) (by decide) (fun hc => ?_) (fun hc => ?_)
                · replace hyp := hyp.1 hc
                  refine mf_aload_n (mf_dat eX12_qWordHere_p0 56 rfl) rfl rfl ?_
                  refine mf_aload_n (mf_dat eX12_qWordHere_p0 57 rfl) rfl rfl ?_
                  refine mf_getf (r := (RX12, TX12, 106)) (ci := 12) (k := 92) (t := 2) (v := g24 x0 92) (mf_dat eX12_qWordHere_p0 58 rfl) fl_X12_222 rfl (by decide) rfl rfl ck1 ?_
                  refine mf_callV (Yc := YX12_isHere) (r := (RX12, TX12, 106)) (ci := 12) (mf_dat eX12_qWordHere_p0 59 rfl) ml_X12_266 okX12_isHere im_X12_isHere sl_X12_isHere rfl rfl rfl rfl (Nat.le_of_ble_eq_true rfl) (mf_rr (Nat.le_trans (by decide) hd) (Nat.le_refl _)) (Nat.le_refl _) ck1 hyp (fun r26 g27 h28 hyp => ?_)
                  refine mf_if_eq (tgt := 120) (mf_dat eX12_qWordHere_p1 0 rfl) (by decide) (fun hc => ?_) (fun hc => ?_)
                  · replace hyp := hyp.1 hc
                    refine mf_aload_n (mf_dat eX12_qWordHere_p1 3 rfl) rfl rfl ?_
                    refine mf_aload_n (mf_dat eX12_qWordHere_p1 4 rfl) rfl rfl ?_
                    refine mf_getf (r := (RX12, TX12, 106)) (ci := 12) (k := 93) (t := 2) (v := g27 x0 93) (mf_dat eX12_qWordHere_p1 5 rfl) fl_X12_225 rfl (by decide) rfl rfl ck1 ?_
                    refine mf_callV (Yc := YX12_isHere) (r := (RX12, TX12, 106)) (ci := 12) (mf_dat eX12_qWordHere_p1 6 rfl) ml_X12_266 okX12_isHere im_X12_isHere sl_X12_isHere rfl rfl rfl rfl (Nat.le_of_ble_eq_true rfl) (mf_rr (Nat.le_trans (by decide) hd) (Nat.le_refl _)) (Nat.le_refl _) ck1 hyp (fun r29 g30 h31 hyp => ?_)
                    refine mf_if_eq (tgt := 134) (mf_dat eX12_qWordHere_p1 7 rfl) (by decide) (fun hc => ?_) (fun hc => ?_)
                    · replace hyp := hyp.1 hc
                      refine mf_iconst (v := (-1)) (mf_dat eX12_qWordHere_p1 10 rfl) (by decide) ?_
                      exact mf_ireturn (mf_dat eX12_qWordHere_p1 11 rfl) rfl (Or.inl rfl) hyp
                    · replace hyp := hyp.2 hc
                      refine mf_bipush (v := 9) (mf_dat eX12_qWordHere_p1 8 rfl) (by decide) ?_
                      exact mf_ireturn (mf_dat eX12_qWordHere_p1 9 rfl) rfl (Or.inl rfl) hyp
                  · replace hyp := hyp.2 hc
                    refine mf_bipush (v := 8) (mf_dat eX12_qWordHere_p1 1 rfl) (by decide) ?_
                    exact mf_ireturn (mf_dat eX12_qWordHere_p1 2 rfl) rfl (Or.inl rfl) hyp
                · replace hyp := hyp.2 hc
                  refine mf_bipush (v := 7) (mf_dat eX12_qWordHere_p0 54 rfl) (by decide) ?_
                  exact mf_ireturn (mf_dat eX12_qWordHere_p0 55 rfl) rfl (Or.inl rfl) hyp
              · replace hyp := hyp.2 hc
                refine mf_bipush (v := 6) (mf_dat eX12_qWordHere_p0 47 rfl) (by decide) ?_
                exact mf_ireturn (mf_dat eX12_qWordHere_p0 48 rfl) rfl (Or.inl rfl) hyp
            · replace hyp := hyp.2 hc
              refine mf_iconst (v := 5) (mf_dat eX12_qWordHere_p0 40 rfl) (by decide) ?_
              exact mf_ireturn (mf_dat eX12_qWordHere_p0 41 rfl) rfl (Or.inl rfl) hyp
          · replace hyp := hyp.2 hc
            refine mf_iconst (v := 4) (mf_dat eX12_qWordHere_p0 33 rfl) (by decide) ?_
            exact mf_ireturn (mf_dat eX12_qWordHere_p0 34 rfl) rfl (Or.inl rfl) hyp
        · replace hyp := hyp.2 hc
          refine mf_iconst (v := 3) (mf_dat eX12_qWordHere_p0 26 rfl) (by decide) ?_
          exact mf_ireturn (mf_dat eX12_qWordHere_p0 27 rfl) rfl (Or.inl rfl) hyp
      · replace hyp := hyp.2 hc
        refine mf_iconst (v := 2) (mf_dat eX12_qWordHere_p0 19 rfl) (by decide) ?_
        exact mf_ireturn (mf_dat eX12_qWordHere_p0 20 rfl) rfl (Or.inl rfl) hyp
    · replace hyp := hyp.2 hc
      refine mf_iconst (v := 1) (mf_dat eX12_qWordHere_p0 12 rfl) (by decide) ?_
      exact mf_ireturn (mf_dat eX12_qWordHere_p0 13 rfl) rfl (Or.inl rfl) hyp
  · replace hyp := hyp.2 hc
    refine mf_iconst (v := 0) (mf_dat eX12_qWordHere_p0 5 rfl) (by decide) ?_
    exact mf_ireturn (mf_dat eX12_qWordHere_p0 6 rfl) rfl (Or.inl rfl) hyp
set_option maxRecDepth 100000 in
set_option maxHeartbeats 4000000 in
theorem mX12_qWordOf {C : mf_G} {l : Launch} {d n : Nat} {K : mf_Kt} {x0 x1 x2 : Int} {g h : mf_M} (hd : 3 ≤ d) (hyp : mf_is n x0 12 ∧ mf_MT C l 2 YX12_qWordHere [(2, x0)] n n g h (fun r1 g2 h3 => ((r1 < x1 → K (-1) g2 h3) ∧ (¬ r1 < x1 → ((x2 ≤ r1 → K (-1) g2 h3) ∧ (¬ x2 ≤ r1 → mf_MT C l 0 YX12_isAllowed [(2, x0), (0, r1)] n n g2 h3 (fun r5 g6 h7 => ((r5 = 0 → K (-1) g6 h7) ∧ (¬ r5 = 0 → K r1 g6 h7))))))))) : mf_MT C l d YX12_qWordOf [(2, x0), (0, x1), (0, x2)] n n g h K := by
  refine mf_entry (by decide) (Nat.le_of_ble_eq_true rfl) ?_
  refine mf_aload_n (mf_dat eX12_qWordOf 0 rfl) rfl rfl ?_
  obtain ⟨ck4, hyp⟩ := hyp
  refine mf_callV (Yc := YX12_qWordHere) (r := (RX12, TX12, 106)) (ci := 12) (mf_dat eX12_qWordOf 1 rfl) ml_X12_587 okX12_qWordHere im_X12_qWordHere sl_X12_qWordHere rfl rfl rfl rfl (Nat.le_of_ble_eq_true rfl) (mf_rr (Nat.le_trans (by decide) hd) (Nat.le_refl _)) (Nat.le_refl _) ck4 hyp (fun r1 g2 h3 hyp => ?_)
  refine mf_istore_n (mf_dat eX12_qWordOf 2 rfl) rfl (by decide) ?_
  refine mf_iload_n (mf_dat eX12_qWordOf 3 rfl) rfl rfl ?_
  refine mf_iload_n (mf_dat eX12_qWordOf 4 rfl) rfl rfl ?_
  refine mf_icmp_lt (tgt := 27) (mf_dat eX12_qWordOf 5 rfl) (by decide) (fun hc => ?_) (fun hc => ?_)
  · replace hyp := hyp.1 hc
    refine mf_iconst (v := (-1)) (mf_dat eX12_qWordOf 15 rfl) (by decide) ?_
    exact mf_ireturn (mf_dat eX12_qWordOf 16 rfl) rfl (Or.inl rfl) hyp
  · replace hyp := hyp.2 hc
    refine mf_iload_n (mf_dat eX12_qWordOf 6 rfl) rfl rfl ?_
    refine mf_iload_n (mf_dat eX12_qWordOf 7 rfl) rfl rfl ?_
    refine mf_icmp_ge (tgt := 27) (mf_dat eX12_qWordOf 8 rfl) (by decide) (fun hc => ?_) (fun hc => ?_)
    · replace hyp := hyp.1 hc
      refine mf_iconst (v := (-1)) (mf_dat eX12_qWordOf 15 rfl) (by decide) ?_
      exact mf_ireturn (mf_dat eX12_qWordOf 16 rfl) rfl (Or.inl rfl) hyp
    · replace hyp := hyp.2 hc
      refine mf_aload_n (mf_dat eX12_qWordOf 9 rfl) rfl rfl ?_
      refine mf_iload_n (mf_dat eX12_qWordOf 10 rfl) rfl rfl ?_
      refine mf_callV (Yc := YX12_isAllowed) (r := (RX12, TX12, 106)) (ci := 12) (mf_dat eX12_qWordOf 11 rfl) ml_X12_590 okX12_isAllowed im_X12_isAllowed sl_X12_isAllowed rfl rfl rfl rfl (Nat.le_of_ble_eq_true rfl) (mf_rr (Nat.le_trans (by decide) hd) (Nat.le_refl _)) (Nat.le_refl _) ck4 hyp (fun r5 g6 h7 hyp => ?_)
      refine mf_if_eq (tgt := 27) (mf_dat eX12_qWordOf 12 rfl) (by decide) (fun hc => ?_) (fun hc => ?_)
      · replace hyp := hyp.1 hc
        refine mf_iconst (v := (-1)) (mf_dat eX12_qWordOf 15 rfl) (by decide) ?_
        exact mf_ireturn (mf_dat eX12_qWordOf 16 rfl) rfl (Or.inl rfl) hyp
      · replace hyp := hyp.2 hc
        refine mf_iload_n (mf_dat eX12_qWordOf 13 rfl) rfl rfl ?_
        refine mf_goto (tgt := 28) (mf_dat eX12_qWordOf 14 rfl) (by decide) ?_
        exact mf_ireturn (mf_dat eX12_qWordOf 16 rfl) rfl (Or.inl rfl) hyp
set_option maxRecDepth 100000 in
set_option maxHeartbeats 4000000 in
theorem mX12_qAsksWord {C : mf_G} {l : Launch} {d n : Nat} {K : mf_Kt} {x0 x1 : Int} {g h : mf_M} (hd : 4 ≤ d) (hyp : ((x1 = 0 → mf_is n x0 12 ∧ mf_MT C l 3 YX12_asks [(2, x0), (2, g x0 84)] n n g h (fun r2 g3 h4 => K 0 g3 h4)) ∧ (x1 = 1 → mf_is n x0 12 ∧ mf_MT C l 3 YX12_asks [(2, x0), (2, g x0 85)] n n g h (fun r6 g7 h8 => K 0 g7 h8)) ∧ (x1 = 2 → mf_is n x0 12 ∧ mf_MT C l 3 YX12_asks [(2, x0), (2, g x0 86)] n n g h (fun r10 g11 h12 => K 0 g11 h12)) ∧ (x1 = 3 → mf_is n x0 12 ∧ mf_MT C l 3 YX12_asks [(2, x0), (2, g x0 87)] n n g h (fun r14 g15 h16 => K 0 g15 h16)) ∧ (x1 = 4 → mf_is n x0 12 ∧ mf_MT C l 3 YX12_asks [(2, x0), (2, g x0 88)] n n g h (fun r18 g19 h20 => K 0 g19 h20)) ∧ (x1 = 5 → mf_is n x0 12 ∧ mf_MT C l 3 YX12_asks [(2, x0), (2, g x0 89)] n n g h (fun r22 g23 h24 => K 0 g23 h24)) ∧ (x1 = 6 → mf_is n x0 12 ∧ mf_MT C l 3 YX12_asks [(2, x0), (2, g x0 90)] n n g h (fun r26 g27 h28 => K 0 g27 h28)) ∧ (x1 = 7 → mf_is n x0 12 ∧ mf_MT C l 3 YX12_asks [(2, x0), (2, g x0 91)] n n g h (fun r30 g31 h32 => K 0 g31 h32)) ∧ (x1 = 8 → mf_is n x0 12 ∧ mf_MT C l 3 YX12_asks [(2, x0), (2, g x0 92)] n n g h (fun r34 g35 h36 => K 0 g35 h36)) ∧ ((x1 < 0 ∨ 8 < x1) → mf_is n x0 12 ∧ mf_MT C l 3 YX12_asks [(2, x0), (2, g x0 93)] n n g h (fun r38 g39 h40 => K 0 g39 h40)))) : mf_MT C l d YX12_qAsksWord [(2, x0), (0, x1)] n n g h K := by
  refine mf_entry (by decide) (Nat.le_of_ble_eq_true rfl) ?_
  refine mf_iload_n (mf_dat eX12_qAsksWord 0 rfl) rfl rfl ?_
  refine mf_tsw1 (v := 0) (tgt := 52) (mf_dat eX12_qAsksWord 1 rfl) (by decide) (by decide) (off := 51) (by decide) (by decide) (fun hc => ?_) (fun hc0 => ?_)
  · replace hyp := hyp.1 hc
    refine mf_aload_n (mf_dat eX12_qAsksWord 2 rfl) rfl rfl ?_
    refine mf_aload_n (mf_dat eX12_qAsksWord 3 rfl) rfl rfl ?_
    obtain ⟨ck1, hyp⟩ := hyp
    refine mf_getf (r := (RX12, TX12, 106)) (ci := 12) (k := 84) (t := 2) (v := g x0 84) (mf_dat eX12_qAsksWord 4 rfl) fl_X12_198 rfl (by decide) rfl rfl ck1 ?_
    refine mf_callV (Yc := YX12_asks) (r := (RX12, TX12, 106)) (ci := 12) (mf_dat eX12_qAsksWord 5 rfl) ml_X12_304 okX12_asks im_X12_asks sl_X12_asks rfl rfl rfl rfl (Nat.le_of_ble_eq_true rfl) (mf_rr (Nat.le_trans (by decide) hd) (Nat.le_refl _)) (Nat.le_refl _) ck1 hyp (fun r2 g3 h4 hyp => ?_)
    refine mf_goto (tgt := 159) (mf_dat eX12_qAsksWord 6 rfl) (by decide) ?_
    exact mf_return (mf_dat eX12_qAsksWord 51 rfl) rfl hyp
  replace hyp := hyp.2
  refine mf_tsw1 (v := 1) (tgt := 63) (mf_dat eX12_qAsksWord 1 rfl) (by decide) (by decide) (off := 62) (by decide) (by decide) (fun hc => ?_) (fun hc1 => ?_)
  · replace hyp := hyp.1 hc
    refine mf_aload_n (mf_dat eX12_qAsksWord 7 rfl) rfl rfl ?_
    refine mf_aload_n (mf_dat eX12_qAsksWord 8 rfl) rfl rfl ?_
    obtain ⟨ck5, hyp⟩ := hyp
    refine mf_getf (r := (RX12, TX12, 106)) (ci := 12) (k := 85) (t := 2) (v := g x0 85) (mf_dat eX12_qAsksWord 9 rfl) fl_X12_201 rfl (by decide) rfl rfl ck5 ?_
    refine mf_callV (Yc := YX12_asks) (r := (RX12, TX12, 106)) (ci := 12) (mf_dat eX12_qAsksWord 10 rfl) ml_X12_304 okX12_asks im_X12_asks sl_X12_asks rfl rfl rfl rfl (Nat.le_of_ble_eq_true rfl) (mf_rr (Nat.le_trans (by decide) hd) (Nat.le_refl _)) (Nat.le_refl _) ck5 hyp (fun r6 g7 h8 hyp => ?_)
    refine mf_goto (tgt := 159) (mf_dat eX12_qAsksWord 11 rfl) (by decide) ?_
    exact mf_return (mf_dat eX12_qAsksWord 51 rfl) rfl hyp
  replace hyp := hyp.2
  refine mf_tsw1 (v := 2) (tgt := 74) (mf_dat eX12_qAsksWord 1 rfl) (by decide) (by decide) (off := 73) (by decide) (by decide) (fun hc => ?_) (fun hc2 => ?_)
  · replace hyp := hyp.1 hc
    refine mf_aload_n (mf_dat eX12_qAsksWord 12 rfl) rfl rfl ?_
    refine mf_aload_n (mf_dat eX12_qAsksWord 13 rfl) rfl rfl ?_
    obtain ⟨ck9, hyp⟩ := hyp
    refine mf_getf (r := (RX12, TX12, 106)) (ci := 12) (k := 86) (t := 2) (v := g x0 86) (mf_dat eX12_qAsksWord 14 rfl) fl_X12_204 rfl (by decide) rfl rfl ck9 ?_
    refine mf_callV (Yc := YX12_asks) (r := (RX12, TX12, 106)) (ci := 12) (mf_dat eX12_qAsksWord 15 rfl) ml_X12_304 okX12_asks im_X12_asks sl_X12_asks rfl rfl rfl rfl (Nat.le_of_ble_eq_true rfl) (mf_rr (Nat.le_trans (by decide) hd) (Nat.le_refl _)) (Nat.le_refl _) ck9 hyp (fun r10 g11 h12 hyp => ?_)
    refine mf_goto (tgt := 159) (mf_dat eX12_qAsksWord 16 rfl) (by decide) ?_
    exact mf_return (mf_dat eX12_qAsksWord 51 rfl) rfl hyp
  replace hyp := hyp.2
  refine mf_tsw1 (v := 3) (tgt := 85) (mf_dat eX12_qAsksWord 1 rfl) (by decide) (by decide) (off := 84) (by decide) (by decide) (fun hc => ?_) (fun hc3 => ?_)
  · replace hyp := hyp.1 hc
    refine mf_aload_n (mf_dat eX12_qAsksWord 17 rfl) rfl rfl ?_
    refine mf_aload_n (mf_dat eX12_qAsksWord 18 rfl) rfl rfl ?_
    obtain ⟨ck13, hyp⟩ := hyp
    refine mf_getf (r := (RX12, TX12, 106)) (ci := 12) (k := 87) (t := 2) (v := g x0 87) (mf_dat eX12_qAsksWord 19 rfl) fl_X12_207 rfl (by decide) rfl rfl ck13 ?_
    refine mf_callV (Yc := YX12_asks) (r := (RX12, TX12, 106)) (ci := 12) (mf_dat eX12_qAsksWord 20 rfl) ml_X12_304 okX12_asks im_X12_asks sl_X12_asks rfl rfl rfl rfl (Nat.le_of_ble_eq_true rfl) (mf_rr (Nat.le_trans (by decide) hd) (Nat.le_refl _)) (Nat.le_refl _) ck13 hyp (fun r14 g15 h16 hyp => ?_)
    refine mf_goto (tgt := 159) (mf_dat eX12_qAsksWord 21 rfl) (by decide) ?_
    exact mf_return (mf_dat eX12_qAsksWord 51 rfl) rfl hyp
  replace hyp := hyp.2
  refine mf_tsw1 (v := 4) (tgt := 96) (mf_dat eX12_qAsksWord 1 rfl) (by decide) (by decide) (off := 95) (by decide) (by decide) (fun hc => ?_) (fun hc4 => ?_)
  · replace hyp := hyp.1 hc
    refine mf_aload_n (mf_dat eX12_qAsksWord 22 rfl) rfl rfl ?_
    refine mf_aload_n (mf_dat eX12_qAsksWord 23 rfl) rfl rfl ?_
    obtain ⟨ck17, hyp⟩ := hyp
    refine mf_getf (r := (RX12, TX12, 106)) (ci := 12) (k := 88) (t := 2) (v := g x0 88) (mf_dat eX12_qAsksWord 24 rfl) fl_X12_210 rfl (by decide) rfl rfl ck17 ?_
    refine mf_callV (Yc := YX12_asks) (r := (RX12, TX12, 106)) (ci := 12) (mf_dat eX12_qAsksWord 25 rfl) ml_X12_304 okX12_asks im_X12_asks sl_X12_asks rfl rfl rfl rfl (Nat.le_of_ble_eq_true rfl) (mf_rr (Nat.le_trans (by decide) hd) (Nat.le_refl _)) (Nat.le_refl _) ck17 hyp (fun r18 g19 h20 hyp => ?_)
    refine mf_goto (tgt := 159) (mf_dat eX12_qAsksWord 26 rfl) (by decide) ?_
    exact mf_return (mf_dat eX12_qAsksWord 51 rfl) rfl hyp
  replace hyp := hyp.2
  refine mf_tsw1 (v := 5) (tgt := 107) (mf_dat eX12_qAsksWord 1 rfl) (by decide) (by decide) (off := 106) (by decide) (by decide) (fun hc => ?_) (fun hc5 => ?_)
  · replace hyp := hyp.1 hc
    refine mf_aload_n (mf_dat eX12_qAsksWord 27 rfl) rfl rfl ?_
    refine mf_aload_n (mf_dat eX12_qAsksWord 28 rfl) rfl rfl ?_
    obtain ⟨ck21, hyp⟩ := hyp
    refine mf_getf (r := (RX12, TX12, 106)) (ci := 12) (k := 89) (t := 2) (v := g x0 89) (mf_dat eX12_qAsksWord 29 rfl) fl_X12_213 rfl (by decide) rfl rfl ck21 ?_
    refine mf_callV (Yc := YX12_asks) (r := (RX12, TX12, 106)) (ci := 12) (mf_dat eX12_qAsksWord 30 rfl) ml_X12_304 okX12_asks im_X12_asks sl_X12_asks rfl rfl rfl rfl (Nat.le_of_ble_eq_true rfl) (mf_rr (Nat.le_trans (by decide) hd) (Nat.le_refl _)) (Nat.le_refl _) ck21 hyp (fun r22 g23 h24 hyp => ?_)
    refine mf_goto (tgt := 159) (mf_dat eX12_qAsksWord 31 rfl) (by decide) ?_
    exact mf_return (mf_dat eX12_qAsksWord 51 rfl) rfl hyp
  replace hyp := hyp.2
  refine mf_tsw1 (v := 6) (tgt := 118) (mf_dat eX12_qAsksWord 1 rfl) (by decide) (by decide) (off := 117) (by decide) (by decide) (fun hc => ?_) (fun hc6 => ?_)
  · replace hyp := hyp.1 hc
    refine mf_aload_n (mf_dat eX12_qAsksWord 32 rfl) rfl rfl ?_
    refine mf_aload_n (mf_dat eX12_qAsksWord 33 rfl) rfl rfl ?_
    obtain ⟨ck25, hyp⟩ := hyp
    refine mf_getf (r := (RX12, TX12, 106)) (ci := 12) (k := 90) (t := 2) (v := g x0 90) (mf_dat eX12_qAsksWord 34 rfl) fl_X12_216 rfl (by decide) rfl rfl ck25 ?_
    refine mf_callV (Yc := YX12_asks) (r := (RX12, TX12, 106)) (ci := 12) (mf_dat eX12_qAsksWord 35 rfl) ml_X12_304 okX12_asks im_X12_asks sl_X12_asks rfl rfl rfl rfl (Nat.le_of_ble_eq_true rfl) (mf_rr (Nat.le_trans (by decide) hd) (Nat.le_refl _)) (Nat.le_refl _) ck25 hyp (fun r26 g27 h28 hyp => ?_)
    refine mf_goto (tgt := 159) (mf_dat eX12_qAsksWord 36 rfl) (by decide) ?_
    exact mf_return (mf_dat eX12_qAsksWord 51 rfl) rfl hyp
  replace hyp := hyp.2
  refine mf_tsw1 (v := 7) (tgt := 129) (mf_dat eX12_qAsksWord 1 rfl) (by decide) (by decide) (off := 128) (by decide) (by decide) (fun hc => ?_) (fun hc7 => ?_)
  · replace hyp := hyp.1 hc
    refine mf_aload_n (mf_dat eX12_qAsksWord 37 rfl) rfl rfl ?_
    refine mf_aload_n (mf_dat eX12_qAsksWord 38 rfl) rfl rfl ?_
    obtain ⟨ck29, hyp⟩ := hyp
    refine mf_getf (r := (RX12, TX12, 106)) (ci := 12) (k := 91) (t := 2) (v := g x0 91) (mf_dat eX12_qAsksWord 39 rfl) fl_X12_219 rfl (by decide) rfl rfl ck29 ?_
    refine mf_callV (Yc := YX12_asks) (r := (RX12, TX12, 106)) (ci := 12) (mf_dat eX12_qAsksWord 40 rfl) ml_X12_304 okX12_asks im_X12_asks sl_X12_asks rfl rfl rfl rfl (Nat.le_of_ble_eq_true rfl) (mf_rr (Nat.le_trans (by decide) hd) (Nat.le_refl _)) (Nat.le_refl _) ck29 hyp (fun r30 g31 h32 hyp => ?_)
    refine mf_goto (tgt := 159) (mf_dat eX12_qAsksWord 41 rfl) (by decide) ?_
    exact mf_return (mf_dat eX12_qAsksWord 51 rfl) rfl hyp
  replace hyp := hyp.2
  refine mf_tsw1 (v := 8) (tgt := 140) (mf_dat eX12_qAsksWord 1 rfl) (by decide) (by decide) (off := 139) (by decide) (by decide) (fun hc => ?_) (fun hc8 => ?_)
  · replace hyp := hyp.1 hc
    refine mf_aload_n (mf_dat eX12_qAsksWord 42 rfl) rfl rfl ?_
    refine mf_aload_n (mf_dat eX12_qAsksWord 43 rfl) rfl rfl ?_
    obtain ⟨ck33, hyp⟩ := hyp
    refine mf_getf (r := (RX12, TX12, 106)) (ci := 12) (k := 92) (t := 2) (v := g x0 92) (mf_dat eX12_qAsksWord 44 rfl) fl_X12_222 rfl (by decide) rfl rfl ck33 ?_
    refine mf_callV (Yc := YX12_asks) (r := (RX12, TX12, 106)) (ci := 12) (mf_dat eX12_qAsksWord 45 rfl) ml_X12_304 okX12_asks im_X12_asks sl_X12_asks rfl rfl rfl rfl (Nat.le_of_ble_eq_true rfl) (mf_rr (Nat.le_trans (by decide) hd) (Nat.le_refl _)) (Nat.le_refl _) ck33 hyp (fun r34 g35 h36 hyp => ?_)
    refine mf_goto (tgt := 159) (mf_dat eX12_qAsksWord 46 rfl) (by decide) ?_
    exact mf_return (mf_dat eX12_qAsksWord 51 rfl) rfl hyp
  replace hyp := hyp.2
  refine mf_tswO (tgt := 151) (mf_dat eX12_qAsksWord 1 rfl) (by omega) (by decide) ?_
  replace hyp := hyp (by omega)
  refine mf_aload_n (mf_dat eX12_qAsksWord 47 rfl) rfl rfl ?_
  refine mf_aload_n (mf_dat eX12_qAsksWord 48 rfl) rfl rfl ?_
  obtain ⟨ck37, hyp⟩ := hyp
  refine mf_getf (r := (RX12, TX12, 106)) (ci := 12) (k := 93) (t := 2) (v := g x0 93) (mf_dat eX12_qAsksWord 49 rfl) fl_X12_225 rfl (by decide) rfl rfl ck37 ?_
  refine mf_callV (Yc := YX12_asks) (r := (RX12, TX12, 106)) (ci := 12) (mf_dat eX12_qAsksWord 50 rfl) ml_X12_304 okX12_asks im_X12_asks sl_X12_asks rfl rfl rfl rfl (Nat.le_of_ble_eq_true rfl) (mf_rr (Nat.le_trans (by decide) hd) (Nat.le_refl _)) (Nat.le_refl _) ck37 hyp (fun r38 g39 h40 hyp => ?_)
  exact mf_return (mf_dat eX12_qAsksWord 51 rfl) rfl hyp
abbrev JX12_qEndsPart_0 (C : mf_G) (l : Launch) (d n : Nat) (K : mf_Kt) (x0 : Int) (g h : mf_M) : Prop := mf_AW C l YX12_qEndsPart (mf_rm d n n) n (mf_Zm C YX12_qEndsPart n n K) (fun _ _ => True) 0 [(0, (2, x0))] [] n g h
set_option maxRecDepth 100000 in
set_option maxHeartbeats 4000000 in
theorem bX12_qEndsPart_0 {C : mf_G} {l : Launch} {d n : Nat} {K : mf_Kt} {x0 : Int} {g h : mf_M} (hd : 2 ≤ d) (hyp : mf_is n x0 12 ∧ ((¬ h x0 5 = 0 → K 0 g h) ∧ (h x0 5 = 0 → ((h x0 97 ≤ h x0 99 → K 0 g h) ∧ (¬ h x0 97 ≤ h x0 99 → mf_is n (g x0 96) 20 ∧ 0 ≤ mf_w32 ((h x0 97) - 1) ∧ mf_w32 ((h x0 97) - 1) < mf_len (g x0 96) ∧ ((h (g x0 96) (mf_w32 ((h x0 97) - 1)) < 60 → K 0 g h) ∧ (¬ h (g x0 96) (mf_w32 ((h x0 97) - 1)) < 60 → (∀ h5 : mf_M, h5 = mf_up h x0 98 (mf_w32 ((h x0 98) - 1)) → mf_MT C l 1 YX12_qDrops [(2, x0)] n n g h5 (fun r6 g7 h8 => JX12_qEndsPart_0 C l d n K x0 g7 h8))))))))) : JX12_qEndsPart_0 C l d n K x0 g h := by
  refine mf_aload_n (mf_dat eX12_qEndsPart 0 rfl) rfl rfl ?_
  obtain ⟨ck1, hyp⟩ := hyp
  refine mf_getf (r := (RX12, TX12, 106)) (ci := 12) (k := 5) (t := 0) (v := h x0 5) (mf_dat eX12_qEndsPart 1 rfl) fl_X12_243 rfl (by decide) rfl rfl ck1 ?_
  refine mf_if_ne (tgt := 51) (mf_dat eX12_qEndsPart 2 rfl) (by decide) (fun hc => ?_) (fun hc => ?_)
  · replace hyp := hyp.1 hc
    exact mf_return (mf_dat eX12_qEndsPart 26 rfl) rfl hyp
  · replace hyp := hyp.2 hc
    refine mf_aload_n (mf_dat eX12_qEndsPart 3 rfl) rfl rfl ?_
    refine mf_getf (r := (RX12, TX12, 106)) (ci := 12) (k := 97) (t := 0) (v := h x0 97) (mf_dat eX12_qEndsPart 4 rfl) fl_X12_341 rfl (by decide) rfl rfl ck1 ?_
    refine mf_aload_n (mf_dat eX12_qEndsPart 5 rfl) rfl rfl ?_
    refine mf_getf (r := (RX12, TX12, 106)) (ci := 12) (k := 99) (t := 0) (v := h x0 99) (mf_dat eX12_qEndsPart 6 rfl) fl_X12_347 rfl (by decide) rfl rfl ck1 ?_
    refine mf_icmp_le (tgt := 51) (mf_dat eX12_qEndsPart 7 rfl) (by decide) (fun hc => ?_) (fun hc => ?_)
    · replace hyp := hyp.1 hc
      exact mf_return (mf_dat eX12_qEndsPart 26 rfl) rfl hyp
    · replace hyp := hyp.2 hc
      refine mf_aload_n (mf_dat eX12_qEndsPart 8 rfl) rfl rfl ?_
      refine mf_getf (r := (RX12, TX12, 106)) (ci := 12) (k := 96) (t := 2) (v := g x0 96) (mf_dat eX12_qEndsPart 9 rfl) fl_X12_231 rfl (by decide) rfl rfl ck1 ?_
      refine mf_aload_n (mf_dat eX12_qEndsPart 10 rfl) rfl rfl ?_
      refine mf_getf (r := (RX12, TX12, 106)) (ci := 12) (k := 97) (t := 0) (v := h x0 97) (mf_dat eX12_qEndsPart 11 rfl) fl_X12_341 rfl (by decide) rfl rfl ck1 ?_
      refine mf_iconst (v := 1) (mf_dat eX12_qEndsPart 12 rfl) (by decide) ?_
      refine mf_isub (mf_dat eX12_qEndsPart 13 rfl) ?_
      obtain ⟨ck2, hyp⟩ := hyp
      obtain ⟨ck3, hyp⟩ := hyp
      obtain ⟨ck4, hyp⟩ := hyp
      refine mf_iald (mf_dat eX12_qEndsPart 14 rfl) ck2 ck3 ck4 ?_
      refine mf_bipush (v := 60) (mf_dat eX12_qEndsPart 15 rfl) (by decide) ?_
      refine mf_icmp_lt (tgt := 51) (mf_dat eX12_qEndsPart 16 rfl) (by decide) (fun hc => ?_) (fun hc => ?_)
      · replace hyp := hyp.1 hc
        exact mf_return (mf_dat eX12_qEndsPart 26 rfl) rfl hyp
      · replace hyp := hyp.2 hc
        refine mf_aload_n (mf_dat eX12_qEndsPart 17 rfl) rfl rfl ?_
        refine mf_dup (mf_dat eX12_qEndsPart 18 rfl) (by decide) ?_
        refine mf_getf (r := (RX12, TX12, 106)) (ci := 12) (k := 98) (t := 0) (v := h x0 98) (mf_dat eX12_qEndsPart 19 rfl) fl_X12_344 rfl (by decide) rfl rfl ck1 ?_
        refine mf_iconst (v := 1) (mf_dat eX12_qEndsPart 20 rfl) (by decide) ?_
        refine mf_isub (mf_dat eX12_qEndsPart 21 rfl) ?_
        refine mf_putI (r := (RX12, TX12, 106)) (ci := 12) (k := 98) (kI := 98) (t := 0) (mf_dat eX12_qEndsPart 22 rfl) fl_X12_344 rfl rfl (by decide) rfl (by decide) rfl (by decide) (fun h9 => absurd h9 (by decide)) ck1 ?_
        generalize qh5 : mf_up h x0 98 (mf_w32 ((h x0 98) - 1)) = h5
        replace hyp := hyp _ qh5.symm
        refine mf_aload_n (mf_dat eX12_qEndsPart 23 rfl) rfl rfl ?_
        refine mf_callV (Yc := YX12_qDrops) (r := (RX12, TX12, 106)) (ci := 12) (mf_dat eX12_qEndsPart 24 rfl) ml_X12_584 okX12_qDrops im_X12_qDrops sl_X12_qDrops rfl rfl rfl rfl (Nat.le_of_ble_eq_true rfl) (mf_rr (Nat.le_trans (by decide) hd) (Nat.le_refl _)) (Nat.le_refl _) ck1 hyp (fun r6 g7 h8 hyp => ?_)
        refine mf_goto (tgt := 0) (mf_dat eX12_qEndsPart 25 rfl) (by decide) ?_
        exact mf_sub [0] rfl hyp
set_option maxRecDepth 100000 in
set_option maxHeartbeats 4000000 in
theorem mX12_qEndsPart {C : mf_G} {l : Launch} {d n : Nat} {K : mf_Kt} {x0 : Int} {g h : mf_M} (hyp : JX12_qEndsPart_0 C l d n K x0 g h) : mf_MT C l d YX12_qEndsPart [(2, x0)] n n g h K := by
  refine mf_entry (by decide) (Nat.le_of_ble_eq_true rfl) ?_
  exact mf_sub [0] rfl hyp
abbrev JX12_qPartTold_2 (C : mf_G) (l : Launch) (d n : Nat) (K : mf_Kt) (x0 x1 : Int) (g h : mf_M) : Prop := mf_AW C l YX12_qPartTold (mf_rm d n n) n (mf_Zm C YX12_qPartTold n n K) (fun _ _ => True) 2 [(0, (2, x0)), (1, (0, x1))] [] n g h
abbrev JX12_qPartTold_78 (C : mf_G) (l : Launch) (d n : Nat) (K : mf_Kt) (x0 x1 : Int) (g h : mf_M) : Prop := mf_AW C l YX12_qPartTold (mf_rm d n n) n (mf_Zm C YX12_qPartTold n n K) (fun _ _ => True) 78 [(0, (2, x0)), (1, (0, x1))] [] n g h
abbrev JX12_qPartTold_118 (C : mf_G) (l : Launch) (d n : Nat) (K : mf_Kt) (x0 x1 x4 s0 : Int) (g h : mf_M) : Prop := mf_AW C l YX12_qPartTold (mf_rm d n n) n (mf_Zm C YX12_qPartTold n n K) (fun _ _ => True) 118 [(0, (2, x0)), (1, (0, x1)), (4, (0, x4))] [(0, s0)] n g h
abbrev JX12_qPartTold_186 (C : mf_G) (l : Launch) (d n : Nat) (K : mf_Kt) (x0 : Int) (g h : mf_M) : Prop := mf_AW C l YX12_qPartTold (mf_rm d n n) n (mf_Zm C YX12_qPartTold n n K) (fun _ _ => True) 186 [(0, (2, x0))] [] n g h
abbrev JX12_qPartTold_212 (C : mf_G) (l : Launch) (d n : Nat) (K : mf_Kt) (x0 x2 : Int) (g h : mf_M) : Prop := mf_AW C l YX12_qPartTold (mf_rm d n n) n (mf_Zm C YX12_qPartTold n n K) (fun _ _ => True) 212 [(0, (2, x0)), (2, (0, x2))] [] n g h
set_option maxRecDepth 100000 in
set_option maxHeartbeats 4000000 in
theorem bX12_qPartTold_2 {C : mf_G} {l : Launch} {d n : Nat} {K : mf_Kt} {x0 x1 : Int} {g h : mf_M} (hd : 5 ≤ d) (hyp : ((x1 = 0 → JX12_qPartTold_186 C l d n K x0 g h) ∧ (¬ x1 = 0 → mf_is n x0 12 ∧ ((¬ h x0 5 = 0 → JX12_qPartTold_186 C l d n K x0 g h) ∧ (h x0 5 = 0 → mf_MT C l 0 YX12_look [(2, x0)] n n g h (fun r2 g3 h4 => mf_MT C l 3 YX12_qWordOf [(2, x0), (0, 9), (0, 10)] n n g3 h4 (fun r5 g6 h7 => ((¬ r2 = 40 → mf_MT C l 1 YX12_isHere [(2, x0), (2, g6 x0 82)] n n g6 h7 (fun r8 g9 h10 => ((¬ r8 = 0 → JX12_qPartTold_78 C l d n K x0 x1 g9 h10) ∧ (r8 = 0 → mf_MT C l 1 YX12_isHere [(2, x0), (2, g9 x0 83)] n n g9 h10 (fun r11 g12 h13 => ((r11 = 0 → ((r5 = (-1) → JX12_qPartTold_2 C l d n K x0 0 g12 h13) ∧ (¬ r5 = (-1) → mf_MT C l 1 YX12_qOpens [(2, x0), (0, mf_w32 ((mf_w32 (60 + r5)) - 9)), (0, h13 x0 2)] n n g12 h13 (fun r14 g15 h16 => mf_MT C l 4 YX12_qAsksWord [(2, x0), (0, r5)] n n g15 h16 (fun r17 g18 h19 => JX12_qPartTold_2 C l d n K x0 x1 g18 h19))))) ∧ (¬ r11 = 0 → JX12_qPartTold_78 C l d n K x0 x1 g12 h13))))))) ∧ (r2 = 40 → mf_MT C l 1 YX12_qOpens [(2, x0), (0, 20), (0, h7 x0 2)] n n g6 h7 (fun r20 g21 h22 => (∀ h23 : mf_M, h23 = mf_up h22 x0 2 (mf_w32 ((h22 x0 2) + 1)) → JX12_qPartTold_2 C l d n K x0 x1 g21 h23))))))))))) : JX12_qPartTold_2 C l d n K x0 x1 g h := by
  refine mf_iload_n (mf_dat eX12_qPartTold_p0 2 rfl) rfl rfl ?_
  refine mf_if_eq (tgt := 186) (mf_dat eX12_qPartTold_p0 3 rfl) (by decide) (fun hc => ?_) (fun hc => ?_)
  · replace hyp := hyp.1 hc
    exact mf_sub [0] rfl hyp
  · replace hyp := hyp.2 hc
    refine mf_aload_n (mf_dat eX12_qPartTold_p0 4 rfl) rfl rfl ?_
    obtain ⟨ck1, hyp⟩ := hyp
    refine mf_getf (r := (RX12, TX12, 106)) (ci := 12) (k := 5) (t := 0) (v := h x0 5) (mf_dat eX12_qPartTold_p0 5 rfl) fl_X12_243 rfl (by decide) rfl rfl ck1 ?_
    refine mf_if_ne (tgt := 186) (mf_dat eX12_qPartTold_p0 6 rfl) (by decide) (fun hc => ?_) (fun hc => ?_)
    · replace hyp := hyp.1 hc
      exact mf_sub [0] rfl hyp
    · replace hyp := hyp.2 hc
      refine mf_aload_n (mf_dat eX12_qPartTold_p0 7 rfl) rfl rfl ?_
      refine mf_callV (Yc := YX12_look) (r := (RX12, TX12, 106)) (ci := 12) (mf_dat eX12_qPartTold_p0 8 rfl) ml_X12_255 okX12_look im_X12_look sl_X12_look rfl rfl rfl rfl (Nat.le_of_ble_eq_true rfl) (mf_rr (Nat.le_trans (by decide) hd) (Nat.le_refl _)) (Nat.le_refl _) ck1 hyp (fun r2 g3 h4 hyp => ?_)
      refine mf_istore_n (mf_dat eX12_qPartTold_p0 9 rfl) rfl (by decide) ?_
      refine mf_aload_n (mf_dat eX12_qPartTold_p0 10 rfl) rfl rfl ?_
      refine mf_bipush (v := 9) (mf_dat eX12_qPartTold_p0 11 rfl) (by decide) ?_
      refine mf_bipush (v := 10) (mf_dat eX12_qPartTold_p0 12 rfl) (by decide) ?_
      refine mf_callV (Yc := YX12_qWordOf) (r := (RX12, TX12, 106)) (ci := 12) (mf_dat eX12_qPartTold_p0 13 rfl) ml_X12_593 okX12_qWordOf im_X12_qWordOf sl_X12_qWordOf rfl rfl rfl rfl (Nat.le_of_ble_eq_true rfl) (mf_rr (Nat.le_trans (by decide) hd) (Nat.le_refl _)) (Nat.le_refl _) ck1 hyp (fun r5 g6 h7 hyp => ?_)
      refine mf_istore_n (mf_dat eX12_qPartTold_p0 14 rfl) rfl (by decide) ?_
      refine mf_iload_n (mf_dat eX12_qPartTold_p0 15 rfl) rfl rfl ?_
      refine mf_bipush (v := 40) (mf_dat eX12_qPartTold_p0 16 rfl) (by decide) ?_
      refine mf_icmp_ne (tgt := 56) (mf_dat eX12_qPartTold_p0 17 rfl) (by decide) (fun hc => ?_) (fun hc => ?_)
      · replace hyp := hyp.1 hc
        refine mf_aload_n (mf_dat eX12_qPartTold_p0 30 rfl) rfl rfl ?_
        refine mf_aload_n (mf_dat eX12_qPartTold_p0 31 rfl) rfl rfl ?_
        refine mf_getf (r := (RX12, TX12, 106)) (ci := 12) (k := 82) (t := 2) (v := g6 x0 82) (mf_dat eX12_qPartTold_p0 32 rfl) fl_X12_192 rfl (by decide) rfl rfl ck1 ?_
        refine mf_callV (Yc := YX12_isHere) (r := (RX12, TX12, 106)) (ci := 12) (mf_dat eX12_qPartTold_p0 33 rfl) ml_X12_266 okX12_isHere im_X12_isHere sl_X12_isHere rfl rfl rfl rfl (Nat.le_of_ble_eq_true rfl) (mf_rr (Nat.le_trans (by decide) hd) (Nat.le_refl _)) (Nat.le_refl _) ck1 hyp (fun r8 g9 h10 hyp => ?_)
        refine mf_if_ne (tgt := 78) (mf_dat eX12_qPartTold_p0 34 rfl) (by decide) (fun hc => ?_) (fun hc => ?_)
        · replace hyp := hyp.1 hc
          exact mf_sub [2, 3] rfl hyp
        · replace hyp := hyp.2 hc
          refine mf_aload_n (mf_dat eX12_qPartTold_p0 35 rfl) rfl rfl ?_
          refine mf_aload_n (mf_dat eX12_qPartTold_p0 36 rfl) rfl rfl ?_
          refine mf_getf (r := (RX12, TX12, 106)) (ci := 12) (k := 83) (t := 2) (v := g9 x0 83) (mf_dat eX12_qPartTold_p0 37 rfl) fl_X12_195 rfl (by decide) rfl rfl ck1 ?_
          refine mf_callV (Yc := YX12_isHere) (r := (RX12, TX12, 106)) (ci := 12) (mf_dat eX12_qPartTold_p0 38 rfl) ml_X12_266 okX12_isHere im_X12_isHere sl_X12_isHere rfl rfl rfl rfl (Nat.le_of_ble_eq_true rfl) (mf_rr (Nat.le_trans (by decide) hd) (Nat.le_refl _)) (Nat.le_refl _) ck1 hyp (fun r11 g12 h13 hyp => ?_)
          refine mf_if_eq (tgt := 153) (mf_dat eX12_qPartTold_p0 39 rfl) (by decide) (fun hc => ?_) (fun hc => ?_)
          · replace hyp := hyp.1 hc
            refine mf_iload_n (mf_dat eX12_qPartTold_p1 15 rfl) rfl rfl ?_
            refine mf_iconst (v := (-1)) (mf_dat eX12_qPartTold_p1 16 rfl) (by decide) ?_
            refine mf_icmp_eq (tgt := 181) (mf_dat eX12_qPartTold_p1 17 rfl) (by decide) (fun hc => ?_) (fun hc => ?_)
            · replace hyp := hyp.1 hc
              refine mf_iconst (v := 0) (mf_dat eX12_qPartTold_p1 31 rfl) (by decide) ?_
              refine mf_istore_n (mf_dat eX12_qPartTold_p1 32 rfl) rfl (by decide) ?_
              refine mf_goto (tgt := 2) (mf_dat eX12_qPartTold_p1 33 rfl) (by decide) ?_
              exact mf_sub [3, 0] rfl hyp
            · replace hyp := hyp.2 hc
              refine mf_aload_n (mf_dat eX12_qPartTold_p1 18 rfl) rfl rfl ?_
              refine mf_bipush (v := 60) (mf_dat eX12_qPartTold_p1 19 rfl) (by decide) ?_
              refine mf_iload_n (mf_dat eX12_qPartTold_p1 20 rfl) rfl rfl ?_
              refine mf_iadd (mf_dat eX12_qPartTold_p1 21 rfl) ?_
              refine mf_bipush (v := 9) (mf_dat eX12_qPartTold_p1 22 rfl) (by decide) ?_
              refine mf_isub (mf_dat eX12_qPartTold_p1 23 rfl) ?_
              refine mf_aload_n (mf_dat eX12_qPartTold_p1 24 rfl) rfl rfl ?_
              refine mf_getf (r := (RX12, TX12, 106)) (ci := 12) (k := 2) (t := 0) (v := h13 x0 2) (mf_dat eX12_qPartTold_p1 25 rfl) fl_X12_249 rfl (by decide) rfl rfl ck1 ?_
              refine mf_callV (Yc := YX12_qOpens) (r := (RX12, TX12, 106)) (ci := 12) (mf_dat eX12_qPartTold_p1 26 rfl) ml_X12_596 okX12_qOpens im_X12_qOpens sl_X12_qOpens rfl rfl rfl rfl (Nat.le_of_ble_eq_true rfl) (mf_rr (Nat.le_trans (by decide) hd) (Nat.le_refl _)) (Nat.le_refl _) ck1 hyp (fun r14 g15 h16 hyp => ?_)
              refine mf_aload_n (mf_dat eX12_qPartTold_p1 27 rfl) rfl rfl ?_
              refine mf_iload_n (mf_dat eX12_qPartTold_p1 28 rfl) rfl rfl ?_
              refine mf_callV (Yc := YX12_qAsksWord) (r := (RX12, TX12, 106)) (ci := 12) (mf_dat eX12_qPartTold_p1 29 rfl) ml_X12_599 okX12_qAsksWord im_X12_qAsksWord sl_X12_qAsksWord rfl rfl rfl rfl (Nat.le_of_ble_eq_true rfl) (mf_rr (Nat.le_trans (by decide) hd) (Nat.le_refl _)) (Nat.le_refl _) ck1 hyp (fun r17 g18 h19 hyp => ?_)
              refine mf_goto (tgt := 183) (mf_dat eX12_qPartTold_p1 30 rfl) (by decide) ?_
              refine mf_goto (tgt := 2) (mf_dat eX12_qPartTold_p1 33 rfl) (by decide) ?_
              exact mf_sub [2, 3] rfl hyp
          · replace hyp := hyp.2 hc
            exact mf_sub [2, 3] rfl hyp
      · replace hyp := hyp.2 hc
        refine mf_aload_n (mf_dat eX12_qPartTold_p0 18 rfl) rfl rfl ?_
        refine mf_bipush (v := 20) (mf_dat eX12_qPartTold_p0 19 rfl) (by decide) ?_
        refine mf_aload_n (mf_dat eX12_qPartTold_p0 20 rfl) rfl rfl ?_
        refine mf_getf (r := (RX12, TX12, 106)) (ci := 12) (k := 2) (t := 0) (v := h7 x0 2) (mf_dat eX12_qPartTold_p0 21 rfl) fl_X12_249 rfl (by decide) rfl rfl ck1 ?_
        refine mf_callV (Yc := YX12_qOpens) (r := (RX12, TX12, 106)) (ci := 12) (mf_dat eX12_qPartTold_p0 22 rfl) ml_X12_596 okX12_qOpens im_X12_qOpens sl_X12_qOpens rfl rfl rfl rfl (Nat.le_of_ble_eq_true rfl) (mf_rr (Nat.le_trans (by decide) hd) (Nat.le_refl _)) (Nat.le_refl _) ck1 hyp (fun r20 g21 h22 hyp => ?_)
        refine mf_aload_n (mf_dat eX12_qPartTold_p0 23 rfl) rfl rfl ?_
        refine mf_dup (mf_dat eX12_qPartTold_p0 24 rfl) (by decide) ?_
        refine mf_getf (r := (RX12, TX12, 106)) (ci := 12) (k := 2) (t := 0) (v := h22 x0 2) (mf_dat eX12_qPartTold_p0 25 rfl) fl_X12_249 rfl (by decide) rfl rfl ck1 ?_
        refine mf_iconst (v := 1) (mf_dat eX12_qPartTold_p0 26 rfl) (by decide) ?_
        refine mf_iadd (mf_dat eX12_qPartTold_p0 27 rfl) ?_
        refine mf_putI (r := (RX12, TX12, 106)) (ci := 12) (k := 2) (kI := 2) (t := 0) (mf_dat eX12_qPartTold_p0 28 rfl) fl_X12_249 rfl rfl (by decide) rfl (by decide) rfl (by decide) (fun h9 => absurd h9 (by decide)) ck1 ?_
        generalize qh23 : mf_up h22 x0 2 (mf_w32 ((h22 x0 2) + 1)) = h23
        replace hyp := hyp _ qh23.symm
        refine mf_goto (tgt := 183) (mf_dat eX12_qPartTold_p0 29 rfl) (by decide) ?_
        refine mf_goto (tgt := 2) (mf_dat eX12_qPartTold_p1 33 rfl) (by decide) ?_
        exact mf_sub [2, 3] rfl hyp
set_option maxRecDepth 100000 in
set_option maxHeartbeats 4000000 in
theorem bX12_qPartTold_78 {C : mf_G} {l : Launch} {d n : Nat} {K : mf_Kt} {x0 x1 : Int} {g h : mf_M} (hd : 4 ≤ d) (hyp : mf_is n x0 12 ∧ mf_MT C l 2 YX12_takes [(2, x0), (2, g x0 82)] n n g h (fun r2 g3 h4 => ((¬ r2 = 0 → mf_MT C l 0 YX12_look [(2, x0)] n n g3 h4 (fun r5 g6 h7 => ((¬ r5 = 40 → JX12_qPartTold_118 C l d n K x0 x1 r2 (-1) g6 h7) ∧ (r5 = 40 → JX12_qPartTold_118 C l d n K x0 x1 r2 (h7 x0 2) g6 h7)))) ∧ (r2 = 0 → mf_MT C l 3 YX12_asks [(2, x0), (2, g3 x0 83)] n n g3 h4 (fun r8 g9 h10 => mf_MT C l 0 YX12_look [(2, x0)] n n g9 h10 (fun r11 g12 h13 => ((¬ r11 = 40 → JX12_qPartTold_118 C l d n K x0 x1 r2 (-1) g12 h13) ∧ (r11 = 40 → JX12_qPartTold_118 C l d n K x0 x1 r2 (h13 x0 2) g12 h13)))))))) : JX12_qPartTold_78 C l d n K x0 x1 g h := by
  refine mf_aload_n (mf_dat eX12_qPartTold_p0 40 rfl) rfl rfl ?_
  refine mf_aload_n (mf_dat eX12_qPartTold_p0 41 rfl) rfl rfl ?_
  obtain ⟨ck1, hyp⟩ := hyp
  refine mf_getf (r := (RX12, TX12, 106)) (ci := 12) (k := 82) (t := 2) (v := g x0 82) (mf_dat eX12_qPartTold_p0 42 rfl) fl_X12_192 rfl (by decide) rfl rfl ck1 ?_
  refine mf_callV (Yc := YX12_takes) (r := (RX12, TX12, 106)) (ci := 12) (mf_dat eX12_qPartTold_p0 43 rfl) ml_X12_270 okX12_takes im_X12_takes sl_X12_takes rfl rfl rfl rfl (Nat.le_of_ble_eq_true rfl) (mf_rr (Nat.le_trans (by decide) hd) (Nat.le_refl _)) (Nat.le_refl _) ck1 hyp (fun r2 g3 h4 hyp => ?_)
  refine mf_istore (mf_dat eX12_qPartTold_p0 44 rfl) (by decide) ?_
  refine mf_iload (mf_dat eX12_qPartTold_p0 45 rfl) rfl ?_
  refine mf_if_ne (tgt := 101) (mf_dat eX12_qPartTold_p0 46 rfl) (by decide) (fun hc => ?_) (fun hc => ?_)
  · replace hyp := hyp.1 hc
    refine mf_aload_n (mf_dat eX12_qPartTold_p0 51 rfl) rfl rfl ?_
    refine mf_callV (Yc := YX12_look) (r := (RX12, TX12, 106)) (ci := 12) (mf_dat eX12_qPartTold_p0 52 rfl) ml_X12_255 okX12_look im_X12_look sl_X12_look rfl rfl rfl rfl (Nat.le_of_ble_eq_true rfl) (mf_rr (Nat.le_trans (by decide) hd) (Nat.le_refl _)) (Nat.le_refl _) ck1 hyp (fun r5 g6 h7 hyp => ?_)
    refine mf_bipush (v := 40) (mf_dat eX12_qPartTold_p0 53 rfl) (by decide) ?_
    refine mf_icmp_ne (tgt := 117) (mf_dat eX12_qPartTold_p0 54 rfl) (by decide) (fun hc => ?_) (fun hc => ?_)
    · replace hyp := hyp.1 hc
      refine mf_iconst (v := (-1)) (mf_dat eX12_qPartTold_p0 58 rfl) (by decide) ?_
      exact mf_sub [1, 2, 0] rfl hyp
    · replace hyp := hyp.2 hc
      refine mf_aload_n (mf_dat eX12_qPartTold_p0 55 rfl) rfl rfl ?_
      refine mf_getf (r := (RX12, TX12, 106)) (ci := 12) (k := 2) (t := 0) (v := h7 x0 2) (mf_dat eX12_qPartTold_p0 56 rfl) fl_X12_249 rfl (by decide) rfl rfl ck1 ?_
      refine mf_goto (tgt := 118) (mf_dat eX12_qPartTold_p0 57 rfl) (by decide) ?_
      exact mf_sub [1, 2, 0] rfl hyp
  · replace hyp := hyp.2 hc
    refine mf_aload_n (mf_dat eX12_qPartTold_p0 47 rfl) rfl rfl ?_
    refine mf_aload_n (mf_dat eX12_qPartTold_p0 48 rfl) rfl rfl ?_
    refine mf_getf (r := (RX12, TX12, 106)) (ci := 12) (k := 83) (t := 2) (v := g3 x0 83) (mf_dat eX12_qPartTold_p0 49 rfl) fl_X12_195 rfl (by decide) rfl rfl ck1 ?_
    refine mf_callV (Yc := YX12_asks) (r := (RX12, TX12, 106)) (ci := 12) (mf_dat eX12_qPartTold_p0 50 rfl) ml_X12_304 okX12_asks im_X12_asks sl_X12_asks rfl rfl rfl rfl (Nat.le_of_ble_eq_true rfl) (mf_rr (Nat.le_trans (by decide) hd) (Nat.le_refl _)) (Nat.le_refl _) ck1 hyp (fun r8 g9 h10 hyp => ?_)
    refine mf_aload_n (mf_dat eX12_qPartTold_p0 51 rfl) rfl rfl ?_
    refine mf_callV (Yc := YX12_look) (r := (RX12, TX12, 106)) (ci := 12) (mf_dat eX12_qPartTold_p0 52 rfl) ml_X12_255 okX12_look im_X12_look sl_X12_look rfl rfl rfl rfl (Nat.le_of_ble_eq_true rfl) (mf_rr (Nat.le_trans (by decide) hd) (Nat.le_refl _)) (Nat.le_refl _) ck1 hyp (fun r11 g12 h13 hyp => ?_)
    refine mf_bipush (v := 40) (mf_dat eX12_qPartTold_p0 53 rfl) (by decide) ?_
    refine mf_icmp_ne (tgt := 117) (mf_dat eX12_qPartTold_p0 54 rfl) (by decide) (fun hc => ?_) (fun hc => ?_)
    · replace hyp := hyp.1 hc
      refine mf_iconst (v := (-1)) (mf_dat eX12_qPartTold_p0 58 rfl) (by decide) ?_
      exact mf_sub [1, 2, 0] rfl hyp
    · replace hyp := hyp.2 hc
      refine mf_aload_n (mf_dat eX12_qPartTold_p0 55 rfl) rfl rfl ?_
      refine mf_getf (r := (RX12, TX12, 106)) (ci := 12) (k := 2) (t := 0) (v := h13 x0 2) (mf_dat eX12_qPartTold_p0 56 rfl) fl_X12_249 rfl (by decide) rfl rfl ck1 ?_
      refine mf_goto (tgt := 118) (mf_dat eX12_qPartTold_p0 57 rfl) (by decide) ?_
      exact mf_sub [1, 2, 0] rfl hyp
set_option maxRecDepth 100000 in
set_option maxHeartbeats 4000000 in
theorem bX12_qPartTold_118 {C : mf_G} {l : Launch} {d n : Nat} {K : mf_Kt} {x0 x1 x4 s0 : Int} {g h : mf_M} (hd : 3 ≤ d) (hyp : ((s0 = (-1) → mf_is n x0 12 ∧ mf_MT C l 2 YX12_asksSign [(2, x0), (0, 40)] n n g h (fun r1 g2 h3 => JX12_qPartTold_2 C l d n K x0 x1 g2 h3)) ∧ (¬ s0 = (-1) → ((x4 = 0 → mf_is n x0 12 ∧ mf_MT C l 1 YX12_qOpens [(2, x0), (0, 22), (0, s0)] n n g h (fun r5 g6 h7 => mf_MT C l 2 YX12_asksSign [(2, x0), (0, 40)] n n g6 h7 (fun r9 g10 h11 => JX12_qPartTold_2 C l d n K x0 x1 g10 h11))) ∧ (¬ x4 = 0 → mf_is n x0 12 ∧ mf_MT C l 1 YX12_qOpens [(2, x0), (0, 21), (0, s0)] n n g h (fun r12 g13 h14 => mf_MT C l 2 YX12_asksSign [(2, x0), (0, 40)] n n g13 h14 (fun r16 g17 h18 => JX12_qPartTold_2 C l d n K x0 x1 g17 h18))))))) : JX12_qPartTold_118 C l d n K x0 x1 x4 s0 g h := by
  refine mf_istore (mf_dat eX12_qPartTold_p0 59 rfl) (by decide) ?_
  refine mf_iload (mf_dat eX12_qPartTold_p1 0 rfl) rfl ?_
  refine mf_iconst (v := (-1)) (mf_dat eX12_qPartTold_p1 1 rfl) (by decide) ?_
  refine mf_icmp_eq (tgt := 144) (mf_dat eX12_qPartTold_p1 2 rfl) (by decide) (fun hc => ?_) (fun hc => ?_)
  · replace hyp := hyp.1 hc
    refine mf_aload_n (mf_dat eX12_qPartTold_p1 11 rfl) rfl rfl ?_
    refine mf_bipush (v := 40) (mf_dat eX12_qPartTold_p1 12 rfl) (by decide) ?_
    obtain ⟨ck4, hyp⟩ := hyp
    refine mf_callV (Yc := YX12_asksSign) (r := (RX12, TX12, 106)) (ci := 12) (mf_dat eX12_qPartTold_p1 13 rfl) ml_X12_312 okX12_asksSign im_X12_asksSign sl_X12_asksSign rfl rfl rfl rfl (Nat.le_of_ble_eq_true rfl) (mf_rr (Nat.le_trans (by decide) hd) (Nat.le_refl _)) (Nat.le_refl _) ck4 hyp (fun r1 g2 h3 hyp => ?_)
    refine mf_goto (tgt := 183) (mf_dat eX12_qPartTold_p1 14 rfl) (by decide) ?_
    refine mf_goto (tgt := 2) (mf_dat eX12_qPartTold_p1 33 rfl) (by decide) ?_
    exact mf_sub [1, 2] rfl hyp
  · replace hyp := hyp.2 hc
    refine mf_aload_n (mf_dat eX12_qPartTold_p1 3 rfl) rfl rfl ?_
    refine mf_iload (mf_dat eX12_qPartTold_p1 4 rfl) rfl ?_
    refine mf_if_eq (tgt := 137) (mf_dat eX12_qPartTold_p1 5 rfl) (by decide) (fun hc => ?_) (fun hc => ?_)
    · replace hyp := hyp.1 hc
      refine mf_bipush (v := 22) (mf_dat eX12_qPartTold_p1 8 rfl) (by decide) ?_
      refine mf_iload (mf_dat eX12_qPartTold_p1 9 rfl) rfl ?_
      obtain ⟨ck8, hyp⟩ := hyp
      refine mf_callV (Yc := YX12_qOpens) (r := (RX12, TX12, 106)) (ci := 12) (mf_dat eX12_qPartTold_p1 10 rfl) ml_X12_596 okX12_qOpens im_X12_qOpens sl_X12_qOpens rfl rfl rfl rfl (Nat.le_of_ble_eq_true rfl) (mf_rr (Nat.le_trans (by decide) hd) (Nat.le_refl _)) (Nat.le_refl _) ck8 hyp (fun r5 g6 h7 hyp => ?_)
      refine mf_aload_n (mf_dat eX12_qPartTold_p1 11 rfl) rfl rfl ?_
      refine mf_bipush (v := 40) (mf_dat eX12_qPartTold_p1 12 rfl) (by decide) ?_
      refine mf_callV (Yc := YX12_asksSign) (r := (RX12, TX12, 106)) (ci := 12) (mf_dat eX12_qPartTold_p1 13 rfl) ml_X12_312 okX12_asksSign im_X12_asksSign sl_X12_asksSign rfl rfl rfl rfl (Nat.le_of_ble_eq_true rfl) (mf_rr (Nat.le_trans (by decide) hd) (Nat.le_refl _)) (Nat.le_refl _) ck8 hyp (fun r9 g10 h11 hyp => ?_)
      refine mf_goto (tgt := 183) (mf_dat eX12_qPartTold_p1 14 rfl) (by decide) ?_
      refine mf_goto (tgt := 2) (mf_dat eX12_qPartTold_p1 33 rfl) (by decide) ?_
      exact mf_sub [1, 2] rfl hyp
    · replace hyp := hyp.2 hc
      refine mf_bipush (v := 21) (mf_dat eX12_qPartTold_p1 6 rfl) (by decide) ?_
      refine mf_goto (tgt := 139) (mf_dat eX12_qPartTold_p1 7 rfl) (by decide) ?_
      refine mf_iload (mf_dat eX12_qPartTold_p1 9 rfl) rfl ?_
      obtain ⟨ck15, hyp⟩ := hyp
      refine mf_callV (Yc := YX12_qOpens) (r := (RX12, TX12, 106)) (ci := 12) (mf_dat eX12_qPartTold_p1 10 rfl) ml_X12_596 okX12_qOpens im_X12_qOpens sl_X12_qOpens rfl rfl rfl rfl (Nat.le_of_ble_eq_true rfl) (mf_rr (Nat.le_trans (by decide) hd) (Nat.le_refl _)) (Nat.le_refl _) ck15 hyp (fun r12 g13 h14 hyp => ?_)
      refine mf_aload_n (mf_dat eX12_qPartTold_p1 11 rfl) rfl rfl ?_
      refine mf_bipush (v := 40) (mf_dat eX12_qPartTold_p1 12 rfl) (by decide) ?_
      refine mf_callV (Yc := YX12_asksSign) (r := (RX12, TX12, 106)) (ci := 12) (mf_dat eX12_qPartTold_p1 13 rfl) ml_X12_312 okX12_asksSign im_X12_asksSign sl_X12_asksSign rfl rfl rfl rfl (Nat.le_of_ble_eq_true rfl) (mf_rr (Nat.le_trans (by decide) hd) (Nat.le_refl _)) (Nat.le_refl _) ck15 hyp (fun r16 g17 h18 hyp => ?_)
      refine mf_goto (tgt := 183) (mf_dat eX12_qPartTold_p1 14 rfl) (by decide) ?_
      refine mf_goto (tgt := 2) (mf_dat eX12_qPartTold_p1 33 rfl) (by decide) ?_
      exact mf_sub [1, 2] rfl hyp
set_option maxRecDepth 100000 in
set_option maxHeartbeats 4000000 in
theorem bX12_qPartTold_186 {C : mf_G} {l : Launch} {d n : Nat} {K : mf_Kt} {x0 : Int} {g h : mf_M} (hd : 5 ≤ d) (hyp : mf_is n x0 12 ∧ ((h x0 5 = 0 → mf_MT C l 3 YX12_qWordOf [(2, x0), (0, 0), (0, 9)] n n g h (fun r2 g3 h4 => ((r2 = (-1) → JX12_qPartTold_212 C l d n K x0 r2 g3 h4) ∧ (¬ r2 = (-1) → mf_MT C l 4 YX12_qAsksWord [(2, x0), (0, r2)] n n g3 h4 (fun r5 g6 h7 => JX12_qPartTold_212 C l d n K x0 r2 g6 h7))))) ∧ (¬ h x0 5 = 0 → K 0 g h))) : JX12_qPartTold_186 C l d n K x0 g h := by
  refine mf_aload_n (mf_dat eX12_qPartTold_p1 34 rfl) rfl rfl ?_
  obtain ⟨ck1, hyp⟩ := hyp
  refine mf_getf (r := (RX12, TX12, 106)) (ci := 12) (k := 5) (t := 0) (v := h x0 5) (mf_dat eX12_qPartTold_p1 35 rfl) fl_X12_243 rfl (by decide) rfl rfl ck1 ?_
  refine mf_if_eq (tgt := 194) (mf_dat eX12_qPartTold_p1 36 rfl) (by decide) (fun hc => ?_) (fun hc => ?_)
  · replace hyp := hyp.1 hc
    refine mf_aload_n (mf_dat eX12_qPartTold_p1 38 rfl) rfl rfl ?_
    refine mf_iconst (v := 0) (mf_dat eX12_qPartTold_p1 39 rfl) (by decide) ?_
    refine mf_bipush (v := 9) (mf_dat eX12_qPartTold_p1 40 rfl) (by decide) ?_
    refine mf_callV (Yc := YX12_qWordOf) (r := (RX12, TX12, 106)) (ci := 12) (mf_dat eX12_qPartTold_p1 41 rfl) ml_X12_593 okX12_qWordOf im_X12_qWordOf sl_X12_qWordOf rfl rfl rfl rfl (Nat.le_of_ble_eq_true rfl) (mf_rr (Nat.le_trans (by decide) hd) (Nat.le_refl _)) (Nat.le_refl _) ck1 hyp (fun r2 g3 h4 hyp => ?_)
    refine mf_istore_n (mf_dat eX12_qPartTold_p1 42 rfl) rfl (by decide) ?_
    refine mf_iload_n (mf_dat eX12_qPartTold_p1 43 rfl) rfl rfl ?_
    refine mf_iconst (v := (-1)) (mf_dat eX12_qPartTold_p1 44 rfl) (by decide) ?_
    refine mf_icmp_eq (tgt := 212) (mf_dat eX12_qPartTold_p1 45 rfl) (by decide) (fun hc => ?_) (fun hc => ?_)
    · replace hyp := hyp.1 hc
      exact mf_sub [1, 0] rfl hyp
    · replace hyp := hyp.2 hc
      refine mf_aload_n (mf_dat eX12_qPartTold_p1 46 rfl) rfl rfl ?_
      refine mf_iload_n (mf_dat eX12_qPartTold_p1 47 rfl) rfl rfl ?_
      refine mf_callV (Yc := YX12_qAsksWord) (r := (RX12, TX12, 106)) (ci := 12) (mf_dat eX12_qPartTold_p1 48 rfl) ml_X12_599 okX12_qAsksWord im_X12_qAsksWord sl_X12_qAsksWord rfl rfl rfl rfl (Nat.le_of_ble_eq_true rfl) (mf_rr (Nat.le_trans (by decide) hd) (Nat.le_refl _)) (Nat.le_refl _) ck1 hyp (fun r5 g6 h7 hyp => ?_)
      exact mf_sub [1, 0] rfl hyp
  · replace hyp := hyp.2 hc
    exact mf_return (mf_dat eX12_qPartTold_p1 37 rfl) rfl hyp
set_option maxRecDepth 100000 in
set_option maxHeartbeats 4000000 in
theorem bX12_qPartTold_212 {C : mf_G} {l : Launch} {d n : Nat} {K : mf_Kt} {x0 x2 : Int} {g h : mf_M} (hd : 3 ≤ d) (hyp : ((x2 = (-1) → mf_is n x0 12 ∧ mf_MT C l 1 YX12_number [(2, x0), (0, 0), (0, 9999)] n n g h (fun r1 g2 h3 => mf_MT C l 0 YX12_qCode [(2, x0), (0, mf_w32 (1000 + r1))] n n g2 h3 (fun r5 g6 h7 => mf_MT C l 2 YX12_qEndsPart [(2, x0)] n n g6 h7 (fun r8 g9 h10 => K 0 g9 h10)))) ∧ (¬ x2 = (-1) → mf_is n x0 12 ∧ mf_MT C l 0 YX12_qCode [(2, x0), (0, mf_w32 (40 + x2))] n n g h (fun r11 g12 h13 => mf_MT C l 2 YX12_qEndsPart [(2, x0)] n n g12 h13 (fun r15 g16 h17 => K 0 g16 h17))))) : JX12_qPartTold_212 C l d n K x0 x2 g h := by
  refine mf_aload_n (mf_dat eX12_qPartTold_p1 49 rfl) rfl rfl ?_
  refine mf_iload_n (mf_dat eX12_qPartTold_p1 50 rfl) rfl rfl ?_
  refine mf_iconst (v := (-1)) (mf_dat eX12_qPartTold_p1 51 rfl) (by decide) ?_
  refine mf_icmp_eq (tgt := 225) (mf_dat eX12_qPartTold_p1 52 rfl) (by decide) (fun hc => ?_) (fun hc => ?_)
  · replace hyp := hyp.1 hc
    refine mf_sipush (v := 1000) (mf_dat eX12_qPartTold_p1 57 rfl) (by decide) ?_
    refine mf_aload_n (mf_dat eX12_qPartTold_p1 58 rfl) rfl rfl ?_
    refine mf_iconst (v := 0) (mf_dat eX12_qPartTold_p1 59 rfl) (by decide) ?_
    refine mf_sipush (v := 9999) (mf_dat eX12_qPartTold_p2 0 rfl) (by decide) ?_
    obtain ⟨ck4, hyp⟩ := hyp
    refine mf_callV (Yc := YX12_number) (r := (RX12, TX12, 106)) (ci := 12) (mf_dat eX12_qPartTold_p2 1 rfl) ml_X12_308 okX12_number im_X12_number sl_X12_number rfl rfl rfl rfl (Nat.le_of_ble_eq_true rfl) (mf_rr (Nat.le_trans (by decide) hd) (Nat.le_refl _)) (Nat.le_refl _) ck4 hyp (fun r1 g2 h3 hyp => ?_)
    refine mf_iadd (mf_dat eX12_qPartTold_p2 2 rfl) ?_
    refine mf_callV (Yc := YX12_qCode) (r := (RX12, TX12, 106)) (ci := 12) (mf_dat eX12_qPartTold_p2 3 rfl) ml_X12_578 okX12_qCode im_X12_qCode sl_X12_qCode rfl rfl rfl rfl (Nat.le_of_ble_eq_true rfl) (mf_rr (Nat.le_trans (by decide) hd) (Nat.le_refl _)) (Nat.le_refl _) ck4 hyp (fun r5 g6 h7 hyp => ?_)
    refine mf_aload_n (mf_dat eX12_qPartTold_p2 4 rfl) rfl rfl ?_
    refine mf_callV (Yc := YX12_qEndsPart) (r := (RX12, TX12, 106)) (ci := 12) (mf_dat eX12_qPartTold_p2 5 rfl) ml_X12_602 okX12_qEndsPart im_X12_qEndsPart sl_X12_qEndsPart rfl rfl rfl rfl (Nat.le_of_ble_eq_true rfl) (mf_rr (Nat.le_trans (by decide) hd) (Nat.le_refl _)) (Nat.le_refl _) ck4 hyp (fun r8 g9 h10 hyp => ?_)
    exact mf_return (mf_dat eX12_qPartTold_p2 6 rfl) rfl hyp
  · replace hyp := hyp.2 hc
    refine mf_bipush (v := 40) (mf_dat eX12_qPartTold_p1 53 rfl) (by decide) ?_
    refine mf_iload_n (mf_dat eX12_qPartTold_p1 54 rfl) rfl rfl ?_
    refine mf_iadd (mf_dat eX12_qPartTold_p1 55 rfl) ?_
    refine mf_goto (tgt := 237) (mf_dat eX12_qPartTold_p1 56 rfl) (by decide) ?_
    obtain ⟨ck14, hyp⟩ := hyp
    refine mf_callV (Yc := YX12_qCode) (r := (RX12, TX12, 106)) (ci := 12) (mf_dat eX12_qPartTold_p2 3 rfl) ml_X12_578 okX12_qCode im_X12_qCode sl_X12_qCode rfl rfl rfl rfl (Nat.le_of_ble_eq_true rfl) (mf_rr (Nat.le_trans (by decide) hd) (Nat.le_refl _)) (Nat.le_refl _) ck14 hyp (fun r11 g12 h13 hyp => ?_)
    refine mf_aload_n (mf_dat eX12_qPartTold_p2 4 rfl) rfl rfl ?_
    refine mf_callV (Yc := YX12_qEndsPart) (r := (RX12, TX12, 106)) (ci := 12) (mf_dat eX12_qPartTold_p2 5 rfl) ml_X12_602 okX12_qEndsPart im_X12_qEndsPart sl_X12_qEndsPart rfl rfl rfl rfl (Nat.le_of_ble_eq_true rfl) (mf_rr (Nat.le_trans (by decide) hd) (Nat.le_refl _)) (Nat.le_refl _) ck14 hyp (fun r15 g16 h17 hyp => ?_)
    exact mf_return (mf_dat eX12_qPartTold_p2 6 rfl) rfl hyp
set_option maxRecDepth 100000 in
set_option maxHeartbeats 4000000 in
theorem mX12_qPartTold {C : mf_G} {l : Launch} {d n : Nat} {K : mf_Kt} {x0 : Int} {g h : mf_M} (hyp : JX12_qPartTold_2 C l d n K x0 1 g h) : mf_MT C l d YX12_qPartTold [(2, x0)] n n g h K := by
  refine mf_entry (by decide) (Nat.le_of_ble_eq_true rfl) ?_
  refine mf_iconst (v := 1) (mf_dat eX12_qPartTold_p0 0 rfl) (by decide) ?_
  refine mf_istore_n (mf_dat eX12_qPartTold_p0 1 rfl) rfl (by decide) ?_
  exact mf_sub [1, 0] rfl hyp
abbrev JX12_qGoesOn_0 (C : mf_G) (l : Launch) (d n : Nat) (K : mf_Kt) (x0 : Int) (g h : mf_M) : Prop := mf_AW C l YX12_qGoesOn (mf_rm d n n) n (mf_Zm C YX12_qGoesOn n n K) (fun _ _ => True) 0 [(0, (2, x0))] [] n g h
abbrev JX12_qGoesOn_43 (C : mf_G) (l : Launch) (d n : Nat) (K : mf_Kt) (x0 : Int) (g h : mf_M) : Prop := mf_AW C l YX12_qGoesOn (mf_rm d n n) n (mf_Zm C YX12_qGoesOn n n K) (fun _ _ => True) 43 [(0, (2, x0))] [] n g h
abbrev JX12_qGoesOn_122 (C : mf_G) (l : Launch) (d n : Nat) (K : mf_Kt) (x0 : Int) (g h : mf_M) : Prop := mf_AW C l YX12_qGoesOn (mf_rm d n n) n (mf_Zm C YX12_qGoesOn n n K) (fun _ _ => True) 122 [(0, (2, x0))] [] n g h
abbrev JX12_qGoesOn_140 (C : mf_G) (l : Launch) (d n : Nat) (K : mf_Kt) (x0 : Int) (g h : mf_M) : Prop := mf_AW C l YX12_qGoesOn (mf_rm d n n) n (mf_Zm C YX12_qGoesOn n n K) (fun _ _ => True) 140 [(0, (2, x0))] [] n g h
abbrev JX12_qGoesOn_162 (C : mf_G) (l : Launch) (d n : Nat) (K : mf_Kt) (x0 x1 : Int) (g h : mf_M) : Prop := mf_AW C l YX12_qGoesOn (mf_rm d n n) n (mf_Zm C YX12_qGoesOn n n K) (fun _ _ => True) 162 [(0, (2, x0)), (1, (0, x1))] [] n g h
abbrev JX12_qGoesOn_225 (C : mf_G) (l : Launch) (d n : Nat) (K : mf_Kt) (x0 : Int) (g h : mf_M) : Prop := mf_AW C l YX12_qGoesOn (mf_rm d n n) n (mf_Zm C YX12_qGoesOn n n K) (fun _ _ => True) 225 [(0, (2, x0))] [] n g h
abbrev JX12_qGoesOn_247 (C : mf_G) (l : Launch) (d n : Nat) (K : mf_Kt) (x0 x1 : Int) (g h : mf_M) : Prop := mf_AW C l YX12_qGoesOn (mf_rm d n n) n (mf_Zm C YX12_qGoesOn n n K) (fun _ _ => True) 247 [(0, (2, x0)), (1, (0, x1))] [] n g h
abbrev JX12_qGoesOn_326 (C : mf_G) (l : Launch) (d n : Nat) (K : mf_Kt) (x0 : Int) (g h : mf_M) : Prop := mf_AW C l YX12_qGoesOn (mf_rm d n n) n (mf_Zm C YX12_qGoesOn n n K) (fun _ _ => True) 326 [(0, (2, x0))] [] n g h
set_option maxRecDepth 100000 in
set_option maxHeartbeats 4000000 in
theorem bX12_qGoesOn_0 {C : mf_G} {l : Launch} {d n : Nat} {K : mf_Kt} {x0 : Int} {g h : mf_M} (hd : 2 ≤ d) (hyp : mf_is n x0 12 ∧ ((¬ h x0 5 = 0 → JX12_qGoesOn_122 C l d n K x0 g h) ∧ (h x0 5 = 0 → mf_MT C l 0 YX12_look [(2, x0)] n n g h (fun r2 g3 h4 => ((¬ r2 = 41 → JX12_qGoesOn_122 C l d n K x0 g3 h4) ∧ (r2 = 41 → mf_MT C l 1 YX12_qBracket [(2, x0)] n n g3 h4 (fun r5 g6 h7 => ((r5 = 20 → JX12_qGoesOn_43 C l d n K x0 g6 h7) ∧ (¬ r5 = 20 → mf_MT C l 1 YX12_qBracket [(2, x0)] n n g6 h7 (fun r8 g9 h10 => ((r8 = 23 → JX12_qGoesOn_43 C l d n K x0 g9 h10) ∧ (¬ r8 = 23 → mf_MT C l 1 YX12_qBracket [(2, x0)] n n g9 h10 (fun r11 g12 h13 => ((¬ r11 = 24 → JX12_qGoesOn_122 C l d n K x0 g12 h13) ∧ (r11 = 24 → JX12_qGoesOn_43 C l d n K x0 g12 h13))))))))))))))) : JX12_qGoesOn_0 C l d n K x0 g h := by
  refine mf_aload_n (mf_dat eX12_qGoesOn_p0 0 rfl) rfl rfl ?_
  obtain ⟨ck1, hyp⟩ := hyp
  refine mf_getf (r := (RX12, TX12, 106)) (ci := 12) (k := 5) (t := 0) (v := h x0 5) (mf_dat eX12_qGoesOn_p0 1 rfl) fl_X12_243 rfl (by decide) rfl rfl ck1 ?_
  refine mf_if_ne (tgt := 122) (mf_dat eX12_qGoesOn_p0 2 rfl) (by decide) (fun hc => ?_) (fun hc => ?_)
  · replace hyp := hyp.1 hc
    exact mf_sub [0] rfl hyp
  · replace hyp := hyp.2 hc
    refine mf_aload_n (mf_dat eX12_qGoesOn_p0 3 rfl) rfl rfl ?_
    refine mf_callV (Yc := YX12_look) (r := (RX12, TX12, 106)) (ci := 12) (mf_dat eX12_qGoesOn_p0 4 rfl) ml_X12_255 okX12_look im_X12_look sl_X12_look rfl rfl rfl rfl (Nat.le_of_ble_eq_true rfl) (mf_rr (Nat.le_trans (by decide) hd) (Nat.le_refl _)) (Nat.le_refl _) ck1 hyp (fun r2 g3 h4 hyp => ?_)
    refine mf_bipush (v := 41) (mf_dat eX12_qGoesOn_p0 5 rfl) (by decide) ?_
    refine mf_icmp_ne (tgt := 122) (mf_dat eX12_qGoesOn_p0 6 rfl) (by decide) (fun hc => ?_) (fun hc => ?_)
    · replace hyp := hyp.1 hc
      exact mf_sub [0] rfl hyp
    · replace hyp := hyp.2 hc
      refine mf_aload_n (mf_dat eX12_qGoesOn_p0 7 rfl) rfl rfl ?_
      refine mf_callV (Yc := YX12_qBracket) (r := (RX12, TX12, 106)) (ci := 12) (mf_dat eX12_qGoesOn_p0 8 rfl) ml_X12_605 okX12_qBracket im_X12_qBracket sl_X12_qBracket rfl rfl rfl rfl (Nat.le_of_ble_eq_true rfl) (mf_rr (Nat.le_trans (by decide) hd) (Nat.le_refl _)) (Nat.le_refl _) ck1 hyp (fun r5 g6 h7 hyp => ?_)
      refine mf_bipush (v := 20) (mf_dat eX12_qGoesOn_p0 9 rfl) (by decide) ?_
      refine mf_icmp_eq (tgt := 43) (mf_dat eX12_qGoesOn_p0 10 rfl) (by decide) (fun hc => ?_) (fun hc => ?_)
      · replace hyp := hyp.1 hc
        exact mf_sub [0] rfl hyp
      · replace hyp := hyp.2 hc
        refine mf_aload_n (mf_dat eX12_qGoesOn_p0 11 rfl) rfl rfl ?_
        refine mf_callV (Yc := YX12_qBracket) (r := (RX12, TX12, 106)) (ci := 12) (mf_dat eX12_qGoesOn_p0 12 rfl) ml_X12_605 okX12_qBracket im_X12_qBracket sl_X12_qBracket rfl rfl rfl rfl (Nat.le_of_ble_eq_true rfl) (mf_rr (Nat.le_trans (by decide) hd) (Nat.le_refl _)) (Nat.le_refl _) ck1 hyp (fun r8 g9 h10 hyp => ?_)
        refine mf_bipush (v := 23) (mf_dat eX12_qGoesOn_p0 13 rfl) (by decide) ?_
        refine mf_icmp_eq (tgt := 43) (mf_dat eX12_qGoesOn_p0 14 rfl) (by decide) (fun hc => ?_) (fun hc => ?_)
        · replace hyp := hyp.1 hc
          exact mf_sub [0] rfl hyp
        · replace hyp := hyp.2 hc
          refine mf_aload_n (mf_dat eX12_qGoesOn_p0 15 rfl) rfl rfl ?_
          refine mf_callV (Yc := YX12_qBracket) (r := (RX12, TX12, 106)) (ci := 12) (mf_dat eX12_qGoesOn_p0 16 rfl) ml_X12_605 okX12_qBracket im_X12_qBracket sl_X12_qBracket rfl rfl rfl rfl (Nat.le_of_ble_eq_true rfl) (mf_rr (Nat.le_trans (by decide) hd) (Nat.le_refl _)) (Nat.le_refl _) ck1 hyp (fun r11 g12 h13 hyp => ?_)
          refine mf_bipush (v := 24) (mf_dat eX12_qGoesOn_p0 17 rfl) (by decide) ?_
          refine mf_icmp_ne (tgt := 122) (mf_dat eX12_qGoesOn_p0 18 rfl) (by decide) (fun hc => ?_) (fun hc => ?_)
          · replace hyp := hyp.1 hc
            exact mf_sub [0] rfl hyp
          · replace hyp := hyp.2 hc
            exact mf_sub [0] rfl hyp
set_option maxRecDepth 100000 in
set_option maxHeartbeats 4000000 in
theorem bX12_qGoesOn_43 {C : mf_G} {l : Launch} {d n : Nat} {K : mf_Kt} {x0 : Int} {g h : mf_M} (hd : 3 ≤ d) (hyp : mf_is n x0 12 ∧ (∀ h2 : mf_M, h2 = mf_up h x0 2 (mf_w32 ((h x0 2) + 1)) → mf_MT C l 2 YX12_qDropsToBracket [(2, x0)] n n g h2 (fun r3 g4 h5 => (∀ h6 : mf_M, h6 = mf_up h5 x0 97 (mf_w32 ((h5 x0 97) - 1)) → (∀ h7 : mf_M, h7 = mf_up h6 x0 98 (mf_w32 ((h6 x0 98) - 1)) → mf_is n (g4 x0 96) 20 ∧ 0 ≤ h7 x0 97 ∧ h7 x0 97 < mf_len (g4 x0 96) ∧ ((h7 (g4 x0 96) (h7 x0 97) = 20 → mf_MT C l 2 YX12_qEndsPart [(2, x0)] n n g4 h7 (fun r11 g12 h13 => JX12_qGoesOn_0 C l d n K x0 g12 h13)) ∧ (¬ h7 (g4 x0 96) (h7 x0 97) = 20 → ((¬ h7 (g4 x0 96) (h7 x0 97) = 23 → mf_MT C l 0 YX12_qCode [(2, x0), (0, 6)] n n g4 h7 (fun r14 g15 h16 => mf_MT C l 2 YX12_qEndsPart [(2, x0)] n n g15 h16 (fun r17 g18 h19 => JX12_qGoesOn_0 C l d n K x0 g18 h19))) ∧ (h7 (g4 x0 96) (h7 x0 97) = 23 → mf_MT C l 0 YX12_qCode [(2, x0), (0, 5)] n n g4 h7 (fun r20 g21 h22 => mf_MT C l 2 YX12_qEndsPart [(2, x0)] n n g21 h22 (fun r23 g24 h25 => JX12_qGoesOn_0 C l d n K x0 g24 h25))))))))))) : JX12_qGoesOn_43 C l d n K x0 g h := by
  refine mf_aload_n (mf_dat eX12_qGoesOn_p0 19 rfl) rfl rfl ?_
  refine mf_dup (mf_dat eX12_qGoesOn_p0 20 rfl) (by decide) ?_
  obtain ⟨ck1, hyp⟩ := hyp
  refine mf_getf (r := (RX12, TX12, 106)) (ci := 12) (k := 2) (t := 0) (v := h x0 2) (mf_dat eX12_qGoesOn_p0 21 rfl) fl_X12_249 rfl (by decide) rfl rfl ck1 ?_
  refine mf_iconst (v := 1) (mf_dat eX12_qGoesOn_p0 22 rfl) (by decide) ?_
  refine mf_iadd (mf_dat eX12_qGoesOn_p0 23 rfl) ?_
  refine mf_putI (r := (RX12, TX12, 106)) (ci := 12) (k := 2) (kI := 2) (t := 0) (mf_dat eX12_qGoesOn_p0 24 rfl) fl_X12_249 rfl rfl (by decide) rfl (by decide) rfl (by decide) (fun h9 => absurd h9 (by decide)) ck1 ?_
  generalize qh2 : mf_up h x0 2 (mf_w32 ((h x0 2) + 1)) = h2
  replace hyp := hyp _ qh2.symm
  refine mf_aload_n (mf_dat eX12_qGoesOn_p0 25 rfl) rfl rfl ?_
  refine mf_callV (Yc := YX12_qDropsToBracket) (r := (RX12, TX12, 106)) (ci := 12) (mf_dat eX12_qGoesOn_p0 26 rfl) ml_X12_608 okX12_qDropsToBracket im_X12_qDropsToBracket sl_X12_qDropsToBracket rfl rfl rfl rfl (Nat.le_of_ble_eq_true rfl) (mf_rr (Nat.le_trans (by decide) hd) (Nat.le_refl _)) (Nat.le_refl _) ck1 hyp (fun r3 g4 h5 hyp => ?_)
  refine mf_aload_n (mf_dat eX12_qGoesOn_p0 27 rfl) rfl rfl ?_
  refine mf_dup (mf_dat eX12_qGoesOn_p0 28 rfl) (by decide) ?_
  refine mf_getf (r := (RX12, TX12, 106)) (ci := 12) (k := 97) (t := 0) (v := h5 x0 97) (mf_dat eX12_qGoesOn_p0 29 rfl) fl_X12_341 rfl (by decide) rfl rfl ck1 ?_
  refine mf_iconst (v := 1) (mf_dat eX12_qGoesOn_p0 30 rfl) (by decide) ?_
  refine mf_isub (mf_dat eX12_qGoesOn_p0 31 rfl) ?_
  refine mf_putI (r := (RX12, TX12, 106)) (ci := 12) (k := 97) (kI := 97) (t := 0) (mf_dat eX12_qGoesOn_p0 32 rfl) fl_X12_341 rfl rfl (by decide) rfl (by decide) rfl (by decide) (fun h9 => absurd h9 (by decide)) ck1 ?_
  generalize qh6 : mf_up h5 x0 97 (mf_w32 ((h5 x0 97) - 1)) = h6
  replace hyp := hyp _ qh6.symm
  refine mf_aload_n (mf_dat eX12_qGoesOn_p0 33 rfl) rfl rfl ?_
  refine mf_dup (mf_dat eX12_qGoesOn_p0 34 rfl) (by decide) ?_
  refine mf_getf (r := (RX12, TX12, 106)) (ci := 12) (k := 98) (t := 0) (v := h6 x0 98) (mf_dat eX12_qGoesOn_p0 35 rfl) fl_X12_344 rfl (by decide) rfl rfl ck1 ?_
  refine mf_iconst (v := 1) (mf_dat eX12_qGoesOn_p0 36 rfl) (by decide) ?_
  refine mf_isub (mf_dat eX12_qGoesOn_p0 37 rfl) ?_
  refine mf_putI (r := (RX12, TX12, 106)) (ci := 12) (k := 98) (kI := 98) (t := 0) (mf_dat eX12_qGoesOn_p0 38 rfl) fl_X12_344 rfl rfl (by decide) rfl (by decide) rfl (by decide) (fun h9 => absurd h9 (by decide)) ck1 ?_
  generalize qh7 : mf_up h6 x0 98 (mf_w32 ((h6 x0 98) - 1)) = h7
  replace hyp := hyp _ qh7.symm
  refine mf_aload_n (mf_dat eX12_qGoesOn_p0 39 rfl) rfl rfl ?_
  refine mf_getf (r := (RX12, TX12, 106)) (ci := 12) (k := 96) (t := 2) (v := g4 x0 96) (mf_dat eX12_qGoesOn_p0 40 rfl) fl_X12_231 rfl (by decide) rfl rfl ck1 ?_
  refine mf_aload_n (mf_dat eX12_qGoesOn_p0 41 rfl) rfl rfl ?_
  refine mf_getf (r := (RX12, TX12, 106)) (ci := 12) (k := 97) (t := 0) (v := h7 x0 97) (mf_dat eX12_qGoesOn_p0 42 rfl) fl_X12_341 rfl (by decide) rfl rfl ck1 ?_
  obtain ⟨ck8, hyp⟩ := hyp
  obtain ⟨ck9, hyp⟩ := hyp
  obtain ⟨ck10, hyp⟩ := hyp
  refine mf_iald (mf_dat eX12_qGoesOn_p0 43 rfl) ck8 ck9 ck10 ?_
  refine mf_bipush (v := 20) (mf_dat eX12_qGoesOn_p0 44 rfl) (by decide) ?_
  refine mf_icmp_eq (tgt := 115) (mf_dat eX12_qGoesOn_p0 45 rfl) (by decide) (fun hc => ?_) (fun hc => ?_)
  · replace hyp := hyp.1 hc
    refine mf_aload_n (mf_dat eX12_qGoesOn_p0 58 rfl) rfl rfl ?_
    refine mf_callV (Yc := YX12_qEndsPart) (r := (RX12, TX12, 106)) (ci := 12) (mf_dat eX12_qGoesOn_p0 59 rfl) ml_X12_602 okX12_qEndsPart im_X12_qEndsPart sl_X12_qEndsPart rfl rfl rfl rfl (Nat.le_of_ble_eq_true rfl) (mf_rr (Nat.le_trans (by decide) hd) (Nat.le_refl _)) (Nat.le_refl _) ck1 hyp (fun r11 g12 h13 hyp => ?_)
    refine mf_goto (tgt := 0) (mf_dat eX12_qGoesOn_p1 0 rfl) (by decide) ?_
    exact mf_sub [0] rfl hyp
  · replace hyp := hyp.2 hc
    refine mf_aload_n (mf_dat eX12_qGoesOn_p0 46 rfl) rfl rfl ?_
    refine mf_aload_n (mf_dat eX12_qGoesOn_p0 47 rfl) rfl rfl ?_
    refine mf_getf (r := (RX12, TX12, 106)) (ci := 12) (k := 96) (t := 2) (v := g4 x0 96) (mf_dat eX12_qGoesOn_p0 48 rfl) fl_X12_231 rfl (by decide) rfl rfl ck1 ?_
    refine mf_aload_n (mf_dat eX12_qGoesOn_p0 49 rfl) rfl rfl ?_
    refine mf_getf (r := (RX12, TX12, 106)) (ci := 12) (k := 97) (t := 0) (v := h7 x0 97) (mf_dat eX12_qGoesOn_p0 50 rfl) fl_X12_341 rfl (by decide) rfl rfl ck1 ?_
    refine mf_iald (mf_dat eX12_qGoesOn_p0 51 rfl) ck8 ck9 ck10 ?_
    refine mf_bipush (v := 23) (mf_dat eX12_qGoesOn_p0 52 rfl) (by decide) ?_
    refine mf_icmp_ne (tgt := 110) (mf_dat eX12_qGoesOn_p0 53 rfl) (by decide) (fun hc => ?_) (fun hc => ?_)
    · replace hyp := hyp.1 hc
      refine mf_bipush (v := 6) (mf_dat eX12_qGoesOn_p0 56 rfl) (by decide) ?_
      refine mf_callV (Yc := YX12_qCode) (r := (RX12, TX12, 106)) (ci := 12) (mf_dat eX12_qGoesOn_p0 57 rfl) ml_X12_578 okX12_qCode im_X12_qCode sl_X12_qCode rfl rfl rfl rfl (Nat.le_of_ble_eq_true rfl) (mf_rr (Nat.le_trans (by decide) hd) (Nat.le_refl _)) (Nat.le_refl _) ck1 hyp (fun r14 g15 h16 hyp => ?_)
      refine mf_aload_n (mf_dat eX12_qGoesOn_p0 58 rfl) rfl rfl ?_
      refine mf_callV (Yc := YX12_qEndsPart) (r := (RX12, TX12, 106)) (ci := 12) (mf_dat eX12_qGoesOn_p0 59 rfl) ml_X12_602 okX12_qEndsPart im_X12_qEndsPart sl_X12_qEndsPart rfl rfl rfl rfl (Nat.le_of_ble_eq_true rfl) (mf_rr (Nat.le_trans (by decide) hd) (Nat.le_refl _)) (Nat.le_refl _) ck1 hyp (fun r17 g18 h19 hyp => ?_)
      refine mf_goto (tgt := 0) (mf_dat eX12_qGoesOn_p1 0 rfl) (by decide) ?_
      exact mf_sub [0] rfl hyp
    · replace hyp := hyp.2 hc
      refine mf_iconst (v := 5) (mf_dat eX12_qGoesOn_p0 54 rfl) (by decide) ?_
      refine mf_goto (tgt := 112) (mf_dat eX12_qGoesOn_p0 55 rfl) (by decide) ?_
      refine mf_callV (Yc := YX12_qCode) (r := (RX12, TX12, 106)) (ci := 12) (mf_dat eX12_qGoesOn_p0 57 rfl) ml_X12_578 okX12_qCode im_X12_qCode sl_X12_qCode rfl rfl rfl rfl (Nat.le_of_ble_eq_true rfl) (mf_rr (Nat.le_trans (by decide) hd) (Nat.le_refl _)) (Nat.le_refl _) ck1 hyp (fun r20 g21 h22 hyp => ?_)
      refine mf_aload_n (mf_dat eX12_qGoesOn_p0 58 rfl) rfl rfl ?_
      refine mf_callV (Yc := YX12_qEndsPart) (r := (RX12, TX12, 106)) (ci := 12) (mf_dat eX12_qGoesOn_p0 59 rfl) ml_X12_602 okX12_qEndsPart im_X12_qEndsPart sl_X12_qEndsPart rfl rfl rfl rfl (Nat.le_of_ble_eq_true rfl) (mf_rr (Nat.le_trans (by decide) hd) (Nat.le_refl _)) (Nat.le_refl _) ck1 hyp (fun r23 g24 h25 hyp => ?_)
      refine mf_goto (tgt := 0) (mf_dat eX12_qGoesOn_p1 0 rfl) (by decide) ?_
      exact mf_sub [0] rfl hyp
set_option maxRecDepth 100000 in
set_option maxHeartbeats 4000000 in
theorem bX12_qGoesOn_122 {C : mf_G} {l : Launch} {d n : Nat} {K : mf_Kt} {x0 : Int} {g h : mf_M} (hd : 2 ≤ d) (hyp : mf_is n x0 12 ∧ mf_MT C l 1 YX12_takesSign [(2, x0), (0, 42)] n n g h (fun r1 g2 h3 => ((¬ r1 = 0 → JX12_qGoesOn_140 C l d n K x0 g2 h3) ∧ (r1 = 0 → mf_MT C l 1 YX12_takesSign [(2, x0), (0, 47)] n n g2 h3 (fun r5 g6 h7 => ((r5 = 0 → mf_MT C l 1 YX12_takesSign [(2, x0), (0, 43)] n n g6 h7 (fun r8 g9 h10 => ((¬ r8 = 0 → JX12_qGoesOn_225 C l d n K x0 g9 h10) ∧ (r8 = 0 → mf_MT C l 1 YX12_takesSign [(2, x0), (0, 45)] n n g9 h10 (fun r11 g12 h13 => ((r11 = 0 → mf_MT C l 1 YX12_qBracket [(2, x0)] n n g12 h13 (fun r14 g15 h16 => ((r14 = 21 → JX12_qGoesOn_326 C l d n K x0 g15 h16) ∧ (¬ r14 = 21 → mf_MT C l 1 YX12_qBracket [(2, x0)] n n g15 h16 (fun r17 g18 h19 => ((¬ r17 = 22 → mf_MT C l 1 YX12_qBracket [(2, x0)] n n g18 h19 (fun r20 g21 h22 => ((r20 = (-1) → K 0 g21 h22) ∧ (¬ r20 = (-1) → ((¬ h22 x0 5 = 0 → K 0 g21 h22) ∧ (h22 x0 5 = 0 → mf_MT C l 0 YX12_fail [(2, x0), (0, 1), (0, h22 x0 2)] n n g21 h22 (fun r23 g24 h25 => K 0 g24 h25))))))) ∧ (r17 = 22 → JX12_qGoesOn_326 C l d n K x0 g18 h19))))))) ∧ (¬ r11 = 0 → JX12_qGoesOn_225 C l d n K x0 g12 h13))))))) ∧ (¬ r5 = 0 → JX12_qGoesOn_140 C l d n K x0 g6 h7))))))) : JX12_qGoesOn_122 C l d n K x0 g h := by
  refine mf_aload_n (mf_dat eX12_qGoesOn_p1 1 rfl) rfl rfl ?_
  refine mf_bipush (v := 42) (mf_dat eX12_qGoesOn_p1 2 rfl) (by decide) ?_
  obtain ⟨ck4, hyp⟩ := hyp
  refine mf_callV (Yc := YX12_takesSign) (r := (RX12, TX12, 106)) (ci := 12) (mf_dat eX12_qGoesOn_p1 3 rfl) ml_X12_277 okX12_takesSign im_X12_takesSign sl_X12_takesSign rfl rfl rfl rfl (Nat.le_of_ble_eq_true rfl) (mf_rr (Nat.le_trans (by decide) hd) (Nat.le_refl _)) (Nat.le_refl _) ck4 hyp (fun r1 g2 h3 hyp => ?_)
  refine mf_if_ne (tgt := 140) (mf_dat eX12_qGoesOn_p1 4 rfl) (by decide) (fun hc => ?_) (fun hc => ?_)
  · replace hyp := hyp.1 hc
    exact mf_sub [0] rfl hyp
  · replace hyp := hyp.2 hc
    refine mf_aload_n (mf_dat eX12_qGoesOn_p1 5 rfl) rfl rfl ?_
    refine mf_bipush (v := 47) (mf_dat eX12_qGoesOn_p1 6 rfl) (by decide) ?_
    refine mf_callV (Yc := YX12_takesSign) (r := (RX12, TX12, 106)) (ci := 12) (mf_dat eX12_qGoesOn_p1 7 rfl) ml_X12_277 okX12_takesSign im_X12_takesSign sl_X12_takesSign rfl rfl rfl rfl (Nat.le_of_ble_eq_true rfl) (mf_rr (Nat.le_trans (by decide) hd) (Nat.le_refl _)) (Nat.le_refl _) ck4 hyp (fun r5 g6 h7 hyp => ?_)
    refine mf_if_eq (tgt := 207) (mf_dat eX12_qGoesOn_p1 8 rfl) (by decide) (fun hc => ?_) (fun hc => ?_)
    · replace hyp := hyp.1 hc
      refine mf_aload_n (mf_dat eX12_qGoesOn_p1 47 rfl) rfl rfl ?_
      refine mf_bipush (v := 43) (mf_dat eX12_qGoesOn_p1 48 rfl) (by decide) ?_
      refine mf_callV (Yc := YX12_takesSign) (r := (RX12, TX12, 106)) (ci := 12) (mf_dat eX12_qGoesOn_p1 49 rfl) ml_X12_277 okX12_takesSign im_X12_takesSign sl_X12_takesSign rfl rfl rfl rfl (Nat.le_of_ble_eq_true rfl) (mf_rr (Nat.le_trans (by decide) hd) (Nat.le_refl _)) (Nat.le_refl _) ck4 hyp (fun r8 g9 h10 hyp => ?_)
      refine mf_if_ne (tgt := 225) (mf_dat eX12_qGoesOn_p1 50 rfl) (by decide) (fun hc => ?_) (fun hc => ?_)
      · replace hyp := hyp.1 hc
        exact mf_sub [0] rfl hyp
      · replace hyp := hyp.2 hc
        refine mf_aload_n (mf_dat eX12_qGoesOn_p1 51 rfl) rfl rfl ?_
        refine mf_bipush (v := 45) (mf_dat eX12_qGoesOn_p1 52 rfl) (by decide) ?_
        refine mf_callV (Yc := YX12_takesSign) (r := (RX12, TX12, 106)) (ci := 12) (mf_dat eX12_qGoesOn_p1 53 rfl) ml_X12_277 okX12_takesSign im_X12_takesSign sl_X12_takesSign rfl rfl rfl rfl (Nat.le_of_ble_eq_true rfl) (mf_rr (Nat.le_trans (by decide) hd) (Nat.le_refl _)) (Nat.le_refl _) ck4 hyp (fun r11 g12 h13 hyp => ?_)
        refine mf_if_eq (tgt := 308) (mf_dat eX12_qGoesOn_p1 54 rfl) (by decide) (fun hc => ?_) (fun hc => ?_)
        · replace hyp := hyp.1 hc
          refine mf_aload_n (mf_dat eX12_qGoesOn_p2 41 rfl) rfl rfl ?_
          refine mf_callV (Yc := YX12_qBracket) (r := (RX12, TX12, 106)) (ci := 12) (mf_dat eX12_qGoesOn_p2 42 rfl) ml_X12_605 okX12_qBracket im_X12_qBracket sl_X12_qBracket rfl rfl rfl rfl (Nat.le_of_ble_eq_true rfl) (mf_rr (Nat.le_trans (by decide) hd) (Nat.le_refl _)) (Nat.le_refl _) ck4 hyp (fun r14 g15 h16 hyp => ?_)
          refine mf_bipush (v := 21) (mf_dat eX12_qGoesOn_p2 43 rfl) (by decide) ?_
          refine mf_icmp_eq (tgt := 326) (mf_dat eX12_qGoesOn_p2 44 rfl) (by decide) (fun hc => ?_) (fun hc => ?_)
          · replace hyp := hyp.1 hc
            exact mf_sub [0] rfl hyp
          · replace hyp := hyp.2 hc
            refine mf_aload_n (mf_dat eX12_qGoesOn_p2 45 rfl) rfl rfl ?_
            refine mf_callV (Yc := YX12_qBracket) (r := (RX12, TX12, 106)) (ci := 12) (mf_dat eX12_qGoesOn_p2 46 rfl) ml_X12_605 okX12_qBracket im_X12_qBracket sl_X12_qBracket rfl rfl rfl rfl (Nat.le_of_ble_eq_true rfl) (mf_rr (Nat.le_trans (by decide) hd) (Nat.le_refl _)) (Nat.le_refl _) ck4 hyp (fun r17 g18 h19 hyp => ?_)
            refine mf_bipush (v := 22) (mf_dat eX12_qGoesOn_p2 47 rfl) (by decide) ?_
            refine mf_icmp_ne (tgt := 362) (mf_dat eX12_qGoesOn_p2 48 rfl) (by decide) (fun hc => ?_) (fun hc => ?_)
            · replace hyp := hyp.1 hc
              refine mf_aload_n (mf_dat eX12_qGoesOn_p3 12 rfl) rfl rfl ?_
              refine mf_callV (Yc := YX12_qBracket) (r := (RX12, TX12, 106)) (ci := 12) (mf_dat eX12_qGoesOn_p3 13 rfl) ml_X12_605 okX12_qBracket im_X12_qBracket sl_X12_qBracket rfl rfl rfl rfl (Nat.le_of_ble_eq_true rfl) (mf_rr (Nat.le_trans (by decide) hd) (Nat.le_refl _)) (Nat.le_refl _) ck4 hyp (fun r20 g21 h22 hyp => ?_)
              refine mf_iconst (v := (-1)) (mf_dat eX12_qGoesOn_p3 14 rfl) (by decide) ?_
              refine mf_icmp_eq (tgt := 386) (mf_dat eX12_qGoesOn_p3 15 rfl) (by decide) (fun hc => ?_) (fun hc => ?_)
              · replace hyp := hyp.1 hc
                refine mf_iconst (v := 0) (mf_dat eX12_qGoesOn_p3 24 rfl) (by decide) ?_
                exact mf_ireturn (mf_dat eX12_qGoesOn_p3 25 rfl) rfl (Or.inr ⟨rfl, by decide⟩) hyp
              · replace hyp := hyp.2 hc
                refine mf_aload_n (mf_dat eX12_qGoesOn_p3 16 rfl) rfl rfl ?_
                refine mf_getf (r := (RX12, TX12, 106)) (ci := 12) (k := 5) (t := 0) (v := h22 x0 5) (mf_dat eX12_qGoesOn_p3 17 rfl) fl_X12_243 rfl (by decide) rfl rfl ck4 ?_
                refine mf_if_ne (tgt := 386) (mf_dat eX12_qGoesOn_p3 18 rfl) (by decide) (fun hc => ?_) (fun hc => ?_)
                · replace hyp := hyp.1 hc
                  refine mf_iconst (v := 0) (mf_dat eX12_qGoesOn_p3 24 rfl) (by decide) ?_
                  exact mf_ireturn (mf_dat eX12_qGoesOn_p3 25 rfl) rfl (Or.inr ⟨rfl, by decide⟩) hyp
                · replace hyp := hyp.2 hc
                  refine mf_aload_n (mf_dat eX12_qGoesOn_p3 19 rfl) rfl rfl ?_
                  refine mf_iconst (v := 1) (mf_dat eX12_qGoesOn_p3 20 rfl) (by decide) ?_
                  refine mf_aload_n (mf_dat eX12_qGoesOn_p3 21 rfl) rfl rfl ?_
                  refine mf_getf (r := (RX12, TX12, 106)) (ci := 12) (k := 2) (t := 0) (v := h22 x0 2) (mf_dat eX12_qGoesOn_p3 22 rfl) fl_X12_249 rfl (by decide) rfl rfl ck4 ?_
                  refine mf_callV (Yc := YX12_fail) (r := (RX12, TX12, 106)) (ci := 12) (mf_dat eX12_qGoesOn_p3 23 rfl) ml_X12_273 okX12_fail im_X12_fail sl_X12_fail rfl rfl rfl rfl (Nat.le_of_ble_eq_true rfl) (mf_rr (Nat.le_trans (by decide) hd) (Nat.le_refl _)) (Nat.le_refl _) ck4 hyp (fun r23 g24 h25 hyp => ?_)
                  refine mf_iconst (v := 0) (mf_dat eX12_qGoesOn_p3 24 rfl) (by decide) ?_
                  exact mf_ireturn (mf_dat eX12_qGoesOn_p3 25 rfl) rfl (Or.inr ⟨rfl, by decide⟩) hyp
            · replace hyp := hyp.2 hc
              exact mf_sub [0] rfl hyp
        · replace hyp := hyp.2 hc
          exact mf_sub [0] rfl hyp
    · replace hyp := hyp.2 hc
      exact mf_sub [0] rfl hyp
set_option maxRecDepth 100000 in
set_option maxHeartbeats 4000000 in
theorem bX12_qGoesOn_140 {C : mf_G} {l : Launch} {d n : Nat} {K : mf_Kt} {x0 : Int} {g h : mf_M} (hyp : mf_is n x0 12 ∧ mf_is n (g x0 0) 20 ∧ 0 ≤ mf_w32 ((h x0 2) - 1) ∧ mf_w32 ((h x0 2) - 1) < mf_len (g x0 0) ∧ ((¬ h (g x0 0) (mf_w32 ((h x0 2) - 1)) = 42 → JX12_qGoesOn_162 C l d n K x0 4 g h) ∧ (h (g x0 0) (mf_w32 ((h x0 2) - 1)) = 42 → JX12_qGoesOn_162 C l d n K x0 3 g h))) : JX12_qGoesOn_140 C l d n K x0 g h := by
  refine mf_aload_n (mf_dat eX12_qGoesOn_p1 9 rfl) rfl rfl ?_
  obtain ⟨ck1, hyp⟩ := hyp
  refine mf_getf (r := (RX12, TX12, 106)) (ci := 12) (k := 0) (t := 2) (v := g x0 0) (mf_dat eX12_qGoesOn_p1 10 rfl) fl_X12_7 rfl (by decide) rfl rfl ck1 ?_
  refine mf_aload_n (mf_dat eX12_qGoesOn_p1 11 rfl) rfl rfl ?_
  refine mf_getf (r := (RX12, TX12, 106)) (ci := 12) (k := 2) (t := 0) (v := h x0 2) (mf_dat eX12_qGoesOn_p1 12 rfl) fl_X12_249 rfl (by decide) rfl rfl ck1 ?_
  refine mf_iconst (v := 1) (mf_dat eX12_qGoesOn_p1 13 rfl) (by decide) ?_
  refine mf_isub (mf_dat eX12_qGoesOn_p1 14 rfl) ?_
  obtain ⟨ck2, hyp⟩ := hyp
  obtain ⟨ck3, hyp⟩ := hyp
  obtain ⟨ck4, hyp⟩ := hyp
  refine mf_iald (mf_dat eX12_qGoesOn_p1 15 rfl) ck2 ck3 ck4 ?_
  refine mf_bipush (v := 42) (mf_dat eX12_qGoesOn_p1 16 rfl) (by decide) ?_
  refine mf_icmp_ne (tgt := 160) (mf_dat eX12_qGoesOn_p1 17 rfl) (by decide) (fun hc => ?_) (fun hc => ?_)
  · replace hyp := hyp.1 hc
    refine mf_iconst (v := 4) (mf_dat eX12_qGoesOn_p1 20 rfl) (by decide) ?_
    refine mf_istore_n (mf_dat eX12_qGoesOn_p1 21 rfl) rfl (by decide) ?_
    exact mf_sub [1, 0] rfl hyp
  · replace hyp := hyp.2 hc
    refine mf_iconst (v := 3) (mf_dat eX12_qGoesOn_p1 18 rfl) (by decide) ?_
    refine mf_goto (tgt := 161) (mf_dat eX12_qGoesOn_p1 19 rfl) (by decide) ?_
    refine mf_istore_n (mf_dat eX12_qGoesOn_p1 21 rfl) rfl (by decide) ?_
    exact mf_sub [1, 0] rfl hyp
set_option maxRecDepth 100000 in
set_option maxHeartbeats 4000000 in
theorem bX12_qGoesOn_162 {C : mf_G} {l : Launch} {d n : Nat} {K : mf_Kt} {x0 x1 : Int} {g h : mf_M} (hd : 2 ≤ d) (hyp : mf_is n x0 12 ∧ mf_MT C l 0 YX12_qIsOn [(2, x0), (0, 3)] n n g h (fun r1 g2 h3 => ((¬ r1 = 0 → mf_MT C l 1 YX12_qDrops [(2, x0)] n n g2 h3 (fun r5 g6 h7 => JX12_qGoesOn_162 C l d n K x0 x1 g6 h7)) ∧ (r1 = 0 → mf_MT C l 0 YX12_qIsOn [(2, x0), (0, 4)] n n g2 h3 (fun r8 g9 h10 => ((r8 = 0 → mf_is n (g9 x0 96) 20 ∧ 0 ≤ h10 x0 97 ∧ h10 x0 97 < mf_len (g9 x0 96) ∧ (∀ h14 : mf_M, h14 = mf_up h10 (g9 x0 96) (h10 x0 97) x1 → (∀ h15 : mf_M, h15 = mf_up h14 x0 97 (mf_w32 ((h14 x0 97) + 1)) → K 1 g9 h15))) ∧ (¬ r8 = 0 → mf_MT C l 1 YX12_qDrops [(2, x0)] n n g9 h10 (fun r16 g17 h18 => JX12_qGoesOn_162 C l d n K x0 x1 g17 h18)))))))) : JX12_qGoesOn_162 C l d n K x0 x1 g h := by
  refine mf_aload_n (mf_dat eX12_qGoesOn_p1 22 rfl) rfl rfl ?_
  refine mf_iconst (v := 3) (mf_dat eX12_qGoesOn_p1 23 rfl) (by decide) ?_
  obtain ⟨ck4, hyp⟩ := hyp
  refine mf_callV (Yc := YX12_qIsOn) (r := (RX12, TX12, 106)) (ci := 12) (mf_dat eX12_qGoesOn_p1 24 rfl) ml_X12_611 okX12_qIsOn im_X12_qIsOn sl_X12_qIsOn rfl rfl rfl rfl (Nat.le_of_ble_eq_true rfl) (mf_rr (Nat.le_trans (by decide) hd) (Nat.le_refl _)) (Nat.le_refl _) ck4 hyp (fun r1 g2 h3 hyp => ?_)
  refine mf_if_ne (tgt := 178) (mf_dat eX12_qGoesOn_p1 25 rfl) (by decide) (fun hc => ?_) (fun hc => ?_)
  · replace hyp := hyp.1 hc
    refine mf_aload_n (mf_dat eX12_qGoesOn_p1 30 rfl) rfl rfl ?_
    refine mf_callV (Yc := YX12_qDrops) (r := (RX12, TX12, 106)) (ci := 12) (mf_dat eX12_qGoesOn_p1 31 rfl) ml_X12_584 okX12_qDrops im_X12_qDrops sl_X12_qDrops rfl rfl rfl rfl (Nat.le_of_ble_eq_true rfl) (mf_rr (Nat.le_trans (by decide) hd) (Nat.le_refl _)) (Nat.le_refl _) ck4 hyp (fun r5 g6 h7 hyp => ?_)
    refine mf_goto (tgt := 162) (mf_dat eX12_qGoesOn_p1 32 rfl) (by decide) ?_
    exact mf_sub [0, 1] rfl hyp
  · replace hyp := hyp.2 hc
    refine mf_aload_n (mf_dat eX12_qGoesOn_p1 26 rfl) rfl rfl ?_
    refine mf_iconst (v := 4) (mf_dat eX12_qGoesOn_p1 27 rfl) (by decide) ?_
    refine mf_callV (Yc := YX12_qIsOn) (r := (RX12, TX12, 106)) (ci := 12) (mf_dat eX12_qGoesOn_p1 28 rfl) ml_X12_611 okX12_qIsOn im_X12_qIsOn sl_X12_qIsOn rfl rfl rfl rfl (Nat.le_of_ble_eq_true rfl) (mf_rr (Nat.le_trans (by decide) hd) (Nat.le_refl _)) (Nat.le_refl _) ck4 hyp (fun r8 g9 h10 hyp => ?_)
    refine mf_if_eq (tgt := 185) (mf_dat eX12_qGoesOn_p1 29 rfl) (by decide) (fun hc => ?_) (fun hc => ?_)
    · replace hyp := hyp.1 hc
      refine mf_aload_n (mf_dat eX12_qGoesOn_p1 33 rfl) rfl rfl ?_
      refine mf_getf (r := (RX12, TX12, 106)) (ci := 12) (k := 96) (t := 2) (v := g9 x0 96) (mf_dat eX12_qGoesOn_p1 34 rfl) fl_X12_231 rfl (by decide) rfl rfl ck4 ?_
      refine mf_aload_n (mf_dat eX12_qGoesOn_p1 35 rfl) rfl rfl ?_
      refine mf_getf (r := (RX12, TX12, 106)) (ci := 12) (k := 97) (t := 0) (v := h10 x0 97) (mf_dat eX12_qGoesOn_p1 36 rfl) fl_X12_341 rfl (by decide) rfl rfl ck4 ?_
      refine mf_iload_n (mf_dat eX12_qGoesOn_p1 37 rfl) rfl rfl ?_
      obtain ⟨ck11, hyp⟩ := hyp
      obtain ⟨ck12, hyp⟩ := hyp
      obtain ⟨ck13, hyp⟩ := hyp
      refine mf_iast (mf_dat eX12_qGoesOn_p1 38 rfl) ck11 ck12 ck13 ?_
      generalize qh14 : mf_up h10 (g9 x0 96) (h10 x0 97) x1 = h14
      replace hyp := hyp _ qh14.symm
      refine mf_aload_n (mf_dat eX12_qGoesOn_p1 39 rfl) rfl rfl ?_
      refine mf_dup (mf_dat eX12_qGoesOn_p1 40 rfl) (by decide) ?_
      refine mf_getf (r := (RX12, TX12, 106)) (ci := 12) (k := 97) (t := 0) (v := h14 x0 97) (mf_dat eX12_qGoesOn_p1 41 rfl) fl_X12_341 rfl (by decide) rfl rfl ck4 ?_
      refine mf_iconst (v := 1) (mf_dat eX12_qGoesOn_p1 42 rfl) (by decide) ?_
      refine mf_iadd (mf_dat eX12_qGoesOn_p1 43 rfl) ?_
      refine mf_putI (r := (RX12, TX12, 106)) (ci := 12) (k := 97) (kI := 97) (t := 0) (mf_dat eX12_qGoesOn_p1 44 rfl) fl_X12_341 rfl rfl (by decide) rfl (by decide) rfl (by decide) (fun h9 => absurd h9 (by decide)) ck4 ?_
      generalize qh15 : mf_up h14 x0 97 (mf_w32 ((h14 x0 97) + 1)) = h15
      replace hyp := hyp _ qh15.symm
      refine mf_iconst (v := 1) (mf_dat eX12_qGoesOn_p1 45 rfl) (by decide) ?_
      exact mf_ireturn (mf_dat eX12_qGoesOn_p1 46 rfl) rfl (Or.inr ⟨rfl, by decide⟩) hyp
    · replace hyp := hyp.2 hc
      refine mf_aload_n (mf_dat eX12_qGoesOn_p1 30 rfl) rfl rfl ?_
      refine mf_callV (Yc := YX12_qDrops) (r := (RX12, TX12, 106)) (ci := 12) (mf_dat eX12_qGoesOn_p1 31 rfl) ml_X12_584 okX12_qDrops im_X12_qDrops sl_X12_qDrops rfl rfl rfl rfl (Nat.le_of_ble_eq_true rfl) (mf_rr (Nat.le_trans (by decide) hd) (Nat.le_refl _)) (Nat.le_refl _) ck4 hyp (fun r16 g17 h18 hyp => ?_)
      refine mf_goto (tgt := 162) (mf_dat eX12_qGoesOn_p1 32 rfl) (by decide) ?_
      exact mf_sub [0, 1] rfl hyp
set_option maxRecDepth 100000 in
set_option maxHeartbeats 4000000 in
theorem bX12_qGoesOn_225 {C : mf_G} {l : Launch} {d n : Nat} {K : mf_Kt} {x0 : Int} {g h : mf_M} (hyp : mf_is n x0 12 ∧ mf_is n (g x0 0) 20 ∧ 0 ≤ mf_w32 ((h x0 2) - 1) ∧ mf_w32 ((h x0 2) - 1) < mf_len (g x0 0) ∧ ((¬ h (g x0 0) (mf_w32 ((h x0 2) - 1)) = 43 → JX12_qGoesOn_247 C l d n K x0 2 g h) ∧ (h (g x0 0) (mf_w32 ((h x0 2) - 1)) = 43 → JX12_qGoesOn_247 C l d n K x0 1 g h))) : JX12_qGoesOn_225 C l d n K x0 g h := by
  refine mf_aload_n (mf_dat eX12_qGoesOn_p1 55 rfl) rfl rfl ?_
  obtain ⟨ck1, hyp⟩ := hyp
  refine mf_getf (r := (RX12, TX12, 106)) (ci := 12) (k := 0) (t := 2) (v := g x0 0) (mf_dat eX12_qGoesOn_p1 56 rfl) fl_X12_7 rfl (by decide) rfl rfl ck1 ?_
  refine mf_aload_n (mf_dat eX12_qGoesOn_p1 57 rfl) rfl rfl ?_
  refine mf_getf (r := (RX12, TX12, 106)) (ci := 12) (k := 2) (t := 0) (v := h x0 2) (mf_dat eX12_qGoesOn_p1 58 rfl) fl_X12_249 rfl (by decide) rfl rfl ck1 ?_
  refine mf_iconst (v := 1) (mf_dat eX12_qGoesOn_p1 59 rfl) (by decide) ?_
  refine mf_isub (mf_dat eX12_qGoesOn_p2 0 rfl) ?_
  obtain ⟨ck2, hyp⟩ := hyp
  obtain ⟨ck3, hyp⟩ := hyp
  obtain ⟨ck4, hyp⟩ := hyp
  refine mf_iald (mf_dat eX12_qGoesOn_p2 1 rfl) ck2 ck3 ck4 ?_
  refine mf_bipush (v := 43) (mf_dat eX12_qGoesOn_p2 2 rfl) (by decide) ?_
  refine mf_icmp_ne (tgt := 245) (mf_dat eX12_qGoesOn_p2 3 rfl) (by decide) (fun hc => ?_) (fun hc => ?_)
  · replace hyp := hyp.1 hc
    refine mf_iconst (v := 2) (mf_dat eX12_qGoesOn_p2 6 rfl) (by decide) ?_
    refine mf_istore_n (mf_dat eX12_qGoesOn_p2 7 rfl) rfl (by decide) ?_
    exact mf_sub [1, 0] rfl hyp
  · replace hyp := hyp.2 hc
    refine mf_iconst (v := 1) (mf_dat eX12_qGoesOn_p2 4 rfl) (by decide) ?_
    refine mf_goto (tgt := 246) (mf_dat eX12_qGoesOn_p2 5 rfl) (by decide) ?_
    refine mf_istore_n (mf_dat eX12_qGoesOn_p2 7 rfl) rfl (by decide) ?_
    exact mf_sub [1, 0] rfl hyp
set_option maxRecDepth 100000 in
set_option maxHeartbeats 4000000 in
theorem bX12_qGoesOn_247 {C : mf_G} {l : Launch} {d n : Nat} {K : mf_Kt} {x0 x1 : Int} {g h : mf_M} (hd : 2 ≤ d) (hyp : mf_is n x0 12 ∧ mf_MT C l 0 YX12_qIsOn [(2, x0), (0, 3)] n n g h (fun r1 g2 h3 => ((¬ r1 = 0 → mf_MT C l 1 YX12_qDrops [(2, x0)] n n g2 h3 (fun r5 g6 h7 => JX12_qGoesOn_247 C l d n K x0 x1 g6 h7)) ∧ (r1 = 0 → mf_MT C l 0 YX12_qIsOn [(2, x0), (0, 4)] n n g2 h3 (fun r8 g9 h10 => ((¬ r8 = 0 → mf_MT C l 1 YX12_qDrops [(2, x0)] n n g9 h10 (fun r11 g12 h13 => JX12_qGoesOn_247 C l d n K x0 x1 g12 h13)) ∧ (r8 = 0 → mf_MT C l 0 YX12_qIsOn [(2, x0), (0, 1)] n n g9 h10 (fun r14 g15 h16 => ((¬ r14 = 0 → mf_MT C l 1 YX12_qDrops [(2, x0)] n n g15 h16 (fun r17 g18 h19 => JX12_qGoesOn_247 C l d n K x0 x1 g18 h19)) ∧ (r14 = 0 → mf_MT C l 0 YX12_qIsOn [(2, x0), (0, 2)] n n g15 h16 (fun r20 g21 h22 => ((r20 = 0 → mf_is n (g21 x0 96) 20 ∧ 0 ≤ h22 x0 97 ∧ h22 x0 97 < mf_len (g21 x0 96) ∧ (∀ h26 : mf_M, h26 = mf_up h22 (g21 x0 96) (h22 x0 97) x1 → (∀ h27 : mf_M, h27 = mf_up h26 x0 97 (mf_w32 ((h26 x0 97) + 1)) → K 1 g21 h27))) ∧ (¬ r20 = 0 → mf_MT C l 1 YX12_qDrops [(2, x0)] n n g21 h22 (fun r28 g29 h30 => JX12_qGoesOn_247 C l d n K x0 x1 g29 h30)))))))))))))) : JX12_qGoesOn_247 C l d n K x0 x1 g h := by
  refine mf_aload_n (mf_dat eX12_qGoesOn_p2 8 rfl) rfl rfl ?_
  refine mf_iconst (v := 3) (mf_dat eX12_qGoesOn_p2 9 rfl) (by decide) ?_
  obtain ⟨ck4, hyp⟩ := hyp
  refine mf_callV (Yc := YX12_qIsOn) (r := (RX12, TX12, 106)) (ci := 12) (mf_dat eX12_qGoesOn_p2 10 rfl) ml_X12_611 okX12_qIsOn im_X12_qIsOn sl_X12_qIsOn rfl rfl rfl rfl (Nat.le_of_ble_eq_true rfl) (mf_rr (Nat.le_trans (by decide) hd) (Nat.le_refl _)) (Nat.le_refl _) ck4 hyp (fun r1 g2 h3 hyp => ?_)
  refine mf_if_ne (tgt := 279) (mf_dat eX12_qGoesOn_p2 11 rfl) (by decide) (fun hc => ?_) (fun hc => ?_)
  · replace hyp := hyp.1 hc
    refine mf_aload_n (mf_dat eX12_qGoesOn_p2 24 rfl) rfl rfl ?_
    refine mf_callV (Yc := YX12_qDrops) (r := (RX12, TX12, 106)) (ci := 12) (mf_dat eX12_qGoesOn_p2 25 rfl) ml_X12_584 okX12_qDrops im_X12_qDrops sl_X12_qDrops rfl rfl rfl rfl (Nat.le_of_ble_eq_true rfl) (mf_rr (Nat.le_trans (by decide) hd) (Nat.le_refl _)) (Nat.le_refl _) ck4 hyp (fun r5 g6 h7 hyp => ?_)
    refine mf_goto (tgt := 247) (mf_dat eX12_qGoesOn_p2 26 rfl) (by decide) ?_
    exact mf_sub [0, 1] rfl hyp
  · replace hyp := hyp.2 hc
    refine mf_aload_n (mf_dat eX12_qGoesOn_p2 12 rfl) rfl rfl ?_
    refine mf_iconst (v := 4) (mf_dat eX12_qGoesOn_p2 13 rfl) (by decide) ?_
    refine mf_callV (Yc := YX12_qIsOn) (r := (RX12, TX12, 106)) (ci := 12) (mf_dat eX12_qGoesOn_p2 14 rfl) ml_X12_611 okX12_qIsOn im_X12_qIsOn sl_X12_qIsOn rfl rfl rfl rfl (Nat.le_of_ble_eq_true rfl) (mf_rr (Nat.le_trans (by decide) hd) (Nat.le_refl _)) (Nat.le_refl _) ck4 hyp (fun r8 g9 h10 hyp => ?_)
    refine mf_if_ne (tgt := 279) (mf_dat eX12_qGoesOn_p2 15 rfl) (by decide) (fun hc => ?_) (fun hc => ?_)
    · replace hyp := hyp.1 hc
      refine mf_aload_n (mf_dat eX12_qGoesOn_p2 24 rfl) rfl rfl ?_
      refine mf_callV (Yc := YX12_qDrops) (r := (RX12, TX12, 106)) (ci := 12) (mf_dat eX12_qGoesOn_p2 25 rfl) ml_X12_584 okX12_qDrops im_X12_qDrops sl_X12_qDrops rfl rfl rfl rfl (Nat.le_of_ble_eq_true rfl) (mf_rr (Nat.le_trans (by decide) hd) (Nat.le_refl _)) (Nat.le_refl _) ck4 hyp (fun r11 g12 h13 hyp => ?_)
      refine mf_goto (tgt := 247) (mf_dat eX12_qGoesOn_p2 26 rfl) (by decide) ?_
      exact mf_sub [0, 1] rfl hyp
    · replace hyp := hyp.2 hc
      refine mf_aload_n (mf_dat eX12_qGoesOn_p2 16 rfl) rfl rfl ?_
      refine mf_iconst (v := 1) (mf_dat eX12_qGoesOn_p2 17 rfl) (by decide) ?_
      refine mf_callV (Yc := YX12_qIsOn) (r := (RX12, TX12, 106)) (ci := 12) (mf_dat eX12_qGoesOn_p2 18 rfl) ml_X12_611 okX12_qIsOn im_X12_qIsOn sl_X12_qIsOn rfl rfl rfl rfl (Nat.le_of_ble_eq_true rfl) (mf_rr (Nat.le_trans (by decide) hd) (Nat.le_refl _)) (Nat.le_refl _) ck4 hyp (fun r14 g15 h16 hyp => ?_)
      refine mf_if_ne (tgt := 279) (mf_dat eX12_qGoesOn_p2 19 rfl) (by decide) (fun hc => ?_) (fun hc => ?_)
      · replace hyp := hyp.1 hc
        refine mf_aload_n (mf_dat eX12_qGoesOn_p2 24 rfl) rfl rfl ?_
        refine mf_callV (Yc := YX12_qDrops) (r := (RX12, TX12, 106)) (ci := 12) (mf_dat eX12_qGoesOn_p2 25 rfl) ml_X12_584 okX12_qDrops im_X12_qDrops sl_X12_qDrops rfl rfl rfl rfl (Nat.le_of_ble_eq_true rfl) (mf_rr (Nat.le_trans (by decide) hd) (Nat.le_refl _)) (Nat.le_refl _) ck4 hyp (fun r17 g18 h19 hyp => ?_)
        refine mf_goto (tgt := 247) (mf_dat eX12_qGoesOn_p2 26 rfl) (by decide) ?_
        exact mf_sub [0, 1] rfl hyp
      · replace hyp := hyp.2 hc
        refine mf_aload_n (mf_dat eX12_qGoesOn_p2 20 rfl) rfl rfl ?_
        refine mf_iconst (v := 2) (mf_dat eX12_qGoesOn_p2 21 rfl) (by decide) ?_
        refine mf_callV (Yc := YX12_qIsOn) (r := (RX12, TX12, 106)) (ci := 12) (mf_dat eX12_qGoesOn_p2 22 rfl) ml_X12_611 okX12_qIsOn im_X12_qIsOn sl_X12_qIsOn rfl rfl rfl rfl (Nat.le_of_ble_eq_true rfl) (mf_rr (Nat.le_trans (by decide) hd) (Nat.le_refl _)) (Nat.le_refl _) ck4 hyp (fun r20 g21 h22 hyp => ?_)
        refine mf_if_eq (tgt := 286) (mf_dat eX12_qGoesOn_p2 23 rfl) (by decide) (fun hc => ?_) (fun hc => ?_)
        · replace hyp := hyp.1 hc
          refine mf_aload_n (mf_dat eX12_qGoesOn_p2 27 rfl) rfl rfl ?_
          refine mf_getf (r := (RX12, TX12, 106)) (ci := 12) (k := 96) (t := 2) (v := g21 x0 96) (mf_dat eX12_qGoesOn_p2 28 rfl) fl_X12_231 rfl (by decide) rfl rfl ck4 ?_
          refine mf_aload_n (mf_dat eX12_qGoesOn_p2 29 rfl) rfl rfl ?_
          refine mf_getf (r := (RX12, TX12, 106)) (ci := 12) (k := 97) (t := 0) (v := h22 x0 97) (mf_dat eX12_qGoesOn_p2 30 rfl) fl_X12_341 rfl (by decide) rfl rfl ck4 ?_
          refine mf_iload_n (mf_dat eX12_qGoesOn_p2 31 rfl) rfl rfl ?_
          obtain ⟨ck23, hyp⟩ := hyp
          obtain ⟨ck24, hyp⟩ := hyp
          obtain ⟨ck25, hyp⟩ := hyp
          refine mf_iast (mf_dat eX12_qGoesOn_p2 32 rfl) ck23 ck24 ck25 ?_
          generalize qh26 : mf_up h22 (g21 x0 96) (h22 x0 97) x1 = h26
          replace hyp := hyp _ qh26.symm
          refine mf_aload_n (mf_dat eX12_qGoesOn_p2 33 rfl) rfl rfl ?_
          refine mf_dup (mf_dat eX12_qGoesOn_p2 34 rfl) (by decide) ?_
          refine mf_getf (r := (RX12, TX12, 106)) (ci := 12) (k := 97) (t := 0) (v := h26 x0 97) (mf_dat eX12_qGoesOn_p2 35 rfl) fl_X12_341 rfl (by decide) rfl rfl ck4 ?_
          refine mf_iconst (v := 1) (mf_dat eX12_qGoesOn_p2 36 rfl) (by decide) ?_
          refine mf_iadd (mf_dat eX12_qGoesOn_p2 37 rfl) ?_
          refine mf_putI (r := (RX12, TX12, 106)) (ci := 12) (k := 97) (kI := 97) (t := 0) (mf_dat eX12_qGoesOn_p2 38 rfl) fl_X12_341 rfl rfl (by decide) rfl (by decide) rfl (by decide) (fun h9 => absurd h9 (by decide)) ck4 ?_
          generalize qh27 : mf_up h26 x0 97 (mf_w32 ((h26 x0 97) + 1)) = h27
          replace hyp := hyp _ qh27.symm
          refine mf_iconst (v := 1) (mf_dat eX12_qGoesOn_p2 39 rfl) (by decide) ?_
          exact mf_ireturn (mf_dat eX12_qGoesOn_p2 40 rfl) rfl (Or.inr ⟨rfl, by decide⟩) hyp
        · replace hyp := hyp.2 hc
          refine mf_aload_n (mf_dat eX12_qGoesOn_p2 24 rfl) rfl rfl ?_
          refine mf_callV (Yc := YX12_qDrops) (r := (RX12, TX12, 106)) (ci := 12) (mf_dat eX12_qGoesOn_p2 25 rfl) ml_X12_584 okX12_qDrops im_X12_qDrops sl_X12_qDrops rfl rfl rfl rfl (Nat.le_of_ble_eq_true rfl) (mf_rr (Nat.le_trans (by decide) hd) (Nat.le_refl _)) (Nat.le_refl _) ck4 hyp (fun r28 g29 h30 hyp => ?_)
          refine mf_goto (tgt := 247) (mf_dat eX12_qGoesOn_p2 26 rfl) (by decide) ?_
          exact mf_sub [0, 1] rfl hyp
set_option maxRecDepth 100000 in
set_option maxHeartbeats 4000000 in
theorem bX12_qGoesOn_326 {C : mf_G} {l : Launch} {d n : Nat} {K : mf_Kt} {x0 : Int} {g h : mf_M} (hd : 3 ≤ d) (hyp : mf_is n x0 12 ∧ mf_MT C l 2 YX12_asksSign [(2, x0), (0, 44)] n n g h (fun r1 g2 h3 => ((h3 x0 5 = 0 → mf_MT C l 2 YX12_qDropsToBracket [(2, x0)] n n g2 h3 (fun r5 g6 h7 => mf_is n (g6 x0 96) 20 ∧ 0 ≤ mf_w32 ((h7 x0 97) - 1) ∧ mf_w32 ((h7 x0 97) - 1) < mf_len (g6 x0 96) ∧ (∀ h11 : mf_M, h11 = mf_up h7 (g6 x0 96) (mf_w32 ((h7 x0 97) - 1)) (mf_w32 ((h7 (g6 x0 96) (mf_w32 ((h7 x0 97) - 1))) + 2)) → K 1 g6 h11))) ∧ (¬ h3 x0 5 = 0 → K 0 g2 h3)))) : JX12_qGoesOn_326 C l d n K x0 g h := by
  refine mf_aload_n (mf_dat eX12_qGoesOn_p2 49 rfl) rfl rfl ?_
  refine mf_bipush (v := 44) (mf_dat eX12_qGoesOn_p2 50 rfl) (by decide) ?_
  obtain ⟨ck4, hyp⟩ := hyp
  refine mf_callV (Yc := YX12_asksSign) (r := (RX12, TX12, 106)) (ci := 12) (mf_dat eX12_qGoesOn_p2 51 rfl) ml_X12_312 okX12_asksSign im_X12_asksSign sl_X12_asksSign rfl rfl rfl rfl (Nat.le_of_ble_eq_true rfl) (mf_rr (Nat.le_trans (by decide) hd) (Nat.le_refl _)) (Nat.le_refl _) ck4 hyp (fun r1 g2 h3 hyp => ?_)
  refine mf_aload_n (mf_dat eX12_qGoesOn_p2 52 rfl) rfl rfl ?_
  refine mf_getf (r := (RX12, TX12, 106)) (ci := 12) (k := 5) (t := 0) (v := h3 x0 5) (mf_dat eX12_qGoesOn_p2 53 rfl) fl_X12_243 rfl (by decide) rfl rfl ck4 ?_
  refine mf_if_eq (tgt := 341) (mf_dat eX12_qGoesOn_p2 54 rfl) (by decide) (fun hc => ?_) (fun hc => ?_)
  · replace hyp := hyp.1 hc
    refine mf_aload_n (mf_dat eX12_qGoesOn_p2 57 rfl) rfl rfl ?_
    refine mf_callV (Yc := YX12_qDropsToBracket) (r := (RX12, TX12, 106)) (ci := 12) (mf_dat eX12_qGoesOn_p2 58 rfl) ml_X12_608 okX12_qDropsToBracket im_X12_qDropsToBracket sl_X12_qDropsToBracket rfl rfl rfl rfl (Nat.le_of_ble_eq_true rfl) (mf_rr (Nat.le_trans (by decide) hd) (Nat.le_refl _)) (Nat.le_refl _) ck4 hyp (fun r5 g6 h7 hyp => ?_)
    refine mf_aload_n (mf_dat eX12_qGoesOn_p2 59 rfl) rfl rfl ?_
    refine mf_getf (r := (RX12, TX12, 106)) (ci := 12) (k := 96) (t := 2) (v := g6 x0 96) (mf_dat eX12_qGoesOn_p3 0 rfl) fl_X12_231 rfl (by decide) rfl rfl ck4 ?_
    refine mf_aload_n (mf_dat eX12_qGoesOn_p3 1 rfl) rfl rfl ?_
    refine mf_getf (r := (RX12, TX12, 106)) (ci := 12) (k := 97) (t := 0) (v := h7 x0 97) (mf_dat eX12_qGoesOn_p3 2 rfl) fl_X12_341 rfl (by decide) rfl rfl ck4 ?_
    refine mf_iconst (v := 1) (mf_dat eX12_qGoesOn_p3 3 rfl) (by decide) ?_
    refine mf_isub (mf_dat eX12_qGoesOn_p3 4 rfl) ?_
    refine mf_dup2 (mf_dat eX12_qGoesOn_p3 5 rfl) (by decide) (by decide) ?_
    obtain ⟨ck8, hyp⟩ := hyp
    obtain ⟨ck9, hyp⟩ := hyp
    obtain ⟨ck10, hyp⟩ := hyp
    refine mf_iald (mf_dat eX12_qGoesOn_p3 6 rfl) ck8 ck9 ck10 ?_
    refine mf_iconst (v := 2) (mf_dat eX12_qGoesOn_p3 7 rfl) (by decide) ?_
    refine mf_iadd (mf_dat eX12_qGoesOn_p3 8 rfl) ?_
    refine mf_iast (mf_dat eX12_qGoesOn_p3 9 rfl) ck8 ck9 ck10 ?_
    generalize qh11 : mf_up h7 (g6 x0 96) (mf_w32 ((h7 x0 97) - 1)) (mf_w32 ((h7 (g6 x0 96) (mf_w32 ((h7 x0 97) - 1))) + 2)) = h11
    replace hyp := hyp _ qh11.symm
    refine mf_iconst (v := 1) (mf_dat eX12_qGoesOn_p3 10 rfl) (by decide) ?_
    exact mf_ireturn (mf_dat eX12_qGoesOn_p3 11 rfl) rfl (Or.inr ⟨rfl, by decide⟩) hyp
  · replace hyp := hyp.2 hc
    refine mf_iconst (v := 0) (mf_dat eX12_qGoesOn_p2 55 rfl) (by decide) ?_
    exact mf_ireturn (mf_dat eX12_qGoesOn_p2 56 rfl) rfl (Or.inr ⟨rfl, by decide⟩) hyp
set_option maxRecDepth 100000 in
set_option maxHeartbeats 4000000 in
theorem mX12_qGoesOn {C : mf_G} {l : Launch} {d n : Nat} {K : mf_Kt} {x0 : Int} {g h : mf_M} (hyp : JX12_qGoesOn_0 C l d n K x0 g h) : mf_MT C l d YX12_qGoesOn [(2, x0)] n n g h K := by
  refine mf_entry (by decide) (Nat.le_of_ble_eq_true rfl) ?_
  exact mf_sub [0] rfl hyp
abbrev JX12_qSums_15 (C : mf_G) (l : Launch) (d n : Nat) (K : mf_Kt) (x0 x1 x2 : Int) (g h : mf_M) : Prop := mf_AW C l YX12_qSums (mf_rm d n n) n (mf_Zm C YX12_qSums n n K) (fun _ _ => True) 15 [(0, (2, x0)), (1, (0, x1)), (2, (0, x2))] [] n g h
abbrev JX12_qSums_53 (C : mf_G) (l : Launch) (d n : Nat) (K : mf_Kt) (x0 x1 : Int) (g h : mf_M) : Prop := mf_AW C l YX12_qSums (mf_rm d n n) n (mf_Zm C YX12_qSums n n K) (fun _ _ => True) 53 [(0, (2, x0)), (1, (0, x1))] [] n g h
set_option maxRecDepth 100000 in
set_option maxHeartbeats 4000000 in
theorem bX12_qSums_15 {C : mf_G} {l : Launch} {d n : Nat} {K : mf_Kt} {x0 x1 x2 : Int} {g h : mf_M} (hd : 6 ≤ d) (hyp : ((x2 = 0 → JX12_qSums_53 C l d n K x0 x1 g h) ∧ (¬ x2 = 0 → mf_is n x0 12 ∧ ((¬ h x0 5 = 0 → JX12_qSums_53 C l d n K x0 x1 g h) ∧ (h x0 5 = 0 → mf_MT C l 5 YX12_qPartTold [(2, x0)] n n g h (fun r2 g3 h4 => ((¬ h4 x0 5 = 0 → JX12_qSums_15 C l d n K x0 x1 0 g3 h4) ∧ (h4 x0 5 = 0 → mf_MT C l 3 YX12_qGoesOn [(2, x0)] n n g3 h4 (fun r5 g6 h7 => ((r5 = 0 → JX12_qSums_15 C l d n K x0 x1 0 g6 h7) ∧ (¬ r5 = 0 → JX12_qSums_15 C l d n K x0 x1 1 g6 h7))))))))))) : JX12_qSums_15 C l d n K x0 x1 x2 g h := by
  refine mf_iload_n (mf_dat eX12_qSums 9 rfl) rfl rfl ?_
  refine mf_if_eq (tgt := 53) (mf_dat eX12_qSums 10 rfl) (by decide) (fun hc => ?_) (fun hc => ?_)
  · replace hyp := hyp.1 hc
    exact mf_sub [0, 1] rfl hyp
  · replace hyp := hyp.2 hc
    refine mf_aload_n (mf_dat eX12_qSums 11 rfl) rfl rfl ?_
    obtain ⟨ck1, hyp⟩ := hyp
    refine mf_getf (r := (RX12, TX12, 106)) (ci := 12) (k := 5) (t := 0) (v := h x0 5) (mf_dat eX12_qSums 12 rfl) fl_X12_243 rfl (by decide) rfl rfl ck1 ?_
    refine mf_if_ne (tgt := 53) (mf_dat eX12_qSums 13 rfl) (by decide) (fun hc => ?_) (fun hc => ?_)
    · replace hyp := hyp.1 hc
      exact mf_sub [0, 1] rfl hyp
    · replace hyp := hyp.2 hc
      refine mf_aload_n (mf_dat eX12_qSums 14 rfl) rfl rfl ?_
      refine mf_callV (Yc := YX12_qPartTold) (r := (RX12, TX12, 106)) (ci := 12) (mf_dat eX12_qSums 15 rfl) ml_X12_614 okX12_qPartTold im_X12_qPartTold sl_X12_qPartTold rfl rfl rfl rfl (Nat.le_of_ble_eq_true rfl) (mf_rr (Nat.le_trans (by decide) hd) (Nat.le_refl _)) (Nat.le_refl _) ck1 hyp (fun r2 g3 h4 hyp => ?_)
      refine mf_aload_n (mf_dat eX12_qSums 16 rfl) rfl rfl ?_
      refine mf_getf (r := (RX12, TX12, 106)) (ci := 12) (k := 5) (t := 0) (v := h4 x0 5) (mf_dat eX12_qSums 17 rfl) fl_X12_243 rfl (by decide) rfl rfl ck1 ?_
      refine mf_if_ne (tgt := 48) (mf_dat eX12_qSums 18 rfl) (by decide) (fun hc => ?_) (fun hc => ?_)
      · replace hyp := hyp.1 hc
        refine mf_iconst (v := 0) (mf_dat eX12_qSums 24 rfl) (by decide) ?_
        refine mf_istore_n (mf_dat eX12_qSums 25 rfl) rfl (by decide) ?_
        refine mf_goto (tgt := 15) (mf_dat eX12_qSums 26 rfl) (by decide) ?_
        exact mf_sub [1, 2, 0] rfl hyp
      · replace hyp := hyp.2 hc
        refine mf_aload_n (mf_dat eX12_qSums 19 rfl) rfl rfl ?_
        refine mf_callV (Yc := YX12_qGoesOn) (r := (RX12, TX12, 106)) (ci := 12) (mf_dat eX12_qSums 20 rfl) ml_X12_617 okX12_qGoesOn im_X12_qGoesOn sl_X12_qGoesOn rfl rfl rfl rfl (Nat.le_of_ble_eq_true rfl) (mf_rr (Nat.le_trans (by decide) hd) (Nat.le_refl _)) (Nat.le_refl _) ck1 hyp (fun r5 g6 h7 hyp => ?_)
        refine mf_if_eq (tgt := 48) (mf_dat eX12_qSums 21 rfl) (by decide) (fun hc => ?_) (fun hc => ?_)
        · replace hyp := hyp.1 hc
          refine mf_iconst (v := 0) (mf_dat eX12_qSums 24 rfl) (by decide) ?_
          refine mf_istore_n (mf_dat eX12_qSums 25 rfl) rfl (by decide) ?_
          refine mf_goto (tgt := 15) (mf_dat eX12_qSums 26 rfl) (by decide) ?_
          exact mf_sub [1, 2, 0] rfl hyp
        · replace hyp := hyp.2 hc
          refine mf_iconst (v := 1) (mf_dat eX12_qSums 22 rfl) (by decide) ?_
          refine mf_goto (tgt := 49) (mf_dat eX12_qSums 23 rfl) (by decide) ?_
          refine mf_istore_n (mf_dat eX12_qSums 25 rfl) rfl (by decide) ?_
          refine mf_goto (tgt := 15) (mf_dat eX12_qSums 26 rfl) (by decide) ?_
          exact mf_sub [1, 2, 0] rfl hyp
set_option maxRecDepth 100000 in
set_option maxHeartbeats 4000000 in
theorem bX12_qSums_53 {C : mf_G} {l : Launch} {d n : Nat} {K : mf_Kt} {x0 x1 : Int} {g h : mf_M} (hd : 2 ≤ d) (hyp : mf_is n x0 12 ∧ ((¬ h x0 5 = 0 → (∀ h2 : mf_M, h2 = mf_up h x0 99 x1 → K 0 g h2)) ∧ (h x0 5 = 0 → ((h x0 97 ≤ h x0 99 → (∀ h3 : mf_M, h3 = mf_up h x0 99 x1 → K 0 g h3)) ∧ (¬ h x0 97 ≤ h x0 99 → mf_MT C l 1 YX12_qDrops [(2, x0)] n n g h (fun r4 g5 h6 => JX12_qSums_53 C l d n K x0 x1 g5 h6)))))) : JX12_qSums_53 C l d n K x0 x1 g h := by
  refine mf_aload_n (mf_dat eX12_qSums 27 rfl) rfl rfl ?_
  obtain ⟨ck1, hyp⟩ := hyp
  refine mf_getf (r := (RX12, TX12, 106)) (ci := 12) (k := 5) (t := 0) (v := h x0 5) (mf_dat eX12_qSums 28 rfl) fl_X12_243 rfl (by decide) rfl rfl ck1 ?_
  refine mf_if_ne (tgt := 78) (mf_dat eX12_qSums 29 rfl) (by decide) (fun hc => ?_) (fun hc => ?_)
  · replace hyp := hyp.1 hc
    refine mf_aload_n (mf_dat eX12_qSums 38 rfl) rfl rfl ?_
    refine mf_iload_n (mf_dat eX12_qSums 39 rfl) rfl rfl ?_
    refine mf_putI (r := (RX12, TX12, 106)) (ci := 12) (k := 99) (kI := 99) (t := 0) (mf_dat eX12_qSums 40 rfl) fl_X12_347 rfl rfl (by decide) rfl (by decide) rfl (by decide) (fun h9 => absurd h9 (by decide)) ck1 ?_
    generalize qh2 : mf_up h x0 99 x1 = h2
    replace hyp := hyp _ qh2.symm
    exact mf_return (mf_dat eX12_qSums 41 rfl) rfl hyp
  · replace hyp := hyp.2 hc
    refine mf_aload_n (mf_dat eX12_qSums 30 rfl) rfl rfl ?_
    refine mf_getf (r := (RX12, TX12, 106)) (ci := 12) (k := 97) (t := 0) (v := h x0 97) (mf_dat eX12_qSums 31 rfl) fl_X12_341 rfl (by decide) rfl rfl ck1 ?_
    refine mf_aload_n (mf_dat eX12_qSums 32 rfl) rfl rfl ?_
    refine mf_getf (r := (RX12, TX12, 106)) (ci := 12) (k := 99) (t := 0) (v := h x0 99) (mf_dat eX12_qSums 33 rfl) fl_X12_347 rfl (by decide) rfl rfl ck1 ?_
    refine mf_icmp_le (tgt := 78) (mf_dat eX12_qSums 34 rfl) (by decide) (fun hc => ?_) (fun hc => ?_)
    · replace hyp := hyp.1 hc
      refine mf_aload_n (mf_dat eX12_qSums 38 rfl) rfl rfl ?_
      refine mf_iload_n (mf_dat eX12_qSums 39 rfl) rfl rfl ?_
      refine mf_putI (r := (RX12, TX12, 106)) (ci := 12) (k := 99) (kI := 99) (t := 0) (mf_dat eX12_qSums 40 rfl) fl_X12_347 rfl rfl (by decide) rfl (by decide) rfl (by decide) (fun h9 => absurd h9 (by decide)) ck1 ?_
      generalize qh3 : mf_up h x0 99 x1 = h3
      replace hyp := hyp _ qh3.symm
      exact mf_return (mf_dat eX12_qSums 41 rfl) rfl hyp
    · replace hyp := hyp.2 hc
      refine mf_aload_n (mf_dat eX12_qSums 35 rfl) rfl rfl ?_
      refine mf_callV (Yc := YX12_qDrops) (r := (RX12, TX12, 106)) (ci := 12) (mf_dat eX12_qSums 36 rfl) ml_X12_584 okX12_qDrops im_X12_qDrops sl_X12_qDrops rfl rfl rfl rfl (Nat.le_of_ble_eq_true rfl) (mf_rr (Nat.le_trans (by decide) hd) (Nat.le_refl _)) (Nat.le_refl _) ck1 hyp (fun r4 g5 h6 hyp => ?_)
      refine mf_goto (tgt := 53) (mf_dat eX12_qSums 37 rfl) (by decide) ?_
      exact mf_sub [0, 1] rfl hyp
set_option maxRecDepth 100000 in
set_option maxHeartbeats 4000000 in
theorem mX12_qSums {C : mf_G} {l : Launch} {d n : Nat} {K : mf_Kt} {x0 : Int} {g h : mf_M} (hyp : mf_is n x0 12 ∧ (∀ v2 : Int, v2 = h x0 99 → (∀ h3 : mf_M, h3 = mf_up h x0 99 (h x0 97) → JX12_qSums_15 C l d n K x0 v2 1 g h3))) : mf_MT C l d YX12_qSums [(2, x0)] n n g h K := by
  refine mf_entry (by decide) (Nat.le_of_ble_eq_true rfl) ?_
  refine mf_aload_n (mf_dat eX12_qSums 0 rfl) rfl rfl ?_
  obtain ⟨ck1, hyp⟩ := hyp
  refine mf_getf (r := (RX12, TX12, 106)) (ci := 12) (k := 99) (t := 0) (v := h x0 99) (mf_dat eX12_qSums 1 rfl) fl_X12_347 rfl (by decide) rfl rfl ck1 ?_
  generalize qv2 : h x0 99 = v2
  replace hyp := hyp _ qv2.symm
  refine mf_istore_n (mf_dat eX12_qSums 2 rfl) rfl (by decide) ?_
  refine mf_aload_n (mf_dat eX12_qSums 3 rfl) rfl rfl ?_
  refine mf_aload_n (mf_dat eX12_qSums 4 rfl) rfl rfl ?_
  refine mf_getf (r := (RX12, TX12, 106)) (ci := 12) (k := 97) (t := 0) (v := h x0 97) (mf_dat eX12_qSums 5 rfl) fl_X12_341 rfl (by decide) rfl rfl ck1 ?_
  refine mf_putI (r := (RX12, TX12, 106)) (ci := 12) (k := 99) (kI := 99) (t := 0) (mf_dat eX12_qSums 6 rfl) fl_X12_347 rfl rfl (by decide) rfl (by decide) rfl (by decide) (fun h9 => absurd h9 (by decide)) ck1 ?_
  generalize qh3 : mf_up h x0 99 (h x0 97) = h3
  replace hyp := hyp _ qh3.symm
  refine mf_iconst (v := 1) (mf_dat eX12_qSums 7 rfl) (by decide) ?_
  refine mf_istore_n (mf_dat eX12_qSums 8 rfl) rfl (by decide) ?_
  exact mf_sub [2, 1, 0] rfl hyp
abbrev JX12_qFact_63 (C : mf_G) (l : Launch) (d n : Nat) (K : mf_Kt) (x0 x1 : Int) (g h : mf_M) : Prop := mf_AW C l YX12_qFact (mf_rm d n n) n (mf_Zm C YX12_qFact n n K) (fun _ _ => True) 63 [(0, (2, x0)), (1, (0, x1))] [] n g h
set_option maxRecDepth 100000 in
set_option maxHeartbeats 4000000 in
theorem bX12_qFact_63 {C : mf_G} {l : Launch} {d n : Nat} {K : mf_Kt} {x0 x1 : Int} {g h : mf_M} (hd : 7 ≤ d) (hyp : mf_is n x0 12 ∧ (∀ h2 : mf_M, h2 = mf_up h x0 2 (mf_w32 ((h x0 2) + 1)) → mf_MT C l 6 YX12_qSums [(2, x0)] n n g h2 (fun r3 g4 h5 => ((¬ x1 = 60 → ((¬ x1 = 62 → mf_MT C l 0 YX12_qCode [(2, x0), (0, 9)] n n g4 h5 (fun r6 g7 h8 => K 0 g7 h8)) ∧ (x1 = 62 → mf_MT C l 0 YX12_qCode [(2, x0), (0, 8)] n n g4 h5 (fun r9 g10 h11 => K 0 g10 h11)))) ∧ (x1 = 60 → mf_MT C l 0 YX12_qCode [(2, x0), (0, 7)] n n g4 h5 (fun r12 g13 h14 => K 0 g13 h14)))))) : JX12_qFact_63 C l d n K x0 x1 g h := by
  refine mf_aload_n (mf_dat eX12_qFact 33 rfl) rfl rfl ?_
  refine mf_dup (mf_dat eX12_qFact 34 rfl) (by decide) ?_
  obtain ⟨ck1, hyp⟩ := hyp
  refine mf_getf (r := (RX12, TX12, 106)) (ci := 12) (k := 2) (t := 0) (v := h x0 2) (mf_dat eX12_qFact 35 rfl) fl_X12_249 rfl (by decide) rfl rfl ck1 ?_
  refine mf_iconst (v := 1) (mf_dat eX12_qFact 36 rfl) (by decide) ?_
  refine mf_iadd (mf_dat eX12_qFact 37 rfl) ?_
  refine mf_putI (r := (RX12, TX12, 106)) (ci := 12) (k := 2) (kI := 2) (t := 0) (mf_dat eX12_qFact 38 rfl) fl_X12_249 rfl rfl (by decide) rfl (by decide) rfl (by decide) (fun h9 => absurd h9 (by decide)) ck1 ?_
  generalize qh2 : mf_up h x0 2 (mf_w32 ((h x0 2) + 1)) = h2
  replace hyp := hyp _ qh2.symm
  refine mf_aload_n (mf_dat eX12_qFact 39 rfl) rfl rfl ?_
  refine mf_callV (Yc := YX12_qSums) (r := (RX12, TX12, 106)) (ci := 12) (mf_dat eX12_qFact 40 rfl) ml_X12_353 okX12_qSums im_X12_qSums sl_X12_qSums rfl rfl rfl rfl (Nat.le_of_ble_eq_true rfl) (mf_rr (Nat.le_trans (by decide) hd) (Nat.le_refl _)) (Nat.le_refl _) ck1 hyp (fun r3 g4 h5 hyp => ?_)
  refine mf_aload_n (mf_dat eX12_qFact 41 rfl) rfl rfl ?_
  refine mf_iload_n (mf_dat eX12_qFact 42 rfl) rfl rfl ?_
  refine mf_bipush (v := 60) (mf_dat eX12_qFact 43 rfl) (by decide) ?_
  refine mf_icmp_ne (tgt := 89) (mf_dat eX12_qFact 44 rfl) (by decide) (fun hc => ?_) (fun hc => ?_)
  · replace hyp := hyp.1 hc
    refine mf_iload_n (mf_dat eX12_qFact 47 rfl) rfl rfl ?_
    refine mf_bipush (v := 62) (mf_dat eX12_qFact 48 rfl) (by decide) ?_
    refine mf_icmp_ne (tgt := 100) (mf_dat eX12_qFact 49 rfl) (by decide) (fun hc => ?_) (fun hc => ?_)
    · replace hyp := hyp.1 hc
      refine mf_bipush (v := 9) (mf_dat eX12_qFact 52 rfl) (by decide) ?_
      refine mf_callV (Yc := YX12_qCode) (r := (RX12, TX12, 106)) (ci := 12) (mf_dat eX12_qFact 53 rfl) ml_X12_578 okX12_qCode im_X12_qCode sl_X12_qCode rfl rfl rfl rfl (Nat.le_of_ble_eq_true rfl) (mf_rr (Nat.le_trans (by decide) hd) (Nat.le_refl _)) (Nat.le_refl _) ck1 hyp (fun r6 g7 h8 hyp => ?_)
      exact mf_return (mf_dat eX12_qFact 54 rfl) rfl hyp
    · replace hyp := hyp.2 hc
      refine mf_bipush (v := 8) (mf_dat eX12_qFact 50 rfl) (by decide) ?_
      refine mf_goto (tgt := 102) (mf_dat eX12_qFact 51 rfl) (by decide) ?_
      refine mf_callV (Yc := YX12_qCode) (r := (RX12, TX12, 106)) (ci := 12) (mf_dat eX12_qFact 53 rfl) ml_X12_578 okX12_qCode im_X12_qCode sl_X12_qCode rfl rfl rfl rfl (Nat.le_of_ble_eq_true rfl) (mf_rr (Nat.le_trans (by decide) hd) (Nat.le_refl _)) (Nat.le_refl _) ck1 hyp (fun r9 g10 h11 hyp => ?_)
      exact mf_return (mf_dat eX12_qFact 54 rfl) rfl hyp
  · replace hyp := hyp.2 hc
    refine mf_bipush (v := 7) (mf_dat eX12_qFact 45 rfl) (by decide) ?_
    refine mf_goto (tgt := 102) (mf_dat eX12_qFact 46 rfl) (by decide) ?_
    refine mf_callV (Yc := YX12_qCode) (r := (RX12, TX12, 106)) (ci := 12) (mf_dat eX12_qFact 53 rfl) ml_X12_578 okX12_qCode im_X12_qCode sl_X12_qCode rfl rfl rfl rfl (Nat.le_of_ble_eq_true rfl) (mf_rr (Nat.le_trans (by decide) hd) (Nat.le_refl _)) (Nat.le_refl _) ck1 hyp (fun r12 g13 h14 hyp => ?_)
    exact mf_return (mf_dat eX12_qFact 54 rfl) rfl hyp
set_option maxRecDepth 100000 in
set_option maxHeartbeats 4000000 in
theorem mX12_qFact {C : mf_G} {l : Launch} {d n : Nat} {K : mf_Kt} {x0 : Int} {g h : mf_M} (hd : 7 ≤ d) (hyp : mf_is n x0 12 ∧ mf_MT C l 2 YX12_takes [(2, x0), (2, g x0 81)] n n g h (fun r2 g3 h4 => ((r2 = 0 → mf_MT C l 6 YX12_qSums [(2, x0)] n n g3 h4 (fun r5 g6 h7 => ((h7 x0 5 = 0 → mf_MT C l 0 YX12_look [(2, x0)] n n g6 h7 (fun r8 g9 h10 => ((r8 = 60 → JX12_qFact_63 C l d n K x0 r8 g9 h10) ∧ (¬ r8 = 60 → ((r8 = 62 → JX12_qFact_63 C l d n K x0 r8 g9 h10) ∧ (¬ r8 = 62 → ((r8 = 61 → JX12_qFact_63 C l d n K x0 r8 g9 h10) ∧ (¬ r8 = 61 → mf_MT C l 0 YX12_fail [(2, x0), (0, 1), (0, h10 x0 2)] n n g9 h10 (fun r11 g12 h13 => K 0 g12 h13))))))))) ∧ (¬ h7 x0 5 = 0 → K 0 g6 h7)))) ∧ (¬ r2 = 0 → mf_MT C l 0 YX12_qCode [(2, x0), (0, 13)] n n g3 h4 (fun r14 g15 h16 => K 0 g15 h16))))) : mf_MT C l d YX12_qFact [(2, x0)] n n g h K := by
  refine mf_entry (by decide) (Nat.le_of_ble_eq_true rfl) ?_
  refine mf_aload_n (mf_dat eX12_qFact 0 rfl) rfl rfl ?_
  refine mf_aload_n (mf_dat eX12_qFact 1 rfl) rfl rfl ?_
  obtain ⟨ck1, hyp⟩ := hyp
  refine mf_getf (r := (RX12, TX12, 106)) (ci := 12) (k := 81) (t := 2) (v := g x0 81) (mf_dat eX12_qFact 2 rfl) fl_X12_189 rfl (by decide) rfl rfl ck1 ?_
  refine mf_callV (Yc := YX12_takes) (r := (RX12, TX12, 106)) (ci := 12) (mf_dat eX12_qFact 3 rfl) ml_X12_270 okX12_takes im_X12_takes sl_X12_takes rfl rfl rfl rfl (Nat.le_of_ble_eq_true rfl) (mf_rr (Nat.le_trans (by decide) hd) (Nat.le_refl _)) (Nat.le_refl _) ck1 hyp (fun r2 g3 h4 hyp => ?_)
  refine mf_if_eq (tgt := 18) (mf_dat eX12_qFact 4 rfl) (by decide) (fun hc => ?_) (fun hc => ?_)
  · replace hyp := hyp.1 hc
    refine mf_aload_n (mf_dat eX12_qFact 9 rfl) rfl rfl ?_
    refine mf_callV (Yc := YX12_qSums) (r := (RX12, TX12, 106)) (ci := 12) (mf_dat eX12_qFact 10 rfl) ml_X12_353 okX12_qSums im_X12_qSums sl_X12_qSums rfl rfl rfl rfl (Nat.le_of_ble_eq_true rfl) (mf_rr (Nat.le_trans (by decide) hd) (Nat.le_refl _)) (Nat.le_refl _) ck1 hyp (fun r5 g6 h7 hyp => ?_)
    refine mf_aload_n (mf_dat eX12_qFact 11 rfl) rfl rfl ?_
    refine mf_getf (r := (RX12, TX12, 106)) (ci := 12) (k := 5) (t := 0) (v := h7 x0 5) (mf_dat eX12_qFact 12 rfl) fl_X12_243 rfl (by decide) rfl rfl ck1 ?_
    refine mf_if_eq (tgt := 30) (mf_dat eX12_qFact 13 rfl) (by decide) (fun hc => ?_) (fun hc => ?_)
    · replace hyp := hyp.1 hc
      refine mf_aload_n (mf_dat eX12_qFact 15 rfl) rfl rfl ?_
      refine mf_callV (Yc := YX12_look) (r := (RX12, TX12, 106)) (ci := 12) (mf_dat eX12_qFact 16 rfl) ml_X12_255 okX12_look im_X12_look sl_X12_look rfl rfl rfl rfl (Nat.le_of_ble_eq_true rfl) (mf_rr (Nat.le_trans (by decide) hd) (Nat.le_refl _)) (Nat.le_refl _) ck1 hyp (fun r8 g9 h10 hyp => ?_)
      refine mf_istore_n (mf_dat eX12_qFact 17 rfl) rfl (by decide) ?_
      refine mf_iload_n (mf_dat eX12_qFact 18 rfl) rfl rfl ?_
      refine mf_bipush (v := 60) (mf_dat eX12_qFact 19 rfl) (by decide) ?_
      refine mf_icmp_eq (tgt := 63) (mf_dat eX12_qFact 20 rfl) (by decide) (fun hc => ?_) (fun hc => ?_)
      · replace hyp := hyp.1 hc
        exact mf_sub [1, 0] rfl hyp
      · replace hyp := hyp.2 hc
        refine mf_iload_n (mf_dat eX12_qFact 21 rfl) rfl rfl ?_
        refine mf_bipush (v := 62) (mf_dat eX12_qFact 22 rfl) (by decide) ?_
        refine mf_icmp_eq (tgt := 63) (mf_dat eX12_qFact 23 rfl) (by decide) (fun hc => ?_) (fun hc => ?_)
        · replace hyp := hyp.1 hc
          exact mf_sub [1, 0] rfl hyp
        · replace hyp := hyp.2 hc
          refine mf_iload_n (mf_dat eX12_qFact 24 rfl) rfl rfl ?_
          refine mf_bipush (v := 61) (mf_dat eX12_qFact 25 rfl) (by decide) ?_
          refine mf_icmp_eq (tgt := 63) (mf_dat eX12_qFact 26 rfl) (by decide) (fun hc => ?_) (fun hc => ?_)
          · replace hyp := hyp.1 hc
            exact mf_sub [1, 0] rfl hyp
          · replace hyp := hyp.2 hc
            refine mf_aload_n (mf_dat eX12_qFact 27 rfl) rfl rfl ?_
            refine mf_iconst (v := 1) (mf_dat eX12_qFact 28 rfl) (by decide) ?_
            refine mf_aload_n (mf_dat eX12_qFact 29 rfl) rfl rfl ?_
            refine mf_getf (r := (RX12, TX12, 106)) (ci := 12) (k := 2) (t := 0) (v := h10 x0 2) (mf_dat eX12_qFact 30 rfl) fl_X12_249 rfl (by decide) rfl rfl ck1 ?_
            refine mf_callV (Yc := YX12_fail) (r := (RX12, TX12, 106)) (ci := 12) (mf_dat eX12_qFact 31 rfl) ml_X12_273 okX12_fail im_X12_fail sl_X12_fail rfl rfl rfl rfl (Nat.le_of_ble_eq_true rfl) (mf_rr (Nat.le_trans (by decide) hd) (Nat.le_refl _)) (Nat.le_refl _) ck1 hyp (fun r11 g12 h13 hyp => ?_)
            exact mf_return (mf_dat eX12_qFact 32 rfl) rfl hyp
    · replace hyp := hyp.2 hc
      exact mf_return (mf_dat eX12_qFact 14 rfl) rfl hyp
  · replace hyp := hyp.2 hc
    refine mf_aload_n (mf_dat eX12_qFact 5 rfl) rfl rfl ?_
    refine mf_bipush (v := 13) (mf_dat eX12_qFact 6 rfl) (by decide) ?_
    refine mf_callV (Yc := YX12_qCode) (r := (RX12, TX12, 106)) (ci := 12) (mf_dat eX12_qFact 7 rfl) ml_X12_578 okX12_qCode im_X12_qCode sl_X12_qCode rfl rfl rfl rfl (Nat.le_of_ble_eq_true rfl) (mf_rr (Nat.le_trans (by decide) hd) (Nat.le_refl _)) (Nat.le_refl _) ck1 hyp (fun r14 g15 h16 hyp => ?_)
    exact mf_return (mf_dat eX12_qFact 8 rfl) rfl hyp
abbrev JX12_qHasSquare_2 (C : mf_G) (l : Launch) (d n : Nat) (K : mf_Kt) (x0 x1 : Int) (g h : mf_M) : Prop := mf_AW C l YX12_qHasSquare (mf_rm d n n) n (mf_Zm C YX12_qHasSquare n n K) (fun _ _ => True) 2 [(0, (2, x0)), (1, (0, x1))] [] n g h
set_option maxRecDepth 100000 in
set_option maxHeartbeats 4000000 in
theorem bX12_qHasSquare_2 {C : mf_G} {l : Launch} {d n : Nat} {K : mf_Kt} {x0 x1 : Int} {g h : mf_M} (hyp : mf_is n x0 12 ∧ ((h x0 97 ≤ x1 → K 0 g h) ∧ (¬ h x0 97 ≤ x1 → mf_is n (g x0 96) 20 ∧ 0 ≤ x1 ∧ x1 < mf_len (g x0 96) ∧ ((¬ h (g x0 96) x1 = 25 → (∀ v5 : Int, v5 = mf_w32 (x1 + 1) → JX12_qHasSquare_2 C l d n K x0 v5 g h)) ∧ (h (g x0 96) x1 = 25 → K 1 g h))))) : JX12_qHasSquare_2 C l d n K x0 x1 g h := by
  refine mf_iload_n (mf_dat eX12_qHasSquare 2 rfl) rfl rfl ?_
  refine mf_aload_n (mf_dat eX12_qHasSquare 3 rfl) rfl rfl ?_
  obtain ⟨ck1, hyp⟩ := hyp
  refine mf_getf (r := (RX12, TX12, 106)) (ci := 12) (k := 97) (t := 0) (v := h x0 97) (mf_dat eX12_qHasSquare 4 rfl) fl_X12_341 rfl (by decide) rfl rfl ck1 ?_
  refine mf_icmp_ge (tgt := 29) (mf_dat eX12_qHasSquare 5 rfl) (by decide) (fun hc => ?_) (fun hc => ?_)
  · replace hyp := hyp.1 hc
    refine mf_iconst (v := 0) (mf_dat eX12_qHasSquare 16 rfl) (by decide) ?_
    exact mf_ireturn (mf_dat eX12_qHasSquare 17 rfl) rfl (Or.inr ⟨rfl, by decide⟩) hyp
  · replace hyp := hyp.2 hc
    refine mf_aload_n (mf_dat eX12_qHasSquare 6 rfl) rfl rfl ?_
    refine mf_getf (r := (RX12, TX12, 106)) (ci := 12) (k := 96) (t := 2) (v := g x0 96) (mf_dat eX12_qHasSquare 7 rfl) fl_X12_231 rfl (by decide) rfl rfl ck1 ?_
    refine mf_iload_n (mf_dat eX12_qHasSquare 8 rfl) rfl rfl ?_
    obtain ⟨ck2, hyp⟩ := hyp
    obtain ⟨ck3, hyp⟩ := hyp
    obtain ⟨ck4, hyp⟩ := hyp
    refine mf_iald (mf_dat eX12_qHasSquare 9 rfl) ck2 ck3 ck4 ?_
    refine mf_bipush (v := 25) (mf_dat eX12_qHasSquare 10 rfl) (by decide) ?_
    refine mf_icmp_ne (tgt := 23) (mf_dat eX12_qHasSquare 11 rfl) (by decide) (fun hc => ?_) (fun hc => ?_)
    · replace hyp := hyp.1 hc
      refine mf_iinc (mf_dat eX12_qHasSquare 14 rfl) rfl (by decide) (by decide) ?_
      generalize qv5 : mf_w32 (x1 + 1) = v5
      replace hyp := hyp _ qv5.symm
      refine mf_goto (tgt := 2) (mf_dat eX12_qHasSquare 15 rfl) (by decide) ?_
      exact mf_sub [1, 0] rfl hyp
    · replace hyp := hyp.2 hc
      refine mf_iconst (v := 1) (mf_dat eX12_qHasSquare 12 rfl) (by decide) ?_
      exact mf_ireturn (mf_dat eX12_qHasSquare 13 rfl) rfl (Or.inr ⟨rfl, by decide⟩) hyp
set_option maxRecDepth 100000 in
set_option maxHeartbeats 4000000 in
theorem mX12_qHasSquare {C : mf_G} {l : Launch} {d n : Nat} {K : mf_Kt} {x0 : Int} {g h : mf_M} (hyp : JX12_qHasSquare_2 C l d n K x0 0 g h) : mf_MT C l d YX12_qHasSquare [(2, x0)] n n g h K := by
  refine mf_entry (by decide) (Nat.le_of_ble_eq_true rfl) ?_
  refine mf_iconst (v := 0) (mf_dat eX12_qHasSquare 0 rfl) (by decide) ?_
  refine mf_istore_n (mf_dat eX12_qHasSquare 1 rfl) rfl (by decide) ?_
  exact mf_sub [1, 0] rfl hyp
abbrev JX12_qDropsNots_0 (C : mf_G) (l : Launch) (d n : Nat) (K : mf_Kt) (x0 : Int) (g h : mf_M) : Prop := mf_AW C l YX12_qDropsNots (mf_rm d n n) n (mf_Zm C YX12_qDropsNots n n K) (fun _ _ => True) 0 [(0, (2, x0))] [] n g h
set_option maxRecDepth 100000 in
set_option maxHeartbeats 4000000 in
theorem bX12_qDropsNots_0 {C : mf_G} {l : Launch} {d n : Nat} {K : mf_Kt} {x0 : Int} {g h : mf_M} (hd : 2 ≤ d) (hyp : mf_is n x0 12 ∧ ((¬ h x0 5 = 0 → K 0 g h) ∧ (h x0 5 = 0 → mf_MT C l 0 YX12_qIsOn [(2, x0), (0, 12)] n n g h (fun r2 g3 h4 => ((r2 = 0 → K 0 g3 h4) ∧ (¬ r2 = 0 → (∀ h5 : mf_M, h5 = mf_up h4 x0 98 (mf_w32 ((h4 x0 98) - 1)) → mf_MT C l 1 YX12_qDrops [(2, x0)] n n g3 h5 (fun r6 g7 h8 => JX12_qDropsNots_0 C l d n K x0 g7 h8)))))))) : JX12_qDropsNots_0 C l d n K x0 g h := by
  refine mf_aload_n (mf_dat eX12_qDropsNots 0 rfl) rfl rfl ?_
  obtain ⟨ck1, hyp⟩ := hyp
  refine mf_getf (r := (RX12, TX12, 106)) (ci := 12) (k := 5) (t := 0) (v := h x0 5) (mf_dat eX12_qDropsNots 1 rfl) fl_X12_243 rfl (by decide) rfl rfl ck1 ?_
  refine mf_if_ne (tgt := 33) (mf_dat eX12_qDropsNots 2 rfl) (by decide) (fun hc => ?_) (fun hc => ?_)
  · replace hyp := hyp.1 hc
    exact mf_return (mf_dat eX12_qDropsNots 16 rfl) rfl hyp
  · replace hyp := hyp.2 hc
    refine mf_aload_n (mf_dat eX12_qDropsNots 3 rfl) rfl rfl ?_
    refine mf_bipush (v := 12) (mf_dat eX12_qDropsNots 4 rfl) (by decide) ?_
    refine mf_callV (Yc := YX12_qIsOn) (r := (RX12, TX12, 106)) (ci := 12) (mf_dat eX12_qDropsNots 5 rfl) ml_X12_611 okX12_qIsOn im_X12_qIsOn sl_X12_qIsOn rfl rfl rfl rfl (Nat.le_of_ble_eq_true rfl) (mf_rr (Nat.le_trans (by decide) hd) (Nat.le_refl _)) (Nat.le_refl _) ck1 hyp (fun r2 g3 h4 hyp => ?_)
    refine mf_if_eq (tgt := 33) (mf_dat eX12_qDropsNots 6 rfl) (by decide) (fun hc => ?_) (fun hc => ?_)
    · replace hyp := hyp.1 hc
      exact mf_return (mf_dat eX12_qDropsNots 16 rfl) rfl hyp
    · replace hyp := hyp.2 hc
      refine mf_aload_n (mf_dat eX12_qDropsNots 7 rfl) rfl rfl ?_
      refine mf_dup (mf_dat eX12_qDropsNots 8 rfl) (by decide) ?_
      refine mf_getf (r := (RX12, TX12, 106)) (ci := 12) (k := 98) (t := 0) (v := h4 x0 98) (mf_dat eX12_qDropsNots 9 rfl) fl_X12_344 rfl (by decide) rfl rfl ck1 ?_
      refine mf_iconst (v := 1) (mf_dat eX12_qDropsNots 10 rfl) (by decide) ?_
      refine mf_isub (mf_dat eX12_qDropsNots 11 rfl) ?_
      refine mf_putI (r := (RX12, TX12, 106)) (ci := 12) (k := 98) (kI := 98) (t := 0) (mf_dat eX12_qDropsNots 12 rfl) fl_X12_344 rfl rfl (by decide) rfl (by decide) rfl (by decide) (fun h9 => absurd h9 (by decide)) ck1 ?_
      generalize qh5 : mf_up h4 x0 98 (mf_w32 ((h4 x0 98) - 1)) = h5
      replace hyp := hyp _ qh5.symm
      refine mf_aload_n (mf_dat eX12_qDropsNots 13 rfl) rfl rfl ?_
      refine mf_callV (Yc := YX12_qDrops) (r := (RX12, TX12, 106)) (ci := 12) (mf_dat eX12_qDropsNots 14 rfl) ml_X12_584 okX12_qDrops im_X12_qDrops sl_X12_qDrops rfl rfl rfl rfl (Nat.le_of_ble_eq_true rfl) (mf_rr (Nat.le_trans (by decide) hd) (Nat.le_refl _)) (Nat.le_refl _) ck1 hyp (fun r6 g7 h8 hyp => ?_)
      refine mf_goto (tgt := 0) (mf_dat eX12_qDropsNots 15 rfl) (by decide) ?_
      exact mf_sub [0] rfl hyp
set_option maxRecDepth 100000 in
set_option maxHeartbeats 4000000 in
theorem mX12_qDropsNots {C : mf_G} {l : Launch} {d n : Nat} {K : mf_Kt} {x0 : Int} {g h : mf_M} (hyp : JX12_qDropsNots_0 C l d n K x0 g h) : mf_MT C l d YX12_qDropsNots [(2, x0)] n n g h K := by
  refine mf_entry (by decide) (Nat.le_of_ble_eq_true rfl) ?_
  exact mf_sub [0] rfl hyp
abbrev JX12_qTest_2 (C : mf_G) (l : Launch) (d n : Nat) (K : mf_Kt) (x0 x1 : Int) (g h : mf_M) : Prop := mf_AW C l YX12_qTest (mf_rm d n n) n (mf_Zm C YX12_qTest n n K) (fun _ _ => True) 2 [(0, (2, x0)), (1, (0, x1))] [] n g h
abbrev JX12_qTest_110 (C : mf_G) (l : Launch) (d n : Nat) (K : mf_Kt) (x0 : Int) (g h : mf_M) : Prop := mf_AW C l YX12_qTest (mf_rm d n n) n (mf_Zm C YX12_qTest n n K) (fun _ _ => True) 110 [(0, (2, x0))] [] n g h
set_option maxRecDepth 100000 in
set_option maxHeartbeats 4000000 in
theorem bX12_qTest_2 {C : mf_G} {l : Launch} {d n : Nat} {K : mf_Kt} {x0 x1 : Int} {g h : mf_M} (hd : 8 ≤ d) (hyp : ((x1 = 0 → JX12_qTest_110 C l d n K x0 g h) ∧ (¬ x1 = 0 → mf_is n x0 12 ∧ ((¬ h x0 5 = 0 → JX12_qTest_110 C l d n K x0 g h) ∧ (h x0 5 = 0 → mf_MT C l 0 YX12_look [(2, x0)] n n g h (fun r2 g3 h4 => ((¬ r2 = 91 → mf_MT C l 1 YX12_isHere [(2, x0), (2, g3 x0 78)] n n g3 h4 (fun r5 g6 h7 => ((r5 = 0 → mf_MT C l 7 YX12_qFact [(2, x0)] n n g6 h7 (fun r8 g9 h10 => mf_MT C l 2 YX12_qDropsNots [(2, x0)] n n g9 h10 (fun r11 g12 h13 => ((¬ h13 x0 5 = 0 → JX12_qTest_2 C l d n K x0 0 g12 h13) ∧ (h13 x0 5 = 0 → mf_MT C l 3 YX12_qGoesOnTest [(2, x0)] n n g12 h13 (fun r14 g15 h16 => ((r14 = 0 → JX12_qTest_2 C l d n K x0 0 g15 h16) ∧ (¬ r14 = 0 → JX12_qTest_2 C l d n K x0 1 g15 h16)))))))) ∧ (¬ r5 = 0 → mf_MT C l 1 YX12_qOpens [(2, x0), (0, 12), (0, h7 x0 2)] n n g6 h7 (fun r17 g18 h19 => mf_MT C l 3 YX12_asks [(2, x0), (2, g18 x0 78)] n n g18 h19 (fun r20 g21 h22 => JX12_qTest_2 C l d n K x0 x1 g21 h22)))))) ∧ (r2 = 91 → mf_MT C l 1 YX12_qOpens [(2, x0), (0, 25), (0, h4 x0 2)] n n g3 h4 (fun r23 g24 h25 => (∀ h26 : mf_M, h26 = mf_up h25 x0 2 (mf_w32 ((h25 x0 2) + 1)) → JX12_qTest_2 C l d n K x0 x1 g24 h26)))))))))) : JX12_qTest_2 C l d n K x0 x1 g h := by
  refine mf_iload_n (mf_dat eX12_qTest_p0 2 rfl) rfl rfl ?_
  refine mf_if_eq (tgt := 110) (mf_dat eX12_qTest_p0 3 rfl) (by decide) (fun hc => ?_) (fun hc => ?_)
  · replace hyp := hyp.1 hc
    exact mf_sub [0] rfl hyp
  · replace hyp := hyp.2 hc
    refine mf_aload_n (mf_dat eX12_qTest_p0 4 rfl) rfl rfl ?_
    obtain ⟨ck1, hyp⟩ := hyp
    refine mf_getf (r := (RX12, TX12, 106)) (ci := 12) (k := 5) (t := 0) (v := h x0 5) (mf_dat eX12_qTest_p0 5 rfl) fl_X12_243 rfl (by decide) rfl rfl ck1 ?_
    refine mf_if_ne (tgt := 110) (mf_dat eX12_qTest_p0 6 rfl) (by decide) (fun hc => ?_) (fun hc => ?_)
    · replace hyp := hyp.1 hc
      exact mf_sub [0] rfl hyp
    · replace hyp := hyp.2 hc
      refine mf_aload_n (mf_dat eX12_qTest_p0 7 rfl) rfl rfl ?_
      refine mf_callV (Yc := YX12_look) (r := (RX12, TX12, 106)) (ci := 12) (mf_dat eX12_qTest_p0 8 rfl) ml_X12_255 okX12_look im_X12_look sl_X12_look rfl rfl rfl rfl (Nat.le_of_ble_eq_true rfl) (mf_rr (Nat.le_trans (by decide) hd) (Nat.le_refl _)) (Nat.le_refl _) ck1 hyp (fun r2 g3 h4 hyp => ?_)
      refine mf_istore_n (mf_dat eX12_qTest_p0 9 rfl) rfl (by decide) ?_
      refine mf_iload_n (mf_dat eX12_qTest_p0 10 rfl) rfl rfl ?_
      refine mf_bipush (v := 91) (mf_dat eX12_qTest_p0 11 rfl) (by decide) ?_
      refine mf_icmp_ne (tgt := 47) (mf_dat eX12_qTest_p0 12 rfl) (by decide) (fun hc => ?_) (fun hc => ?_)
      · replace hyp := hyp.1 hc
        refine mf_aload_n (mf_dat eX12_qTest_p0 25 rfl) rfl rfl ?_
        refine mf_aload_n (mf_dat eX12_qTest_p0 26 rfl) rfl rfl ?_
        refine mf_getf (r := (RX12, TX12, 106)) (ci := 12) (k := 78) (t := 2) (v := g3 x0 78) (mf_dat eX12_qTest_p0 27 rfl) fl_X12_180 rfl (by decide) rfl rfl ck1 ?_
        refine mf_callV (Yc := YX12_isHere) (r := (RX12, TX12, 106)) (ci := 12) (mf_dat eX12_qTest_p0 28 rfl) ml_X12_266 okX12_isHere im_X12_isHere sl_X12_isHere rfl rfl rfl rfl (Nat.le_of_ble_eq_true rfl) (mf_rr (Nat.le_trans (by decide) hd) (Nat.le_refl _)) (Nat.le_refl _) ck1 hyp (fun r5 g6 h7 hyp => ?_)
        refine mf_if_eq (tgt := 79) (mf_dat eX12_qTest_p0 29 rfl) (by decide) (fun hc => ?_) (fun hc => ?_)
        · replace hyp := hyp.1 hc
          refine mf_aload_n (mf_dat eX12_qTest_p0 40 rfl) rfl rfl ?_
          refine mf_callV (Yc := YX12_qFact) (r := (RX12, TX12, 106)) (ci := 12) (mf_dat eX12_qTest_p0 41 rfl) ml_X12_620 okX12_qFact im_X12_qFact sl_X12_qFact rfl rfl rfl rfl (Nat.le_of_ble_eq_true rfl) (mf_rr (Nat.le_trans (by decide) hd) (Nat.le_refl _)) (Nat.le_refl _) ck1 hyp (fun r8 g9 h10 hyp => ?_)
          refine mf_aload_n (mf_dat eX12_qTest_p0 42 rfl) rfl rfl ?_
          refine mf_callV (Yc := YX12_qDropsNots) (r := (RX12, TX12, 106)) (ci := 12) (mf_dat eX12_qTest_p0 43 rfl) ml_X12_623 okX12_qDropsNots im_X12_qDropsNots sl_X12_qDropsNots rfl rfl rfl rfl (Nat.le_of_ble_eq_true rfl) (mf_rr (Nat.le_trans (by decide) hd) (Nat.le_refl _)) (Nat.le_refl _) ck1 hyp (fun r11 g12 h13 hyp => ?_)
          refine mf_aload_n (mf_dat eX12_qTest_p0 44 rfl) rfl rfl ?_
          refine mf_getf (r := (RX12, TX12, 106)) (ci := 12) (k := 5) (t := 0) (v := h13 x0 5) (mf_dat eX12_qTest_p0 45 rfl) fl_X12_243 rfl (by decide) rfl rfl ck1 ?_
          refine mf_if_ne (tgt := 105) (mf_dat eX12_qTest_p0 46 rfl) (by decide) (fun hc => ?_) (fun hc => ?_)
          · replace hyp := hyp.1 hc
            refine mf_iconst (v := 0) (mf_dat eX12_qTest_p0 52 rfl) (by decide) ?_
            refine mf_istore_n (mf_dat eX12_qTest_p0 53 rfl) rfl (by decide) ?_
            refine mf_goto (tgt := 2) (mf_dat eX12_qTest_p0 54 rfl) (by decide) ?_
            exact mf_sub [2, 0] rfl hyp
          · replace hyp := hyp.2 hc
            refine mf_aload_n (mf_dat eX12_qTest_p0 47 rfl) rfl rfl ?_
            refine mf_callV (Yc := YX12_qGoesOnTest) (r := (RX12, TX12, 106)) (ci := 12) (mf_dat eX12_qTest_p0 48 rfl) ml_X12_626 okX12_qGoesOnTest im_X12_qGoesOnTest sl_X12_qGoesOnTest rfl rfl rfl rfl (Nat.le_of_ble_eq_true rfl) (mf_rr (Nat.le_trans (by decide) hd) (Nat.le_refl _)) (Nat.le_refl _) ck1 hyp (fun r14 g15 h16 hyp => ?_)
            refine mf_if_eq (tgt := 105) (mf_dat eX12_qTest_p0 49 rfl) (by decide) (fun hc => ?_) (fun hc => ?_)
            · replace hyp := hyp.1 hc
              refine mf_iconst (v := 0) (mf_dat eX12_qTest_p0 52 rfl) (by decide) ?_
              refine mf_istore_n (mf_dat eX12_qTest_p0 53 rfl) rfl (by decide) ?_
              refine mf_goto (tgt := 2) (mf_dat eX12_qTest_p0 54 rfl) (by decide) ?_
              exact mf_sub [2, 0] rfl hyp
            · replace hyp := hyp.2 hc
              refine mf_iconst (v := 1) (mf_dat eX12_qTest_p0 50 rfl) (by decide) ?_
              refine mf_goto (tgt := 106) (mf_dat eX12_qTest_p0 51 rfl) (by decide) ?_
              refine mf_istore_n (mf_dat eX12_qTest_p0 53 rfl) rfl (by decide) ?_
              refine mf_goto (tgt := 2) (mf_dat eX12_qTest_p0 54 rfl) (by decide) ?_
              exact mf_sub [2, 0] rfl hyp
        · replace hyp := hyp.2 hc
          refine mf_aload_n (mf_dat eX12_qTest_p0 30 rfl) rfl rfl ?_
          refine mf_bipush (v := 12) (mf_dat eX12_qTest_p0 31 rfl) (by decide) ?_
          refine mf_aload_n (mf_dat eX12_qTest_p0 32 rfl) rfl rfl ?_
          refine mf_getf (r := (RX12, TX12, 106)) (ci := 12) (k := 2) (t := 0) (v := h7 x0 2) (mf_dat eX12_qTest_p0 33 rfl) fl_X12_249 rfl (by decide) rfl rfl ck1 ?_
          refine mf_callV (Yc := YX12_qOpens) (r := (RX12, TX12, 106)) (ci := 12) (mf_dat eX12_qTest_p0 34 rfl) ml_X12_596 okX12_qOpens im_X12_qOpens sl_X12_qOpens rfl rfl rfl rfl (Nat.le_of_ble_eq_true rfl) (mf_rr (Nat.le_trans (by decide) hd) (Nat.le_refl _)) (Nat.le_refl _) ck1 hyp (fun r17 g18 h19 hyp => ?_)
          refine mf_aload_n (mf_dat eX12_qTest_p0 35 rfl) rfl rfl ?_
          refine mf_aload_n (mf_dat eX12_qTest_p0 36 rfl) rfl rfl ?_
          refine mf_getf (r := (RX12, TX12, 106)) (ci := 12) (k := 78) (t := 2) (v := g18 x0 78) (mf_dat eX12_qTest_p0 37 rfl) fl_X12_180 rfl (by decide) rfl rfl ck1 ?_
          refine mf_callV (Yc := YX12_asks) (r := (RX12, TX12, 106)) (ci := 12) (mf_dat eX12_qTest_p0 38 rfl) ml_X12_304 okX12_asks im_X12_asks sl_X12_asks rfl rfl rfl rfl (Nat.le_of_ble_eq_true rfl) (mf_rr (Nat.le_trans (by decide) hd) (Nat.le_refl _)) (Nat.le_refl _) ck1 hyp (fun r20 g21 h22 hyp => ?_)
          refine mf_goto (tgt := 2) (mf_dat eX12_qTest_p0 39 rfl) (by decide) ?_
          exact mf_sub [1, 2] rfl hyp
      · replace hyp := hyp.2 hc
        refine mf_aload_n (mf_dat eX12_qTest_p0 13 rfl) rfl rfl ?_
        refine mf_bipush (v := 25) (mf_dat eX12_qTest_p0 14 rfl) (by decide) ?_
        refine mf_aload_n (mf_dat eX12_qTest_p0 15 rfl) rfl rfl ?_
        refine mf_getf (r := (RX12, TX12, 106)) (ci := 12) (k := 2) (t := 0) (v := h4 x0 2) (mf_dat eX12_qTest_p0 16 rfl) fl_X12_249 rfl (by decide) rfl rfl ck1 ?_
        refine mf_callV (Yc := YX12_qOpens) (r := (RX12, TX12, 106)) (ci := 12) (mf_dat eX12_qTest_p0 17 rfl) ml_X12_596 okX12_qOpens im_X12_qOpens sl_X12_qOpens rfl rfl rfl rfl (Nat.le_of_ble_eq_true rfl) (mf_rr (Nat.le_trans (by decide) hd) (Nat.le_refl _)) (Nat.le_refl _) ck1 hyp (fun r23 g24 h25 hyp => ?_)
        refine mf_aload_n (mf_dat eX12_qTest_p0 18 rfl) rfl rfl ?_
        refine mf_dup (mf_dat eX12_qTest_p0 19 rfl) (by decide) ?_
        refine mf_getf (r := (RX12, TX12, 106)) (ci := 12) (k := 2) (t := 0) (v := h25 x0 2) (mf_dat eX12_qTest_p0 20 rfl) fl_X12_249 rfl (by decide) rfl rfl ck1 ?_
        refine mf_iconst (v := 1) (mf_dat eX12_qTest_p0 21 rfl) (by decide) ?_
        refine mf_iadd (mf_dat eX12_qTest_p0 22 rfl) ?_
        refine mf_putI (r := (RX12, TX12, 106)) (ci := 12) (k := 2) (kI := 2) (t := 0) (mf_dat eX12_qTest_p0 23 rfl) fl_X12_249 rfl rfl (by decide) rfl (by decide) rfl (by decide) (fun h9 => absurd h9 (by decide)) ck1 ?_
        generalize qh26 : mf_up h25 x0 2 (mf_w32 ((h25 x0 2) + 1)) = h26
        replace hyp := hyp _ qh26.symm
        refine mf_goto (tgt := 2) (mf_dat eX12_qTest_p0 24 rfl) (by decide) ?_
        exact mf_sub [1, 2] rfl hyp
set_option maxRecDepth 100000 in
set_option maxHeartbeats 4000000 in
theorem bX12_qTest_110 {C : mf_G} {l : Launch} {d n : Nat} {K : mf_Kt} {x0 : Int} {g h : mf_M} (hd : 2 ≤ d) (hyp : mf_is n x0 12 ∧ ((¬ h x0 5 = 0 → K 0 g h) ∧ (h x0 5 = 0 → ((h x0 97 ≤ 0 → K 0 g h) ∧ (¬ h x0 97 ≤ 0 → mf_MT C l 1 YX12_qDrops [(2, x0)] n n g h (fun r2 g3 h4 => JX12_qTest_110 C l d n K x0 g3 h4)))))) : JX12_qTest_110 C l d n K x0 g h := by
  refine mf_aload_n (mf_dat eX12_qTest_p0 55 rfl) rfl rfl ?_
  obtain ⟨ck1, hyp⟩ := hyp
  refine mf_getf (r := (RX12, TX12, 106)) (ci := 12) (k := 5) (t := 0) (v := h x0 5) (mf_dat eX12_qTest_p0 56 rfl) fl_X12_243 rfl (by decide) rfl rfl ck1 ?_
  refine mf_if_ne (tgt := 131) (mf_dat eX12_qTest_p0 57 rfl) (by decide) (fun hc => ?_) (fun hc => ?_)
  · replace hyp := hyp.1 hc
    exact mf_return (mf_dat eX12_qTest_p1 4 rfl) rfl hyp
  · replace hyp := hyp.2 hc
    refine mf_aload_n (mf_dat eX12_qTest_p0 58 rfl) rfl rfl ?_
    refine mf_getf (r := (RX12, TX12, 106)) (ci := 12) (k := 97) (t := 0) (v := h x0 97) (mf_dat eX12_qTest_p0 59 rfl) fl_X12_341 rfl (by decide) rfl rfl ck1 ?_
    refine mf_if_le (tgt := 131) (mf_dat eX12_qTest_p1 0 rfl) (by decide) (fun hc => ?_) (fun hc => ?_)
    · replace hyp := hyp.1 hc
      exact mf_return (mf_dat eX12_qTest_p1 4 rfl) rfl hyp
    · replace hyp := hyp.2 hc
      refine mf_aload_n (mf_dat eX12_qTest_p1 1 rfl) rfl rfl ?_
      refine mf_callV (Yc := YX12_qDrops) (r := (RX12, TX12, 106)) (ci := 12) (mf_dat eX12_qTest_p1 2 rfl) ml_X12_584 okX12_qDrops im_X12_qDrops sl_X12_qDrops rfl rfl rfl rfl (Nat.le_of_ble_eq_true rfl) (mf_rr (Nat.le_trans (by decide) hd) (Nat.le_refl _)) (Nat.le_refl _) ck1 hyp (fun r2 g3 h4 hyp => ?_)
      refine mf_goto (tgt := 110) (mf_dat eX12_qTest_p1 3 rfl) (by decide) ?_
      exact mf_sub [0] rfl hyp
set_option maxRecDepth 100000 in
set_option maxHeartbeats 4000000 in
theorem mX12_qTest {C : mf_G} {l : Launch} {d n : Nat} {K : mf_Kt} {x0 : Int} {g h : mf_M} (hyp : JX12_qTest_2 C l d n K x0 1 g h) : mf_MT C l d YX12_qTest [(2, x0)] n n g h K := by
  refine mf_entry (by decide) (Nat.le_of_ble_eq_true rfl) ?_
  refine mf_iconst (v := 1) (mf_dat eX12_qTest_p0 0 rfl) (by decide) ?_
  refine mf_istore_n (mf_dat eX12_qTest_p0 1 rfl) rfl (by decide) ?_
  exact mf_sub [1, 0] rfl hyp
abbrev JX12_qGoesOnTest_0 (C : mf_G) (l : Launch) (d n : Nat) (K : mf_Kt) (x0 : Int) (g h : mf_M) : Prop := mf_AW C l YX12_qGoesOnTest (mf_rm d n n) n (mf_Zm C YX12_qGoesOnTest n n K) (fun _ _ => True) 0 [(0, (2, x0))] [] n g h
abbrev JX12_qGoesOnTest_33 (C : mf_G) (l : Launch) (d n : Nat) (K : mf_Kt) (x0 : Int) (g h : mf_M) : Prop := mf_AW C l YX12_qGoesOnTest (mf_rm d n n) n (mf_Zm C YX12_qGoesOnTest n n K) (fun _ _ => True) 33 [(0, (2, x0))] [] n g h
abbrev JX12_qGoesOnTest_76 (C : mf_G) (l : Launch) (d n : Nat) (K : mf_Kt) (x0 : Int) (g h : mf_M) : Prop := mf_AW C l YX12_qGoesOnTest (mf_rm d n n) n (mf_Zm C YX12_qGoesOnTest n n K) (fun _ _ => True) 76 [(0, (2, x0))] [] n g h
abbrev JX12_qGoesOnTest_87 (C : mf_G) (l : Launch) (d n : Nat) (K : mf_Kt) (x0 : Int) (g h : mf_M) : Prop := mf_AW C l YX12_qGoesOnTest (mf_rm d n n) n (mf_Zm C YX12_qGoesOnTest n n K) (fun _ _ => True) 87 [(0, (2, x0))] [] n g h
abbrev JX12_qGoesOnTest_137 (C : mf_G) (l : Launch) (d n : Nat) (K : mf_Kt) (x0 : Int) (g h : mf_M) : Prop := mf_AW C l YX12_qGoesOnTest (mf_rm d n n) n (mf_Zm C YX12_qGoesOnTest n n K) (fun _ _ => True) 137 [(0, (2, x0))] [] n g h
set_option maxRecDepth 100000 in
set_option maxHeartbeats 4000000 in
theorem bX12_qGoesOnTest_0 {C : mf_G} {l : Launch} {d n : Nat} {K : mf_Kt} {x0 : Int} {g h : mf_M} (hd : 1 ≤ d) (hyp : mf_is n x0 12 ∧ ((¬ h x0 5 = 0 → JX12_qGoesOnTest_76 C l d n K x0 g h) ∧ (h x0 5 = 0 → mf_MT C l 0 YX12_look [(2, x0)] n n g h (fun r2 g3 h4 => ((¬ r2 = 93 → JX12_qGoesOnTest_76 C l d n K x0 g3 h4) ∧ (r2 = 93 → mf_MT C l 0 YX12_qHasSquare [(2, x0)] n n g3 h4 (fun r5 g6 h7 => ((r5 = 0 → JX12_qGoesOnTest_76 C l d n K x0 g6 h7) ∧ (¬ r5 = 0 → (∀ h8 : mf_M, h8 = mf_up h7 x0 2 (mf_w32 ((h7 x0 2) + 1)) → JX12_qGoesOnTest_33 C l d n K x0 g6 h8)))))))))) : JX12_qGoesOnTest_0 C l d n K x0 g h := by
  refine mf_aload_n (mf_dat eX12_qGoesOnTest_p0 0 rfl) rfl rfl ?_
  obtain ⟨ck1, hyp⟩ := hyp
  refine mf_getf (r := (RX12, TX12, 106)) (ci := 12) (k := 5) (t := 0) (v := h x0 5) (mf_dat eX12_qGoesOnTest_p0 1 rfl) fl_X12_243 rfl (by decide) rfl rfl ck1 ?_
  refine mf_if_ne (tgt := 76) (mf_dat eX12_qGoesOnTest_p0 2 rfl) (by decide) (fun hc => ?_) (fun hc => ?_)
  · replace hyp := hyp.1 hc
    exact mf_sub [0] rfl hyp
  · replace hyp := hyp.2 hc
    refine mf_aload_n (mf_dat eX12_qGoesOnTest_p0 3 rfl) rfl rfl ?_
    refine mf_callV (Yc := YX12_look) (r := (RX12, TX12, 106)) (ci := 12) (mf_dat eX12_qGoesOnTest_p0 4 rfl) ml_X12_255 okX12_look im_X12_look sl_X12_look rfl rfl rfl rfl (Nat.le_of_ble_eq_true rfl) (mf_rr (Nat.le_trans (by decide) hd) (Nat.le_refl _)) (Nat.le_refl _) ck1 hyp (fun r2 g3 h4 hyp => ?_)
    refine mf_bipush (v := 93) (mf_dat eX12_qGoesOnTest_p0 5 rfl) (by decide) ?_
    refine mf_icmp_ne (tgt := 76) (mf_dat eX12_qGoesOnTest_p0 6 rfl) (by decide) (fun hc => ?_) (fun hc => ?_)
    · replace hyp := hyp.1 hc
      exact mf_sub [0] rfl hyp
    · replace hyp := hyp.2 hc
      refine mf_aload_n (mf_dat eX12_qGoesOnTest_p0 7 rfl) rfl rfl ?_
      refine mf_callV (Yc := YX12_qHasSquare) (r := (RX12, TX12, 106)) (ci := 12) (mf_dat eX12_qGoesOnTest_p0 8 rfl) ml_X12_629 okX12_qHasSquare im_X12_qHasSquare sl_X12_qHasSquare rfl rfl rfl rfl (Nat.le_of_ble_eq_true rfl) (mf_rr (Nat.le_trans (by decide) hd) (Nat.le_refl _)) (Nat.le_refl _) ck1 hyp (fun r5 g6 h7 hyp => ?_)
      refine mf_if_eq (tgt := 76) (mf_dat eX12_qGoesOnTest_p0 9 rfl) (by decide) (fun hc => ?_) (fun hc => ?_)
      · replace hyp := hyp.1 hc
        exact mf_sub [0] rfl hyp
      · replace hyp := hyp.2 hc
        refine mf_aload_n (mf_dat eX12_qGoesOnTest_p0 10 rfl) rfl rfl ?_
        refine mf_dup (mf_dat eX12_qGoesOnTest_p0 11 rfl) (by decide) ?_
        refine mf_getf (r := (RX12, TX12, 106)) (ci := 12) (k := 2) (t := 0) (v := h7 x0 2) (mf_dat eX12_qGoesOnTest_p0 12 rfl) fl_X12_249 rfl (by decide) rfl rfl ck1 ?_
        refine mf_iconst (v := 1) (mf_dat eX12_qGoesOnTest_p0 13 rfl) (by decide) ?_
        refine mf_iadd (mf_dat eX12_qGoesOnTest_p0 14 rfl) ?_
        refine mf_putI (r := (RX12, TX12, 106)) (ci := 12) (k := 2) (kI := 2) (t := 0) (mf_dat eX12_qGoesOnTest_p0 15 rfl) fl_X12_249 rfl rfl (by decide) rfl (by decide) rfl (by decide) (fun h9 => absurd h9 (by decide)) ck1 ?_
        generalize qh8 : mf_up h7 x0 2 (mf_w32 ((h7 x0 2) + 1)) = h8
        replace hyp := hyp _ qh8.symm
        exact mf_sub [0] rfl hyp
set_option maxRecDepth 100000 in
set_option maxHeartbeats 4000000 in
theorem bX12_qGoesOnTest_33 {C : mf_G} {l : Launch} {d n : Nat} {K : mf_Kt} {x0 : Int} {g h : mf_M} (hd : 3 ≤ d) (hyp : mf_is n x0 12 ∧ mf_MT C l 0 YX12_qIsOn [(2, x0), (0, 25)] n n g h (fun r1 g2 h3 => ((¬ r1 = 0 → (∀ h5 : mf_M, h5 = mf_up h3 x0 97 (mf_w32 ((h3 x0 97) - 1)) → (∀ h6 : mf_M, h6 = mf_up h5 x0 98 (mf_w32 ((h5 x0 98) - 1)) → mf_MT C l 2 YX12_qDropsNots [(2, x0)] n n g2 h6 (fun r7 g8 h9 => JX12_qGoesOnTest_0 C l d n K x0 g8 h9)))) ∧ (r1 = 0 → mf_MT C l 1 YX12_qDrops [(2, x0)] n n g2 h3 (fun r10 g11 h12 => JX12_qGoesOnTest_33 C l d n K x0 g11 h12))))) : JX12_qGoesOnTest_33 C l d n K x0 g h := by
  refine mf_aload_n (mf_dat eX12_qGoesOnTest_p0 16 rfl) rfl rfl ?_
  refine mf_bipush (v := 25) (mf_dat eX12_qGoesOnTest_p0 17 rfl) (by decide) ?_
  obtain ⟨ck4, hyp⟩ := hyp
  refine mf_callV (Yc := YX12_qIsOn) (r := (RX12, TX12, 106)) (ci := 12) (mf_dat eX12_qGoesOnTest_p0 18 rfl) ml_X12_611 okX12_qIsOn im_X12_qIsOn sl_X12_qIsOn rfl rfl rfl rfl (Nat.le_of_ble_eq_true rfl) (mf_rr (Nat.le_trans (by decide) hd) (Nat.le_refl _)) (Nat.le_refl _) ck4 hyp (fun r1 g2 h3 hyp => ?_)
  refine mf_if_ne (tgt := 49) (mf_dat eX12_qGoesOnTest_p0 19 rfl) (by decide) (fun hc => ?_) (fun hc => ?_)
  · replace hyp := hyp.1 hc
    refine mf_aload_n (mf_dat eX12_qGoesOnTest_p0 23 rfl) rfl rfl ?_
    refine mf_dup (mf_dat eX12_qGoesOnTest_p0 24 rfl) (by decide) ?_
    refine mf_getf (r := (RX12, TX12, 106)) (ci := 12) (k := 97) (t := 0) (v := h3 x0 97) (mf_dat eX12_qGoesOnTest_p0 25 rfl) fl_X12_341 rfl (by decide) rfl rfl ck4 ?_
    refine mf_iconst (v := 1) (mf_dat eX12_qGoesOnTest_p0 26 rfl) (by decide) ?_
    refine mf_isub (mf_dat eX12_qGoesOnTest_p0 27 rfl) ?_
    refine mf_putI (r := (RX12, TX12, 106)) (ci := 12) (k := 97) (kI := 97) (t := 0) (mf_dat eX12_qGoesOnTest_p0 28 rfl) fl_X12_341 rfl rfl (by decide) rfl (by decide) rfl (by decide) (fun h9 => absurd h9 (by decide)) ck4 ?_
    generalize qh5 : mf_up h3 x0 97 (mf_w32 ((h3 x0 97) - 1)) = h5
    replace hyp := hyp _ qh5.symm
    refine mf_aload_n (mf_dat eX12_qGoesOnTest_p0 29 rfl) rfl rfl ?_
    refine mf_dup (mf_dat eX12_qGoesOnTest_p0 30 rfl) (by decide) ?_
    refine mf_getf (r := (RX12, TX12, 106)) (ci := 12) (k := 98) (t := 0) (v := h5 x0 98) (mf_dat eX12_qGoesOnTest_p0 31 rfl) fl_X12_344 rfl (by decide) rfl rfl ck4 ?_
    refine mf_iconst (v := 1) (mf_dat eX12_qGoesOnTest_p0 32 rfl) (by decide) ?_
    refine mf_isub (mf_dat eX12_qGoesOnTest_p0 33 rfl) ?_
    refine mf_putI (r := (RX12, TX12, 106)) (ci := 12) (k := 98) (kI := 98) (t := 0) (mf_dat eX12_qGoesOnTest_p0 34 rfl) fl_X12_344 rfl rfl (by decide) rfl (by decide) rfl (by decide) (fun h9 => absurd h9 (by decide)) ck4 ?_
    generalize qh6 : mf_up h5 x0 98 (mf_w32 ((h5 x0 98) - 1)) = h6
    replace hyp := hyp _ qh6.symm
    refine mf_aload_n (mf_dat eX12_qGoesOnTest_p0 35 rfl) rfl rfl ?_
    refine mf_callV (Yc := YX12_qDropsNots) (r := (RX12, TX12, 106)) (ci := 12) (mf_dat eX12_qGoesOnTest_p0 36 rfl) ml_X12_623 okX12_qDropsNots im_X12_qDropsNots sl_X12_qDropsNots rfl rfl rfl rfl (Nat.le_of_ble_eq_true rfl) (mf_rr (Nat.le_trans (by decide) hd) (Nat.le_refl _)) (Nat.le_refl _) ck4 hyp (fun r7 g8 h9 hyp => ?_)
    refine mf_goto (tgt := 0) (mf_dat eX12_qGoesOnTest_p0 37 rfl) (by decide) ?_
    exact mf_sub [0] rfl hyp
  · replace hyp := hyp.2 hc
    refine mf_aload_n (mf_dat eX12_qGoesOnTest_p0 20 rfl) rfl rfl ?_
    refine mf_callV (Yc := YX12_qDrops) (r := (RX12, TX12, 106)) (ci := 12) (mf_dat eX12_qGoesOnTest_p0 21 rfl) ml_X12_584 okX12_qDrops im_X12_qDrops sl_X12_qDrops rfl rfl rfl rfl (Nat.le_of_ble_eq_true rfl) (mf_rr (Nat.le_trans (by decide) hd) (Nat.le_refl _)) (Nat.le_refl _) ck4 hyp (fun r10 g11 h12 hyp => ?_)
    refine mf_goto (tgt := 33) (mf_dat eX12_qGoesOnTest_p0 22 rfl) (by decide) ?_
    exact mf_sub [0] rfl hyp
set_option maxRecDepth 100000 in
set_option maxHeartbeats 4000000 in
theorem bX12_qGoesOnTest_76 {C : mf_G} {l : Launch} {d n : Nat} {K : mf_Kt} {x0 : Int} {g h : mf_M} (hd : 3 ≤ d) (hyp : mf_is n x0 12 ∧ mf_MT C l 2 YX12_takes [(2, x0), (2, g x0 79)] n n g h (fun r2 g3 h4 => ((r2 = 0 → mf_MT C l 2 YX12_takes [(2, x0), (2, g3 x0 80)] n n g3 h4 (fun r5 g6 h7 => ((r5 = 0 → ((¬ h7 x0 5 = 0 → K 0 g6 h7) ∧ (h7 x0 5 = 0 → mf_MT C l 0 YX12_qHasSquare [(2, x0)] n n g6 h7 (fun r8 g9 h10 => ((r8 = 0 → K 0 g9 h10) ∧ (¬ r8 = 0 → mf_MT C l 0 YX12_fail [(2, x0), (0, 1), (0, h10 x0 2)] n n g9 h10 (fun r11 g12 h13 => K 0 g12 h13))))))) ∧ (¬ r5 = 0 → JX12_qGoesOnTest_137 C l d n K x0 g6 h7)))) ∧ (¬ r2 = 0 → JX12_qGoesOnTest_87 C l d n K x0 g3 h4)))) : JX12_qGoesOnTest_76 C l d n K x0 g h := by
  refine mf_aload_n (mf_dat eX12_qGoesOnTest_p0 38 rfl) rfl rfl ?_
  refine mf_aload_n (mf_dat eX12_qGoesOnTest_p0 39 rfl) rfl rfl ?_
  obtain ⟨ck1, hyp⟩ := hyp
  refine mf_getf (r := (RX12, TX12, 106)) (ci := 12) (k := 79) (t := 2) (v := g x0 79) (mf_dat eX12_qGoesOnTest_p0 40 rfl) fl_X12_183 rfl (by decide) rfl rfl ck1 ?_
  refine mf_callV (Yc := YX12_takes) (r := (RX12, TX12, 106)) (ci := 12) (mf_dat eX12_qGoesOnTest_p0 41 rfl) ml_X12_270 okX12_takes im_X12_takes sl_X12_takes rfl rfl rfl rfl (Nat.le_of_ble_eq_true rfl) (mf_rr (Nat.le_trans (by decide) hd) (Nat.le_refl _)) (Nat.le_refl _) ck1 hyp (fun r2 g3 h4 hyp => ?_)
  refine mf_if_eq (tgt := 126) (mf_dat eX12_qGoesOnTest_p0 42 rfl) (by decide) (fun hc => ?_) (fun hc => ?_)
  · replace hyp := hyp.1 hc
    refine mf_aload_n (mf_dat eX12_qGoesOnTest_p1 4 rfl) rfl rfl ?_
    refine mf_aload_n (mf_dat eX12_qGoesOnTest_p1 5 rfl) rfl rfl ?_
    refine mf_getf (r := (RX12, TX12, 106)) (ci := 12) (k := 80) (t := 2) (v := g3 x0 80) (mf_dat eX12_qGoesOnTest_p1 6 rfl) fl_X12_186 rfl (by decide) rfl rfl ck1 ?_
    refine mf_callV (Yc := YX12_takes) (r := (RX12, TX12, 106)) (ci := 12) (mf_dat eX12_qGoesOnTest_p1 7 rfl) ml_X12_270 okX12_takes im_X12_takes sl_X12_takes rfl rfl rfl rfl (Nat.le_of_ble_eq_true rfl) (mf_rr (Nat.le_trans (by decide) hd) (Nat.le_refl _)) (Nat.le_refl _) ck1 hyp (fun r5 g6 h7 hyp => ?_)
    refine mf_if_eq (tgt := 185) (mf_dat eX12_qGoesOnTest_p1 8 rfl) (by decide) (fun hc => ?_) (fun hc => ?_)
    · replace hyp := hyp.1 hc
      refine mf_aload_n (mf_dat eX12_qGoesOnTest_p1 34 rfl) rfl rfl ?_
      refine mf_getf (r := (RX12, TX12, 106)) (ci := 12) (k := 5) (t := 0) (v := h7 x0 5) (mf_dat eX12_qGoesOnTest_p1 35 rfl) fl_X12_243 rfl (by decide) rfl rfl ck1 ?_
      refine mf_if_ne (tgt := 208) (mf_dat eX12_qGoesOnTest_p1 36 rfl) (by decide) (fun hc => ?_) (fun hc => ?_)
      · replace hyp := hyp.1 hc
        refine mf_iconst (v := 0) (mf_dat eX12_qGoesOnTest_p1 45 rfl) (by decide) ?_
        exact mf_ireturn (mf_dat eX12_qGoesOnTest_p1 46 rfl) rfl (Or.inr ⟨rfl, by decide⟩) hyp
      · replace hyp := hyp.2 hc
        refine mf_aload_n (mf_dat eX12_qGoesOnTest_p1 37 rfl) rfl rfl ?_
        refine mf_callV (Yc := YX12_qHasSquare) (r := (RX12, TX12, 106)) (ci := 12) (mf_dat eX12_qGoesOnTest_p1 38 rfl) ml_X12_629 okX12_qHasSquare im_X12_qHasSquare sl_X12_qHasSquare rfl rfl rfl rfl (Nat.le_of_ble_eq_true rfl) (mf_rr (Nat.le_trans (by decide) hd) (Nat.le_refl _)) (Nat.le_refl _) ck1 hyp (fun r8 g9 h10 hyp => ?_)
        refine mf_if_eq (tgt := 208) (mf_dat eX12_qGoesOnTest_p1 39 rfl) (by decide) (fun hc => ?_) (fun hc => ?_)
        · replace hyp := hyp.1 hc
          refine mf_iconst (v := 0) (mf_dat eX12_qGoesOnTest_p1 45 rfl) (by decide) ?_
          exact mf_ireturn (mf_dat eX12_qGoesOnTest_p1 46 rfl) rfl (Or.inr ⟨rfl, by decide⟩) hyp
        · replace hyp := hyp.2 hc
          refine mf_aload_n (mf_dat eX12_qGoesOnTest_p1 40 rfl) rfl rfl ?_
          refine mf_iconst (v := 1) (mf_dat eX12_qGoesOnTest_p1 41 rfl) (by decide) ?_
          refine mf_aload_n (mf_dat eX12_qGoesOnTest_p1 42 rfl) rfl rfl ?_
          refine mf_getf (r := (RX12, TX12, 106)) (ci := 12) (k := 2) (t := 0) (v := h10 x0 2) (mf_dat eX12_qGoesOnTest_p1 43 rfl) fl_X12_249 rfl (by decide) rfl rfl ck1 ?_
          refine mf_callV (Yc := YX12_fail) (r := (RX12, TX12, 106)) (ci := 12) (mf_dat eX12_qGoesOnTest_p1 44 rfl) ml_X12_273 okX12_fail im_X12_fail sl_X12_fail rfl rfl rfl rfl (Nat.le_of_ble_eq_true rfl) (mf_rr (Nat.le_trans (by decide) hd) (Nat.le_refl _)) (Nat.le_refl _) ck1 hyp (fun r11 g12 h13 hyp => ?_)
          refine mf_iconst (v := 0) (mf_dat eX12_qGoesOnTest_p1 45 rfl) (by decide) ?_
          exact mf_ireturn (mf_dat eX12_qGoesOnTest_p1 46 rfl) rfl (Or.inr ⟨rfl, by decide⟩) hyp
    · replace hyp := hyp.2 hc
      exact mf_sub [0] rfl hyp
  · replace hyp := hyp.2 hc
    exact mf_sub [0] rfl hyp
set_option maxRecDepth 100000 in
set_option maxHeartbeats 4000000 in
theorem bX12_qGoesOnTest_87 {C : mf_G} {l : Launch} {d n : Nat} {K : mf_Kt} {x0 : Int} {g h : mf_M} (hd : 2 ≤ d) (hyp : mf_is n x0 12 ∧ mf_MT C l 0 YX12_qIsOn [(2, x0), (0, 10)] n n g h (fun r1 g2 h3 => ((r1 = 0 → mf_is n (g2 x0 96) 20 ∧ 0 ≤ h3 x0 97 ∧ h3 x0 97 < mf_len (g2 x0 96) ∧ (∀ h8 : mf_M, h8 = mf_up h3 (g2 x0 96) (h3 x0 97) 10 → (∀ h9 : mf_M, h9 = mf_up h8 x0 97 (mf_w32 ((h8 x0 97) + 1)) → K 1 g2 h9))) ∧ (¬ r1 = 0 → mf_MT C l 1 YX12_qDrops [(2, x0)] n n g2 h3 (fun r10 g11 h12 => JX12_qGoesOnTest_87 C l d n K x0 g11 h12))))) : JX12_qGoesOnTest_87 C l d n K x0 g h := by
  refine mf_aload_n (mf_dat eX12_qGoesOnTest_p0 43 rfl) rfl rfl ?_
  refine mf_bipush (v := 10) (mf_dat eX12_qGoesOnTest_p0 44 rfl) (by decide) ?_
  obtain ⟨ck4, hyp⟩ := hyp
  refine mf_callV (Yc := YX12_qIsOn) (r := (RX12, TX12, 106)) (ci := 12) (mf_dat eX12_qGoesOnTest_p0 45 rfl) ml_X12_611 okX12_qIsOn im_X12_qIsOn sl_X12_qIsOn rfl rfl rfl rfl (Nat.le_of_ble_eq_true rfl) (mf_rr (Nat.le_trans (by decide) hd) (Nat.le_refl _)) (Nat.le_refl _) ck4 hyp (fun r1 g2 h3 hyp => ?_)
  refine mf_if_eq (tgt := 103) (mf_dat eX12_qGoesOnTest_p0 46 rfl) (by decide) (fun hc => ?_) (fun hc => ?_)
  · replace hyp := hyp.1 hc
    refine mf_aload_n (mf_dat eX12_qGoesOnTest_p0 50 rfl) rfl rfl ?_
    refine mf_getf (r := (RX12, TX12, 106)) (ci := 12) (k := 96) (t := 2) (v := g2 x0 96) (mf_dat eX12_qGoesOnTest_p0 51 rfl) fl_X12_231 rfl (by decide) rfl rfl ck4 ?_
    refine mf_aload_n (mf_dat eX12_qGoesOnTest_p0 52 rfl) rfl rfl ?_
    refine mf_getf (r := (RX12, TX12, 106)) (ci := 12) (k := 97) (t := 0) (v := h3 x0 97) (mf_dat eX12_qGoesOnTest_p0 53 rfl) fl_X12_341 rfl (by decide) rfl rfl ck4 ?_
    refine mf_bipush (v := 10) (mf_dat eX12_qGoesOnTest_p0 54 rfl) (by decide) ?_
    obtain ⟨ck5, hyp⟩ := hyp
    obtain ⟨ck6, hyp⟩ := hyp
    obtain ⟨ck7, hyp⟩ := hyp
    refine mf_iast (mf_dat eX12_qGoesOnTest_p0 55 rfl) ck5 ck6 ck7 ?_
    generalize qh8 : mf_up h3 (g2 x0 96) (h3 x0 97) 10 = h8
    replace hyp := hyp _ qh8.symm
    refine mf_aload_n (mf_dat eX12_qGoesOnTest_p0 56 rfl) rfl rfl ?_
    refine mf_dup (mf_dat eX12_qGoesOnTest_p0 57 rfl) (by decide) ?_
    refine mf_getf (r := (RX12, TX12, 106)) (ci := 12) (k := 97) (t := 0) (v := h8 x0 97) (mf_dat eX12_qGoesOnTest_p0 58 rfl) fl_X12_341 rfl (by decide) rfl rfl ck4 ?_
    refine mf_iconst (v := 1) (mf_dat eX12_qGoesOnTest_p0 59 rfl) (by decide) ?_
    refine mf_iadd (mf_dat eX12_qGoesOnTest_p1 0 rfl) ?_
    refine mf_putI (r := (RX12, TX12, 106)) (ci := 12) (k := 97) (kI := 97) (t := 0) (mf_dat eX12_qGoesOnTest_p1 1 rfl) fl_X12_341 rfl rfl (by decide) rfl (by decide) rfl (by decide) (fun h9 => absurd h9 (by decide)) ck4 ?_
    generalize qh9 : mf_up h8 x0 97 (mf_w32 ((h8 x0 97) + 1)) = h9
    replace hyp := hyp _ qh9.symm
    refine mf_iconst (v := 1) (mf_dat eX12_qGoesOnTest_p1 2 rfl) (by decide) ?_
    exact mf_ireturn (mf_dat eX12_qGoesOnTest_p1 3 rfl) rfl (Or.inr ⟨rfl, by decide⟩) hyp
  · replace hyp := hyp.2 hc
    refine mf_aload_n (mf_dat eX12_qGoesOnTest_p0 47 rfl) rfl rfl ?_
    refine mf_callV (Yc := YX12_qDrops) (r := (RX12, TX12, 106)) (ci := 12) (mf_dat eX12_qGoesOnTest_p0 48 rfl) ml_X12_584 okX12_qDrops im_X12_qDrops sl_X12_qDrops rfl rfl rfl rfl (Nat.le_of_ble_eq_true rfl) (mf_rr (Nat.le_trans (by decide) hd) (Nat.le_refl _)) (Nat.le_refl _) ck4 hyp (fun r10 g11 h12 hyp => ?_)
    refine mf_goto (tgt := 87) (mf_dat eX12_qGoesOnTest_p0 49 rfl) (by decide) ?_
    exact mf_sub [0] rfl hyp
set_option maxRecDepth 100000 in
set_option maxHeartbeats 4000000 in
theorem bX12_qGoesOnTest_137 {C : mf_G} {l : Launch} {d n : Nat} {K : mf_Kt} {x0 : Int} {g h : mf_M} (hd : 2 ≤ d) (hyp : mf_is n x0 12 ∧ mf_MT C l 0 YX12_qIsOn [(2, x0), (0, 10)] n n g h (fun r1 g2 h3 => ((¬ r1 = 0 → mf_MT C l 1 YX12_qDrops [(2, x0)] n n g2 h3 (fun r5 g6 h7 => JX12_qGoesOnTest_137 C l d n K x0 g6 h7)) ∧ (r1 = 0 → mf_MT C l 0 YX12_qIsOn [(2, x0), (0, 11)] n n g2 h3 (fun r8 g9 h10 => ((r8 = 0 → mf_is n (g9 x0 96) 20 ∧ 0 ≤ h10 x0 97 ∧ h10 x0 97 < mf_len (g9 x0 96) ∧ (∀ h14 : mf_M, h14 = mf_up h10 (g9 x0 96) (h10 x0 97) 11 → (∀ h15 : mf_M, h15 = mf_up h14 x0 97 (mf_w32 ((h14 x0 97) + 1)) → K 1 g9 h15))) ∧ (¬ r8 = 0 → mf_MT C l 1 YX12_qDrops [(2, x0)] n n g9 h10 (fun r16 g17 h18 => JX12_qGoesOnTest_137 C l d n K x0 g17 h18)))))))) : JX12_qGoesOnTest_137 C l d n K x0 g h := by
  refine mf_aload_n (mf_dat eX12_qGoesOnTest_p1 9 rfl) rfl rfl ?_
  refine mf_bipush (v := 10) (mf_dat eX12_qGoesOnTest_p1 10 rfl) (by decide) ?_
  obtain ⟨ck4, hyp⟩ := hyp
  refine mf_callV (Yc := YX12_qIsOn) (r := (RX12, TX12, 106)) (ci := 12) (mf_dat eX12_qGoesOnTest_p1 11 rfl) ml_X12_611 okX12_qIsOn im_X12_qIsOn sl_X12_qIsOn rfl rfl rfl rfl (Nat.le_of_ble_eq_true rfl) (mf_rr (Nat.le_trans (by decide) hd) (Nat.le_refl _)) (Nat.le_refl _) ck4 hyp (fun r1 g2 h3 hyp => ?_)
  refine mf_if_ne (tgt := 155) (mf_dat eX12_qGoesOnTest_p1 12 rfl) (by decide) (fun hc => ?_) (fun hc => ?_)
  · replace hyp := hyp.1 hc
    refine mf_aload_n (mf_dat eX12_qGoesOnTest_p1 17 rfl) rfl rfl ?_
    refine mf_callV (Yc := YX12_qDrops) (r := (RX12, TX12, 106)) (ci := 12) (mf_dat eX12_qGoesOnTest_p1 18 rfl) ml_X12_584 okX12_qDrops im_X12_qDrops sl_X12_qDrops rfl rfl rfl rfl (Nat.le_of_ble_eq_true rfl) (mf_rr (Nat.le_trans (by decide) hd) (Nat.le_refl _)) (Nat.le_refl _) ck4 hyp (fun r5 g6 h7 hyp => ?_)
    refine mf_goto (tgt := 137) (mf_dat eX12_qGoesOnTest_p1 19 rfl) (by decide) ?_
    exact mf_sub [0] rfl hyp
  · replace hyp := hyp.2 hc
    refine mf_aload_n (mf_dat eX12_qGoesOnTest_p1 13 rfl) rfl rfl ?_
    refine mf_bipush (v := 11) (mf_dat eX12_qGoesOnTest_p1 14 rfl) (by decide) ?_
    refine mf_callV (Yc := YX12_qIsOn) (r := (RX12, TX12, 106)) (ci := 12) (mf_dat eX12_qGoesOnTest_p1 15 rfl) ml_X12_611 okX12_qIsOn im_X12_qIsOn sl_X12_qIsOn rfl rfl rfl rfl (Nat.le_of_ble_eq_true rfl) (mf_rr (Nat.le_trans (by decide) hd) (Nat.le_refl _)) (Nat.le_refl _) ck4 hyp (fun r8 g9 h10 hyp => ?_)
    refine mf_if_eq (tgt := 162) (mf_dat eX12_qGoesOnTest_p1 16 rfl) (by decide) (fun hc => ?_) (fun hc => ?_)
    · replace hyp := hyp.1 hc
      refine mf_aload_n (mf_dat eX12_qGoesOnTest_p1 20 rfl) rfl rfl ?_
      refine mf_getf (r := (RX12, TX12, 106)) (ci := 12) (k := 96) (t := 2) (v := g9 x0 96) (mf_dat eX12_qGoesOnTest_p1 21 rfl) fl_X12_231 rfl (by decide) rfl rfl ck4 ?_
      refine mf_aload_n (mf_dat eX12_qGoesOnTest_p1 22 rfl) rfl rfl ?_
      refine mf_getf (r := (RX12, TX12, 106)) (ci := 12) (k := 97) (t := 0) (v := h10 x0 97) (mf_dat eX12_qGoesOnTest_p1 23 rfl) fl_X12_341 rfl (by decide) rfl rfl ck4 ?_
      refine mf_bipush (v := 11) (mf_dat eX12_qGoesOnTest_p1 24 rfl) (by decide) ?_
      obtain ⟨ck11, hyp⟩ := hyp
      obtain ⟨ck12, hyp⟩ := hyp
      obtain ⟨ck13, hyp⟩ := hyp
      refine mf_iast (mf_dat eX12_qGoesOnTest_p1 25 rfl) ck11 ck12 ck13 ?_
      generalize qh14 : mf_up h10 (g9 x0 96) (h10 x0 97) 11 = h14
      replace hyp := hyp _ qh14.symm
      refine mf_aload_n (mf_dat eX12_qGoesOnTest_p1 26 rfl) rfl rfl ?_
      refine mf_dup (mf_dat eX12_qGoesOnTest_p1 27 rfl) (by decide) ?_
      refine mf_getf (r := (RX12, TX12, 106)) (ci := 12) (k := 97) (t := 0) (v := h14 x0 97) (mf_dat eX12_qGoesOnTest_p1 28 rfl) fl_X12_341 rfl (by decide) rfl rfl ck4 ?_
      refine mf_iconst (v := 1) (mf_dat eX12_qGoesOnTest_p1 29 rfl) (by decide) ?_
      refine mf_iadd (mf_dat eX12_qGoesOnTest_p1 30 rfl) ?_
      refine mf_putI (r := (RX12, TX12, 106)) (ci := 12) (k := 97) (kI := 97) (t := 0) (mf_dat eX12_qGoesOnTest_p1 31 rfl) fl_X12_341 rfl rfl (by decide) rfl (by decide) rfl (by decide) (fun h9 => absurd h9 (by decide)) ck4 ?_
      generalize qh15 : mf_up h14 x0 97 (mf_w32 ((h14 x0 97) + 1)) = h15
      replace hyp := hyp _ qh15.symm
      refine mf_iconst (v := 1) (mf_dat eX12_qGoesOnTest_p1 32 rfl) (by decide) ?_
      exact mf_ireturn (mf_dat eX12_qGoesOnTest_p1 33 rfl) rfl (Or.inr ⟨rfl, by decide⟩) hyp
    · replace hyp := hyp.2 hc
      refine mf_aload_n (mf_dat eX12_qGoesOnTest_p1 17 rfl) rfl rfl ?_
      refine mf_callV (Yc := YX12_qDrops) (r := (RX12, TX12, 106)) (ci := 12) (mf_dat eX12_qGoesOnTest_p1 18 rfl) ml_X12_584 okX12_qDrops im_X12_qDrops sl_X12_qDrops rfl rfl rfl rfl (Nat.le_of_ble_eq_true rfl) (mf_rr (Nat.le_trans (by decide) hd) (Nat.le_refl _)) (Nat.le_refl _) ck4 hyp (fun r16 g17 h18 hyp => ?_)
      refine mf_goto (tgt := 137) (mf_dat eX12_qGoesOnTest_p1 19 rfl) (by decide) ?_
      exact mf_sub [0] rfl hyp
set_option maxRecDepth 100000 in
set_option maxHeartbeats 4000000 in
theorem mX12_qGoesOnTest {C : mf_G} {l : Launch} {d n : Nat} {K : mf_Kt} {x0 : Int} {g h : mf_M} (hyp : JX12_qGoesOnTest_0 C l d n K x0 g h) : mf_MT C l d YX12_qGoesOnTest [(2, x0)] n n g h K := by
  refine mf_entry (by decide) (Nat.le_of_ble_eq_true rfl) ?_
  exact mf_sub [0] rfl hyp
set_option maxRecDepth 100000 in
set_option maxHeartbeats 4000000 in
theorem mX12_qClip {C : mf_G} {l : Launch} {d n : Nat} {K : mf_Kt} {x0 : Int} {g h : mf_M} (hyp : ((x0 ≤ 1000000 → (((-1000000) ≤ x0 → K x0 g h) ∧ (¬ (-1000000) ≤ x0 → K (-1000000) g h))) ∧ (¬ x0 ≤ 1000000 → K 1000000 g h))) : mf_MT C l d YX12_qClip [(1, x0)] n n g h K := by
  refine mf_entry (by decide) (Nat.le_of_ble_eq_true rfl) ?_
  refine mf_lload_n (mf_dat eX12_qClip 0 rfl) rfl rfl ?_
  refine mf_ldc2 (v := 1000000) cl_X12_632 (mf_dat eX12_qClip 1 rfl) (by decide) ?_
  refine mf_lcmp_le (tgt := 14) (mf_dat eX12_qClip 2 rfl) (mf_dat eX12_qClip 3 rfl) (by decide) (fun hc => ?_) (fun hc => ?_)
  · replace hyp := hyp.1 hc
    refine mf_lload_n (mf_dat eX12_qClip 6 rfl) rfl rfl ?_
    refine mf_ldc2 (v := (-1000000)) cl_X12_634 (mf_dat eX12_qClip 7 rfl) (by decide) ?_
    refine mf_lcmp_ge (tgt := 28) (mf_dat eX12_qClip 8 rfl) (mf_dat eX12_qClip 9 rfl) (by decide) (fun hc => ?_) (fun hc => ?_)
    · replace hyp := hyp.1 hc
      refine mf_lload_n (mf_dat eX12_qClip 12 rfl) rfl rfl ?_
      exact mf_lreturn (mf_dat eX12_qClip 13 rfl) rfl hyp
    · replace hyp := hyp.2 hc
      refine mf_ldc2 (v := (-1000000)) cl_X12_634 (mf_dat eX12_qClip 10 rfl) (by decide) ?_
      refine mf_goto (tgt := 29) (mf_dat eX12_qClip 11 rfl) (by decide) ?_
      exact mf_lreturn (mf_dat eX12_qClip 13 rfl) rfl hyp
  · replace hyp := hyp.2 hc
    refine mf_ldc2 (v := 1000000) cl_X12_632 (mf_dat eX12_qClip 4 rfl) (by decide) ?_
    refine mf_goto (tgt := 29) (mf_dat eX12_qClip 5 rfl) (by decide) ?_
    exact mf_lreturn (mf_dat eX12_qClip 13 rfl) rfl hyp
abbrev JX12_qFloor_32 (C : mf_G) (l : Launch) (d n : Nat) (K : mf_Kt) (x2 x4 s0 : Int) (g h : mf_M) : Prop := mf_AW C l YX12_qFloor (mf_rm d n n) n (mf_Zm C YX12_qFloor n n K) (fun _ _ => True) 32 [(2, (1, x2)), (4, (1, x4))] [(0, s0)] n g h
set_option maxRecDepth 100000 in
set_option maxHeartbeats 4000000 in
theorem bX12_qFloor_32 {C : mf_G} {l : Launch} {d n : Nat} {K : mf_Kt} {x2 x4 s0 : Int} {g h : mf_M} (hyp : ((0 ≤ x2 → ((s0 = 0 → K x4 g h) ∧ (¬ s0 = 0 → K (mf_w64 (x4 - 1)) g h))) ∧ (¬ 0 ≤ x2 → ((s0 = 1 → K x4 g h) ∧ (¬ s0 = 1 → K (mf_w64 (x4 - 1)) g h))))) : JX12_qFloor_32 C l d n K x2 x4 s0 g h := by
  refine mf_lload_n (mf_dat eX12_qFloor 23 rfl) rfl rfl ?_
  refine mf_lconst (v := 0) (mf_dat eX12_qFloor 24 rfl) (by decide) ?_
  refine mf_lcmp_ge (tgt := 42) (mf_dat eX12_qFloor 25 rfl) (mf_dat eX12_qFloor 26 rfl) (by decide) (fun hc => ?_) (fun hc => ?_)
  · replace hyp := hyp.1 hc
    refine mf_iconst (v := 0) (mf_dat eX12_qFloor 29 rfl) (by decide) ?_
    refine mf_icmp_eq (tgt := 53) (mf_dat eX12_qFloor 30 rfl) (by decide) (fun hc => ?_) (fun hc => ?_)
    · replace hyp := hyp.1 hc
      refine mf_lload (mf_dat eX12_qFloor 35 rfl) rfl ?_
      exact mf_lreturn (mf_dat eX12_qFloor 36 rfl) rfl hyp
    · replace hyp := hyp.2 hc
      refine mf_lload (mf_dat eX12_qFloor 31 rfl) rfl ?_
      refine mf_lconst (v := 1) (mf_dat eX12_qFloor 32 rfl) (by decide) ?_
      refine mf_lsub (mf_dat eX12_qFloor 33 rfl) ?_
      refine mf_goto (tgt := 55) (mf_dat eX12_qFloor 34 rfl) (by decide) ?_
      exact mf_lreturn (mf_dat eX12_qFloor 36 rfl) rfl hyp
  · replace hyp := hyp.2 hc
    refine mf_iconst (v := 1) (mf_dat eX12_qFloor 27 rfl) (by decide) ?_
    refine mf_goto (tgt := 43) (mf_dat eX12_qFloor 28 rfl) (by decide) ?_
    refine mf_icmp_eq (tgt := 53) (mf_dat eX12_qFloor 30 rfl) (by decide) (fun hc => ?_) (fun hc => ?_)
    · replace hyp := hyp.1 hc
      refine mf_lload (mf_dat eX12_qFloor 35 rfl) rfl ?_
      exact mf_lreturn (mf_dat eX12_qFloor 36 rfl) rfl hyp
    · replace hyp := hyp.2 hc
      refine mf_lload (mf_dat eX12_qFloor 31 rfl) rfl ?_
      refine mf_lconst (v := 1) (mf_dat eX12_qFloor 32 rfl) (by decide) ?_
      refine mf_lsub (mf_dat eX12_qFloor 33 rfl) ?_
      refine mf_goto (tgt := 55) (mf_dat eX12_qFloor 34 rfl) (by decide) ?_
      exact mf_lreturn (mf_dat eX12_qFloor 36 rfl) rfl hyp
set_option maxRecDepth 100000 in
set_option maxHeartbeats 4000000 in
theorem mX12_qFloor {C : mf_G} {l : Launch} {d n : Nat} {K : mf_Kt} {x0 x2 : Int} {g h : mf_M} (hyp : ((¬ x2 = 0 → ¬ x2 = 0 ∧ (∀ v2 : Int, v2 = mf_w64 (x0.tdiv x2) → ((x0.tmod x2 = 0 → K v2 g h) ∧ (¬ x0.tmod x2 = 0 → ((0 ≤ x0 → JX12_qFloor_32 C l d n K x2 v2 0 g h) ∧ (¬ 0 ≤ x0 → JX12_qFloor_32 C l d n K x2 v2 1 g h)))))) ∧ (x2 = 0 → K 0 g h))) : mf_MT C l d YX12_qFloor [(1, x0), (1, x2)] n n g h K := by
  refine mf_entry (by decide) (Nat.le_of_ble_eq_true rfl) ?_
  refine mf_lload_n (mf_dat eX12_qFloor 0 rfl) rfl rfl ?_
  refine mf_lconst (v := 0) (mf_dat eX12_qFloor 1 rfl) (by decide) ?_
  refine mf_lcmp_ne (tgt := 8) (mf_dat eX12_qFloor 2 rfl) (mf_dat eX12_qFloor 3 rfl) (by decide) (fun hc => ?_) (fun hc => ?_)
  · replace hyp := hyp.1 hc
    refine mf_lload_n (mf_dat eX12_qFloor 6 rfl) rfl rfl ?_
    refine mf_lload_n (mf_dat eX12_qFloor 7 rfl) rfl rfl ?_
    obtain ⟨ck1, hyp⟩ := hyp
    refine mf_ldiv (mf_dat eX12_qFloor 8 rfl) ck1 ?_
    generalize qv2 : mf_w64 (x0.tdiv x2) = v2
    replace hyp := hyp _ qv2.symm
    refine mf_lstore (mf_dat eX12_qFloor 9 rfl) (by decide) ?_
    refine mf_lload_n (mf_dat eX12_qFloor 10 rfl) rfl rfl ?_
    refine mf_lload_n (mf_dat eX12_qFloor 11 rfl) rfl rfl ?_
    refine mf_lrem (mf_dat eX12_qFloor 12 rfl) ck1 ?_
    refine mf_lconst (v := 0) (mf_dat eX12_qFloor 13 rfl) (by decide) ?_
    refine mf_lcmp_eq (tgt := 53) (mf_dat eX12_qFloor 14 rfl) (mf_dat eX12_qFloor 15 rfl) (by decide) (fun hc => ?_) (fun hc => ?_)
    · replace hyp := hyp.1 hc
      refine mf_lload (mf_dat eX12_qFloor 35 rfl) rfl ?_
      exact mf_lreturn (mf_dat eX12_qFloor 36 rfl) rfl hyp
    · replace hyp := hyp.2 hc
      refine mf_lload_n (mf_dat eX12_qFloor 16 rfl) rfl rfl ?_
      refine mf_lconst (v := 0) (mf_dat eX12_qFloor 17 rfl) (by decide) ?_
      refine mf_lcmp_ge (tgt := 31) (mf_dat eX12_qFloor 18 rfl) (mf_dat eX12_qFloor 19 rfl) (by decide) (fun hc => ?_) (fun hc => ?_)
      · replace hyp := hyp.1 hc
        refine mf_iconst (v := 0) (mf_dat eX12_qFloor 22 rfl) (by decide) ?_
        exact mf_sub [2, 0] rfl hyp
      · replace hyp := hyp.2 hc
        refine mf_iconst (v := 1) (mf_dat eX12_qFloor 20 rfl) (by decide) ?_
        refine mf_goto (tgt := 32) (mf_dat eX12_qFloor 21 rfl) (by decide) ?_
        exact mf_sub [2, 0] rfl hyp
  · replace hyp := hyp.2 hc
    refine mf_lconst (v := 0) (mf_dat eX12_qFloor 4 rfl) (by decide) ?_
    exact mf_lreturn (mf_dat eX12_qFloor 5 rfl) rfl hyp
set_option maxRecDepth 100000 in
set_option maxHeartbeats 4000000 in
theorem mX12_qPuts {C : mf_G} {l : Launch} {d n : Nat} {K : mf_Kt} {x0 x1 : Int} {g h : mf_M} (hyp : mf_is n x0 12 ∧ mf_is n (g x0 100) 24 ∧ 0 ≤ h x0 101 ∧ h x0 101 < mf_len (g x0 100) ∧ (∀ h5 : mf_M, h5 = mf_up h (g x0 100) (h x0 101) x1 → (∀ h6 : mf_M, h6 = mf_up h5 x0 101 (mf_w32 ((h5 x0 101) + 1)) → K 0 g h6))) : mf_MT C l d YX12_qPuts [(2, x0), (1, x1)] n n g h K := by
  refine mf_entry (by decide) (Nat.le_of_ble_eq_true rfl) ?_
  refine mf_aload_n (mf_dat eX12_qPuts 0 rfl) rfl rfl ?_
  obtain ⟨ck1, hyp⟩ := hyp
  refine mf_getf (r := (RX12, TX12, 106)) (ci := 12) (k := 100) (t := 2) (v := g x0 100) (mf_dat eX12_qPuts 1 rfl) fl_X12_234 rfl (by decide) rfl rfl ck1 ?_
  refine mf_aload_n (mf_dat eX12_qPuts 2 rfl) rfl rfl ?_
  refine mf_getf (r := (RX12, TX12, 106)) (ci := 12) (k := 101) (t := 0) (v := h x0 101) (mf_dat eX12_qPuts 3 rfl) fl_X12_422 rfl (by decide) rfl rfl ck1 ?_
  refine mf_lload_n (mf_dat eX12_qPuts 4 rfl) rfl rfl ?_
  obtain ⟨ck2, hyp⟩ := hyp
  obtain ⟨ck3, hyp⟩ := hyp
  obtain ⟨ck4, hyp⟩ := hyp
  refine mf_last (mf_dat eX12_qPuts 5 rfl) ck2 ck3 ck4 ?_
  generalize qh5 : mf_up h (g x0 100) (h x0 101) x1 = h5
  replace hyp := hyp _ qh5.symm
  refine mf_aload_n (mf_dat eX12_qPuts 6 rfl) rfl rfl ?_
  refine mf_dup (mf_dat eX12_qPuts 7 rfl) (by decide) ?_
  refine mf_getf (r := (RX12, TX12, 106)) (ci := 12) (k := 101) (t := 0) (v := h5 x0 101) (mf_dat eX12_qPuts 8 rfl) fl_X12_422 rfl (by decide) rfl rfl ck1 ?_
  refine mf_iconst (v := 1) (mf_dat eX12_qPuts 9 rfl) (by decide) ?_
  refine mf_iadd (mf_dat eX12_qPuts 10 rfl) ?_
  refine mf_putI (r := (RX12, TX12, 106)) (ci := 12) (k := 101) (kI := 101) (t := 0) (mf_dat eX12_qPuts 11 rfl) fl_X12_422 rfl rfl (by decide) rfl (by decide) rfl (by decide) (fun h9 => absurd h9 (by decide)) ck1 ?_
  generalize qh6 : mf_up h5 x0 101 (mf_w32 ((h5 x0 101) + 1)) = h6
  replace hyp := hyp _ qh6.symm
  exact mf_return (mf_dat eX12_qPuts 12 rfl) rfl hyp
set_option maxRecDepth 100000 in
set_option maxHeartbeats 4000000 in
theorem mX12_qJoins {C : mf_G} {l : Launch} {d n : Nat} {K : mf_Kt} {x0 x1 : Int} {g h : mf_M} (hd : 1 ≤ d) (hyp : mf_is n x0 12 ∧ mf_is n (g x0 100) 24 ∧ 0 ≤ mf_w32 ((h x0 101) - 1) ∧ mf_w32 ((h x0 101) - 1) < mf_len (g x0 100) ∧ (∀ v5 : Int, v5 = h (g x0 100) (mf_w32 ((h x0 101) - 1)) → 0 ≤ mf_w32 ((h x0 101) - 2) ∧ mf_w32 ((h x0 101) - 2) < mf_len (g x0 100) ∧ (∀ v8 : Int, v8 = h (g x0 100) (mf_w32 ((h x0 101) - 2)) → (∀ h9 : mf_M, h9 = mf_up h x0 101 (mf_w32 ((h x0 101) - 2)) → ((x1 = 1 → mf_MT C l 0 YX12_qClip [(1, mf_w64 (v8 + v5))] n n g h9 (fun r10 g11 h12 => mf_MT C l 0 YX12_qPuts [(2, x0), (1, r10)] n n g11 h12 (fun r13 g14 h15 => K 0 g14 h15))) ∧ (x1 = 2 → mf_MT C l 0 YX12_qClip [(1, mf_w64 (v8 - v5))] n n g h9 (fun r16 g17 h18 => mf_MT C l 0 YX12_qPuts [(2, x0), (1, r16)] n n g17 h18 (fun r19 g20 h21 => K 0 g20 h21))) ∧ (x1 = 3 → mf_MT C l 0 YX12_qClip [(1, mf_w64 (v8 * v5))] n n g h9 (fun r22 g23 h24 => mf_MT C l 0 YX12_qPuts [(2, x0), (1, r22)] n n g23 h24 (fun r25 g26 h27 => K 0 g26 h27))) ∧ (x1 = 4 → mf_MT C l 0 YX12_qFloor [(1, v8), (1, v5)] n n g h9 (fun r28 g29 h30 => mf_MT C l 0 YX12_qPuts [(2, x0), (1, r28)] n n g29 h30 (fun r31 g32 h33 => K 0 g32 h33))) ∧ (x1 = 5 → ((v5 ≤ v8 → mf_MT C l 0 YX12_qPuts [(2, x0), (1, v5)] n n g h9 (fun r34 g35 h36 => K 0 g35 h36)) ∧ (¬ v5 ≤ v8 → mf_MT C l 0 YX12_qPuts [(2, x0), (1, v8)] n n g h9 (fun r37 g38 h39 => K 0 g38 h39)))) ∧ (x1 = 6 → ((v8 ≤ v5 → mf_MT C l 0 YX12_qPuts [(2, x0), (1, v5)] n n g h9 (fun r40 g41 h42 => K 0 g41 h42)) ∧ (¬ v8 ≤ v5 → mf_MT C l 0 YX12_qPuts [(2, x0), (1, v8)] n n g h9 (fun r43 g44 h45 => K 0 g44 h45)))) ∧ (x1 = 7 → ((v5 ≤ v8 → mf_MT C l 0 YX12_qPuts [(2, x0), (1, 0)] n n g h9 (fun r46 g47 h48 => K 0 g47 h48)) ∧ (¬ v5 ≤ v8 → mf_MT C l 0 YX12_qPuts [(2, x0), (1, 1)] n n g h9 (fun r49 g50 h51 => K 0 g50 h51)))) ∧ (x1 = 8 → ((v8 ≤ v5 → mf_MT C l 0 YX12_qPuts [(2, x0), (1, 0)] n n g h9 (fun r52 g53 h54 => K 0 g53 h54)) ∧ (¬ v8 ≤ v5 → mf_MT C l 0 YX12_qPuts [(2, x0), (1, 1)] n n g h9 (fun r55 g56 h57 => K 0 g56 h57)))) ∧ (x1 = 9 → ((¬ v8 = v5 → mf_MT C l 0 YX12_qPuts [(2, x0), (1, 0)] n n g h9 (fun r58 g59 h60 => K 0 g59 h60)) ∧ (v8 = v5 → mf_MT C l 0 YX12_qPuts [(2, x0), (1, 1)] n n g h9 (fun r61 g62 h63 => K 0 g62 h63)))) ∧ (x1 = 10 → mf_MT C l 0 YX12_qPuts [(2, x0), (1, mf_w64 (v8 * v5))] n n g h9 (fun r64 g65 h66 => K 0 g65 h66)) ∧ ((x1 < 1 ∨ 10 < x1) → ((mf_w64 (v8 + v5) ≤ 0 → mf_MT C l 0 YX12_qPuts [(2, x0), (1, 0)] n n g h9 (fun r67 g68 h69 => K 0 g68 h69)) ∧ (¬ mf_w64 (v8 + v5) ≤ 0 → mf_MT C l 0 YX12_qPuts [(2, x0), (1, 1)] n n g h9 (fun r70 g71 h72 => K 0 g71 h72))))))))) : mf_MT C l d YX12_qJoins [(2, x0), (0, x1)] n n g h K := by
  refine mf_entry (by decide) (Nat.le_of_ble_eq_true rfl) ?_
  refine mf_aload_n (mf_dat eX12_qJoins_p0 0 rfl) rfl rfl ?_
  obtain ⟨ck1, hyp⟩ := hyp
  refine mf_getf (r := (RX12, TX12, 106)) (ci := 12) (k := 100) (t := 2) (v := g x0 100) (mf_dat eX12_qJoins_p0 1 rfl) fl_X12_234 rfl (by decide) rfl rfl ck1 ?_
  refine mf_aload_n (mf_dat eX12_qJoins_p0 2 rfl) rfl rfl ?_
  refine mf_getf (r := (RX12, TX12, 106)) (ci := 12) (k := 101) (t := 0) (v := h x0 101) (mf_dat eX12_qJoins_p0 3 rfl) fl_X12_422 rfl (by decide) rfl rfl ck1 ?_
  refine mf_iconst (v := 1) (mf_dat eX12_qJoins_p0 4 rfl) (by decide) ?_
  refine mf_isub (mf_dat eX12_qJoins_p0 5 rfl) ?_
  obtain ⟨ck2, hyp⟩ := hyp
  obtain ⟨ck3, hyp⟩ := hyp
  obtain ⟨ck4, hyp⟩ := hyp
  refine mf_lald (mf_dat eX12_qJoins_p0 6 rfl) ck2 ck3 ck4 ?_
  generalize qv5 : h (g x0 100) (mf_w32 ((h x0 101) - 1)) = v5
  replace hyp := hyp _ qv5.symm
  refine mf_lstore_n (mf_dat eX12_qJoins_p0 7 rfl) rfl (by decide) ?_
  refine mf_aload_n (mf_dat eX12_qJoins_p0 8 rfl) rfl rfl ?_
  refine mf_getf (r := (RX12, TX12, 106)) (ci := 12) (k := 100) (t := 2) (v := g x0 100) (mf_dat eX12_qJoins_p0 9 rfl) fl_X12_234 rfl (by decide) rfl rfl ck1 ?_
  refine mf_aload_n (mf_dat eX12_qJoins_p0 10 rfl) rfl rfl ?_
  refine mf_getf (r := (RX12, TX12, 106)) (ci := 12) (k := 101) (t := 0) (v := h x0 101) (mf_dat eX12_qJoins_p0 11 rfl) fl_X12_422 rfl (by decide) rfl rfl ck1 ?_
  refine mf_iconst (v := 2) (mf_dat eX12_qJoins_p0 12 rfl) (by decide) ?_
  refine mf_isub (mf_dat eX12_qJoins_p0 13 rfl) ?_
  obtain ⟨ck6, hyp⟩ := hyp
  obtain ⟨ck7, hyp⟩ := hyp
  refine mf_lald (mf_dat eX12_qJoins_p0 14 rfl) ck2 ck6 ck7 ?_
  generalize qv8 : h (g x0 100) (mf_w32 ((h x0 101) - 2)) = v8
  replace hyp := hyp _ qv8.symm
  refine mf_lstore (mf_dat eX12_qJoins_p0 15 rfl) (by decide) ?_
  refine mf_aload_n (mf_dat eX12_qJoins_p0 16 rfl) rfl rfl ?_
  refine mf_dup (mf_dat eX12_qJoins_p0 17 rfl) (by decide) ?_
  refine mf_getf (r := (RX12, TX12, 106)) (ci := 12) (k := 101) (t := 0) (v := h x0 101) (mf_dat eX12_qJoins_p0 18 rfl) fl_X12_422 rfl (by decide) rfl rfl ck1 ?_
  refine mf_iconst (v := 2) (mf_dat eX12_qJoins_p0 19 rfl) (by decide) ?_
  refine mf_isub (mf_dat eX12_qJoins_p0 20 rfl) ?_
  refine mf_putI (r := (RX12, TX12, 106)) (ci := 12) (k := 101) (kI := 101) (t := 0) (mf_dat eX12_qJoins_p0 21 rfl) fl_X12_422 rfl rfl (by decide) rfl (by decide) rfl (by decide) (fun h9 => absurd h9 (by decide)) ck1 ?_
  generalize qh9 : mf_up h x0 101 (mf_w32 ((h x0 101) - 2)) = h9
  replace hyp := hyp _ qh9.symm
  refine mf_iload_n (mf_dat eX12_qJoins_p0 22 rfl) rfl rfl ?_
  refine mf_tsw1 (v := 1) (tgt := 92) (mf_dat eX12_qJoins_p0 23 rfl) (by decide) (by decide) (off := 56) (by decide) (by decide) (fun hc => ?_) (fun hc0 => ?_)
  · replace hyp := hyp.1 hc
    refine mf_aload_n (mf_dat eX12_qJoins_p0 24 rfl) rfl rfl ?_
    refine mf_lload (mf_dat eX12_qJoins_p0 25 rfl) rfl ?_
    refine mf_lload_n (mf_dat eX12_qJoins_p0 26 rfl) rfl rfl ?_
    refine mf_ladd (mf_dat eX12_qJoins_p0 27 rfl) ?_
    refine mf_callS (Yc := YX12_qClip) (mf_dat eX12_qJoins_p0 28 rfl) ml_X12_636 okX12_qClip sm_X12_qClip rfl rfl (Nat.le_of_ble_eq_true rfl) (mf_rr (Nat.le_trans (by decide) hd) (Nat.le_refl _)) (Nat.le_refl _) hyp (fun r10 g11 h12 hyp => ?_)
    refine mf_callV (Yc := YX12_qPuts) (r := (RX12, TX12, 106)) (ci := 12) (mf_dat eX12_qJoins_p0 29 rfl) ml_X12_425 okX12_qPuts im_X12_qPuts sl_X12_qPuts rfl rfl rfl rfl (Nat.le_of_ble_eq_true rfl) (mf_rr (Nat.le_trans (by decide) hd) (Nat.le_refl _)) (Nat.le_refl _) ck1 hyp (fun r13 g14 h15 hyp => ?_)
    refine mf_goto (tgt := 273) (mf_dat eX12_qJoins_p0 30 rfl) (by decide) ?_
    exact mf_return (mf_dat eX12_qJoins_p1 58 rfl) rfl hyp
  replace hyp := hyp.2
  refine mf_tsw1 (v := 2) (tgt := 106) (mf_dat eX12_qJoins_p0 23 rfl) (by decide) (by decide) (off := 70) (by decide) (by decide) (fun hc => ?_) (fun hc1 => ?_)
  · replace hyp := hyp.1 hc
    refine mf_aload_n (mf_dat eX12_qJoins_p0 31 rfl) rfl rfl ?_
    refine mf_lload (mf_dat eX12_qJoins_p0 32 rfl) rfl ?_
    refine mf_lload_n (mf_dat eX12_qJoins_p0 33 rfl) rfl rfl ?_
    refine mf_lsub (mf_dat eX12_qJoins_p0 34 rfl) ?_
    refine mf_callS (Yc := YX12_qClip) (mf_dat eX12_qJoins_p0 35 rfl) ml_X12_636 okX12_qClip sm_X12_qClip rfl rfl (Nat.le_of_ble_eq_true rfl) (mf_rr (Nat.le_trans (by decide) hd) (Nat.le_refl _)) (Nat.le_refl _) hyp (fun r16 g17 h18 hyp => ?_)
    refine mf_callV (Yc := YX12_qPuts) (r := (RX12, TX12, 106)) (ci := 12) (mf_dat eX12_qJoins_p0 36 rfl) ml_X12_425 okX12_qPuts im_X12_qPuts sl_X12_qPuts rfl rfl rfl rfl (Nat.le_of_ble_eq_true rfl) (mf_rr (Nat.le_trans (by decide) hd) (Nat.le_refl _)) (Nat.le_refl _) ck1 hyp (fun r19 g20 h21 hyp => ?_)
    refine mf_goto (tgt := 273) (mf_dat eX12_qJoins_p0 37 rfl) (by decide) ?_
    exact mf_return (mf_dat eX12_qJoins_p1 58 rfl) rfl hyp
  replace hyp := hyp.2
  refine mf_tsw1 (v := 3) (tgt := 120) (mf_dat eX12_qJoins_p0 23 rfl) (by decide) (by decide) (off := 84) (by decide) (by decide) (fun hc => ?_) (fun hc2 => ?_)
  · replace hyp := hyp.1 hc
    refine mf_aload_n (mf_dat eX12_qJoins_p0 38 rfl) rfl rfl ?_
    refine mf_lload (mf_dat eX12_qJoins_p0 39 rfl) rfl ?_
    refine mf_lload_n (mf_dat eX12_qJoins_p0 40 rfl) rfl rfl ?_
    refine mf_lmul (mf_dat eX12_qJoins_p0 41 rfl) ?_
    refine mf_callS (Yc := YX12_qClip) (mf_dat eX12_qJoins_p0 42 rfl) ml_X12_636 okX12_qClip sm_X12_qClip rfl rfl (Nat.le_of_ble_eq_true rfl) (mf_rr (Nat.le_trans (by decide) hd) (Nat.le_refl _)) (Nat.le_refl _) hyp (fun r22 g23 h24 hyp => ?_)
    refine mf_callV (Yc := YX12_qPuts) (r := (RX12, TX12, 106)) (ci := 12) (mf_dat eX12_qJoins_p0 43 rfl) ml_X12_425 okX12_qPuts im_X12_qPuts sl_X12_qPuts rfl rfl rfl rfl (Nat.le_of_ble_eq_true rfl) (mf_rr (Nat.le_trans (by decide) hd) (Nat.le_refl _)) (Nat.le_refl _) ck1 hyp (fun r25 g26 h27 hyp => ?_)
    refine mf_goto (tgt := 273) (mf_dat eX12_qJoins_p0 44 rfl) (by decide) ?_
    exact mf_return (mf_dat eX12_qJoins_p1 58 rfl) rfl hyp
  replace hyp := hyp.2
  refine mf_tsw1 (v := 4) (tgt := 134) (mf_dat eX12_qJoins_p0 23 rfl) (by decide) (by decide) (off := 98) (by decide) (by decide) (fun hc => ?_) (fun hc3 => ?_)
  · replace hyp := hyp.1 hc
    refine mf_aload_n (mf_dat eX12_qJoins_p0 45 rfl) rfl rfl ?_
    refine mf_lload (mf_dat eX12_qJoins_p0 46 rfl) rfl ?_
    refine mf_lload_n (mf_dat eX12_qJoins_p0 47 rfl) rfl rfl ?_
    refine mf_callS (Yc := YX12_qFloor) (mf_dat eX12_qJoins_p0 48 rfl) ml_X12_640 okX12_qFloor sm_X12_qFloor rfl rfl (Nat.le_of_ble_eq_true rfl) (mf_rr (Nat.le_trans (by decide) hd) (Nat.le_refl _)) (Nat.le_refl _) hyp (fun r28 g29 h30 hyp => ?_)
    refine mf_callV (Yc := YX12_qPuts) (r := (RX12, TX12, 106)) (ci := 12) (mf_dat eX12_qJoins_p0 49 rfl) ml_X12_425 okX12_qPuts im_X12_qPuts sl_X12_qPuts rfl rfl rfl rfl (Nat.le_of_ble_eq_true rfl) (mf_rr (Nat.le_trans (by decide) hd) (Nat.le_refl _)) (Nat.le_refl _) ck1 hyp (fun r31 g32 h33 hyp => ?_)
    refine mf_goto (tgt := 273) (mf_dat eX12_qJoins_p0 50 rfl) (by decide) ?_
    exact mf_return (mf_dat eX12_qJoins_p1 58 rfl) rfl hyp
  replace hyp := hyp.2
  refine mf_tsw1 (v := 5) (tgt := 147) (mf_dat eX12_qJoins_p0 23 rfl) (by decide) (by decide) (off := 111) (by decide) (by decide) (fun hc => ?_) (fun hc4 => ?_)
  · replace hyp := hyp.1 hc
    refine mf_aload_n (mf_dat eX12_qJoins_p0 51 rfl) rfl rfl ?_
    refine mf_lload (mf_dat eX12_qJoins_p0 52 rfl) rfl ?_
    refine mf_lload_n (mf_dat eX12_qJoins_p0 53 rfl) rfl rfl ?_
    refine mf_lcmp_ge (tgt := 160) (mf_dat eX12_qJoins_p0 54 rfl) (mf_dat eX12_qJoins_p0 55 rfl) (by decide) (fun hc => ?_) (fun hc => ?_)
    · replace hyp := hyp.1 hc
      refine mf_lload_n (mf_dat eX12_qJoins_p0 58 rfl) rfl rfl ?_
      refine mf_callV (Yc := YX12_qPuts) (r := (RX12, TX12, 106)) (ci := 12) (mf_dat eX12_qJoins_p0 59 rfl) ml_X12_425 okX12_qPuts im_X12_qPuts sl_X12_qPuts rfl rfl rfl rfl (Nat.le_of_ble_eq_true rfl) (mf_rr (Nat.le_trans (by decide) hd) (Nat.le_refl _)) (Nat.le_refl _) ck1 hyp (fun r34 g35 h36 hyp => ?_)
      refine mf_goto (tgt := 273) (mf_dat eX12_qJoins_p1 0 rfl) (by decide) ?_
      exact mf_return (mf_dat eX12_qJoins_p1 58 rfl) rfl hyp
    · replace hyp := hyp.2 hc
      refine mf_lload (mf_dat eX12_qJoins_p0 56 rfl) rfl ?_
      refine mf_goto (tgt := 161) (mf_dat eX12_qJoins_p0 57 rfl) (by decide) ?_
      refine mf_callV (Yc := YX12_qPuts) (r := (RX12, TX12, 106)) (ci := 12) (mf_dat eX12_qJoins_p0 59 rfl) ml_X12_425 okX12_qPuts im_X12_qPuts sl_X12_qPuts rfl rfl rfl rfl (Nat.le_of_ble_eq_true rfl) (mf_rr (Nat.le_trans (by decide) hd) (Nat.le_refl _)) (Nat.le_refl _) ck1 hyp (fun r37 g38 h39 hyp => ?_)
      refine mf_goto (tgt := 273) (mf_dat eX12_qJoins_p1 0 rfl) (by decide) ?_
      exact mf_return (mf_dat eX12_qJoins_p1 58 rfl) rfl hyp
  replace hyp := hyp.2
  refine mf_tsw1 (v := 6) (tgt := 167) (mf_dat eX12_qJoins_p0 23 rfl) (by decide) (by decide) (off := 131) (by decide) (by decide) (fun hc => ?_) (fun hc5 => ?_)
  · replace hyp := hyp.1 hc
    refine mf_aload_n (mf_dat eX12_qJoins_p1 1 rfl) rfl rfl ?_
    refine mf_lload (mf_dat eX12_qJoins_p1 2 rfl) rfl ?_
    refine mf_lload_n (mf_dat eX12_qJoins_p1 3 rfl) rfl rfl ?_
    refine mf_lcmp_le (tgt := 180) (mf_dat eX12_qJoins_p1 4 rfl) (mf_dat eX12_qJoins_p1 5 rfl) (by decide) (fun hc => ?_) (fun hc => ?_)
    · replace hyp := hyp.1 hc
      refine mf_lload_n (mf_dat eX12_qJoins_p1 8 rfl) rfl rfl ?_
      refine mf_callV (Yc := YX12_qPuts) (r := (RX12, TX12, 106)) (ci := 12) (mf_dat eX12_qJoins_p1 9 rfl) ml_X12_425 okX12_qPuts im_X12_qPuts sl_X12_qPuts rfl rfl rfl rfl (Nat.le_of_ble_eq_true rfl) (mf_rr (Nat.le_trans (by decide) hd) (Nat.le_refl _)) (Nat.le_refl _) ck1 hyp (fun r40 g41 h42 hyp => ?_)
      refine mf_goto (tgt := 273) (mf_dat eX12_qJoins_p1 10 rfl) (by decide) ?_
      exact mf_return (mf_dat eX12_qJoins_p1 58 rfl) rfl hyp
    · replace hyp := hyp.2 hc
      refine mf_lload (mf_dat eX12_qJoins_p1 6 rfl) rfl ?_
      refine mf_goto (tgt := 181) (mf_dat eX12_qJoins_p1 7 rfl) (by decide) ?_
      refine mf_callV (Yc := YX12_qPuts) (r := (RX12, TX12, 106)) (ci := 12) (mf_dat eX12_qJoins_p1 9 rfl) ml_X12_425 okX12_qPuts im_X12_qPuts sl_X12_qPuts rfl rfl rfl rfl (Nat.le_of_ble_eq_true rfl) (mf_rr (Nat.le_trans (by decide) hd) (Nat.le_refl _)) (Nat.le_refl _) ck1 hyp (fun r43 g44 h45 hyp => ?_)
      refine mf_goto (tgt := 273) (mf_dat eX12_qJoins_p1 10 rfl) (by decide) ?_
      exact mf_return (mf_dat eX12_qJoins_p1 58 rfl) rfl hyp
  replace hyp := hyp.2
  refine mf_tsw1 (v := 7) (tgt := 187) (mf_dat eX12_qJoins_p0 23 rfl) (by decide) (by decide) (off := 151) (by decide) (by decide) (fun hc => ?_) (fun hc6 => ?_)
  · replace hyp := hyp.1 hc
    refine mf_aload_n (mf_dat eX12_qJoins_p1 11 rfl) rfl rfl ?_
    refine mf_lload (mf_dat eX12_qJoins_p1 12 rfl) rfl ?_
    refine mf_lload_n (mf_dat eX12_qJoins_p1 13 rfl) rfl rfl ?_
    refine mf_lcmp_ge (tgt := 199) (mf_dat eX12_qJoins_p1 14 rfl) (mf_dat eX12_qJoins_p1 15 rfl) (by decide) (fun hc => ?_) (fun hc => ?_)
    · replace hyp := hyp.1 hc
      refine mf_lconst (v := 0) (mf_dat eX12_qJoins_p1 18 rfl) (by decide) ?_
      refine mf_callV (Yc := YX12_qPuts) (r := (RX12, TX12, 106)) (ci := 12) (mf_dat eX12_qJoins_p1 19 rfl) ml_X12_425 okX12_qPuts im_X12_qPuts sl_X12_qPuts rfl rfl rfl rfl (Nat.le_of_ble_eq_true rfl) (mf_rr (Nat.le_trans (by decide) hd) (Nat.le_refl _)) (Nat.le_refl _) ck1 hyp (fun r46 g47 h48 hyp => ?_)
      refine mf_goto (tgt := 273) (mf_dat eX12_qJoins_p1 20 rfl) (by decide) ?_
      exact mf_return (mf_dat eX12_qJoins_p1 58 rfl) rfl hyp
    · replace hyp := hyp.2 hc
      refine mf_lconst (v := 1) (mf_dat eX12_qJoins_p1 16 rfl) (by decide) ?_
      refine mf_goto (tgt := 200) (mf_dat eX12_qJoins_p1 17 rfl) (by decide) ?_
      refine mf_callV (Yc := YX12_qPuts) (r := (RX12, TX12, 106)) (ci := 12) (mf_dat eX12_qJoins_p1 19 rfl) ml_X12_425 okX12_qPuts im_X12_qPuts sl_X12_qPuts rfl rfl rfl rfl (Nat.le_of_ble_eq_true rfl) (mf_rr (Nat.le_trans (by decide) hd) (Nat.le_refl _)) (Nat.le_refl _) ck1 hyp (fun r49 g50 h51 hyp => ?_)
      refine mf_goto (tgt := 273) (mf_dat eX12_qJoins_p1 20 rfl) (by decide) ?_
      exact mf_return (mf_dat eX12_qJoins_p1 58 rfl) rfl hyp
  replace hyp := hyp.2
  refine mf_tsw1 (v := 8) (tgt := 206) (mf_dat eX12_qJoins_p0 23 rfl) (by decide) (by decide) (off := 170) (by decide) (by decide) (fun hc => ?_) (fun hc7 => ?_)
  · replace hyp := hyp.1 hc
    refine mf_aload_n (mf_dat eX12_qJoins_p1 21 rfl) rfl rfl ?_
    refine mf_lload (mf_dat eX12_qJoins_p1 22 rfl) rfl ?_
    refine mf_lload_n (mf_dat eX12_qJoins_p1 23 rfl) rfl rfl ?_
    refine mf_lcmp_le (tgt := 218) (mf_dat eX12_qJoins_p1 24 rfl) (mf_dat eX12_qJoins_p1 25 rfl) (by decide) (fun hc => ?_) (fun hc => ?_)
    · replace hyp := hyp.1 hc
      refine mf_lconst (v := 0) (mf_dat eX12_qJoins_p1 28 rfl) (by decide) ?_
      refine mf_callV (Yc := YX12_qPuts) (r := (RX12, TX12, 106)) (ci := 12) (mf_dat eX12_qJoins_p1 29 rfl) ml_X12_425 okX12_qPuts im_X12_qPuts sl_X12_qPuts rfl rfl rfl rfl (Nat.le_of_ble_eq_true rfl) (mf_rr (Nat.le_trans (by decide) hd) (Nat.le_refl _)) (Nat.le_refl _) ck1 hyp (fun r52 g53 h54 hyp => ?_)
      refine mf_goto (tgt := 273) (mf_dat eX12_qJoins_p1 30 rfl) (by decide) ?_
      exact mf_return (mf_dat eX12_qJoins_p1 58 rfl) rfl hyp
    · replace hyp := hyp.2 hc
      refine mf_lconst (v := 1) (mf_dat eX12_qJoins_p1 26 rfl) (by decide) ?_
      refine mf_goto (tgt := 219) (mf_dat eX12_qJoins_p1 27 rfl) (by decide) ?_
      refine mf_callV (Yc := YX12_qPuts) (r := (RX12, TX12, 106)) (ci := 12) (mf_dat eX12_qJoins_p1 29 rfl) ml_X12_425 okX12_qPuts im_X12_qPuts sl_X12_qPuts rfl rfl rfl rfl (Nat.le_of_ble_eq_true rfl) (mf_rr (Nat.le_trans (by decide) hd) (Nat.le_refl _)) (Nat.le_refl _) ck1 hyp (fun r55 g56 h57 hyp => ?_)
      refine mf_goto (tgt := 273) (mf_dat eX12_qJoins_p1 30 rfl) (by decide) ?_
      exact mf_return (mf_dat eX12_qJoins_p1 58 rfl) rfl hyp
  replace hyp := hyp.2
  refine mf_tsw1 (v := 9) (tgt := 225) (mf_dat eX12_qJoins_p0 23 rfl) (by decide) (by decide) (off := 189) (by decide) (by decide) (fun hc => ?_) (fun hc8 => ?_)
  · replace hyp := hyp.1 hc
    refine mf_aload_n (mf_dat eX12_qJoins_p1 31 rfl) rfl rfl ?_
    refine mf_lload (mf_dat eX12_qJoins_p1 32 rfl) rfl ?_
    refine mf_lload_n (mf_dat eX12_qJoins_p1 33 rfl) rfl rfl ?_
    refine mf_lcmp_ne (tgt := 237) (mf_dat eX12_qJoins_p1 34 rfl) (mf_dat eX12_qJoins_p1 35 rfl) (by decide) (fun hc => ?_) (fun hc => ?_)
    · replace hyp := hyp.1 hc
      refine mf_lconst (v := 0) (mf_dat eX12_qJoins_p1 38 rfl) (by decide) ?_
      refine mf_callV (Yc := YX12_qPuts) (r := (RX12, TX12, 106)) (ci := 12) (mf_dat eX12_qJoins_p1 39 rfl) ml_X12_425 okX12_qPuts im_X12_qPuts sl_X12_qPuts rfl rfl rfl rfl (Nat.le_of_ble_eq_true rfl) (mf_rr (Nat.le_trans (by decide) hd) (Nat.le_refl _)) (Nat.le_refl _) ck1 hyp (fun r58 g59 h60 hyp => ?_)
      refine mf_goto (tgt := 273) (mf_dat eX12_qJoins_p1 40 rfl) (by decide) ?_
      exact mf_return (mf_dat eX12_qJoins_p1 58 rfl) rfl hyp
    · replace hyp := hyp.2 hc
      refine mf_lconst (v := 1) (mf_dat eX12_qJoins_p1 36 rfl) (by decide) ?_
      refine mf_goto (tgt := 238) (mf_dat eX12_qJoins_p1 37 rfl) (by decide) ?_
      refine mf_callV (Yc := YX12_qPuts) (r := (RX12, TX12, 106)) (ci := 12) (mf_dat eX12_qJoins_p1 39 rfl) ml_X12_425 okX12_qPuts im_X12_qPuts sl_X12_qPuts rfl rfl rfl rfl (Nat.le_of_ble_eq_true rfl) (mf_rr (Nat.le_trans (by decide) hd) (Nat.le_refl _)) (Nat.le_refl _) ck1 hyp (fun r61 g62 h63 hyp => ?_)
      refine mf_goto (tgt := 273) (mf_dat eX12_qJoins_p1 40 rfl) (by decide) ?_
      exact mf_return (mf_dat eX12_qJoins_p1 58 rfl) rfl hyp
  replace hyp := hyp.2
  refine mf_tsw1 (v := 10) (tgt := 244) (mf_dat eX12_qJoins_p0 23 rfl) (by decide) (by decide) (off := 208) (by decide) (by decide) (fun hc => ?_) (fun hc9 => ?_)
  · replace hyp := hyp.1 hc
    refine mf_aload_n (mf_dat eX12_qJoins_p1 41 rfl) rfl rfl ?_
    refine mf_lload (mf_dat eX12_qJoins_p1 42 rfl) rfl ?_
    refine mf_lload_n (mf_dat eX12_qJoins_p1 43 rfl) rfl rfl ?_
    refine mf_lmul (mf_dat eX12_qJoins_p1 44 rfl) ?_
    refine mf_callV (Yc := YX12_qPuts) (r := (RX12, TX12, 106)) (ci := 12) (mf_dat eX12_qJoins_p1 45 rfl) ml_X12_425 okX12_qPuts im_X12_qPuts sl_X12_qPuts rfl rfl rfl rfl (Nat.le_of_ble_eq_true rfl) (mf_rr (Nat.le_trans (by decide) hd) (Nat.le_refl _)) (Nat.le_refl _) ck1 hyp (fun r64 g65 h66 hyp => ?_)
    refine mf_goto (tgt := 273) (mf_dat eX12_qJoins_p1 46 rfl) (by decide) ?_
    exact mf_return (mf_dat eX12_qJoins_p1 58 rfl) rfl hyp
  replace hyp := hyp.2
  refine mf_tswO (tgt := 255) (mf_dat eX12_qJoins_p0 23 rfl) (by omega) (by decide) ?_
  replace hyp := hyp (by omega)
  refine mf_aload_n (mf_dat eX12_qJoins_p1 47 rfl) rfl rfl ?_
  refine mf_lload (mf_dat eX12_qJoins_p1 48 rfl) rfl ?_
  refine mf_lload_n (mf_dat eX12_qJoins_p1 49 rfl) rfl rfl ?_
  refine mf_ladd (mf_dat eX12_qJoins_p1 50 rfl) ?_
  refine mf_lconst (v := 0) (mf_dat eX12_qJoins_p1 51 rfl) (by decide) ?_
  refine mf_lcmp_le (tgt := 269) (mf_dat eX12_qJoins_p1 52 rfl) (mf_dat eX12_qJoins_p1 53 rfl) (by decide) (fun hc => ?_) (fun hc => ?_)
  · replace hyp := hyp.1 hc
    refine mf_lconst (v := 0) (mf_dat eX12_qJoins_p1 56 rfl) (by decide) ?_
    refine mf_callV (Yc := YX12_qPuts) (r := (RX12, TX12, 106)) (ci := 12) (mf_dat eX12_qJoins_p1 57 rfl) ml_X12_425 okX12_qPuts im_X12_qPuts sl_X12_qPuts rfl rfl rfl rfl (Nat.le_of_ble_eq_true rfl) (mf_rr (Nat.le_trans (by decide) hd) (Nat.le_refl _)) (Nat.le_refl _) ck1 hyp (fun r67 g68 h69 hyp => ?_)
    exact mf_return (mf_dat eX12_qJoins_p1 58 rfl) rfl hyp
  · replace hyp := hyp.2 hc
    refine mf_lconst (v := 1) (mf_dat eX12_qJoins_p1 54 rfl) (by decide) ?_
    refine mf_goto (tgt := 270) (mf_dat eX12_qJoins_p1 55 rfl) (by decide) ?_
    refine mf_callV (Yc := YX12_qPuts) (r := (RX12, TX12, 106)) (ci := 12) (mf_dat eX12_qJoins_p1 57 rfl) ml_X12_425 okX12_qPuts im_X12_qPuts sl_X12_qPuts rfl rfl rfl rfl (Nat.le_of_ble_eq_true rfl) (mf_rr (Nat.le_trans (by decide) hd) (Nat.le_refl _)) (Nat.le_refl _) ck1 hyp (fun r70 g71 h72 hyp => ?_)
    exact mf_return (mf_dat eX12_qJoins_p1 58 rfl) rfl hyp
set_option maxRecDepth 100000 in
set_option maxHeartbeats 4000000 in
theorem mX12_qPartOf {C : mf_G} {l : Launch} {d n : Nat} {K : mf_Kt} {x0 x1 x2 : Int} {g h : mf_M} (hd : 1 ≤ d) (hyp : ((x1 = 0 → mf_is n x0 12 ∧ K (h x0 58) g h) ∧ (x1 = 1 → mf_is n x0 12 ∧ mf_MT C l 0 YX12_leafOf [(2, x0), (0, x2)] n n g h (fun r2 g3 h4 => K r2 g3 h4)) ∧ (x1 = 2 → mf_is n x0 12 ∧ mf_MT C l 0 YX12_cellOf [(2, x0), (0, x2)] n n g h (fun r6 g7 h8 => K r6 g7 h8)) ∧ (x1 = 3 → mf_is n x0 12 ∧ mf_is n (g x0 46) 20 ∧ 0 ≤ mf_w32 (8 + x2) ∧ mf_w32 (8 + x2) < mf_len (g x0 46) ∧ K (h (g x0 46) (mf_w32 (8 + x2))) g h) ∧ (x1 = 4 → mf_is n x0 12 ∧ mf_MT C l 0 YX12_purseOf [(2, x0), (0, x2)] n n g h (fun r14 g15 h16 => K r14 g15 h16)) ∧ (x1 = 5 → mf_is n x0 12 ∧ mf_MT C l 0 YX12_leafOf [(2, x0), (0, x2)] n n g h (fun r18 g19 h20 => mf_MT C l 0 YX12_isOpen [(0, r18), (0, h20 x0 59)] n n g19 h20 (fun r22 g23 h24 => ((r22 = 0 → K 0 g23 h24) ∧ (¬ r22 = 0 → K 1 g23 h24))))) ∧ (x1 = 6 → mf_is n x0 12 ∧ K (h x0 60) g h) ∧ (x1 = 7 → K x2 g h) ∧ ((x1 < 0 ∨ 7 < x1) → mf_is n x0 12 ∧ mf_is n (g x0 56) 20 ∧ 0 ≤ mf_w32 ((mf_w32 (7 + (mf_w32 (4 * x2)))) + 3) ∧ mf_w32 ((mf_w32 (7 + (mf_w32 (4 * x2)))) + 3) < mf_len (g x0 56) ∧ K (h (g x0 56) (mf_w32 ((mf_w32 (7 + (mf_w32 (4 * x2)))) + 3))) g h))) : mf_MT C l d YX12_qPartOf [(2, x0), (0, x1), (0, x2)] n n g h K := by
  refine mf_entry (by decide) (Nat.le_of_ble_eq_true rfl) ?_
  refine mf_iload_n (mf_dat eX12_qPartOf 0 rfl) rfl rfl ?_
  refine mf_tsw1 (v := 0) (tgt := 48) (mf_dat eX12_qPartOf 1 rfl) (by decide) (by decide) (off := 47) (by decide) (by decide) (fun hc => ?_) (fun hc0 => ?_)
  · replace hyp := hyp.1 hc
    refine mf_aload_n (mf_dat eX12_qPartOf 2 rfl) rfl rfl ?_
    obtain ⟨ck1, hyp⟩ := hyp
    refine mf_getf (r := (RX12, TX12, 106)) (ci := 12) (k := 58) (t := 0) (v := h x0 58) (mf_dat eX12_qPartOf 3 rfl) fl_X12_436 rfl (by decide) rfl rfl ck1 ?_
    refine mf_i2l (mf_dat eX12_qPartOf 4 rfl) ?_
    exact mf_lreturn (mf_dat eX12_qPartOf 5 rfl) rfl hyp
  replace hyp := hyp.2
  refine mf_tsw1 (v := 1) (tgt := 54) (mf_dat eX12_qPartOf 1 rfl) (by decide) (by decide) (off := 53) (by decide) (by decide) (fun hc => ?_) (fun hc1 => ?_)
  · replace hyp := hyp.1 hc
    refine mf_aload_n (mf_dat eX12_qPartOf 6 rfl) rfl rfl ?_
    refine mf_iload_n (mf_dat eX12_qPartOf 7 rfl) rfl rfl ?_
    obtain ⟨ck5, hyp⟩ := hyp
    refine mf_callV (Yc := YX12_leafOf) (r := (RX12, TX12, 106)) (ci := 12) (mf_dat eX12_qPartOf 8 rfl) ml_X12_410 okX12_leafOf im_X12_leafOf sl_X12_leafOf rfl rfl rfl rfl (Nat.le_of_ble_eq_true rfl) (mf_rr (Nat.le_trans (by decide) hd) (Nat.le_refl _)) (Nat.le_refl _) ck5 hyp (fun r2 g3 h4 hyp => ?_)
    refine mf_i2l (mf_dat eX12_qPartOf 9 rfl) ?_
    exact mf_lreturn (mf_dat eX12_qPartOf 10 rfl) rfl hyp
  replace hyp := hyp.2
  refine mf_tsw1 (v := 2) (tgt := 61) (mf_dat eX12_qPartOf 1 rfl) (by decide) (by decide) (off := 60) (by decide) (by decide) (fun hc => ?_) (fun hc2 => ?_)
  · replace hyp := hyp.1 hc
    refine mf_aload_n (mf_dat eX12_qPartOf 11 rfl) rfl rfl ?_
    refine mf_iload_n (mf_dat eX12_qPartOf 12 rfl) rfl rfl ?_
    obtain ⟨ck9, hyp⟩ := hyp
    refine mf_callV (Yc := YX12_cellOf) (r := (RX12, TX12, 106)) (ci := 12) (mf_dat eX12_qPartOf 13 rfl) ml_X12_413 okX12_cellOf im_X12_cellOf sl_X12_cellOf rfl rfl rfl rfl (Nat.le_of_ble_eq_true rfl) (mf_rr (Nat.le_trans (by decide) hd) (Nat.le_refl _)) (Nat.le_refl _) ck9 hyp (fun r6 g7 h8 hyp => ?_)
    refine mf_i2l (mf_dat eX12_qPartOf 14 rfl) ?_
    exact mf_lreturn (mf_dat eX12_qPartOf 15 rfl) rfl hyp
  replace hyp := hyp.2
  refine mf_tsw1 (v := 3) (tgt := 68) (mf_dat eX12_qPartOf 1 rfl) (by decide) (by decide) (off := 67) (by decide) (by decide) (fun hc => ?_) (fun hc3 => ?_)
  · replace hyp := hyp.1 hc
    refine mf_aload_n (mf_dat eX12_qPartOf 16 rfl) rfl rfl ?_
    obtain ⟨ck10, hyp⟩ := hyp
    refine mf_getf (r := (RX12, TX12, 106)) (ci := 12) (k := 46) (t := 2) (v := g x0 46) (mf_dat eX12_qPartOf 17 rfl) fl_X12_124 rfl (by decide) rfl rfl ck10 ?_
    refine mf_bipush (v := 8) (mf_dat eX12_qPartOf 18 rfl) (by decide) ?_
    refine mf_iload_n (mf_dat eX12_qPartOf 19 rfl) rfl rfl ?_
    refine mf_iadd (mf_dat eX12_qPartOf 20 rfl) ?_
    obtain ⟨ck11, hyp⟩ := hyp
    obtain ⟨ck12, hyp⟩ := hyp
    obtain ⟨ck13, hyp⟩ := hyp
    refine mf_iald (mf_dat eX12_qPartOf 21 rfl) ck11 ck12 ck13 ?_
    refine mf_i2l (mf_dat eX12_qPartOf 22 rfl) ?_
    exact mf_lreturn (mf_dat eX12_qPartOf 23 rfl) rfl hyp
  replace hyp := hyp.2
  refine mf_tsw1 (v := 4) (tgt := 79) (mf_dat eX12_qPartOf 1 rfl) (by decide) (by decide) (off := 78) (by decide) (by decide) (fun hc => ?_) (fun hc4 => ?_)
  · replace hyp := hyp.1 hc
    refine mf_aload_n (mf_dat eX12_qPartOf 24 rfl) rfl rfl ?_
    refine mf_iload_n (mf_dat eX12_qPartOf 25 rfl) rfl rfl ?_
    obtain ⟨ck17, hyp⟩ := hyp
    refine mf_callV (Yc := YX12_purseOf) (r := (RX12, TX12, 106)) (ci := 12) (mf_dat eX12_qPartOf 26 rfl) ml_X12_445 okX12_purseOf im_X12_purseOf sl_X12_purseOf rfl rfl rfl rfl (Nat.le_of_ble_eq_true rfl) (mf_rr (Nat.le_trans (by decide) hd) (Nat.le_refl _)) (Nat.le_refl _) ck17 hyp (fun r14 g15 h16 hyp => ?_)
    refine mf_i2l (mf_dat eX12_qPartOf 27 rfl) ?_
    exact mf_lreturn (mf_dat eX12_qPartOf 28 rfl) rfl hyp
  replace hyp := hyp.2
  refine mf_tsw1 (v := 5) (tgt := 86) (mf_dat eX12_qPartOf 1 rfl) (by decide) (by decide) (off := 85) (by decide) (by decide) (fun hc => ?_) (fun hc5 => ?_)
  · replace hyp := hyp.1 hc
    refine mf_aload_n (mf_dat eX12_qPartOf 29 rfl) rfl rfl ?_
    refine mf_iload_n (mf_dat eX12_qPartOf 30 rfl) rfl rfl ?_
    obtain ⟨ck21, hyp⟩ := hyp
    refine mf_callV (Yc := YX12_leafOf) (r := (RX12, TX12, 106)) (ci := 12) (mf_dat eX12_qPartOf 31 rfl) ml_X12_410 okX12_leafOf im_X12_leafOf sl_X12_leafOf rfl rfl rfl rfl (Nat.le_of_ble_eq_true rfl) (mf_rr (Nat.le_trans (by decide) hd) (Nat.le_refl _)) (Nat.le_refl _) ck21 hyp (fun r18 g19 h20 hyp => ?_)
    refine mf_aload_n (mf_dat eX12_qPartOf 32 rfl) rfl rfl ?_
    refine mf_getf (r := (RX12, TX12, 106)) (ci := 12) (k := 59) (t := 0) (v := h20 x0 59) (mf_dat eX12_qPartOf 33 rfl) fl_X12_468 rfl (by decide) rfl rfl ck21 ?_
    refine mf_callS (Yc := YX12_isOpen) (mf_dat eX12_qPartOf 34 rfl) ml_X12_416 okX12_isOpen sm_X12_isOpen rfl rfl (Nat.le_of_ble_eq_true rfl) (mf_rr (Nat.le_trans (by decide) hd) (Nat.le_refl _)) (Nat.le_refl _) hyp (fun r22 g23 h24 hyp => ?_)
    refine mf_if_eq (tgt := 105) (mf_dat eX12_qPartOf 35 rfl) (by decide) (fun hc => ?_) (fun hc => ?_)
    · replace hyp := hyp.1 hc
      refine mf_lconst (v := 0) (mf_dat eX12_qPartOf 38 rfl) (by decide) ?_
      exact mf_lreturn (mf_dat eX12_qPartOf 39 rfl) rfl hyp
    · replace hyp := hyp.2 hc
      refine mf_lconst (v := 1) (mf_dat eX12_qPartOf 36 rfl) (by decide) ?_
      refine mf_goto (tgt := 106) (mf_dat eX12_qPartOf 37 rfl) (by decide) ?_
      exact mf_lreturn (mf_dat eX12_qPartOf 39 rfl) rfl hyp
  replace hyp := hyp.2
  refine mf_tsw1 (v := 6) (tgt := 107) (mf_dat eX12_qPartOf 1 rfl) (by decide) (by decide) (off := 106) (by decide) (by decide) (fun hc => ?_) (fun hc6 => ?_)
  · replace hyp := hyp.1 hc
    refine mf_aload_n (mf_dat eX12_qPartOf 40 rfl) rfl rfl ?_
    obtain ⟨ck25, hyp⟩ := hyp
    refine mf_getf (r := (RX12, TX12, 106)) (ci := 12) (k := 60) (t := 0) (v := h x0 60) (mf_dat eX12_qPartOf 41 rfl) fl_X12_461 rfl (by decide) rfl rfl ck25 ?_
    refine mf_i2l (mf_dat eX12_qPartOf 42 rfl) ?_
    exact mf_lreturn (mf_dat eX12_qPartOf 43 rfl) rfl hyp
  replace hyp := hyp.2
  refine mf_tsw1 (v := 7) (tgt := 113) (mf_dat eX12_qPartOf 1 rfl) (by decide) (by decide) (off := 112) (by decide) (by decide) (fun hc => ?_) (fun hc7 => ?_)
  · replace hyp := hyp.1 hc
    refine mf_iload_n (mf_dat eX12_qPartOf 44 rfl) rfl rfl ?_
    refine mf_i2l (mf_dat eX12_qPartOf 45 rfl) ?_
    exact mf_lreturn (mf_dat eX12_qPartOf 46 rfl) rfl hyp
  replace hyp := hyp.2
  refine mf_tswO (tgt := 116) (mf_dat eX12_qPartOf 1 rfl) (by omega) (by decide) ?_
  replace hyp := hyp (by omega)
  refine mf_aload_n (mf_dat eX12_qPartOf 47 rfl) rfl rfl ?_
  obtain ⟨ck26, hyp⟩ := hyp
  refine mf_getf (r := (RX12, TX12, 106)) (ci := 12) (k := 56) (t := 2) (v := g x0 56) (mf_dat eX12_qPartOf 48 rfl) fl_X12_136 rfl (by decide) rfl rfl ck26 ?_
  refine mf_bipush (v := 7) (mf_dat eX12_qPartOf 49 rfl) (by decide) ?_
  refine mf_iconst (v := 4) (mf_dat eX12_qPartOf 50 rfl) (by decide) ?_
  refine mf_iload_n (mf_dat eX12_qPartOf 51 rfl) rfl rfl ?_
  refine mf_imul (mf_dat eX12_qPartOf 52 rfl) ?_
  refine mf_iadd (mf_dat eX12_qPartOf 53 rfl) ?_
  refine mf_iconst (v := 3) (mf_dat eX12_qPartOf 54 rfl) (by decide) ?_
  refine mf_iadd (mf_dat eX12_qPartOf 55 rfl) ?_
  obtain ⟨ck27, hyp⟩ := hyp
  obtain ⟨ck28, hyp⟩ := hyp
  obtain ⟨ck29, hyp⟩ := hyp
  refine mf_iald (mf_dat eX12_qPartOf 56 rfl) ck27 ck28 ck29 ?_
  refine mf_i2l (mf_dat eX12_qPartOf 57 rfl) ?_
  exact mf_lreturn (mf_dat eX12_qPartOf 58 rfl) rfl hyp
set_option maxRecDepth 100000 in
set_option maxHeartbeats 4000000 in
theorem mX12_qOf {C : mf_G} {l : Launch} {d n : Nat} {K : mf_Kt} {x0 x1 x2 x4 : Int} {g h : mf_M} (hd : 3 ≤ d) (hyp : ((() → mf_is n x0 12 ∧ mf_MT C l 0 YX12_beingMany [(2, x0)] n n g h (fun r1 g2 h3 => mf_MT C l 0 YX12_isIn [(1, x2), (1, 0), (1, mf_w32 (r1 - 1))] n n g2 h3 (fun r5 g6 h7 => ((r5 = 0 → K 0 g6 h7) ∧ (¬ r5 = 0 → ((x2 = x4 → K 0 g6 h7) ∧ (¬ x2 = x4 → mf_MT C l 2 YX12_doMeet [(2, x0), (0, x4), (0, mf_w32 x2), (0, h7 x0 59)] n n g6 h7 (fun r8 g9 h10 => ((r8 = 0 → K 0 g9 h10) ∧ (¬ r8 = 0 → K 1 g9 h10)))))))))))) : mf_MT C l d YX12_qOf [(2, x0), (0, x1), (1, x2), (0, x4)] n n g h K := by
  refine mf_entry (by decide) (Nat.le_of_ble_eq_true rfl) ?_
  refine mf_iload_n (mf_dat eX12_qOf 0 rfl) rfl rfl ?_
  refine mf_lsw (tgt := 12) (off := 11) (mf_dat eX12_qOf 1 rfl) (by decide) (by simp [Op.lookupswitch.offset, ]) (by decide) ?_
  replace hyp := hyp hc0
  refine mf_lload_n (mf_dat eX12_qOf 2 rfl) rfl rfl ?_
  refine mf_lconst (v := 0) (mf_dat eX12_qOf 3 rfl) (by decide) ?_
  refine mf_aload_n (mf_dat eX12_qOf 4 rfl) rfl rfl ?_
  obtain ⟨ck4, hyp⟩ := hyp
  refine mf_callV (Yc := YX12_beingMany) (r := (RX12, TX12, 106)) (ci := 12) (mf_dat eX12_qOf 5 rfl) ml_X12_402 okX12_beingMany im_X12_beingMany sl_X12_beingMany rfl rfl rfl rfl (Nat.le_of_ble_eq_true rfl) (mf_rr (Nat.le_trans (by decide) hd) (Nat.le_refl _)) (Nat.le_refl _) ck4 hyp (fun r1 g2 h3 hyp => ?_)
  refine mf_iconst (v := 1) (mf_dat eX12_qOf 6 rfl) (by decide) ?_
  refine mf_isub (mf_dat eX12_qOf 7 rfl) ?_
  refine mf_i2l (mf_dat eX12_qOf 8 rfl) ?_
  refine mf_callS (Yc := YX12_isIn) (mf_dat eX12_qOf 9 rfl) ml_X12_286 okX12_isIn sm_X12_isIn rfl rfl (Nat.le_of_ble_eq_true rfl) (mf_rr (Nat.le_trans (by decide) hd) (Nat.le_refl _)) (Nat.le_refl _) hyp (fun r5 g6 h7 hyp => ?_)
  refine mf_if_eq (tgt := 54) (mf_dat eX12_qOf 10 rfl) (by decide) (fun hc => ?_) (fun hc => ?_)
  · replace hyp := hyp.1 hc
    refine mf_lconst (v := 0) (mf_dat eX12_qOf 26 rfl) (by decide) ?_
    exact mf_lreturn (mf_dat eX12_qOf 27 rfl) rfl hyp
  · replace hyp := hyp.2 hc
    refine mf_lload_n (mf_dat eX12_qOf 11 rfl) rfl rfl ?_
    refine mf_iload (mf_dat eX12_qOf 12 rfl) rfl ?_
    refine mf_i2l (mf_dat eX12_qOf 13 rfl) ?_
    refine mf_lcmp_eq (tgt := 54) (mf_dat eX12_qOf 14 rfl) (mf_dat eX12_qOf 15 rfl) (by decide) (fun hc => ?_) (fun hc => ?_)
    · replace hyp := hyp.1 hc
      refine mf_lconst (v := 0) (mf_dat eX12_qOf 26 rfl) (by decide) ?_
      exact mf_lreturn (mf_dat eX12_qOf 27 rfl) rfl hyp
    · replace hyp := hyp.2 hc
      refine mf_aload_n (mf_dat eX12_qOf 16 rfl) rfl rfl ?_
      refine mf_iload (mf_dat eX12_qOf 17 rfl) rfl ?_
      refine mf_lload_n (mf_dat eX12_qOf 18 rfl) rfl rfl ?_
      refine mf_l2i (mf_dat eX12_qOf 19 rfl) ?_
      refine mf_aload_n (mf_dat eX12_qOf 20 rfl) rfl rfl ?_
      refine mf_getf (r := (RX12, TX12, 106)) (ci := 12) (k := 59) (t := 0) (v := h7 x0 59) (mf_dat eX12_qOf 21 rfl) fl_X12_468 rfl (by decide) rfl rfl ck4 ?_
      refine mf_callV (Yc := YX12_doMeet) (r := (RX12, TX12, 106)) (ci := 12) (mf_dat eX12_qOf 22 rfl) ml_X12_471 okX12_doMeet im_X12_doMeet sl_X12_doMeet rfl rfl rfl rfl (Nat.le_of_ble_eq_true rfl) (mf_rr (Nat.le_trans (by decide) hd) (Nat.le_refl _)) (Nat.le_refl _) ck4 hyp (fun r8 g9 h10 hyp => ?_)
      refine mf_if_eq (tgt := 54) (mf_dat eX12_qOf 23 rfl) (by decide) (fun hc => ?_) (fun hc => ?_)
      · replace hyp := hyp.1 hc
        refine mf_lconst (v := 0) (mf_dat eX12_qOf 26 rfl) (by decide) ?_
        exact mf_lreturn (mf_dat eX12_qOf 27 rfl) rfl hyp
      · replace hyp := hyp.2 hc
        refine mf_lconst (v := 1) (mf_dat eX12_qOf 24 rfl) (by decide) ?_
        refine mf_goto (tgt := 55) (mf_dat eX12_qOf 25 rfl) (by decide) ?_
        exact mf_lreturn (mf_dat eX12_qOf 27 rfl) rfl hyp
abbrev JX12_qTold_7 (C : mf_G) (l : Launch) (d n : Nat) (K : mf_Kt) (x0 x1 x2 : Int) (g h : mf_M) : Prop := mf_AW C l YX12_qTold (mf_rm d n n) n (mf_Zm C YX12_qTold n n K) (fun _ _ => True) 7 [(0, (2, x0)), (1, (0, x1)), (2, (0, x2))] [] n g h
set_option maxRecDepth 100000 in
set_option maxHeartbeats 4000000 in
theorem bX12_qTold_7 {C : mf_G} {l : Launch} {d n : Nat} {K : mf_Kt} {x0 x1 x2 : Int} {g h : mf_M} (hd : 4 ≤ d) (hyp : mf_is n x0 12 ∧ ((h x0 95 ≤ x2 → mf_is n (g x0 100) 24 ∧ 0 < mf_len (g x0 100) ∧ K (h (g x0 100) 0) g h) ∧ (¬ h x0 95 ≤ x2 → mf_is n (g x0 94) 20 ∧ 0 ≤ x2 ∧ x2 < mf_len (g x0 94) ∧ (∀ v7 : Int, v7 = h (g x0 94) x2 → ((v7 < 1000 → ((v7 < 60 → ((v7 < 40 → ((¬ v7 = 13 → ((¬ v7 = 12 → mf_MT C l 1 YX12_qJoins [(2, x0), (0, v7)] n n g h (fun r8 g9 h10 => (∀ v11 : Int, v11 = mf_w32 (x2 + 1) → JX12_qTold_7 C l d n K x0 x1 v11 g9 h10))) ∧ (v7 = 12 → mf_is n (g x0 100) 24 ∧ 0 ≤ mf_w32 ((h x0 101) - 1) ∧ mf_w32 ((h x0 101) - 1) < mf_len (g x0 100) ∧ (∀ h15 : mf_M, h15 = mf_up h (g x0 100) (mf_w32 ((h x0 101) - 1)) (mf_w64 (1 - (h (g x0 100) (mf_w32 ((h x0 101) - 1))))) → (∀ v16 : Int, v16 = mf_w32 (x2 + 1) → JX12_qTold_7 C l d n K x0 x1 v16 g h15))))) ∧ (v7 = 13 → mf_MT C l 0 YX12_qPuts [(2, x0), (1, 1)] n n g h (fun r17 g18 h19 => (∀ v20 : Int, v20 = mf_w32 (x2 + 1) → JX12_qTold_7 C l d n K x0 x1 v20 g18 h19))))) ∧ (¬ v7 < 40 → mf_MT C l 1 YX12_qPartOf [(2, x0), (0, mf_w32 (v7 - 40)), (0, x1)] n n g h (fun r21 g22 h23 => mf_MT C l 0 YX12_qClip [(1, r21)] n n g22 h23 (fun r24 g25 h26 => mf_MT C l 0 YX12_qPuts [(2, x0), (1, r24)] n n g25 h26 (fun r27 g28 h29 => (∀ v30 : Int, v30 = mf_w32 (x2 + 1) → JX12_qTold_7 C l d n K x0 x1 v30 g28 h29))))))) ∧ (¬ v7 < 60 → mf_is n (g x0 100) 24 ∧ 0 ≤ mf_w32 ((h x0 101) - 1) ∧ mf_w32 ((h x0 101) - 1) < mf_len (g x0 100) ∧ mf_MT C l 3 YX12_qOf [(2, x0), (0, mf_w32 (v7 - 60)), (1, h (g x0 100) (mf_w32 ((h x0 101) - 1))), (0, x1)] n n g h (fun r34 g35 h36 => mf_MT C l 0 YX12_qClip [(1, r34)] n n g35 h36 (fun r37 g38 h39 => (∀ h40 : mf_M, h40 = mf_up h39 (g x0 100) (mf_w32 ((h x0 101) - 1)) r37 → (∀ v41 : Int, v41 = mf_w32 (x2 + 1) → JX12_qTold_7 C l d n K x0 x1 v41 g38 h40))))))) ∧ (¬ v7 < 1000 → mf_MT C l 0 YX12_qPuts [(2, x0), (1, mf_w32 (v7 - 1000))] n n g h (fun r42 g43 h44 => (∀ v45 : Int, v45 = mf_w32 (x2 + 1) → JX12_qTold_7 C l d n K x0 x1 v45 g43 h44)))))))) : JX12_qTold_7 C l d n K x0 x1 x2 g h := by
  refine mf_iload_n (mf_dat eX12_qTold_p0 5 rfl) rfl rfl ?_
  refine mf_aload_n (mf_dat eX12_qTold_p0 6 rfl) rfl rfl ?_
  obtain ⟨ck1, hyp⟩ := hyp
  refine mf_getf (r := (RX12, TX12, 106)) (ci := 12) (k := 95) (t := 0) (v := h x0 95) (mf_dat eX12_qTold_p0 7 rfl) fl_X12_338 rfl (by decide) rfl rfl ck1 ?_
  refine mf_icmp_ge (tgt := 168) (mf_dat eX12_qTold_p0 8 rfl) (by decide) (fun hc => ?_) (fun hc => ?_)
  · replace hyp := hyp.1 hc
    refine mf_aload_n (mf_dat eX12_qTold_p1 34 rfl) rfl rfl ?_
    refine mf_getf (r := (RX12, TX12, 106)) (ci := 12) (k := 100) (t := 2) (v := g x0 100) (mf_dat eX12_qTold_p1 35 rfl) fl_X12_234 rfl (by decide) rfl rfl ck1 ?_
    refine mf_iconst (v := 0) (mf_dat eX12_qTold_p1 36 rfl) (by decide) ?_
    obtain ⟨ck2, hyp⟩ := hyp
    obtain ⟨ck3, hyp⟩ := hyp
    refine mf_lald (mf_dat eX12_qTold_p1 37 rfl) ck2 (by decide) ck3 ?_
    exact mf_lreturn (mf_dat eX12_qTold_p1 38 rfl) rfl hyp
  · replace hyp := hyp.2 hc
    refine mf_aload_n (mf_dat eX12_qTold_p0 9 rfl) rfl rfl ?_
    refine mf_getf (r := (RX12, TX12, 106)) (ci := 12) (k := 94) (t := 2) (v := g x0 94) (mf_dat eX12_qTold_p0 10 rfl) fl_X12_228 rfl (by decide) rfl rfl ck1 ?_
    refine mf_iload_n (mf_dat eX12_qTold_p0 11 rfl) rfl rfl ?_
    obtain ⟨ck4, hyp⟩ := hyp
    obtain ⟨ck5, hyp⟩ := hyp
    obtain ⟨ck6, hyp⟩ := hyp
    refine mf_iald (mf_dat eX12_qTold_p0 12 rfl) ck4 ck5 ck6 ?_
    generalize qv7 : h (g x0 94) x2 = v7
    replace hyp := hyp _ qv7.symm
    refine mf_istore_n (mf_dat eX12_qTold_p0 13 rfl) rfl (by decide) ?_
    refine mf_iload_n (mf_dat eX12_qTold_p0 14 rfl) rfl rfl ?_
    refine mf_sipush (v := 1000) (mf_dat eX12_qTold_p0 15 rfl) (by decide) ?_
    refine mf_icmp_lt (tgt := 42) (mf_dat eX12_qTold_p0 16 rfl) (by decide) (fun hc => ?_) (fun hc => ?_)
    · replace hyp := hyp.1 hc
      refine mf_iload_n (mf_dat eX12_qTold_p0 24 rfl) rfl rfl ?_
      refine mf_bipush (v := 60) (mf_dat eX12_qTold_p0 25 rfl) (by decide) ?_
      refine mf_icmp_lt (tgt := 85) (mf_dat eX12_qTold_p0 26 rfl) (by decide) (fun hc => ?_) (fun hc => ?_)
      · replace hyp := hyp.1 hc
        refine mf_iload_n (mf_dat eX12_qTold_p0 49 rfl) rfl rfl ?_
        refine mf_bipush (v := 40) (mf_dat eX12_qTold_p0 50 rfl) (by decide) ?_
        refine mf_icmp_lt (tgt := 110) (mf_dat eX12_qTold_p0 51 rfl) (by decide) (fun hc => ?_) (fun hc => ?_)
        · replace hyp := hyp.1 hc
          refine mf_iload_n (mf_dat eX12_qTold_p1 2 rfl) rfl rfl ?_
          refine mf_bipush (v := 13) (mf_dat eX12_qTold_p1 3 rfl) (by decide) ?_
          refine mf_icmp_ne (tgt := 124) (mf_dat eX12_qTold_p1 4 rfl) (by decide) (fun hc => ?_) (fun hc => ?_)
          · replace hyp := hyp.1 hc
            refine mf_iload_n (mf_dat eX12_qTold_p1 9 rfl) rfl rfl ?_
            refine mf_bipush (v := 12) (mf_dat eX12_qTold_p1 10 rfl) (by decide) ?_
            refine mf_icmp_ne (tgt := 157) (mf_dat eX12_qTold_p1 11 rfl) (by decide) (fun hc => ?_) (fun hc => ?_)
            · replace hyp := hyp.1 hc
              refine mf_aload_n (mf_dat eX12_qTold_p1 29 rfl) rfl rfl ?_
              refine mf_iload_n (mf_dat eX12_qTold_p1 30 rfl) rfl rfl ?_
              refine mf_callV (Yc := YX12_qJoins) (r := (RX12, TX12, 106)) (ci := 12) (mf_dat eX12_qTold_p1 31 rfl) ml_X12_433 okX12_qJoins im_X12_qJoins sl_X12_qJoins rfl rfl rfl rfl (Nat.le_of_ble_eq_true rfl) (mf_rr (Nat.le_trans (by decide) hd) (Nat.le_refl _)) (Nat.le_refl _) ck1 hyp (fun r8 g9 h10 hyp => ?_)
              refine mf_iinc (mf_dat eX12_qTold_p1 32 rfl) rfl (by decide) (by decide) ?_
              generalize qv11 : mf_w32 (x2 + 1) = v11
              replace hyp := hyp _ qv11.symm
              refine mf_goto (tgt := 7) (mf_dat eX12_qTold_p1 33 rfl) (by decide) ?_
              exact mf_sub [2, 3, 0] rfl hyp
            · replace hyp := hyp.2 hc
              refine mf_aload_n (mf_dat eX12_qTold_p1 12 rfl) rfl rfl ?_
              refine mf_getf (r := (RX12, TX12, 106)) (ci := 12) (k := 100) (t := 2) (v := g x0 100) (mf_dat eX12_qTold_p1 13 rfl) fl_X12_234 rfl (by decide) rfl rfl ck1 ?_
              refine mf_aload_n (mf_dat eX12_qTold_p1 14 rfl) rfl rfl ?_
              refine mf_getf (r := (RX12, TX12, 106)) (ci := 12) (k := 101) (t := 0) (v := h x0 101) (mf_dat eX12_qTold_p1 15 rfl) fl_X12_422 rfl (by decide) rfl rfl ck1 ?_
              refine mf_iconst (v := 1) (mf_dat eX12_qTold_p1 16 rfl) (by decide) ?_
              refine mf_isub (mf_dat eX12_qTold_p1 17 rfl) ?_
              refine mf_lconst (v := 1) (mf_dat eX12_qTold_p1 18 rfl) (by decide) ?_
              refine mf_aload_n (mf_dat eX12_qTold_p1 19 rfl) rfl rfl ?_
              refine mf_getf (r := (RX12, TX12, 106)) (ci := 12) (k := 100) (t := 2) (v := g x0 100) (mf_dat eX12_qTold_p1 20 rfl) fl_X12_234 rfl (by decide) rfl rfl ck1 ?_
              refine mf_aload_n (mf_dat eX12_qTold_p1 21 rfl) rfl rfl ?_
              refine mf_getf (r := (RX12, TX12, 106)) (ci := 12) (k := 101) (t := 0) (v := h x0 101) (mf_dat eX12_qTold_p1 22 rfl) fl_X12_422 rfl (by decide) rfl rfl ck1 ?_
              refine mf_iconst (v := 1) (mf_dat eX12_qTold_p1 23 rfl) (by decide) ?_
              refine mf_isub (mf_dat eX12_qTold_p1 24 rfl) ?_
              obtain ⟨ck12, hyp⟩ := hyp
              obtain ⟨ck13, hyp⟩ := hyp
              obtain ⟨ck14, hyp⟩ := hyp
              refine mf_lald (mf_dat eX12_qTold_p1 25 rfl) ck12 ck13 ck14 ?_
              refine mf_lsub (mf_dat eX12_qTold_p1 26 rfl) ?_
              refine mf_last (mf_dat eX12_qTold_p1 27 rfl) ck12 ck13 ck14 ?_
              generalize qh15 : mf_up h (g x0 100) (mf_w32 ((h x0 101) - 1)) (mf_w64 (1 - (h (g x0 100) (mf_w32 ((h x0 101) - 1))))) = h15
              replace hyp := hyp _ qh15.symm
              refine mf_goto (tgt := 162) (mf_dat eX12_qTold_p1 28 rfl) (by decide) ?_
              refine mf_iinc (mf_dat eX12_qTold_p1 32 rfl) rfl (by decide) (by decide) ?_
              generalize qv16 : mf_w32 (x2 + 1) = v16
              replace hyp := hyp _ qv16.symm
              refine mf_goto (tgt := 7) (mf_dat eX12_qTold_p1 33 rfl) (by decide) ?_
              exact mf_sub [2, 3, 0] rfl hyp
          · replace hyp := hyp.2 hc
            refine mf_aload_n (mf_dat eX12_qTold_p1 5 rfl) rfl rfl ?_
            refine mf_lconst (v := 1) (mf_dat eX12_qTold_p1 6 rfl) (by decide) ?_
            refine mf_callV (Yc := YX12_qPuts) (r := (RX12, TX12, 106)) (ci := 12) (mf_dat eX12_qTold_p1 7 rfl) ml_X12_425 okX12_qPuts im_X12_qPuts sl_X12_qPuts rfl rfl rfl rfl (Nat.le_of_ble_eq_true rfl) (mf_rr (Nat.le_trans (by decide) hd) (Nat.le_refl _)) (Nat.le_refl _) ck1 hyp (fun r17 g18 h19 hyp => ?_)
            refine mf_goto (tgt := 162) (mf_dat eX12_qTold_p1 8 rfl) (by decide) ?_
            refine mf_iinc (mf_dat eX12_qTold_p1 32 rfl) rfl (by decide) (by decide) ?_
            generalize qv20 : mf_w32 (x2 + 1) = v20
            replace hyp := hyp _ qv20.symm
            refine mf_goto (tgt := 7) (mf_dat eX12_qTold_p1 33 rfl) (by decide) ?_
            exact mf_sub [2, 3, 0] rfl hyp
        · replace hyp := hyp.2 hc
          refine mf_aload_n (mf_dat eX12_qTold_p0 52 rfl) rfl rfl ?_
          refine mf_aload_n (mf_dat eX12_qTold_p0 53 rfl) rfl rfl ?_
          refine mf_iload_n (mf_dat eX12_qTold_p0 54 rfl) rfl rfl ?_
          refine mf_bipush (v := 40) (mf_dat eX12_qTold_p0 55 rfl) (by decide) ?_
          refine mf_isub (mf_dat eX12_qTold_p0 56 rfl) ?_
          refine mf_iload_n (mf_dat eX12_qTold_p0 57 rfl) rfl rfl ?_
          refine mf_callV (Yc := YX12_qPartOf) (r := (RX12, TX12, 106)) (ci := 12) (mf_dat eX12_qTold_p0 58 rfl) ml_X12_429 okX12_qPartOf im_X12_qPartOf sl_X12_qPartOf rfl rfl rfl rfl (Nat.le_of_ble_eq_true rfl) (mf_rr (Nat.le_trans (by decide) hd) (Nat.le_refl _)) (Nat.le_refl _) ck1 hyp (fun r21 g22 h23 hyp => ?_)
          refine mf_callS (Yc := YX12_qClip) (mf_dat eX12_qTold_p0 59 rfl) ml_X12_636 okX12_qClip sm_X12_qClip rfl rfl (Nat.le_of_ble_eq_true rfl) (mf_rr (Nat.le_trans (by decide) hd) (Nat.le_refl _)) (Nat.le_refl _) hyp (fun r24 g25 h26 hyp => ?_)
          refine mf_callV (Yc := YX12_qPuts) (r := (RX12, TX12, 106)) (ci := 12) (mf_dat eX12_qTold_p1 0 rfl) ml_X12_425 okX12_qPuts im_X12_qPuts sl_X12_qPuts rfl rfl rfl rfl (Nat.le_of_ble_eq_true rfl) (mf_rr (Nat.le_trans (by decide) hd) (Nat.le_refl _)) (Nat.le_refl _) ck1 hyp (fun r27 g28 h29 hyp => ?_)
          refine mf_goto (tgt := 162) (mf_dat eX12_qTold_p1 1 rfl) (by decide) ?_
          refine mf_iinc (mf_dat eX12_qTold_p1 32 rfl) rfl (by decide) (by decide) ?_
          generalize qv30 : mf_w32 (x2 + 1) = v30
          replace hyp := hyp _ qv30.symm
          refine mf_goto (tgt := 7) (mf_dat eX12_qTold_p1 33 rfl) (by decide) ?_
          exact mf_sub [2, 3, 0] rfl hyp
      · replace hyp := hyp.2 hc
        refine mf_aload_n (mf_dat eX12_qTold_p0 27 rfl) rfl rfl ?_
        refine mf_getf (r := (RX12, TX12, 106)) (ci := 12) (k := 100) (t := 2) (v := g x0 100) (mf_dat eX12_qTold_p0 28 rfl) fl_X12_234 rfl (by decide) rfl rfl ck1 ?_
        refine mf_aload_n (mf_dat eX12_qTold_p0 29 rfl) rfl rfl ?_
        refine mf_getf (r := (RX12, TX12, 106)) (ci := 12) (k := 101) (t := 0) (v := h x0 101) (mf_dat eX12_qTold_p0 30 rfl) fl_X12_422 rfl (by decide) rfl rfl ck1 ?_
        refine mf_iconst (v := 1) (mf_dat eX12_qTold_p0 31 rfl) (by decide) ?_
        refine mf_isub (mf_dat eX12_qTold_p0 32 rfl) ?_
        refine mf_aload_n (mf_dat eX12_qTold_p0 33 rfl) rfl rfl ?_
        refine mf_iload_n (mf_dat eX12_qTold_p0 34 rfl) rfl rfl ?_
        refine mf_bipush (v := 60) (mf_dat eX12_qTold_p0 35 rfl) (by decide) ?_
        refine mf_isub (mf_dat eX12_qTold_p0 36 rfl) ?_
        refine mf_aload_n (mf_dat eX12_qTold_p0 37 rfl) rfl rfl ?_
        refine mf_getf (r := (RX12, TX12, 106)) (ci := 12) (k := 100) (t := 2) (v := g x0 100) (mf_dat eX12_qTold_p0 38 rfl) fl_X12_234 rfl (by decide) rfl rfl ck1 ?_
        refine mf_aload_n (mf_dat eX12_qTold_p0 39 rfl) rfl rfl ?_
        refine mf_getf (r := (RX12, TX12, 106)) (ci := 12) (k := 101) (t := 0) (v := h x0 101) (mf_dat eX12_qTold_p0 40 rfl) fl_X12_422 rfl (by decide) rfl rfl ck1 ?_
        refine mf_iconst (v := 1) (mf_dat eX12_qTold_p0 41 rfl) (by decide) ?_
        refine mf_isub (mf_dat eX12_qTold_p0 42 rfl) ?_
        obtain ⟨ck31, hyp⟩ := hyp
        obtain ⟨ck32, hyp⟩ := hyp
        obtain ⟨ck33, hyp⟩ := hyp
        refine mf_lald (mf_dat eX12_qTold_p0 43 rfl) ck31 ck32 ck33 ?_
        refine mf_iload_n (mf_dat eX12_qTold_p0 44 rfl) rfl rfl ?_
        refine mf_callV (Yc := YX12_qOf) (r := (RX12, TX12, 106)) (ci := 12) (mf_dat eX12_qTold_p0 45 rfl) ml_X12_644 okX12_qOf im_X12_qOf sl_X12_qOf rfl rfl rfl rfl (Nat.le_of_ble_eq_true rfl) (mf_rr (Nat.le_trans (by decide) hd) (Nat.le_refl _)) (Nat.le_refl _) ck1 hyp (fun r34 g35 h36 hyp => ?_)
        refine mf_callS (Yc := YX12_qClip) (mf_dat eX12_qTold_p0 46 rfl) ml_X12_636 okX12_qClip sm_X12_qClip rfl rfl (Nat.le_of_ble_eq_true rfl) (mf_rr (Nat.le_trans (by decide) hd) (Nat.le_refl _)) (Nat.le_refl _) hyp (fun r37 g38 h39 hyp => ?_)
        refine mf_last (mf_dat eX12_qTold_p0 47 rfl) ck31 ck32 ck33 ?_
        generalize qh40 : mf_up h39 (g x0 100) (mf_w32 ((h x0 101) - 1)) r37 = h40
        replace hyp := hyp _ qh40.symm
        refine mf_goto (tgt := 162) (mf_dat eX12_qTold_p0 48 rfl) (by decide) ?_
        refine mf_iinc (mf_dat eX12_qTold_p1 32 rfl) rfl (by decide) (by decide) ?_
        generalize qv41 : mf_w32 (x2 + 1) = v41
        replace hyp := hyp _ qv41.symm
        refine mf_goto (tgt := 7) (mf_dat eX12_qTold_p1 33 rfl) (by decide) ?_
        exact mf_sub [2, 3, 0] rfl hyp
    · replace hyp := hyp.2 hc
      refine mf_aload_n (mf_dat eX12_qTold_p0 17 rfl) rfl rfl ?_
      refine mf_iload_n (mf_dat eX12_qTold_p0 18 rfl) rfl rfl ?_
      refine mf_sipush (v := 1000) (mf_dat eX12_qTold_p0 19 rfl) (by decide) ?_
      refine mf_isub (mf_dat eX12_qTold_p0 20 rfl) ?_
      refine mf_i2l (mf_dat eX12_qTold_p0 21 rfl) ?_
      refine mf_callV (Yc := YX12_qPuts) (r := (RX12, TX12, 106)) (ci := 12) (mf_dat eX12_qTold_p0 22 rfl) ml_X12_425 okX12_qPuts im_X12_qPuts sl_X12_qPuts rfl rfl rfl rfl (Nat.le_of_ble_eq_true rfl) (mf_rr (Nat.le_trans (by decide) hd) (Nat.le_refl _)) (Nat.le_refl _) ck1 hyp (fun r42 g43 h44 hyp => ?_)
      refine mf_goto (tgt := 162) (mf_dat eX12_qTold_p0 23 rfl) (by decide) ?_
      refine mf_iinc (mf_dat eX12_qTold_p1 32 rfl) rfl (by decide) (by decide) ?_
      generalize qv45 : mf_w32 (x2 + 1) = v45
      replace hyp := hyp _ qv45.symm
      refine mf_goto (tgt := 7) (mf_dat eX12_qTold_p1 33 rfl) (by decide) ?_
      exact mf_sub [2, 3, 0] rfl hyp
set_option maxRecDepth 100000 in
set_option maxHeartbeats 4000000 in
theorem mX12_qTold {C : mf_G} {l : Launch} {d n : Nat} {K : mf_Kt} {x0 x1 : Int} {g h : mf_M} (hyp : mf_is n x0 12 ∧ (∀ h2 : mf_M, h2 = mf_up h x0 101 0 → JX12_qTold_7 C l d n K x0 x1 0 g h2)) : mf_MT C l d YX12_qTold [(2, x0), (0, x1)] n n g h K := by
  refine mf_entry (by decide) (Nat.le_of_ble_eq_true rfl) ?_
  refine mf_aload_n (mf_dat eX12_qTold_p0 0 rfl) rfl rfl ?_
  refine mf_iconst (v := 0) (mf_dat eX12_qTold_p0 1 rfl) (by decide) ?_
  obtain ⟨ck1, hyp⟩ := hyp
  refine mf_putI (r := (RX12, TX12, 106)) (ci := 12) (k := 101) (kI := 101) (t := 0) (mf_dat eX12_qTold_p0 2 rfl) fl_X12_422 rfl rfl (by decide) rfl (by decide) rfl (by decide) (fun h9 => absurd h9 (by decide)) ck1 ?_
  generalize qh2 : mf_up h x0 101 0 = h2
  replace hyp := hyp _ qh2.symm
  refine mf_iconst (v := 0) (mf_dat eX12_qTold_p0 3 rfl) (by decide) ?_
  refine mf_istore_n (mf_dat eX12_qTold_p0 4 rfl) rfl (by decide) ?_
  exact mf_sub [1, 2, 0] rfl hyp
set_option maxRecDepth 100000 in
set_option maxHeartbeats 4000000 in
theorem mX12_qKind {C : mf_G} {l : Launch} {d n : Nat} {K : mf_Kt} {x0 : Int} {g h : mf_M} (hd : 4 ≤ d) (hyp : mf_is n x0 12 ∧ mf_MT C l 2 YX12_takes [(2, x0), (2, g x0 72)] n n g h (fun r2 g3 h4 => ((r2 = 0 → mf_MT C l 2 YX12_takes [(2, x0), (2, g3 x0 73)] n n g3 h4 (fun r5 g6 h7 => ((r5 = 0 → mf_MT C l 2 YX12_takes [(2, x0), (2, g6 x0 74)] n n g6 h7 (fun r8 g9 h10 => ((r8 = 0 → mf_MT C l 2 YX12_takes [(2, x0), (2, g9 x0 75)] n n g9 h10 (fun r11 g12 h13 => ((r11 = 0 → mf_MT C l 2 YX12_takes [(2, x0), (2, g12 x0 76)] n n g12 h13 (fun r14 g15 h16 => ((r14 = 0 → ((¬ 5 = 5 → K 5 g15 h16) ∧ (5 = 5 → mf_MT C l 3 YX12_asks [(2, x0), (2, g15 x0 77)] n n g15 h16 (fun r17 g18 h19 => K 5 g18 h19)))) ∧ (¬ r14 = 0 → ((¬ 4 = 5 → K 4 g15 h16) ∧ (4 = 5 → mf_MT C l 3 YX12_asks [(2, x0), (2, g15 x0 77)] n n g15 h16 (fun r20 g21 h22 => K 4 g21 h22))))))) ∧ (¬ r11 = 0 → ((¬ 3 = 5 → K 3 g12 h13) ∧ (3 = 5 → mf_MT C l 3 YX12_asks [(2, x0), (2, g12 x0 77)] n n g12 h13 (fun r23 g24 h25 => K 3 g24 h25))))))) ∧ (¬ r8 = 0 → ((¬ 2 = 5 → K 2 g9 h10) ∧ (2 = 5 → mf_MT C l 3 YX12_asks [(2, x0), (2, g9 x0 77)] n n g9 h10 (fun r26 g27 h28 => K 2 g27 h28))))))) ∧ (¬ r5 = 0 → ((¬ 1 = 5 → K 1 g6 h7) ∧ (1 = 5 → mf_MT C l 3 YX12_asks [(2, x0), (2, g6 x0 77)] n n g6 h7 (fun r29 g30 h31 => K 1 g30 h31))))))) ∧ (¬ r2 = 0 → ((¬ 0 = 5 → K 0 g3 h4) ∧ (0 = 5 → mf_MT C l 3 YX12_asks [(2, x0), (2, g3 x0 77)] n n g3 h4 (fun r32 g33 h34 => K 0 g33 h34))))))) : mf_MT C l d YX12_qKind [(2, x0)] n n g h K := by
  refine mf_entry (by decide) (Nat.le_of_ble_eq_true rfl) ?_
  refine mf_aload_n (mf_dat eX12_qKind 0 rfl) rfl rfl ?_
  refine mf_aload_n (mf_dat eX12_qKind 1 rfl) rfl rfl ?_
  obtain ⟨ck1, hyp⟩ := hyp
  refine mf_getf (r := (RX12, TX12, 106)) (ci := 12) (k := 72) (t := 2) (v := g x0 72) (mf_dat eX12_qKind 2 rfl) fl_X12_162 rfl (by decide) rfl rfl ck1 ?_
  refine mf_callV (Yc := YX12_takes) (r := (RX12, TX12, 106)) (ci := 12) (mf_dat eX12_qKind 3 rfl) ml_X12_270 okX12_takes im_X12_takes sl_X12_takes rfl rfl rfl rfl (Nat.le_of_ble_eq_true rfl) (mf_rr (Nat.le_trans (by decide) hd) (Nat.le_refl _)) (Nat.le_refl _) ck1 hyp (fun r2 g3 h4 hyp => ?_)
  refine mf_if_eq (tgt := 15) (mf_dat eX12_qKind 4 rfl) (by decide) (fun hc => ?_) (fun hc => ?_)
  · replace hyp := hyp.1 hc
    refine mf_aload_n (mf_dat eX12_qKind 7 rfl) rfl rfl ?_
    refine mf_aload_n (mf_dat eX12_qKind 8 rfl) rfl rfl ?_
    refine mf_getf (r := (RX12, TX12, 106)) (ci := 12) (k := 73) (t := 2) (v := g3 x0 73) (mf_dat eX12_qKind 9 rfl) fl_X12_165 rfl (by decide) rfl rfl ck1 ?_
    refine mf_callV (Yc := YX12_takes) (r := (RX12, TX12, 106)) (ci := 12) (mf_dat eX12_qKind 10 rfl) ml_X12_270 okX12_takes im_X12_takes sl_X12_takes rfl rfl rfl rfl (Nat.le_of_ble_eq_true rfl) (mf_rr (Nat.le_trans (by decide) hd) (Nat.le_refl _)) (Nat.le_refl _) ck1 hyp (fun r5 g6 h7 hyp => ?_)
    refine mf_if_eq (tgt := 30) (mf_dat eX12_qKind 11 rfl) (by decide) (fun hc => ?_) (fun hc => ?_)
    · replace hyp := hyp.1 hc
      refine mf_aload_n (mf_dat eX12_qKind 14 rfl) rfl rfl ?_
      refine mf_aload_n (mf_dat eX12_qKind 15 rfl) rfl rfl ?_
      refine mf_getf (r := (RX12, TX12, 106)) (ci := 12) (k := 74) (t := 2) (v := g6 x0 74) (mf_dat eX12_qKind 16 rfl) fl_X12_168 rfl (by decide) rfl rfl ck1 ?_
      refine mf_callV (Yc := YX12_takes) (r := (RX12, TX12, 106)) (ci := 12) (mf_dat eX12_qKind 17 rfl) ml_X12_270 okX12_takes im_X12_takes sl_X12_takes rfl rfl rfl rfl (Nat.le_of_ble_eq_true rfl) (mf_rr (Nat.le_trans (by decide) hd) (Nat.le_refl _)) (Nat.le_refl _) ck1 hyp (fun r8 g9 h10 hyp => ?_)
      refine mf_if_eq (tgt := 45) (mf_dat eX12_qKind 18 rfl) (by decide) (fun hc => ?_) (fun hc => ?_)
      · replace hyp := hyp.1 hc
        refine mf_aload_n (mf_dat eX12_qKind 21 rfl) rfl rfl ?_
        refine mf_aload_n (mf_dat eX12_qKind 22 rfl) rfl rfl ?_
        refine mf_getf (r := (RX12, TX12, 106)) (ci := 12) (k := 75) (t := 2) (v := g9 x0 75) (mf_dat eX12_qKind 23 rfl) fl_X12_171 rfl (by decide) rfl rfl ck1 ?_
        refine mf_callV (Yc := YX12_takes) (r := (RX12, TX12, 106)) (ci := 12) (mf_dat eX12_qKind 24 rfl) ml_X12_270 okX12_takes im_X12_takes sl_X12_takes rfl rfl rfl rfl (Nat.le_of_ble_eq_true rfl) (mf_rr (Nat.le_trans (by decide) hd) (Nat.le_refl _)) (Nat.le_refl _) ck1 hyp (fun r11 g12 h13 hyp => ?_)
        refine mf_if_eq (tgt := 60) (mf_dat eX12_qKind 25 rfl) (by decide) (fun hc => ?_) (fun hc => ?_)
        · replace hyp := hyp.1 hc
          refine mf_aload_n (mf_dat eX12_qKind 28 rfl) rfl rfl ?_
          refine mf_aload_n (mf_dat eX12_qKind 29 rfl) rfl rfl ?_
          refine mf_getf (r := (RX12, TX12, 106)) (ci := 12) (k := 76) (t := 2) (v := g12 x0 76) (mf_dat eX12_qKind 30 rfl) fl_X12_174 rfl (by decide) rfl rfl ck1 ?_
          refine mf_callV (Yc := YX12_takes) (r := (RX12, TX12, 106)) (ci := 12) (mf_dat eX12_qKind 31 rfl) ml_X12_270 okX12_takes im_X12_takes sl_X12_takes rfl rfl rfl rfl (Nat.le_of_ble_eq_true rfl) (mf_rr (Nat.le_trans (by decide) hd) (Nat.le_refl _)) (Nat.le_refl _) ck1 hyp (fun r14 g15 h16 hyp => ?_)
          refine mf_if_eq (tgt := 75) (mf_dat eX12_qKind 32 rfl) (by decide) (fun hc => ?_) (fun hc => ?_)
          · replace hyp := hyp.1 hc
            refine mf_iconst (v := 5) (mf_dat eX12_qKind 35 rfl) (by decide) ?_
            refine mf_istore_n (mf_dat eX12_qKind 36 rfl) rfl (by decide) ?_
            refine mf_iload_n (mf_dat eX12_qKind 37 rfl) rfl rfl ?_
            refine mf_iconst (v := 5) (mf_dat eX12_qKind 38 rfl) (by decide) ?_
            refine mf_icmp_ne (tgt := 90) (mf_dat eX12_qKind 39 rfl) (by decide) (fun hc => ?_) (fun hc => ?_)
            · replace hyp := hyp.1 hc
              refine mf_iload_n (mf_dat eX12_qKind 44 rfl) rfl rfl ?_
              exact mf_ireturn (mf_dat eX12_qKind 45 rfl) rfl (Or.inl rfl) hyp
            · replace hyp := hyp.2 hc
              refine mf_aload_n (mf_dat eX12_qKind 40 rfl) rfl rfl ?_
              refine mf_aload_n (mf_dat eX12_qKind 41 rfl) rfl rfl ?_
              refine mf_getf (r := (RX12, TX12, 106)) (ci := 12) (k := 77) (t := 2) (v := g15 x0 77) (mf_dat eX12_qKind 42 rfl) fl_X12_177 rfl (by decide) rfl rfl ck1 ?_
              refine mf_callV (Yc := YX12_asks) (r := (RX12, TX12, 106)) (ci := 12) (mf_dat eX12_qKind 43 rfl) ml_X12_304 okX12_asks im_X12_asks sl_X12_asks rfl rfl rfl rfl (Nat.le_of_ble_eq_true rfl) (mf_rr (Nat.le_trans (by decide) hd) (Nat.le_refl _)) (Nat.le_refl _) ck1 hyp (fun r17 g18 h19 hyp => ?_)
              refine mf_iload_n (mf_dat eX12_qKind 44 rfl) rfl rfl ?_
              exact mf_ireturn (mf_dat eX12_qKind 45 rfl) rfl (Or.inl rfl) hyp
          · replace hyp := hyp.2 hc
            refine mf_iconst (v := 4) (mf_dat eX12_qKind 33 rfl) (by decide) ?_
            refine mf_goto (tgt := 76) (mf_dat eX12_qKind 34 rfl) (by decide) ?_
            refine mf_istore_n (mf_dat eX12_qKind 36 rfl) rfl (by decide) ?_
            refine mf_iload_n (mf_dat eX12_qKind 37 rfl) rfl rfl ?_
            refine mf_iconst (v := 5) (mf_dat eX12_qKind 38 rfl) (by decide) ?_
            refine mf_icmp_ne (tgt := 90) (mf_dat eX12_qKind 39 rfl) (by decide) (fun hc => ?_) (fun hc => ?_)
            · replace hyp := hyp.1 hc
              refine mf_iload_n (mf_dat eX12_qKind 44 rfl) rfl rfl ?_
              exact mf_ireturn (mf_dat eX12_qKind 45 rfl) rfl (Or.inl rfl) hyp
            · replace hyp := hyp.2 hc
              refine mf_aload_n (mf_dat eX12_qKind 40 rfl) rfl rfl ?_
              refine mf_aload_n (mf_dat eX12_qKind 41 rfl) rfl rfl ?_
              refine mf_getf (r := (RX12, TX12, 106)) (ci := 12) (k := 77) (t := 2) (v := g15 x0 77) (mf_dat eX12_qKind 42 rfl) fl_X12_177 rfl (by decide) rfl rfl ck1 ?_
              refine mf_callV (Yc := YX12_asks) (r := (RX12, TX12, 106)) (ci := 12) (mf_dat eX12_qKind 43 rfl) ml_X12_304 okX12_asks im_X12_asks sl_X12_asks rfl rfl rfl rfl (Nat.le_of_ble_eq_true rfl) (mf_rr (Nat.le_trans (by decide) hd) (Nat.le_refl _)) (Nat.le_refl _) ck1 hyp (fun r20 g21 h22 hyp => ?_)
              refine mf_iload_n (mf_dat eX12_qKind 44 rfl) rfl rfl ?_
              exact mf_ireturn (mf_dat eX12_qKind 45 rfl) rfl (Or.inl rfl) hyp
        · replace hyp := hyp.2 hc
          refine mf_iconst (v := 3) (mf_dat eX12_qKind 26 rfl) (by decide) ?_
          refine mf_goto (tgt := 76) (mf_dat eX12_qKind 27 rfl) (by decide) ?_
          refine mf_istore_n (mf_dat eX12_qKind 36 rfl) rfl (by decide) ?_
          refine mf_iload_n (mf_dat eX12_qKind 37 rfl) rfl rfl ?_
          refine mf_iconst (v := 5) (mf_dat eX12_qKind 38 rfl) (by decide) ?_
          refine mf_icmp_ne (tgt := 90) (mf_dat eX12_qKind 39 rfl) (by decide) (fun hc => ?_) (fun hc => ?_)
          · replace hyp := hyp.1 hc
            refine mf_iload_n (mf_dat eX12_qKind 44 rfl) rfl rfl ?_
            exact mf_ireturn (mf_dat eX12_qKind 45 rfl) rfl (Or.inl rfl) hyp
          · replace hyp := hyp.2 hc
            refine mf_aload_n (mf_dat eX12_qKind 40 rfl) rfl rfl ?_
            refine mf_aload_n (mf_dat eX12_qKind 41 rfl) rfl rfl ?_
            refine mf_getf (r := (RX12, TX12, 106)) (ci := 12) (k := 77) (t := 2) (v := g12 x0 77) (mf_dat eX12_qKind 42 rfl) fl_X12_177 rfl (by decide) rfl rfl ck1 ?_
            refine mf_callV (Yc := YX12_asks) (r := (RX12, TX12, 106)) (ci := 12) (mf_dat eX12_qKind 43 rfl) ml_X12_304 okX12_asks im_X12_asks sl_X12_asks rfl rfl rfl rfl (Nat.le_of_ble_eq_true rfl) (mf_rr (Nat.le_trans (by decide) hd) (Nat.le_refl _)) (Nat.le_refl _) ck1 hyp (fun r23 g24 h25 hyp => ?_)
            refine mf_iload_n (mf_dat eX12_qKind 44 rfl) rfl rfl ?_
            exact mf_ireturn (mf_dat eX12_qKind 45 rfl) rfl (Or.inl rfl) hyp
      · replace hyp := hyp.2 hc
        refine mf_iconst (v := 2) (mf_dat eX12_qKind 19 rfl) (by decide) ?_
        refine mf_goto (tgt := 76) (mf_dat eX12_qKind 20 rfl) (by decide) ?_
        refine mf_istore_n (mf_dat eX12_qKind 36 rfl) rfl (by decide) ?_
        refine mf_iload_n (mf_dat eX12_qKind 37 rfl) rfl rfl ?_
        refine mf_iconst (v := 5) (mf_dat eX12_qKind 38 rfl) (by decide) ?_
        refine mf_icmp_ne (tgt := 90) (mf_dat eX12_qKind 39 rfl) (by decide) (fun hc => ?_) (fun hc => ?_)
        · replace hyp := hyp.1 hc
          refine mf_iload_n (mf_dat eX12_qKind 44 rfl) rfl rfl ?_
          exact mf_ireturn (mf_dat eX12_qKind 45 rfl) rfl (Or.inl rfl) hyp
        · replace hyp := hyp.2 hc
          refine mf_aload_n (mf_dat eX12_qKind 40 rfl) rfl rfl ?_
          refine mf_aload_n (mf_dat eX12_qKind 41 rfl) rfl rfl ?_
          refine mf_getf (r := (RX12, TX12, 106)) (ci := 12) (k := 77) (t := 2) (v := g9 x0 77) (mf_dat eX12_qKind 42 rfl) fl_X12_177 rfl (by decide) rfl rfl ck1 ?_
          refine mf_callV (Yc := YX12_asks) (r := (RX12, TX12, 106)) (ci := 12) (mf_dat eX12_qKind 43 rfl) ml_X12_304 okX12_asks im_X12_asks sl_X12_asks rfl rfl rfl rfl (Nat.le_of_ble_eq_true rfl) (mf_rr (Nat.le_trans (by decide) hd) (Nat.le_refl _)) (Nat.le_refl _) ck1 hyp (fun r26 g27 h28 hyp => ?_)
          refine mf_iload_n (mf_dat eX12_qKind 44 rfl) rfl rfl ?_
          exact mf_ireturn (mf_dat eX12_qKind 45 rfl) rfl (Or.inl rfl) hyp
    · replace hyp := hyp.2 hc
      refine mf_iconst (v := 1) (mf_dat eX12_qKind 12 rfl) (by decide) ?_
      refine mf_goto (tgt := 76) (mf_dat eX12_qKind 13 rfl) (by decide) ?_
      refine mf_istore_n (mf_dat eX12_qKind 36 rfl) rfl (by decide) ?_
      refine mf_iload_n (mf_dat eX12_qKind 37 rfl) rfl rfl ?_
      refine mf_iconst (v := 5) (mf_dat eX12_qKind 38 rfl) (by decide) ?_
      refine mf_icmp_ne (tgt := 90) (mf_dat eX12_qKind 39 rfl) (by decide) (fun hc => ?_) (fun hc => ?_)
      · replace hyp := hyp.1 hc
        refine mf_iload_n (mf_dat eX12_qKind 44 rfl) rfl rfl ?_
        exact mf_ireturn (mf_dat eX12_qKind 45 rfl) rfl (Or.inl rfl) hyp
      · replace hyp := hyp.2 hc
        refine mf_aload_n (mf_dat eX12_qKind 40 rfl) rfl rfl ?_
        refine mf_aload_n (mf_dat eX12_qKind 41 rfl) rfl rfl ?_
        refine mf_getf (r := (RX12, TX12, 106)) (ci := 12) (k := 77) (t := 2) (v := g6 x0 77) (mf_dat eX12_qKind 42 rfl) fl_X12_177 rfl (by decide) rfl rfl ck1 ?_
        refine mf_callV (Yc := YX12_asks) (r := (RX12, TX12, 106)) (ci := 12) (mf_dat eX12_qKind 43 rfl) ml_X12_304 okX12_asks im_X12_asks sl_X12_asks rfl rfl rfl rfl (Nat.le_of_ble_eq_true rfl) (mf_rr (Nat.le_trans (by decide) hd) (Nat.le_refl _)) (Nat.le_refl _) ck1 hyp (fun r29 g30 h31 hyp => ?_)
        refine mf_iload_n (mf_dat eX12_qKind 44 rfl) rfl rfl ?_
        exact mf_ireturn (mf_dat eX12_qKind 45 rfl) rfl (Or.inl rfl) hyp
  · replace hyp := hyp.2 hc
    refine mf_iconst (v := 0) (mf_dat eX12_qKind 5 rfl) (by decide) ?_
    refine mf_goto (tgt := 76) (mf_dat eX12_qKind 6 rfl) (by decide) ?_
    refine mf_istore_n (mf_dat eX12_qKind 36 rfl) rfl (by decide) ?_
    refine mf_iload_n (mf_dat eX12_qKind 37 rfl) rfl rfl ?_
    refine mf_iconst (v := 5) (mf_dat eX12_qKind 38 rfl) (by decide) ?_
    refine mf_icmp_ne (tgt := 90) (mf_dat eX12_qKind 39 rfl) (by decide) (fun hc => ?_) (fun hc => ?_)
    · replace hyp := hyp.1 hc
      refine mf_iload_n (mf_dat eX12_qKind 44 rfl) rfl rfl ?_
      exact mf_ireturn (mf_dat eX12_qKind 45 rfl) rfl (Or.inl rfl) hyp
    · replace hyp := hyp.2 hc
      refine mf_aload_n (mf_dat eX12_qKind 40 rfl) rfl rfl ?_
      refine mf_aload_n (mf_dat eX12_qKind 41 rfl) rfl rfl ?_
      refine mf_getf (r := (RX12, TX12, 106)) (ci := 12) (k := 77) (t := 2) (v := g3 x0 77) (mf_dat eX12_qKind 42 rfl) fl_X12_177 rfl (by decide) rfl rfl ck1 ?_
      refine mf_callV (Yc := YX12_asks) (r := (RX12, TX12, 106)) (ci := 12) (mf_dat eX12_qKind 43 rfl) ml_X12_304 okX12_asks im_X12_asks sl_X12_asks rfl rfl rfl rfl (Nat.le_of_ble_eq_true rfl) (mf_rr (Nat.le_trans (by decide) hd) (Nat.le_refl _)) (Nat.le_refl _) ck1 hyp (fun r32 g33 h34 hyp => ?_)
      refine mf_iload_n (mf_dat eX12_qKind 44 rfl) rfl rfl ?_
      exact mf_ireturn (mf_dat eX12_qKind 45 rfl) rfl (Or.inl rfl) hyp
abbrev JX12_qTakes_16 (C : mf_G) (l : Launch) (d n : Nat) (K : mf_Kt) (x0 x1 x2 x4 s0 : Int) (g h : mf_M) : Prop := mf_AW C l YX12_qTakes (mf_rm d n n) n (mf_Zm C YX12_qTakes n n K) (fun _ _ => True) 16 [(0, (2, x0)), (1, (0, x1)), (2, (1, x2)), (4, (0, x4))] [(0, s0)] n g h
abbrev JX12_qTakes_55 (C : mf_G) (l : Launch) (d n : Nat) (K : mf_Kt) (x0 x1 x2 x5 : Int) (g h : mf_M) : Prop := mf_AW C l YX12_qTakes (mf_rm d n n) n (mf_Zm C YX12_qTakes n n K) (fun _ _ => True) 55 [(0, (2, x0)), (1, (0, x1)), (2, (1, x2)), (5, (0, x5))] [] n g h
abbrev JX12_qTakes_90 (C : mf_G) (l : Launch) (d n : Nat) (K : mf_Kt) (x0 x1 x2 : Int) (g h : mf_M) : Prop := mf_AW C l YX12_qTakes (mf_rm d n n) n (mf_Zm C YX12_qTakes n n K) (fun _ _ => True) 90 [(0, (2, x0)), (1, (0, x1)), (2, (1, x2))] [] n g h
set_option maxRecDepth 100000 in
set_option maxHeartbeats 4000000 in
theorem bX12_qTakes_16 {C : mf_G} {l : Launch} {d n : Nat} {K : mf_Kt} {x0 x1 x2 x4 s0 : Int} {g h : mf_M} (hyp : ((¬ x1 = 0 → ((¬ x1 = 1 → JX12_qTakes_55 C l d n K x0 x1 x2 s0 g h) ∧ (x1 = 1 → ((s0 = 0 → JX12_qTakes_55 C l d n K x0 x1 x2 s0 g h) ∧ (¬ s0 = 0 → mf_is n x0 12 ∧ (∀ h2 : mf_M, h2 = mf_up h x0 102 x4 → JX12_qTakes_55 C l d n K x0 x1 x2 s0 g h2)))))) ∧ (x1 = 0 → ((s0 = 0 → ((¬ x1 = 1 → JX12_qTakes_55 C l d n K x0 x1 x2 s0 g h) ∧ (x1 = 1 → ((s0 = 0 → JX12_qTakes_55 C l d n K x0 x1 x2 s0 g h) ∧ (¬ s0 = 0 → mf_is n x0 12 ∧ (∀ h4 : mf_M, h4 = mf_up h x0 102 x4 → JX12_qTakes_55 C l d n K x0 x1 x2 s0 g h4)))))) ∧ (¬ s0 = 0 → mf_is n x0 12 ∧ ((h x0 102 = (-1) → (∀ h6 : mf_M, h6 = mf_up h x0 102 x4 → JX12_qTakes_55 C l d n K x0 x1 x2 s0 g h6)) ∧ (¬ h x0 102 = (-1) → ((¬ x1 = 1 → JX12_qTakes_55 C l d n K x0 x1 x2 s0 g h) ∧ (x1 = 1 → ((s0 = 0 → JX12_qTakes_55 C l d n K x0 x1 x2 s0 g h) ∧ (¬ s0 = 0 → (∀ h7 : mf_M, h7 = mf_up h x0 102 x4 → JX12_qTakes_55 C l d n K x0 x1 x2 s0 g h7)))))))))))) : JX12_qTakes_16 C l d n K x0 x1 x2 x4 s0 g h := by
  refine mf_istore (mf_dat eX12_qTakes_p0 10 rfl) (by decide) ?_
  refine mf_iload_n (mf_dat eX12_qTakes_p0 11 rfl) rfl rfl ?_
  refine mf_if_ne (tgt := 38) (mf_dat eX12_qTakes_p0 12 rfl) (by decide) (fun hc => ?_) (fun hc => ?_)
  · replace hyp := hyp.1 hc
    refine mf_iload_n (mf_dat eX12_qTakes_p0 20 rfl) rfl rfl ?_
    refine mf_iconst (v := 1) (mf_dat eX12_qTakes_p0 21 rfl) (by decide) ?_
    refine mf_icmp_ne (tgt := 55) (mf_dat eX12_qTakes_p0 22 rfl) (by decide) (fun hc => ?_) (fun hc => ?_)
    · replace hyp := hyp.1 hc
      exact mf_sub [1, 2, 3, 0] rfl hyp
    · replace hyp := hyp.2 hc
      refine mf_iload (mf_dat eX12_qTakes_p0 23 rfl) rfl ?_
      refine mf_if_eq (tgt := 55) (mf_dat eX12_qTakes_p0 24 rfl) (by decide) (fun hc => ?_) (fun hc => ?_)
      · replace hyp := hyp.1 hc
        exact mf_sub [1, 2, 3, 0] rfl hyp
      · replace hyp := hyp.2 hc
        refine mf_aload_n (mf_dat eX12_qTakes_p0 25 rfl) rfl rfl ?_
        refine mf_iload (mf_dat eX12_qTakes_p0 26 rfl) rfl ?_
        refine mf_i2l (mf_dat eX12_qTakes_p0 27 rfl) ?_
        obtain ⟨ck1, hyp⟩ := hyp
        refine mf_putI (r := (RX12, TX12, 106)) (ci := 12) (k := 102) (kI := 102) (t := 1) (mf_dat eX12_qTakes_p0 28 rfl) fl_X12_648 rfl rfl (by decide) rfl (by decide) rfl (by decide) (fun h9 => absurd h9 (by decide)) ck1 ?_
        generalize qh2 : mf_up h x0 102 x4 = h2
        replace hyp := hyp _ qh2.symm
        exact mf_sub [1, 2, 3, 0] rfl hyp
  · replace hyp := hyp.2 hc
    refine mf_iload (mf_dat eX12_qTakes_p0 13 rfl) rfl ?_
    refine mf_if_eq (tgt := 38) (mf_dat eX12_qTakes_p0 14 rfl) (by decide) (fun hc => ?_) (fun hc => ?_)
    · replace hyp := hyp.1 hc
      refine mf_iload_n (mf_dat eX12_qTakes_p0 20 rfl) rfl rfl ?_
      refine mf_iconst (v := 1) (mf_dat eX12_qTakes_p0 21 rfl) (by decide) ?_
      refine mf_icmp_ne (tgt := 55) (mf_dat eX12_qTakes_p0 22 rfl) (by decide) (fun hc => ?_) (fun hc => ?_)
      · replace hyp := hyp.1 hc
        exact mf_sub [1, 2, 3, 0] rfl hyp
      · replace hyp := hyp.2 hc
        refine mf_iload (mf_dat eX12_qTakes_p0 23 rfl) rfl ?_
        refine mf_if_eq (tgt := 55) (mf_dat eX12_qTakes_p0 24 rfl) (by decide) (fun hc => ?_) (fun hc => ?_)
        · replace hyp := hyp.1 hc
          exact mf_sub [1, 2, 3, 0] rfl hyp
        · replace hyp := hyp.2 hc
          refine mf_aload_n (mf_dat eX12_qTakes_p0 25 rfl) rfl rfl ?_
          refine mf_iload (mf_dat eX12_qTakes_p0 26 rfl) rfl ?_
          refine mf_i2l (mf_dat eX12_qTakes_p0 27 rfl) ?_
          obtain ⟨ck3, hyp⟩ := hyp
          refine mf_putI (r := (RX12, TX12, 106)) (ci := 12) (k := 102) (kI := 102) (t := 1) (mf_dat eX12_qTakes_p0 28 rfl) fl_X12_648 rfl rfl (by decide) rfl (by decide) rfl (by decide) (fun h9 => absurd h9 (by decide)) ck3 ?_
          generalize qh4 : mf_up h x0 102 x4 = h4
          replace hyp := hyp _ qh4.symm
          exact mf_sub [1, 2, 3, 0] rfl hyp
    · replace hyp := hyp.2 hc
      refine mf_aload_n (mf_dat eX12_qTakes_p0 15 rfl) rfl rfl ?_
      obtain ⟨ck5, hyp⟩ := hyp
      refine mf_getf (r := (RX12, TX12, 106)) (ci := 12) (k := 102) (t := 1) (v := h x0 102) (mf_dat eX12_qTakes_p0 16 rfl) fl_X12_648 rfl (by decide) rfl rfl ck5 ?_
      refine mf_ldc2 (v := (-1)) cl_X12_512 (mf_dat eX12_qTakes_p0 17 rfl) (by decide) ?_
      refine mf_lcmp_eq (tgt := 48) (mf_dat eX12_qTakes_p0 18 rfl) (mf_dat eX12_qTakes_p0 19 rfl) (by decide) (fun hc => ?_) (fun hc => ?_)
      · replace hyp := hyp.1 hc
        refine mf_aload_n (mf_dat eX12_qTakes_p0 25 rfl) rfl rfl ?_
        refine mf_iload (mf_dat eX12_qTakes_p0 26 rfl) rfl ?_
        refine mf_i2l (mf_dat eX12_qTakes_p0 27 rfl) ?_
        refine mf_putI (r := (RX12, TX12, 106)) (ci := 12) (k := 102) (kI := 102) (t := 1) (mf_dat eX12_qTakes_p0 28 rfl) fl_X12_648 rfl rfl (by decide) rfl (by decide) rfl (by decide) (fun h9 => absurd h9 (by decide)) ck5 ?_
        generalize qh6 : mf_up h x0 102 x4 = h6
        replace hyp := hyp _ qh6.symm
        exact mf_sub [1, 2, 3, 0] rfl hyp
      · replace hyp := hyp.2 hc
        refine mf_iload_n (mf_dat eX12_qTakes_p0 20 rfl) rfl rfl ?_
        refine mf_iconst (v := 1) (mf_dat eX12_qTakes_p0 21 rfl) (by decide) ?_
        refine mf_icmp_ne (tgt := 55) (mf_dat eX12_qTakes_p0 22 rfl) (by decide) (fun hc => ?_) (fun hc => ?_)
        · replace hyp := hyp.1 hc
          exact mf_sub [1, 2, 3, 0] rfl hyp
        · replace hyp := hyp.2 hc
          refine mf_iload (mf_dat eX12_qTakes_p0 23 rfl) rfl ?_
          refine mf_if_eq (tgt := 55) (mf_dat eX12_qTakes_p0 24 rfl) (by decide) (fun hc => ?_) (fun hc => ?_)
          · replace hyp := hyp.1 hc
            exact mf_sub [1, 2, 3, 0] rfl hyp
          · replace hyp := hyp.2 hc
            refine mf_aload_n (mf_dat eX12_qTakes_p0 25 rfl) rfl rfl ?_
            refine mf_iload (mf_dat eX12_qTakes_p0 26 rfl) rfl ?_
            refine mf_i2l (mf_dat eX12_qTakes_p0 27 rfl) ?_
            refine mf_putI (r := (RX12, TX12, 106)) (ci := 12) (k := 102) (kI := 102) (t := 1) (mf_dat eX12_qTakes_p0 28 rfl) fl_X12_648 rfl rfl (by decide) rfl (by decide) rfl (by decide) (fun h9 => absurd h9 (by decide)) ck5 ?_
            generalize qh7 : mf_up h x0 102 x4 = h7
            replace hyp := hyp _ qh7.symm
            exact mf_sub [1, 2, 3, 0] rfl hyp
set_option maxRecDepth 100000 in
set_option maxHeartbeats 4000000 in
theorem bX12_qTakes_55 {C : mf_G} {l : Launch} {d n : Nat} {K : mf_Kt} {x0 x1 x2 x5 : Int} {g h : mf_M} (hyp : ((¬ x1 = 2 → ((¬ x1 = 3 → JX12_qTakes_90 C l d n K x0 x1 x2 g h) ∧ (x1 = 3 → mf_is n x0 12 ∧ (∀ h2 : mf_M, h2 = mf_up h x0 102 (mf_w64 ((h x0 102) + x2)) → JX12_qTakes_90 C l d n K x0 x1 x2 g h2)))) ∧ (x1 = 2 → ((x5 = 0 → ((¬ x1 = 3 → JX12_qTakes_90 C l d n K x0 x1 x2 g h) ∧ (x1 = 3 → mf_is n x0 12 ∧ (∀ h4 : mf_M, h4 = mf_up h x0 102 (mf_w64 ((h x0 102) + x2)) → JX12_qTakes_90 C l d n K x0 x1 x2 g h4)))) ∧ (¬ x5 = 0 → mf_is n x0 12 ∧ (∀ h6 : mf_M, h6 = mf_up h x0 102 (mf_w64 ((h x0 102) + 1)) → ((¬ x1 = 3 → JX12_qTakes_90 C l d n K x0 x1 x2 g h6) ∧ (x1 = 3 → (∀ h7 : mf_M, h7 = mf_up h6 x0 102 (mf_w64 ((h6 x0 102) + x2)) → JX12_qTakes_90 C l d n K x0 x1 x2 g h7))))))))) : JX12_qTakes_55 C l d n K x0 x1 x2 x5 g h := by
  refine mf_iload_n (mf_dat eX12_qTakes_p0 29 rfl) rfl rfl ?_
  refine mf_iconst (v := 2) (mf_dat eX12_qTakes_p0 30 rfl) (by decide) ?_
  refine mf_icmp_ne (tgt := 75) (mf_dat eX12_qTakes_p0 31 rfl) (by decide) (fun hc => ?_) (fun hc => ?_)
  · replace hyp := hyp.1 hc
    refine mf_iload_n (mf_dat eX12_qTakes_p0 40 rfl) rfl rfl ?_
    refine mf_iconst (v := 3) (mf_dat eX12_qTakes_p0 41 rfl) (by decide) ?_
    refine mf_icmp_ne (tgt := 90) (mf_dat eX12_qTakes_p0 42 rfl) (by decide) (fun hc => ?_) (fun hc => ?_)
    · replace hyp := hyp.1 hc
      exact mf_sub [0, 1, 2] rfl hyp
    · replace hyp := hyp.2 hc
      refine mf_aload_n (mf_dat eX12_qTakes_p0 43 rfl) rfl rfl ?_
      refine mf_dup (mf_dat eX12_qTakes_p0 44 rfl) (by decide) ?_
      obtain ⟨ck1, hyp⟩ := hyp
      refine mf_getf (r := (RX12, TX12, 106)) (ci := 12) (k := 102) (t := 1) (v := h x0 102) (mf_dat eX12_qTakes_p0 45 rfl) fl_X12_648 rfl (by decide) rfl rfl ck1 ?_
      refine mf_lload_n (mf_dat eX12_qTakes_p0 46 rfl) rfl rfl ?_
      refine mf_ladd (mf_dat eX12_qTakes_p0 47 rfl) ?_
      refine mf_putI (r := (RX12, TX12, 106)) (ci := 12) (k := 102) (kI := 102) (t := 1) (mf_dat eX12_qTakes_p0 48 rfl) fl_X12_648 rfl rfl (by decide) rfl (by decide) rfl (by decide) (fun h9 => absurd h9 (by decide)) ck1 ?_
      generalize qh2 : mf_up h x0 102 (mf_w64 ((h x0 102) + x2)) = h2
      replace hyp := hyp _ qh2.symm
      exact mf_sub [0, 1, 2] rfl hyp
  · replace hyp := hyp.2 hc
    refine mf_iload (mf_dat eX12_qTakes_p0 32 rfl) rfl ?_
    refine mf_if_eq (tgt := 75) (mf_dat eX12_qTakes_p0 33 rfl) (by decide) (fun hc => ?_) (fun hc => ?_)
    · replace hyp := hyp.1 hc
      refine mf_iload_n (mf_dat eX12_qTakes_p0 40 rfl) rfl rfl ?_
      refine mf_iconst (v := 3) (mf_dat eX12_qTakes_p0 41 rfl) (by decide) ?_
      refine mf_icmp_ne (tgt := 90) (mf_dat eX12_qTakes_p0 42 rfl) (by decide) (fun hc => ?_) (fun hc => ?_)
      · replace hyp := hyp.1 hc
        exact mf_sub [0, 1, 2] rfl hyp
      · replace hyp := hyp.2 hc
        refine mf_aload_n (mf_dat eX12_qTakes_p0 43 rfl) rfl rfl ?_
        refine mf_dup (mf_dat eX12_qTakes_p0 44 rfl) (by decide) ?_
        obtain ⟨ck3, hyp⟩ := hyp
        refine mf_getf (r := (RX12, TX12, 106)) (ci := 12) (k := 102) (t := 1) (v := h x0 102) (mf_dat eX12_qTakes_p0 45 rfl) fl_X12_648 rfl (by decide) rfl rfl ck3 ?_
        refine mf_lload_n (mf_dat eX12_qTakes_p0 46 rfl) rfl rfl ?_
        refine mf_ladd (mf_dat eX12_qTakes_p0 47 rfl) ?_
        refine mf_putI (r := (RX12, TX12, 106)) (ci := 12) (k := 102) (kI := 102) (t := 1) (mf_dat eX12_qTakes_p0 48 rfl) fl_X12_648 rfl rfl (by decide) rfl (by decide) rfl (by decide) (fun h9 => absurd h9 (by decide)) ck3 ?_
        generalize qh4 : mf_up h x0 102 (mf_w64 ((h x0 102) + x2)) = h4
        replace hyp := hyp _ qh4.symm
        exact mf_sub [0, 1, 2] rfl hyp
    · replace hyp := hyp.2 hc
      refine mf_aload_n (mf_dat eX12_qTakes_p0 34 rfl) rfl rfl ?_
      refine mf_dup (mf_dat eX12_qTakes_p0 35 rfl) (by decide) ?_
      obtain ⟨ck5, hyp⟩ := hyp
      refine mf_getf (r := (RX12, TX12, 106)) (ci := 12) (k := 102) (t := 1) (v := h x0 102) (mf_dat eX12_qTakes_p0 36 rfl) fl_X12_648 rfl (by decide) rfl rfl ck5 ?_
      refine mf_lconst (v := 1) (mf_dat eX12_qTakes_p0 37 rfl) (by decide) ?_
      refine mf_ladd (mf_dat eX12_qTakes_p0 38 rfl) ?_
      refine mf_putI (r := (RX12, TX12, 106)) (ci := 12) (k := 102) (kI := 102) (t := 1) (mf_dat eX12_qTakes_p0 39 rfl) fl_X12_648 rfl rfl (by decide) rfl (by decide) rfl (by decide) (fun h9 => absurd h9 (by decide)) ck5 ?_
      generalize qh6 : mf_up h x0 102 (mf_w64 ((h x0 102) + 1)) = h6
      replace hyp := hyp _ qh6.symm
      refine mf_iload_n (mf_dat eX12_qTakes_p0 40 rfl) rfl rfl ?_
      refine mf_iconst (v := 3) (mf_dat eX12_qTakes_p0 41 rfl) (by decide) ?_
      refine mf_icmp_ne (tgt := 90) (mf_dat eX12_qTakes_p0 42 rfl) (by decide) (fun hc => ?_) (fun hc => ?_)
      · replace hyp := hyp.1 hc
        exact mf_sub [0, 1, 2] rfl hyp
      · replace hyp := hyp.2 hc
        refine mf_aload_n (mf_dat eX12_qTakes_p0 43 rfl) rfl rfl ?_
        refine mf_dup (mf_dat eX12_qTakes_p0 44 rfl) (by decide) ?_
        refine mf_getf (r := (RX12, TX12, 106)) (ci := 12) (k := 102) (t := 1) (v := h6 x0 102) (mf_dat eX12_qTakes_p0 45 rfl) fl_X12_648 rfl (by decide) rfl rfl ck5 ?_
        refine mf_lload_n (mf_dat eX12_qTakes_p0 46 rfl) rfl rfl ?_
        refine mf_ladd (mf_dat eX12_qTakes_p0 47 rfl) ?_
        refine mf_putI (r := (RX12, TX12, 106)) (ci := 12) (k := 102) (kI := 102) (t := 1) (mf_dat eX12_qTakes_p0 48 rfl) fl_X12_648 rfl rfl (by decide) rfl (by decide) rfl (by decide) (fun h9 => absurd h9 (by decide)) ck5 ?_
        generalize qh7 : mf_up h6 x0 102 (mf_w64 ((h6 x0 102) + x2)) = h7
        replace hyp := hyp _ qh7.symm
        exact mf_sub [0, 1, 2] rfl hyp
set_option maxRecDepth 100000 in
set_option maxHeartbeats 4000000 in
theorem bX12_qTakes_90 {C : mf_G} {l : Launch} {d n : Nat} {K : mf_Kt} {x0 x1 x2 : Int} {g h : mf_M} (hyp : ((x1 ≤ 3 → mf_is n x0 12 ∧ (∀ h2 : mf_M, h2 = mf_up h x0 103 0 → K 0 g h2)) ∧ (¬ x1 ≤ 3 → mf_is n x0 12 ∧ ((¬ h x0 103 = 0 → (∀ h4 : mf_M, h4 = mf_up h x0 102 x2 → (∀ h5 : mf_M, h5 = mf_up h4 x0 103 0 → K 0 g h5))) ∧ (h x0 103 = 0 → ((¬ x1 = 4 → ((h x0 102 ≤ x2 → (∀ h6 : mf_M, h6 = mf_up h x0 103 0 → K 0 g h6)) ∧ (¬ h x0 102 ≤ x2 → (∀ h7 : mf_M, h7 = mf_up h x0 102 x2 → (∀ h8 : mf_M, h8 = mf_up h7 x0 103 0 → K 0 g h8))))) ∧ (x1 = 4 → ((x2 ≤ h x0 102 → (∀ h9 : mf_M, h9 = mf_up h x0 103 0 → K 0 g h9)) ∧ (¬ x2 ≤ h x0 102 → (∀ h10 : mf_M, h10 = mf_up h x0 102 x2 → (∀ h11 : mf_M, h11 = mf_up h10 x0 103 0 → K 0 g h11))))))))))) : JX12_qTakes_90 C l d n K x0 x1 x2 g h := by
  refine mf_iload_n (mf_dat eX12_qTakes_p0 49 rfl) rfl rfl ?_
  refine mf_iconst (v := 3) (mf_dat eX12_qTakes_p0 50 rfl) (by decide) ?_
  refine mf_icmp_le (tgt := 133) (mf_dat eX12_qTakes_p0 51 rfl) (by decide) (fun hc => ?_) (fun hc => ?_)
  · replace hyp := hyp.1 hc
    refine mf_aload_n (mf_dat eX12_qTakes_p1 12 rfl) rfl rfl ?_
    refine mf_iconst (v := 0) (mf_dat eX12_qTakes_p1 13 rfl) (by decide) ?_
    obtain ⟨ck1, hyp⟩ := hyp
    refine mf_putI (r := (RX12, TX12, 106)) (ci := 12) (k := 103) (kI := 103) (t := 0) (mf_dat eX12_qTakes_p1 14 rfl) fl_X12_651 rfl rfl (by decide) rfl (by decide) rfl (by decide) (fun _ => by decide) ck1 ?_
    generalize qh2 : mf_up h x0 103 0 = h2
    replace hyp := hyp _ qh2.symm
    exact mf_return (mf_dat eX12_qTakes_p1 15 rfl) rfl hyp
  · replace hyp := hyp.2 hc
    refine mf_aload_n (mf_dat eX12_qTakes_p0 52 rfl) rfl rfl ?_
    obtain ⟨ck3, hyp⟩ := hyp
    refine mf_getf (r := (RX12, TX12, 106)) (ci := 12) (k := 103) (t := 0) (v := h x0 103) (mf_dat eX12_qTakes_p0 53 rfl) fl_X12_651 rfl (by decide) rfl rfl ck3 ?_
    refine mf_if_ne (tgt := 128) (mf_dat eX12_qTakes_p0 54 rfl) (by decide) (fun hc => ?_) (fun hc => ?_)
    · replace hyp := hyp.1 hc
      refine mf_aload_n (mf_dat eX12_qTakes_p1 9 rfl) rfl rfl ?_
      refine mf_lload_n (mf_dat eX12_qTakes_p1 10 rfl) rfl rfl ?_
      refine mf_putI (r := (RX12, TX12, 106)) (ci := 12) (k := 102) (kI := 102) (t := 1) (mf_dat eX12_qTakes_p1 11 rfl) fl_X12_648 rfl rfl (by decide) rfl (by decide) rfl (by decide) (fun h9 => absurd h9 (by decide)) ck3 ?_
      generalize qh4 : mf_up h x0 102 x2 = h4
      replace hyp := hyp _ qh4.symm
      refine mf_aload_n (mf_dat eX12_qTakes_p1 12 rfl) rfl rfl ?_
      refine mf_iconst (v := 0) (mf_dat eX12_qTakes_p1 13 rfl) (by decide) ?_
      refine mf_putI (r := (RX12, TX12, 106)) (ci := 12) (k := 103) (kI := 103) (t := 0) (mf_dat eX12_qTakes_p1 14 rfl) fl_X12_651 rfl rfl (by decide) rfl (by decide) rfl (by decide) (fun _ => by decide) ck3 ?_
      generalize qh5 : mf_up h4 x0 103 0 = h5
      replace hyp := hyp _ qh5.symm
      exact mf_return (mf_dat eX12_qTakes_p1 15 rfl) rfl hyp
    · replace hyp := hyp.2 hc
      refine mf_iload_n (mf_dat eX12_qTakes_p0 55 rfl) rfl rfl ?_
      refine mf_iconst (v := 4) (mf_dat eX12_qTakes_p0 56 rfl) (by decide) ?_
      refine mf_icmp_ne (tgt := 119) (mf_dat eX12_qTakes_p0 57 rfl) (by decide) (fun hc => ?_) (fun hc => ?_)
      · replace hyp := hyp.1 hc
        refine mf_lload_n (mf_dat eX12_qTakes_p1 4 rfl) rfl rfl ?_
        refine mf_aload_n (mf_dat eX12_qTakes_p1 5 rfl) rfl rfl ?_
        refine mf_getf (r := (RX12, TX12, 106)) (ci := 12) (k := 102) (t := 1) (v := h x0 102) (mf_dat eX12_qTakes_p1 6 rfl) fl_X12_648 rfl (by decide) rfl rfl ck3 ?_
        refine mf_lcmp_ge (tgt := 133) (mf_dat eX12_qTakes_p1 7 rfl) (mf_dat eX12_qTakes_p1 8 rfl) (by decide) (fun hc => ?_) (fun hc => ?_)
        · replace hyp := hyp.1 hc
          refine mf_aload_n (mf_dat eX12_qTakes_p1 12 rfl) rfl rfl ?_
          refine mf_iconst (v := 0) (mf_dat eX12_qTakes_p1 13 rfl) (by decide) ?_
          refine mf_putI (r := (RX12, TX12, 106)) (ci := 12) (k := 103) (kI := 103) (t := 0) (mf_dat eX12_qTakes_p1 14 rfl) fl_X12_651 rfl rfl (by decide) rfl (by decide) rfl (by decide) (fun _ => by decide) ck3 ?_
          generalize qh6 : mf_up h x0 103 0 = h6
          replace hyp := hyp _ qh6.symm
          exact mf_return (mf_dat eX12_qTakes_p1 15 rfl) rfl hyp
        · replace hyp := hyp.2 hc
          refine mf_aload_n (mf_dat eX12_qTakes_p1 9 rfl) rfl rfl ?_
          refine mf_lload_n (mf_dat eX12_qTakes_p1 10 rfl) rfl rfl ?_
          refine mf_putI (r := (RX12, TX12, 106)) (ci := 12) (k := 102) (kI := 102) (t := 1) (mf_dat eX12_qTakes_p1 11 rfl) fl_X12_648 rfl rfl (by decide) rfl (by decide) rfl (by decide) (fun h9 => absurd h9 (by decide)) ck3 ?_
          generalize qh7 : mf_up h x0 102 x2 = h7
          replace hyp := hyp _ qh7.symm
          refine mf_aload_n (mf_dat eX12_qTakes_p1 12 rfl) rfl rfl ?_
          refine mf_iconst (v := 0) (mf_dat eX12_qTakes_p1 13 rfl) (by decide) ?_
          refine mf_putI (r := (RX12, TX12, 106)) (ci := 12) (k := 103) (kI := 103) (t := 0) (mf_dat eX12_qTakes_p1 14 rfl) fl_X12_651 rfl rfl (by decide) rfl (by decide) rfl (by decide) (fun _ => by decide) ck3 ?_
          generalize qh8 : mf_up h7 x0 103 0 = h8
          replace hyp := hyp _ qh8.symm
          exact mf_return (mf_dat eX12_qTakes_p1 15 rfl) rfl hyp
      · replace hyp := hyp.2 hc
        refine mf_lload_n (mf_dat eX12_qTakes_p0 58 rfl) rfl rfl ?_
        refine mf_aload_n (mf_dat eX12_qTakes_p0 59 rfl) rfl rfl ?_
        refine mf_getf (r := (RX12, TX12, 106)) (ci := 12) (k := 102) (t := 1) (v := h x0 102) (mf_dat eX12_qTakes_p1 0 rfl) fl_X12_648 rfl (by decide) rfl rfl ck3 ?_
        refine mf_lcmp_le (tgt := 133) (mf_dat eX12_qTakes_p1 1 rfl) (mf_dat eX12_qTakes_p1 2 rfl) (by decide) (fun hc => ?_) (fun hc => ?_)
        · replace hyp := hyp.1 hc
          refine mf_aload_n (mf_dat eX12_qTakes_p1 12 rfl) rfl rfl ?_
          refine mf_iconst (v := 0) (mf_dat eX12_qTakes_p1 13 rfl) (by decide) ?_
          refine mf_putI (r := (RX12, TX12, 106)) (ci := 12) (k := 103) (kI := 103) (t := 0) (mf_dat eX12_qTakes_p1 14 rfl) fl_X12_651 rfl rfl (by decide) rfl (by decide) rfl (by decide) (fun _ => by decide) ck3 ?_
          generalize qh9 : mf_up h x0 103 0 = h9
          replace hyp := hyp _ qh9.symm
          exact mf_return (mf_dat eX12_qTakes_p1 15 rfl) rfl hyp
        · replace hyp := hyp.2 hc
          refine mf_goto (tgt := 128) (mf_dat eX12_qTakes_p1 3 rfl) (by decide) ?_
          refine mf_aload_n (mf_dat eX12_qTakes_p1 9 rfl) rfl rfl ?_
          refine mf_lload_n (mf_dat eX12_qTakes_p1 10 rfl) rfl rfl ?_
          refine mf_putI (r := (RX12, TX12, 106)) (ci := 12) (k := 102) (kI := 102) (t := 1) (mf_dat eX12_qTakes_p1 11 rfl) fl_X12_648 rfl rfl (by decide) rfl (by decide) rfl (by decide) (fun h9 => absurd h9 (by decide)) ck3 ?_
          generalize qh10 : mf_up h x0 102 x2 = h10
          replace hyp := hyp _ qh10.symm
          refine mf_aload_n (mf_dat eX12_qTakes_p1 12 rfl) rfl rfl ?_
          refine mf_iconst (v := 0) (mf_dat eX12_qTakes_p1 13 rfl) (by decide) ?_
          refine mf_putI (r := (RX12, TX12, 106)) (ci := 12) (k := 103) (kI := 103) (t := 0) (mf_dat eX12_qTakes_p1 14 rfl) fl_X12_651 rfl rfl (by decide) rfl (by decide) rfl (by decide) (fun _ => by decide) ck3 ?_
          generalize qh11 : mf_up h10 x0 103 0 = h11
          replace hyp := hyp _ qh11.symm
          exact mf_return (mf_dat eX12_qTakes_p1 15 rfl) rfl hyp
set_option maxRecDepth 100000 in
set_option maxHeartbeats 4000000 in
theorem mX12_qTakes {C : mf_G} {l : Launch} {d n : Nat} {K : mf_Kt} {x0 x1 x2 x4 : Int} {g h : mf_M} (hyp : ((3 ≤ x1 → JX12_qTakes_16 C l d n K x0 x1 x2 x4 0 g h) ∧ (¬ 3 ≤ x1 → ((¬ x2 = 1 → JX12_qTakes_16 C l d n K x0 x1 x2 x4 0 g h) ∧ (x2 = 1 → JX12_qTakes_16 C l d n K x0 x1 x2 x4 1 g h))))) : mf_MT C l d YX12_qTakes [(2, x0), (0, x1), (1, x2), (0, x4)] n n g h K := by
  refine mf_entry (by decide) (Nat.le_of_ble_eq_true rfl) ?_
  refine mf_iload_n (mf_dat eX12_qTakes_p0 0 rfl) rfl rfl ?_
  refine mf_iconst (v := 3) (mf_dat eX12_qTakes_p0 1 rfl) (by decide) ?_
  refine mf_icmp_ge (tgt := 15) (mf_dat eX12_qTakes_p0 2 rfl) (by decide) (fun hc => ?_) (fun hc => ?_)
  · replace hyp := hyp.1 hc
    refine mf_iconst (v := 0) (mf_dat eX12_qTakes_p0 9 rfl) (by decide) ?_
    exact mf_sub [0, 1, 2, 3] rfl hyp
  · replace hyp := hyp.2 hc
    refine mf_lload_n (mf_dat eX12_qTakes_p0 3 rfl) rfl rfl ?_
    refine mf_lconst (v := 1) (mf_dat eX12_qTakes_p0 4 rfl) (by decide) ?_
    refine mf_lcmp_ne (tgt := 15) (mf_dat eX12_qTakes_p0 5 rfl) (mf_dat eX12_qTakes_p0 6 rfl) (by decide) (fun hc => ?_) (fun hc => ?_)
    · replace hyp := hyp.1 hc
      refine mf_iconst (v := 0) (mf_dat eX12_qTakes_p0 9 rfl) (by decide) ?_
      exact mf_sub [0, 1, 2, 3] rfl hyp
    · replace hyp := hyp.2 hc
      refine mf_iconst (v := 1) (mf_dat eX12_qTakes_p0 7 rfl) (by decide) ?_
      refine mf_goto (tgt := 16) (mf_dat eX12_qTakes_p0 8 rfl) (by decide) ?_
      exact mf_sub [0, 1, 2, 3] rfl hyp
abbrev JX12_ask_109 (C : mf_G) (l : Launch) (d n : Nat) (K : mf_Kt) (x0 x1 : Int) (g h : mf_M) : Prop := mf_AW C l YX12_ask (mf_rm d n n) n (mf_Zm C YX12_ask n n K) (fun _ _ => True) 109 [(0, (2, x0)), (1, (0, x1))] [] n g h
abbrev JX12_ask_133 (C : mf_G) (l : Launch) (d n : Nat) (K : mf_Kt) (x0 x1 : Int) (g h : mf_M) : Prop := mf_AW C l YX12_ask (mf_rm d n n) n (mf_Zm C YX12_ask n n K) (fun _ _ => True) 133 [(0, (2, x0)), (1, (0, x1))] [] n g h
abbrev JX12_ask_173 (C : mf_G) (l : Launch) (d n : Nat) (K : mf_Kt) (x0 x1 s0 s1 : Int) (g h : mf_M) : Prop := mf_AW C l YX12_ask (mf_rm d n n) n (mf_Zm C YX12_ask n n K) (fun _ _ => True) 173 [(0, (2, x0)), (1, (0, x1))] [(1, s1), (2, s0)] n g h
abbrev JX12_ask_212 (C : mf_G) (l : Launch) (d n : Nat) (K : mf_Kt) (x0 x1 x2 : Int) (g h : mf_M) : Prop := mf_AW C l YX12_ask (mf_rm d n n) n (mf_Zm C YX12_ask n n K) (fun _ _ => True) 212 [(0, (2, x0)), (1, (0, x1)), (2, (0, x2))] [] n g h
set_option maxRecDepth 100000 in
set_option maxHeartbeats 4000000 in
theorem bX12_ask_109 {C : mf_G} {l : Launch} {d n : Nat} {K : mf_Kt} {x0 x1 : Int} {g h : mf_M} (hd : 1 ≤ d) (hyp : mf_is n x0 12 ∧ ((¬ h x0 5 = 0 → JX12_ask_133 C l d n K x0 x1 g h) ∧ (h x0 5 = 0 → mf_MT C l 0 YX12_look [(2, x0)] n n g h (fun r2 g3 h4 => ((r2 = (-1) → JX12_ask_133 C l d n K x0 x1 g3 h4) ∧ (¬ r2 = (-1) → mf_MT C l 0 YX12_fail [(2, x0), (0, 1), (0, h4 x0 2)] n n g3 h4 (fun r5 g6 h7 => JX12_ask_133 C l d n K x0 x1 g6 h7))))))) : JX12_ask_109 C l d n K x0 x1 g h := by
  refine mf_aload_n (mf_dat eX12_ask_p0 59 rfl) rfl rfl ?_
  obtain ⟨ck1, hyp⟩ := hyp
  refine mf_getf (r := (RX12, TX12, 106)) (ci := 12) (k := 5) (t := 0) (v := h x0 5) (mf_dat eX12_ask_p1 0 rfl) fl_X12_243 rfl (by decide) rfl rfl ck1 ?_
  refine mf_if_ne (tgt := 133) (mf_dat eX12_ask_p1 1 rfl) (by decide) (fun hc => ?_) (fun hc => ?_)
  · replace hyp := hyp.1 hc
    exact mf_sub [0, 1] rfl hyp
  · replace hyp := hyp.2 hc
    refine mf_aload_n (mf_dat eX12_ask_p1 2 rfl) rfl rfl ?_
    refine mf_callV (Yc := YX12_look) (r := (RX12, TX12, 106)) (ci := 12) (mf_dat eX12_ask_p1 3 rfl) ml_X12_255 okX12_look im_X12_look sl_X12_look rfl rfl rfl rfl (Nat.le_of_ble_eq_true rfl) (mf_rr (Nat.le_trans (by decide) hd) (Nat.le_refl _)) (Nat.le_refl _) ck1 hyp (fun r2 g3 h4 hyp => ?_)
    refine mf_iconst (v := (-1)) (mf_dat eX12_ask_p1 4 rfl) (by decide) ?_
    refine mf_icmp_eq (tgt := 133) (mf_dat eX12_ask_p1 5 rfl) (by decide) (fun hc => ?_) (fun hc => ?_)
    · replace hyp := hyp.1 hc
      exact mf_sub [0, 1] rfl hyp
    · replace hyp := hyp.2 hc
      refine mf_aload_n (mf_dat eX12_ask_p1 6 rfl) rfl rfl ?_
      refine mf_iconst (v := 1) (mf_dat eX12_ask_p1 7 rfl) (by decide) ?_
      refine mf_aload_n (mf_dat eX12_ask_p1 8 rfl) rfl rfl ?_
      refine mf_getf (r := (RX12, TX12, 106)) (ci := 12) (k := 2) (t := 0) (v := h4 x0 2) (mf_dat eX12_ask_p1 9 rfl) fl_X12_249 rfl (by decide) rfl rfl ck1 ?_
      refine mf_callV (Yc := YX12_fail) (r := (RX12, TX12, 106)) (ci := 12) (mf_dat eX12_ask_p1 10 rfl) ml_X12_273 okX12_fail im_X12_fail sl_X12_fail rfl rfl rfl rfl (Nat.le_of_ble_eq_true rfl) (mf_rr (Nat.le_trans (by decide) hd) (Nat.le_refl _)) (Nat.le_refl _) ck1 hyp (fun r5 g6 h7 hyp => ?_)
      exact mf_sub [0, 1] rfl hyp
set_option maxRecDepth 100000 in
set_option maxHeartbeats 4000000 in
theorem bX12_ask_133 {C : mf_G} {l : Launch} {d n : Nat} {K : mf_Kt} {x0 x1 : Int} {g h : mf_M} (hyp : mf_is n x0 12 ∧ (∀ h2 : mf_M, h2 = mf_up h x0 7 (h x0 5) → (∀ h3 : mf_M, h3 = mf_up h2 x0 8 (h2 x0 6) → ((h3 x0 5 = 0 → ((2 ≤ x1 → JX12_ask_173 C l d n K x0 x1 x0 0 g h3) ∧ (¬ 2 ≤ x1 → JX12_ask_173 C l d n K x0 x1 x0 (-1) g h3))) ∧ (¬ h3 x0 5 = 0 → K (-1000000000000000) g h3))))) : JX12_ask_133 C l d n K x0 x1 g h := by
  refine mf_aload_n (mf_dat eX12_ask_p1 11 rfl) rfl rfl ?_
  refine mf_aload_n (mf_dat eX12_ask_p1 12 rfl) rfl rfl ?_
  obtain ⟨ck1, hyp⟩ := hyp
  refine mf_getf (r := (RX12, TX12, 106)) (ci := 12) (k := 5) (t := 0) (v := h x0 5) (mf_dat eX12_ask_p1 13 rfl) fl_X12_243 rfl (by decide) rfl rfl ck1 ?_
  refine mf_putI (r := (RX12, TX12, 106)) (ci := 12) (k := 7) (kI := 7) (t := 0) (mf_dat eX12_ask_p1 14 rfl) fl_X12_383 rfl rfl (by decide) rfl (by decide) rfl (by decide) (fun h9 => absurd h9 (by decide)) ck1 ?_
  generalize qh2 : mf_up h x0 7 (h x0 5) = h2
  replace hyp := hyp _ qh2.symm
  refine mf_aload_n (mf_dat eX12_ask_p1 15 rfl) rfl rfl ?_
  refine mf_aload_n (mf_dat eX12_ask_p1 16 rfl) rfl rfl ?_
  refine mf_getf (r := (RX12, TX12, 106)) (ci := 12) (k := 6) (t := 0) (v := h2 x0 6) (mf_dat eX12_ask_p1 17 rfl) fl_X12_246 rfl (by decide) rfl rfl ck1 ?_
  refine mf_putI (r := (RX12, TX12, 106)) (ci := 12) (k := 8) (kI := 8) (t := 0) (mf_dat eX12_ask_p1 18 rfl) fl_X12_13 rfl rfl (by decide) rfl (by decide) rfl (by decide) (fun h9 => absurd h9 (by decide)) ck1 ?_
  generalize qh3 : mf_up h2 x0 8 (h2 x0 6) = h3
  replace hyp := hyp _ qh3.symm
  refine mf_aload_n (mf_dat eX12_ask_p1 19 rfl) rfl rfl ?_
  refine mf_getf (r := (RX12, TX12, 106)) (ci := 12) (k := 5) (t := 0) (v := h3 x0 5) (mf_dat eX12_ask_p1 20 rfl) fl_X12_243 rfl (by decide) rfl rfl ck1 ?_
  refine mf_if_eq (tgt := 160) (mf_dat eX12_ask_p1 21 rfl) (by decide) (fun hc => ?_) (fun hc => ?_)
  · replace hyp := hyp.1 hc
    refine mf_aload_n (mf_dat eX12_ask_p1 24 rfl) rfl rfl ?_
    refine mf_iload_n (mf_dat eX12_ask_p1 25 rfl) rfl rfl ?_
    refine mf_iconst (v := 2) (mf_dat eX12_ask_p1 26 rfl) (by decide) ?_
    refine mf_icmp_ge (tgt := 172) (mf_dat eX12_ask_p1 27 rfl) (by decide) (fun hc => ?_) (fun hc => ?_)
    · replace hyp := hyp.1 hc
      refine mf_lconst (v := 0) (mf_dat eX12_ask_p1 30 rfl) (by decide) ?_
      exact mf_sub [0, 1] rfl hyp
    · replace hyp := hyp.2 hc
      refine mf_ldc2 (v := (-1)) cl_X12_512 (mf_dat eX12_ask_p1 28 rfl) (by decide) ?_
      refine mf_goto (tgt := 173) (mf_dat eX12_ask_p1 29 rfl) (by decide) ?_
      exact mf_sub [0, 1] rfl hyp
  · replace hyp := hyp.2 hc
    refine mf_ldc2 (v := (-1000000000000000)) cl_X12_654 (mf_dat eX12_ask_p1 22 rfl) (by decide) ?_
    exact mf_lreturn (mf_dat eX12_ask_p1 23 rfl) rfl hyp
set_option maxRecDepth 100000 in
set_option maxHeartbeats 4000000 in
theorem bX12_ask_173 {C : mf_G} {l : Launch} {d n : Nat} {K : mf_Kt} {x0 x1 s0 s1 : Int} {g h : mf_M} (hd : 4 ≤ d) (hyp : mf_is n s0 12 ∧ (∀ h2 : mf_M, h2 = mf_up h s0 102 s1 → mf_is n x0 12 ∧ (∀ h4 : mf_M, h4 = mf_up h2 x0 103 1 → mf_is n (g x0 56) 20 ∧ 0 < mf_len (g x0 56) ∧ mf_MT C l 3 YX12_openingOn [(2, x0), (0, h4 (g x0 56) 0)] n n g h4 (fun r7 g8 h9 => (∀ h10 : mf_M, h10 = mf_up h9 x0 59 r7 → mf_is n (g8 x0 56) 20 ∧ 0 < mf_len (g8 x0 56) ∧ (∀ h13 : mf_M, h13 = mf_up h10 x0 58 (h10 (g8 x0 56) 0) → (∀ h14 : mf_M, h14 = mf_up h13 x0 55 3 → JX12_ask_212 C l d n K x0 x1 0 g8 h14))))))) : JX12_ask_173 C l d n K x0 x1 s0 s1 g h := by
  obtain ⟨ck1, hyp⟩ := hyp
  refine mf_putI (r := (RX12, TX12, 106)) (ci := 12) (k := 102) (kI := 102) (t := 1) (mf_dat eX12_ask_p1 31 rfl) fl_X12_648 rfl rfl (by decide) rfl (by decide) rfl (by decide) (fun h9 => absurd h9 (by decide)) ck1 ?_
  generalize qh2 : mf_up h s0 102 s1 = h2
  replace hyp := hyp _ qh2.symm
  refine mf_aload_n (mf_dat eX12_ask_p1 32 rfl) rfl rfl ?_
  refine mf_iconst (v := 1) (mf_dat eX12_ask_p1 33 rfl) (by decide) ?_
  obtain ⟨ck3, hyp⟩ := hyp
  refine mf_putI (r := (RX12, TX12, 106)) (ci := 12) (k := 103) (kI := 103) (t := 0) (mf_dat eX12_ask_p1 34 rfl) fl_X12_651 rfl rfl (by decide) rfl (by decide) rfl (by decide) (fun _ => by decide) ck3 ?_
  generalize qh4 : mf_up h2 x0 103 1 = h4
  replace hyp := hyp _ qh4.symm
  refine mf_aload_n (mf_dat eX12_ask_p1 35 rfl) rfl rfl ?_
  refine mf_aload_n (mf_dat eX12_ask_p1 36 rfl) rfl rfl ?_
  refine mf_aload_n (mf_dat eX12_ask_p1 37 rfl) rfl rfl ?_
  refine mf_getf (r := (RX12, TX12, 106)) (ci := 12) (k := 56) (t := 2) (v := g x0 56) (mf_dat eX12_ask_p1 38 rfl) fl_X12_136 rfl (by decide) rfl rfl ck3 ?_
  refine mf_iconst (v := 0) (mf_dat eX12_ask_p1 39 rfl) (by decide) ?_
  obtain ⟨ck5, hyp⟩ := hyp
  obtain ⟨ck6, hyp⟩ := hyp
  refine mf_iald (mf_dat eX12_ask_p1 40 rfl) ck5 (by decide) ck6 ?_
  refine mf_callV (Yc := YX12_openingOn) (r := (RX12, TX12, 106)) (ci := 12) (mf_dat eX12_ask_p1 41 rfl) ml_X12_487 okX12_openingOn im_X12_openingOn sl_X12_openingOn rfl rfl rfl rfl (Nat.le_of_ble_eq_true rfl) (mf_rr (Nat.le_trans (by decide) hd) (Nat.le_refl _)) (Nat.le_refl _) ck3 hyp (fun r7 g8 h9 hyp => ?_)
  refine mf_putI (r := (RX12, TX12, 106)) (ci := 12) (k := 59) (kI := 59) (t := 0) (mf_dat eX12_ask_p1 42 rfl) fl_X12_468 rfl rfl (by decide) rfl (by decide) rfl (by decide) (fun h9 => absurd h9 (by decide)) ck3 ?_
  generalize qh10 : mf_up h9 x0 59 r7 = h10
  replace hyp := hyp _ qh10.symm
  refine mf_aload_n (mf_dat eX12_ask_p1 43 rfl) rfl rfl ?_
  refine mf_aload_n (mf_dat eX12_ask_p1 44 rfl) rfl rfl ?_
  refine mf_getf (r := (RX12, TX12, 106)) (ci := 12) (k := 56) (t := 2) (v := g8 x0 56) (mf_dat eX12_ask_p1 45 rfl) fl_X12_136 rfl (by decide) rfl rfl ck3 ?_
  refine mf_iconst (v := 0) (mf_dat eX12_ask_p1 46 rfl) (by decide) ?_
  obtain ⟨ck11, hyp⟩ := hyp
  obtain ⟨ck12, hyp⟩ := hyp
  refine mf_iald (mf_dat eX12_ask_p1 47 rfl) ck11 (by decide) ck12 ?_
  refine mf_putI (r := (RX12, TX12, 106)) (ci := 12) (k := 58) (kI := 58) (t := 0) (mf_dat eX12_ask_p1 48 rfl) fl_X12_436 rfl rfl (by decide) rfl (by decide) rfl (by decide) (fun h9 => absurd h9 (by decide)) ck3 ?_
  generalize qh13 : mf_up h10 x0 58 (h10 (g8 x0 56) 0) = h13
  replace hyp := hyp _ qh13.symm
  refine mf_aload_n (mf_dat eX12_ask_p1 49 rfl) rfl rfl ?_
  refine mf_iconst (v := 3) (mf_dat eX12_ask_p1 50 rfl) (by decide) ?_
  refine mf_putI (r := (RX12, TX12, 106)) (ci := 12) (k := 55) (kI := 55) (t := 0) (mf_dat eX12_ask_p1 51 rfl) fl_X12_301 rfl rfl (by decide) rfl (by decide) rfl (by decide) (fun h9 => absurd h9 (by decide)) ck3 ?_
  generalize qh14 : mf_up h13 x0 55 3 = h14
  replace hyp := hyp _ qh14.symm
  refine mf_iconst (v := 0) (mf_dat eX12_ask_p1 52 rfl) (by decide) ?_
  refine mf_istore_n (mf_dat eX12_ask_p1 53 rfl) rfl (by decide) ?_
  exact mf_sub [1, 2, 0] rfl hyp
set_option maxRecDepth 100000 in
set_option maxHeartbeats 4000000 in
theorem bX12_ask_212 {C : mf_G} {l : Launch} {d n : Nat} {K : mf_Kt} {x0 x1 x2 : Int} {g h : mf_M} (hd : 5 ≤ d) (hyp : mf_is n x0 12 ∧ mf_MT C l 0 YX12_beingMany [(2, x0)] n n g h (fun r1 g2 h3 => ((r1 ≤ x2 → K (h3 x0 102) g2 h3) ∧ (¬ r1 ≤ x2 → mf_MT C l 4 YX12_qTold [(2, x0), (0, x2)] n n g2 h3 (fun r5 g6 h7 => mf_MT C l 0 YX12_qTakes [(2, x0), (0, x1), (1, r5), (0, x2)] n n g6 h7 (fun r8 g9 h10 => (∀ v11 : Int, v11 = mf_w32 (x2 + 1) → JX12_ask_212 C l d n K x0 x1 v11 g9 h10))))))) : JX12_ask_212 C l d n K x0 x1 x2 g h := by
  refine mf_iload_n (mf_dat eX12_ask_p1 54 rfl) rfl rfl ?_
  refine mf_aload_n (mf_dat eX12_ask_p1 55 rfl) rfl rfl ?_
  obtain ⟨ck4, hyp⟩ := hyp
  refine mf_callV (Yc := YX12_beingMany) (r := (RX12, TX12, 106)) (ci := 12) (mf_dat eX12_ask_p1 56 rfl) ml_X12_402 okX12_beingMany im_X12_beingMany sl_X12_beingMany rfl rfl rfl rfl (Nat.le_of_ble_eq_true rfl) (mf_rr (Nat.le_trans (by decide) hd) (Nat.le_refl _)) (Nat.le_refl _) ck4 hyp (fun r1 g2 h3 hyp => ?_)
  refine mf_icmp_ge (tgt := 237) (mf_dat eX12_ask_p1 57 rfl) (by decide) (fun hc => ?_) (fun hc => ?_)
  · replace hyp := hyp.1 hc
    refine mf_aload_n (mf_dat eX12_ask_p2 7 rfl) rfl rfl ?_
    refine mf_getf (r := (RX12, TX12, 106)) (ci := 12) (k := 102) (t := 1) (v := h3 x0 102) (mf_dat eX12_ask_p2 8 rfl) fl_X12_648 rfl (by decide) rfl rfl ck4 ?_
    exact mf_lreturn (mf_dat eX12_ask_p2 9 rfl) rfl hyp
  · replace hyp := hyp.2 hc
    refine mf_aload_n (mf_dat eX12_ask_p1 58 rfl) rfl rfl ?_
    refine mf_iload_n (mf_dat eX12_ask_p1 59 rfl) rfl rfl ?_
    refine mf_aload_n (mf_dat eX12_ask_p2 0 rfl) rfl rfl ?_
    refine mf_iload_n (mf_dat eX12_ask_p2 1 rfl) rfl rfl ?_
    refine mf_callV (Yc := YX12_qTold) (r := (RX12, TX12, 106)) (ci := 12) (mf_dat eX12_ask_p2 2 rfl) ml_X12_659 okX12_qTold im_X12_qTold sl_X12_qTold rfl rfl rfl rfl (Nat.le_of_ble_eq_true rfl) (mf_rr (Nat.le_trans (by decide) hd) (Nat.le_refl _)) (Nat.le_refl _) ck4 hyp (fun r5 g6 h7 hyp => ?_)
    refine mf_iload_n (mf_dat eX12_ask_p2 3 rfl) rfl rfl ?_
    refine mf_callV (Yc := YX12_qTakes) (r := (RX12, TX12, 106)) (ci := 12) (mf_dat eX12_ask_p2 4 rfl) ml_X12_663 okX12_qTakes im_X12_qTakes sl_X12_qTakes rfl rfl rfl rfl (Nat.le_of_ble_eq_true rfl) (mf_rr (Nat.le_trans (by decide) hd) (Nat.le_refl _)) (Nat.le_refl _) ck4 hyp (fun r8 g9 h10 hyp => ?_)
    refine mf_iinc (mf_dat eX12_ask_p2 5 rfl) rfl (by decide) (by decide) ?_
    generalize qv11 : mf_w32 (x2 + 1) = v11
    replace hyp := hyp _ qv11.symm
    refine mf_goto (tgt := 212) (mf_dat eX12_ask_p2 6 rfl) (by decide) ?_
    exact mf_sub [1, 2, 0] rfl hyp
set_option maxRecDepth 100000 in
set_option maxHeartbeats 4000000 in
theorem mX12_ask {C : mf_G} {l : Launch} {d n : Nat} {K : mf_Kt} {x0 : Int} {g h : mf_M} (hd : 9 ≤ d) (hyp : mf_is n x0 12 ∧ ((¬ h x0 54 = 0 → (∀ h2 : mf_M, h2 = mf_up h x0 3 (h x0 1) → (∀ h3 : mf_M, h3 = mf_up h2 x0 1 0 → (∀ h4 : mf_M, h4 = mf_up h3 x0 2 0 → (∀ h5 : mf_M, h5 = mf_up h4 x0 4 (-1) → (∀ h6 : mf_M, h6 = mf_up h5 x0 5 0 → (∀ h7 : mf_M, h7 = mf_up h6 x0 6 (-1) → (∀ h8 : mf_M, h8 = mf_up h7 x0 55 3 → (∀ h9 : mf_M, h9 = mf_up h8 x0 95 0 → (∀ h10 : mf_M, h10 = mf_up h9 x0 97 0 → (∀ h11 : mf_M, h11 = mf_up h10 x0 98 0 → (∀ h12 : mf_M, h12 = mf_up h11 x0 99 0 → mf_MT C l 4 YX12_qKind [(2, x0)] n n g h12 (fun r13 g14 h15 => ((¬ h15 x0 5 = 0 → ((¬ h15 x0 5 = 0 → JX12_ask_109 C l d n K x0 r13 g14 h15) ∧ (h15 x0 5 = 0 → mf_MT C l 6 YX12_qSums [(2, x0)] n n g14 h15 (fun r16 g17 h18 => JX12_ask_109 C l d n K x0 r13 g17 h18)))) ∧ (h15 x0 5 = 0 → ((3 ≤ r13 → ((¬ h15 x0 5 = 0 → JX12_ask_109 C l d n K x0 r13 g14 h15) ∧ (h15 x0 5 = 0 → mf_MT C l 6 YX12_qSums [(2, x0)] n n g14 h15 (fun r19 g20 h21 => JX12_ask_109 C l d n K x0 r13 g20 h21)))) ∧ (¬ 3 ≤ r13 → mf_MT C l 8 YX12_qTest [(2, x0)] n n g14 h15 (fun r22 g23 h24 => JX12_ask_109 C l d n K x0 r13 g23 h24)))))))))))))))))) ∧ (h x0 54 = 0 → (∀ h25 : mf_M, h25 = mf_up h x0 1 0 → K (-1000000000000000) g h25)))) : mf_MT C l d YX12_ask [(2, x0)] n n g h K := by
  refine mf_entry (by decide) (Nat.le_of_ble_eq_true rfl) ?_
  refine mf_aload_n (mf_dat eX12_ask_p0 0 rfl) rfl rfl ?_
  obtain ⟨ck1, hyp⟩ := hyp
  refine mf_getf (r := (RX12, TX12, 106)) (ci := 12) (k := 54) (t := 0) (v := h x0 54) (mf_dat eX12_ask_p0 1 rfl) fl_X12_389 rfl (by decide) rfl rfl ck1 ?_
  refine mf_if_ne (tgt := 16) (mf_dat eX12_ask_p0 2 rfl) (by decide) (fun hc => ?_) (fun hc => ?_)
  · replace hyp := hyp.1 hc
    refine mf_aload_n (mf_dat eX12_ask_p0 8 rfl) rfl rfl ?_
    refine mf_aload_n (mf_dat eX12_ask_p0 9 rfl) rfl rfl ?_
    refine mf_getf (r := (RX12, TX12, 106)) (ci := 12) (k := 1) (t := 0) (v := h x0 1) (mf_dat eX12_ask_p0 10 rfl) fl_X12_240 rfl (by decide) rfl rfl ck1 ?_
    refine mf_putI (r := (RX12, TX12, 106)) (ci := 12) (k := 3) (kI := 3) (t := 0) (mf_dat eX12_ask_p0 11 rfl) fl_X12_252 rfl rfl (by decide) rfl (by decide) rfl (by decide) (fun h9 => absurd h9 (by decide)) ck1 ?_
    generalize qh2 : mf_up h x0 3 (h x0 1) = h2
    replace hyp := hyp _ qh2.symm
    refine mf_aload_n (mf_dat eX12_ask_p0 12 rfl) rfl rfl ?_
    refine mf_iconst (v := 0) (mf_dat eX12_ask_p0 13 rfl) (by decide) ?_
    refine mf_putI (r := (RX12, TX12, 106)) (ci := 12) (k := 1) (kI := 1) (t := 0) (mf_dat eX12_ask_p0 14 rfl) fl_X12_240 rfl rfl (by decide) rfl (by decide) rfl (by decide) (fun h9 => absurd h9 (by decide)) ck1 ?_
    generalize qh3 : mf_up h2 x0 1 0 = h3
    replace hyp := hyp _ qh3.symm
    refine mf_aload_n (mf_dat eX12_ask_p0 15 rfl) rfl rfl ?_
    refine mf_iconst (v := 0) (mf_dat eX12_ask_p0 16 rfl) (by decide) ?_
    refine mf_putI (r := (RX12, TX12, 106)) (ci := 12) (k := 2) (kI := 2) (t := 0) (mf_dat eX12_ask_p0 17 rfl) fl_X12_249 rfl rfl (by decide) rfl (by decide) rfl (by decide) (fun h9 => absurd h9 (by decide)) ck1 ?_
    generalize qh4 : mf_up h3 x0 2 0 = h4
    replace hyp := hyp _ qh4.symm
    refine mf_aload_n (mf_dat eX12_ask_p0 18 rfl) rfl rfl ?_
    refine mf_iconst (v := (-1)) (mf_dat eX12_ask_p0 19 rfl) (by decide) ?_
    refine mf_putI (r := (RX12, TX12, 106)) (ci := 12) (k := 4) (kI := 4) (t := 0) (mf_dat eX12_ask_p0 20 rfl) fl_X12_263 rfl rfl (by decide) rfl (by decide) rfl (by decide) (fun h9 => absurd h9 (by decide)) ck1 ?_
    generalize qh5 : mf_up h4 x0 4 (-1) = h5
    replace hyp := hyp _ qh5.symm
    refine mf_aload_n (mf_dat eX12_ask_p0 21 rfl) rfl rfl ?_
    refine mf_iconst (v := 0) (mf_dat eX12_ask_p0 22 rfl) (by decide) ?_
    refine mf_putI (r := (RX12, TX12, 106)) (ci := 12) (k := 5) (kI := 5) (t := 0) (mf_dat eX12_ask_p0 23 rfl) fl_X12_243 rfl rfl (by decide) rfl (by decide) rfl (by decide) (fun h9 => absurd h9 (by decide)) ck1 ?_
    generalize qh6 : mf_up h5 x0 5 0 = h6
    replace hyp := hyp _ qh6.symm
    refine mf_aload_n (mf_dat eX12_ask_p0 24 rfl) rfl rfl ?_
    refine mf_iconst (v := (-1)) (mf_dat eX12_ask_p0 25 rfl) (by decide) ?_
    refine mf_putI (r := (RX12, TX12, 106)) (ci := 12) (k := 6) (kI := 6) (t := 0) (mf_dat eX12_ask_p0 26 rfl) fl_X12_246 rfl rfl (by decide) rfl (by decide) rfl (by decide) (fun h9 => absurd h9 (by decide)) ck1 ?_
    generalize qh7 : mf_up h6 x0 6 (-1) = h7
    replace hyp := hyp _ qh7.symm
    refine mf_aload_n (mf_dat eX12_ask_p0 27 rfl) rfl rfl ?_
    refine mf_iconst (v := 3) (mf_dat eX12_ask_p0 28 rfl) (by decide) ?_
    refine mf_putI (r := (RX12, TX12, 106)) (ci := 12) (k := 55) (kI := 55) (t := 0) (mf_dat eX12_ask_p0 29 rfl) fl_X12_301 rfl rfl (by decide) rfl (by decide) rfl (by decide) (fun h9 => absurd h9 (by decide)) ck1 ?_
    generalize qh8 : mf_up h7 x0 55 3 = h8
    replace hyp := hyp _ qh8.symm
    refine mf_aload_n (mf_dat eX12_ask_p0 30 rfl) rfl rfl ?_
    refine mf_iconst (v := 0) (mf_dat eX12_ask_p0 31 rfl) (by decide) ?_
    refine mf_putI (r := (RX12, TX12, 106)) (ci := 12) (k := 95) (kI := 95) (t := 0) (mf_dat eX12_ask_p0 32 rfl) fl_X12_338 rfl rfl (by decide) rfl (by decide) rfl (by decide) (fun h9 => absurd h9 (by decide)) ck1 ?_
    generalize qh9 : mf_up h8 x0 95 0 = h9
    replace hyp := hyp _ qh9.symm
    refine mf_aload_n (mf_dat eX12_ask_p0 33 rfl) rfl rfl ?_
    refine mf_iconst (v := 0) (mf_dat eX12_ask_p0 34 rfl) (by decide) ?_
    refine mf_putI (r := (RX12, TX12, 106)) (ci := 12) (k := 97) (kI := 97) (t := 0) (mf_dat eX12_ask_p0 35 rfl) fl_X12_341 rfl rfl (by decide) rfl (by decide) rfl (by decide) (fun h9 => absurd h9 (by decide)) ck1 ?_
    generalize qh10 : mf_up h9 x0 97 0 = h10
    replace hyp := hyp _ qh10.symm
    refine mf_aload_n (mf_dat eX12_ask_p0 36 rfl) rfl rfl ?_
    refine mf_iconst (v := 0) (mf_dat eX12_ask_p0 37 rfl) (by decide) ?_
    refine mf_putI (r := (RX12, TX12, 106)) (ci := 12) (k := 98) (kI := 98) (t := 0) (mf_dat eX12_ask_p0 38 rfl) fl_X12_344 rfl rfl (by decide) rfl (by decide) rfl (by decide) (fun h9 => absurd h9 (by decide)) ck1 ?_
    generalize qh11 : mf_up h10 x0 98 0 = h11
    replace hyp := hyp _ qh11.symm
    refine mf_aload_n (mf_dat eX12_ask_p0 39 rfl) rfl rfl ?_
    refine mf_iconst (v := 0) (mf_dat eX12_ask_p0 40 rfl) (by decide) ?_
    refine mf_putI (r := (RX12, TX12, 106)) (ci := 12) (k := 99) (kI := 99) (t := 0) (mf_dat eX12_ask_p0 41 rfl) fl_X12_347 rfl rfl (by decide) rfl (by decide) rfl (by decide) (fun h9 => absurd h9 (by decide)) ck1 ?_
    generalize qh12 : mf_up h11 x0 99 0 = h12
    replace hyp := hyp _ qh12.symm
    refine mf_aload_n (mf_dat eX12_ask_p0 42 rfl) rfl rfl ?_
    refine mf_callV (Yc := YX12_qKind) (r := (RX12, TX12, 106)) (ci := 12) (mf_dat eX12_ask_p0 43 rfl) ml_X12_656 okX12_qKind im_X12_qKind sl_X12_qKind rfl rfl rfl rfl (Nat.le_of_ble_eq_true rfl) (mf_rr (Nat.le_trans (by decide) hd) (Nat.le_refl _)) (Nat.le_refl _) ck1 hyp (fun r13 g14 h15 hyp => ?_)
    refine mf_istore_n (mf_dat eX12_ask_p0 44 rfl) rfl (by decide) ?_
    refine mf_aload_n (mf_dat eX12_ask_p0 45 rfl) rfl rfl ?_
    refine mf_getf (r := (RX12, TX12, 106)) (ci := 12) (k := 5) (t := 0) (v := h15 x0 5) (mf_dat eX12_ask_p0 46 rfl) fl_X12_243 rfl (by decide) rfl rfl ck1 ?_
    refine mf_if_ne (tgt := 98) (mf_dat eX12_ask_p0 47 rfl) (by decide) (fun hc => ?_) (fun hc => ?_)
    · replace hyp := hyp.1 hc
      refine mf_aload_n (mf_dat eX12_ask_p0 54 rfl) rfl rfl ?_
      refine mf_getf (r := (RX12, TX12, 106)) (ci := 12) (k := 5) (t := 0) (v := h15 x0 5) (mf_dat eX12_ask_p0 55 rfl) fl_X12_243 rfl (by decide) rfl rfl ck1 ?_
      refine mf_if_ne (tgt := 109) (mf_dat eX12_ask_p0 56 rfl) (by decide) (fun hc => ?_) (fun hc => ?_)
      · replace hyp := hyp.1 hc
        exact mf_sub [1, 0] rfl hyp
      · replace hyp := hyp.2 hc
        refine mf_aload_n (mf_dat eX12_ask_p0 57 rfl) rfl rfl ?_
        refine mf_callV (Yc := YX12_qSums) (r := (RX12, TX12, 106)) (ci := 12) (mf_dat eX12_ask_p0 58 rfl) ml_X12_353 okX12_qSums im_X12_qSums sl_X12_qSums rfl rfl rfl rfl (Nat.le_of_ble_eq_true rfl) (mf_rr (Nat.le_trans (by decide) hd) (Nat.le_refl _)) (Nat.le_refl _) ck1 hyp (fun r16 g17 h18 hyp => ?_)
        exact mf_sub [1, 0] rfl hyp
    · replace hyp := hyp.2 hc
      refine mf_iload_n (mf_dat eX12_ask_p0 48 rfl) rfl rfl ?_
      refine mf_iconst (v := 3) (mf_dat eX12_ask_p0 49 rfl) (by decide) ?_
      refine mf_icmp_ge (tgt := 98) (mf_dat eX12_ask_p0 50 rfl) (by decide) (fun hc => ?_) (fun hc => ?_)
      · replace hyp := hyp.1 hc
        refine mf_aload_n (mf_dat eX12_ask_p0 54 rfl) rfl rfl ?_
        refine mf_getf (r := (RX12, TX12, 106)) (ci := 12) (k := 5) (t := 0) (v := h15 x0 5) (mf_dat eX12_ask_p0 55 rfl) fl_X12_243 rfl (by decide) rfl rfl ck1 ?_
        refine mf_if_ne (tgt := 109) (mf_dat eX12_ask_p0 56 rfl) (by decide) (fun hc => ?_) (fun hc => ?_)
        · replace hyp := hyp.1 hc
          exact mf_sub [1, 0] rfl hyp
        · replace hyp := hyp.2 hc
          refine mf_aload_n (mf_dat eX12_ask_p0 57 rfl) rfl rfl ?_
          refine mf_callV (Yc := YX12_qSums) (r := (RX12, TX12, 106)) (ci := 12) (mf_dat eX12_ask_p0 58 rfl) ml_X12_353 okX12_qSums im_X12_qSums sl_X12_qSums rfl rfl rfl rfl (Nat.le_of_ble_eq_true rfl) (mf_rr (Nat.le_trans (by decide) hd) (Nat.le_refl _)) (Nat.le_refl _) ck1 hyp (fun r19 g20 h21 hyp => ?_)
          exact mf_sub [1, 0] rfl hyp
      · replace hyp := hyp.2 hc
        refine mf_aload_n (mf_dat eX12_ask_p0 51 rfl) rfl rfl ?_
        refine mf_callV (Yc := YX12_qTest) (r := (RX12, TX12, 106)) (ci := 12) (mf_dat eX12_ask_p0 52 rfl) ml_X12_350 okX12_qTest im_X12_qTest sl_X12_qTest rfl rfl rfl rfl (Nat.le_of_ble_eq_true rfl) (mf_rr (Nat.le_trans (by decide) hd) (Nat.le_refl _)) (Nat.le_refl _) ck1 hyp (fun r22 g23 h24 hyp => ?_)
        refine mf_goto (tgt := 109) (mf_dat eX12_ask_p0 53 rfl) (by decide) ?_
        exact mf_sub [1, 0] rfl hyp
  · replace hyp := hyp.2 hc
    refine mf_aload_n (mf_dat eX12_ask_p0 3 rfl) rfl rfl ?_
    refine mf_iconst (v := 0) (mf_dat eX12_ask_p0 4 rfl) (by decide) ?_
    refine mf_putI (r := (RX12, TX12, 106)) (ci := 12) (k := 1) (kI := 1) (t := 0) (mf_dat eX12_ask_p0 5 rfl) fl_X12_240 rfl rfl (by decide) rfl (by decide) rfl (by decide) (fun h9 => absurd h9 (by decide)) ck1 ?_
    generalize qh25 : mf_up h x0 1 0 = h25
    replace hyp := hyp _ qh25.symm
    refine mf_ldc2 (v := (-1000000000000000)) cl_X12_654 (mf_dat eX12_ask_p0 6 rfl) (by decide) ?_
    exact mf_lreturn (mf_dat eX12_ask_p0 7 rfl) rfl hyp
abbrev JX12_checked_5 (C : mf_G) (l : Launch) (d n : Nat) (K : mf_Kt) (x0 x1 x2 x3 : Int) (g h : mf_M) : Prop := mf_AW C l YX12_checked (mf_rm d n n) n (mf_Zm C YX12_checked n n K) (fun _ _ => True) 5 [(0, (2, x0)), (1, (0, x1)), (2, (0, x2)), (3, (0, x3))] [] n g h
set_option maxRecDepth 100000 in
set_option maxHeartbeats 4000000 in
theorem bX12_checked_5 {C : mf_G} {l : Launch} {d n : Nat} {K : mf_Kt} {x0 x1 x2 x3 : Int} {g h : mf_M} (hyp : ((x1 ≤ x3 → K x2 g h) ∧ (¬ x1 ≤ x3 → mf_is n x0 20 ∧ 0 ≤ x3 ∧ x3 < mf_len x0 ∧ (∀ v4 : Int, v4 = (mf_w32 ((mf_w32 (3 * x2)) + (h x0 x3))).tmod 251 → (∀ v5 : Int, v5 = mf_w32 (x3 + 1) → JX12_checked_5 C l d n K x0 x1 v4 v5 g h))))) : JX12_checked_5 C l d n K x0 x1 x2 x3 g h := by
  refine mf_iload_n (mf_dat eX12_checked 4 rfl) rfl rfl ?_
  refine mf_iload_n (mf_dat eX12_checked 5 rfl) rfl rfl ?_
  refine mf_icmp_ge (tgt := 28) (mf_dat eX12_checked 6 rfl) (by decide) (fun hc => ?_) (fun hc => ?_)
  · replace hyp := hyp.1 hc
    refine mf_iload_n (mf_dat eX12_checked 19 rfl) rfl rfl ?_
    exact mf_ireturn (mf_dat eX12_checked 20 rfl) rfl (Or.inl rfl) hyp
  · replace hyp := hyp.2 hc
    refine mf_iconst (v := 3) (mf_dat eX12_checked 7 rfl) (by decide) ?_
    refine mf_iload_n (mf_dat eX12_checked 8 rfl) rfl rfl ?_
    refine mf_imul (mf_dat eX12_checked 9 rfl) ?_
    refine mf_aload_n (mf_dat eX12_checked 10 rfl) rfl rfl ?_
    refine mf_iload_n (mf_dat eX12_checked 11 rfl) rfl rfl ?_
    obtain ⟨ck1, hyp⟩ := hyp
    obtain ⟨ck2, hyp⟩ := hyp
    obtain ⟨ck3, hyp⟩ := hyp
    refine mf_iald (mf_dat eX12_checked 12 rfl) ck1 ck2 ck3 ?_
    refine mf_iadd (mf_dat eX12_checked 13 rfl) ?_
    refine mf_sipush (v := 251) (mf_dat eX12_checked 14 rfl) (by decide) ?_
    refine mf_irem (mf_dat eX12_checked 15 rfl) (by decide) ?_
    generalize qv4 : (mf_w32 ((mf_w32 (3 * x2)) + (h x0 x3))).tmod 251 = v4
    replace hyp := hyp _ qv4.symm
    refine mf_istore_n (mf_dat eX12_checked 16 rfl) rfl (by decide) ?_
    refine mf_iinc (mf_dat eX12_checked 17 rfl) rfl (by decide) (by decide) ?_
    generalize qv5 : mf_w32 (x3 + 1) = v5
    replace hyp := hyp _ qv5.symm
    refine mf_goto (tgt := 5) (mf_dat eX12_checked 18 rfl) (by decide) ?_
    exact mf_sub [2, 3, 1, 0] rfl hyp
set_option maxRecDepth 100000 in
set_option maxHeartbeats 4000000 in
theorem mX12_checked {C : mf_G} {l : Launch} {d n : Nat} {K : mf_Kt} {x0 x1 : Int} {g h : mf_M} (hyp : JX12_checked_5 C l d n K x0 x1 83 0 g h) : mf_MT C l d YX12_checked [(2, x0), (0, x1)] n n g h K := by
  refine mf_entry (by decide) (Nat.le_of_ble_eq_true rfl) ?_
  refine mf_bipush (v := 83) (mf_dat eX12_checked 0 rfl) (by decide) ?_
  refine mf_istore_n (mf_dat eX12_checked 1 rfl) rfl (by decide) ?_
  refine mf_iconst (v := 0) (mf_dat eX12_checked 2 rfl) (by decide) ?_
  refine mf_istore_n (mf_dat eX12_checked 3 rfl) rfl (by decide) ?_
  exact mf_sub [2, 3, 1, 0] rfl hyp
set_option maxRecDepth 100000 in
set_option maxHeartbeats 4000000 in
theorem mX12_writes {C : mf_G} {l : Launch} {d n : Nat} {K : mf_Kt} {x0 x1 : Int} {g h : mf_M} (hyp : mf_is n x0 12 ∧ mf_is n (g x0 104) 20 ∧ 0 ≤ h x0 105 ∧ h x0 105 < mf_len (g x0 104) ∧ (∀ h5 : mf_M, h5 = mf_up h (g x0 104) (h x0 105) x1 → (∀ h6 : mf_M, h6 = mf_up h5 x0 105 (mf_w32 ((h5 x0 105) + 1)) → K 0 g h6))) : mf_MT C l d YX12_writes [(2, x0), (0, x1)] n n g h K := by
  refine mf_entry (by decide) (Nat.le_of_ble_eq_true rfl) ?_
  refine mf_aload_n (mf_dat eX12_writes 0 rfl) rfl rfl ?_
  obtain ⟨ck1, hyp⟩ := hyp
  refine mf_getf (r := (RX12, TX12, 106)) (ci := 12) (k := 104) (t := 2) (v := g x0 104) (mf_dat eX12_writes 1 rfl) fl_X12_237 rfl (by decide) rfl rfl ck1 ?_
  refine mf_aload_n (mf_dat eX12_writes 2 rfl) rfl rfl ?_
  refine mf_getf (r := (RX12, TX12, 106)) (ci := 12) (k := 105) (t := 0) (v := h x0 105) (mf_dat eX12_writes 3 rfl) fl_X12_667 rfl (by decide) rfl rfl ck1 ?_
  refine mf_iload_n (mf_dat eX12_writes 4 rfl) rfl rfl ?_
  obtain ⟨ck2, hyp⟩ := hyp
  obtain ⟨ck3, hyp⟩ := hyp
  obtain ⟨ck4, hyp⟩ := hyp
  refine mf_iast (mf_dat eX12_writes 5 rfl) ck2 ck3 ck4 ?_
  generalize qh5 : mf_up h (g x0 104) (h x0 105) x1 = h5
  replace hyp := hyp _ qh5.symm
  refine mf_aload_n (mf_dat eX12_writes 6 rfl) rfl rfl ?_
  refine mf_dup (mf_dat eX12_writes 7 rfl) (by decide) ?_
  refine mf_getf (r := (RX12, TX12, 106)) (ci := 12) (k := 105) (t := 0) (v := h5 x0 105) (mf_dat eX12_writes 8 rfl) fl_X12_667 rfl (by decide) rfl rfl ck1 ?_
  refine mf_iconst (v := 1) (mf_dat eX12_writes 9 rfl) (by decide) ?_
  refine mf_iadd (mf_dat eX12_writes 10 rfl) ?_
  refine mf_putI (r := (RX12, TX12, 106)) (ci := 12) (k := 105) (kI := 105) (t := 0) (mf_dat eX12_writes 11 rfl) fl_X12_667 rfl rfl (by decide) rfl (by decide) rfl (by decide) (fun h9 => absurd h9 (by decide)) ck1 ?_
  generalize qh6 : mf_up h5 x0 105 (mf_w32 ((h5 x0 105) + 1)) = h6
  replace hyp := hyp _ qh6.symm
  exact mf_return (mf_dat eX12_writes 12 rfl) rfl hyp
set_option maxRecDepth 100000 in
set_option maxHeartbeats 4000000 in
theorem mX12_writesTwo {C : mf_G} {l : Launch} {d n : Nat} {K : mf_Kt} {x0 x1 : Int} {g h : mf_M} (hd : 1 ≤ d) (hyp : mf_is n x0 12 ∧ mf_MT C l 0 YX12_writes [(2, x0), (0, mf_w32 (x1.tdiv 256))] n n g h (fun r1 g2 h3 => mf_MT C l 0 YX12_writes [(2, x0), (0, x1.tmod 256)] n n g2 h3 (fun r5 g6 h7 => K 0 g6 h7))) : mf_MT C l d YX12_writesTwo [(2, x0), (0, x1)] n n g h K := by
  refine mf_entry (by decide) (Nat.le_of_ble_eq_true rfl) ?_
  refine mf_aload_n (mf_dat eX12_writesTwo 0 rfl) rfl rfl ?_
  refine mf_iload_n (mf_dat eX12_writesTwo 1 rfl) rfl rfl ?_
  refine mf_sipush (v := 256) (mf_dat eX12_writesTwo 2 rfl) (by decide) ?_
  refine mf_idiv (mf_dat eX12_writesTwo 3 rfl) (by decide) ?_
  obtain ⟨ck4, hyp⟩ := hyp
  refine mf_callV (Yc := YX12_writes) (r := (RX12, TX12, 106)) (ci := 12) (mf_dat eX12_writesTwo 4 rfl) ml_X12_670 okX12_writes im_X12_writes sl_X12_writes rfl rfl rfl rfl (Nat.le_of_ble_eq_true rfl) (mf_rr (Nat.le_trans (by decide) hd) (Nat.le_refl _)) (Nat.le_refl _) ck4 hyp (fun r1 g2 h3 hyp => ?_)
  refine mf_aload_n (mf_dat eX12_writesTwo 5 rfl) rfl rfl ?_
  refine mf_iload_n (mf_dat eX12_writesTwo 6 rfl) rfl rfl ?_
  refine mf_sipush (v := 256) (mf_dat eX12_writesTwo 7 rfl) (by decide) ?_
  refine mf_irem (mf_dat eX12_writesTwo 8 rfl) (by decide) ?_
  refine mf_callV (Yc := YX12_writes) (r := (RX12, TX12, 106)) (ci := 12) (mf_dat eX12_writesTwo 9 rfl) ml_X12_670 okX12_writes im_X12_writes sl_X12_writes rfl rfl rfl rfl (Nat.le_of_ble_eq_true rfl) (mf_rr (Nat.le_trans (by decide) hd) (Nat.le_refl _)) (Nat.le_refl _) ck4 hyp (fun r5 g6 h7 hyp => ?_)
  exact mf_return (mf_dat eX12_writesTwo 10 rfl) rfl hyp
abbrev JX12_image_17 (C : mf_G) (l : Launch) (d n : Nat) (K : mf_Kt) (x0 x1 : Int) (g h : mf_M) : Prop := mf_AW C l YX12_image (mf_rm d n n) n (mf_Zm C YX12_image n n K) (fun _ _ => True) 17 [(0, (2, x0)), (1, (0, x1))] [] n g h
abbrev JX12_image_45 (C : mf_G) (l : Launch) (d n : Nat) (K : mf_Kt) (x0 x1 : Int) (g h : mf_M) : Prop := mf_AW C l YX12_image (mf_rm d n n) n (mf_Zm C YX12_image n n K) (fun _ _ => True) 45 [(0, (2, x0)), (1, (0, x1))] [] n g h
set_option maxRecDepth 100000 in
set_option maxHeartbeats 4000000 in
theorem bX12_image_17 {C : mf_G} {l : Launch} {d n : Nat} {K : mf_Kt} {x0 x1 : Int} {g h : mf_M} (hd : 1 ≤ d) (hyp : mf_is n x0 12 ∧ mf_MT C l 0 YX12_leaves [(2, x0)] n n g h (fun r1 g2 h3 => ((r1 ≤ x1 → JX12_image_45 C l d n K x0 0 g2 h3) ∧ (¬ r1 ≤ x1 → mf_is n (g2 x0 56) 20 ∧ 0 ≤ mf_w32 (1 + x1) ∧ mf_w32 (1 + x1) < mf_len (g2 x0 56) ∧ mf_MT C l 0 YX12_writes [(2, x0), (0, h3 (g2 x0 56) (mf_w32 (1 + x1)))] n n g2 h3 (fun r8 g9 h10 => (∀ v11 : Int, v11 = mf_w32 (x1 + 1) → JX12_image_17 C l d n K x0 v11 g9 h10)))))) : JX12_image_17 C l d n K x0 x1 g h := by
  refine mf_iload_n (mf_dat eX12_image_p0 11 rfl) rfl rfl ?_
  refine mf_aload_n (mf_dat eX12_image_p0 12 rfl) rfl rfl ?_
  obtain ⟨ck4, hyp⟩ := hyp
  refine mf_callV (Yc := YX12_leaves) (r := (RX12, TX12, 106)) (ci := 12) (mf_dat eX12_image_p0 13 rfl) ml_X12_405 okX12_leaves im_X12_leaves sl_X12_leaves rfl rfl rfl rfl (Nat.le_of_ble_eq_true rfl) (mf_rr (Nat.le_trans (by decide) hd) (Nat.le_refl _)) (Nat.le_refl _) ck4 hyp (fun r1 g2 h3 hyp => ?_)
  refine mf_icmp_ge (tgt := 43) (mf_dat eX12_image_p0 14 rfl) (by decide) (fun hc => ?_) (fun hc => ?_)
  · replace hyp := hyp.1 hc
    refine mf_iconst (v := 0) (mf_dat eX12_image_p0 25 rfl) (by decide) ?_
    refine mf_istore_n (mf_dat eX12_image_p0 26 rfl) rfl (by decide) ?_
    exact mf_sub [1, 0] rfl hyp
  · replace hyp := hyp.2 hc
    refine mf_aload_n (mf_dat eX12_image_p0 15 rfl) rfl rfl ?_
    refine mf_aload_n (mf_dat eX12_image_p0 16 rfl) rfl rfl ?_
    refine mf_getf (r := (RX12, TX12, 106)) (ci := 12) (k := 56) (t := 2) (v := g2 x0 56) (mf_dat eX12_image_p0 17 rfl) fl_X12_136 rfl (by decide) rfl rfl ck4 ?_
    refine mf_iconst (v := 1) (mf_dat eX12_image_p0 18 rfl) (by decide) ?_
    refine mf_iload_n (mf_dat eX12_image_p0 19 rfl) rfl rfl ?_
    refine mf_iadd (mf_dat eX12_image_p0 20 rfl) ?_
    obtain ⟨ck5, hyp⟩ := hyp
    obtain ⟨ck6, hyp⟩ := hyp
    obtain ⟨ck7, hyp⟩ := hyp
    refine mf_iald (mf_dat eX12_image_p0 21 rfl) ck5 ck6 ck7 ?_
    refine mf_callV (Yc := YX12_writes) (r := (RX12, TX12, 106)) (ci := 12) (mf_dat eX12_image_p0 22 rfl) ml_X12_670 okX12_writes im_X12_writes sl_X12_writes rfl rfl rfl rfl (Nat.le_of_ble_eq_true rfl) (mf_rr (Nat.le_trans (by decide) hd) (Nat.le_refl _)) (Nat.le_refl _) ck4 hyp (fun r8 g9 h10 hyp => ?_)
    refine mf_iinc (mf_dat eX12_image_p0 23 rfl) rfl (by decide) (by decide) ?_
    generalize qv11 : mf_w32 (x1 + 1) = v11
    replace hyp := hyp _ qv11.symm
    refine mf_goto (tgt := 17) (mf_dat eX12_image_p0 24 rfl) (by decide) ?_
    exact mf_sub [1, 0] rfl hyp
set_option maxRecDepth 100000 in
set_option maxHeartbeats 4000000 in
theorem bX12_image_45 {C : mf_G} {l : Launch} {d n : Nat} {K : mf_Kt} {x0 x1 : Int} {g h : mf_M} (hd : 2 ≤ d) (hyp : mf_is n x0 12 ∧ mf_MT C l 0 YX12_beingMany [(2, x0)] n n g h (fun r1 g2 h3 => ((r1 ≤ x1 → mf_MT C l 0 YX12_checked [(2, g2 x0 104), (0, h3 x0 105)] n n g2 h3 (fun r5 g6 h7 => mf_MT C l 0 YX12_writes [(2, x0), (0, r5)] n n g6 h7 (fun r8 g9 h10 => K (h10 x0 105) g9 h10))) ∧ (¬ r1 ≤ x1 → mf_MT C l 0 YX12_leafOf [(2, x0), (0, x1)] n n g2 h3 (fun r11 g12 h13 => mf_MT C l 0 YX12_writes [(2, x0), (0, r11)] n n g12 h13 (fun r14 g15 h16 => mf_MT C l 0 YX12_cellOf [(2, x0), (0, x1)] n n g15 h16 (fun r17 g18 h19 => mf_MT C l 0 YX12_writes [(2, x0), (0, r17)] n n g18 h19 (fun r20 g21 h22 => mf_MT C l 0 YX12_purseOf [(2, x0), (0, x1)] n n g21 h22 (fun r23 g24 h25 => mf_MT C l 1 YX12_writesTwo [(2, x0), (0, r23)] n n g24 h25 (fun r26 g27 h28 => mf_is n (g27 x0 56) 20 ∧ 0 ≤ mf_w32 ((mf_w32 (7 + (mf_w32 (4 * x1)))) + 3) ∧ mf_w32 ((mf_w32 (7 + (mf_w32 (4 * x1)))) + 3) < mf_len (g27 x0 56) ∧ mf_MT C l 1 YX12_writesTwo [(2, x0), (0, h28 (g27 x0 56) (mf_w32 ((mf_w32 (7 + (mf_w32 (4 * x1)))) + 3)))] n n g27 h28 (fun r32 g33 h34 => (∀ v35 : Int, v35 = mf_w32 (x1 + 1) → JX12_image_45 C l d n K x0 v35 g33 h34)))))))))))) : JX12_image_45 C l d n K x0 x1 g h := by
  refine mf_iload_n (mf_dat eX12_image_p0 27 rfl) rfl rfl ?_
  refine mf_aload_n (mf_dat eX12_image_p0 28 rfl) rfl rfl ?_
  obtain ⟨ck4, hyp⟩ := hyp
  refine mf_callV (Yc := YX12_beingMany) (r := (RX12, TX12, 106)) (ci := 12) (mf_dat eX12_image_p0 29 rfl) ml_X12_402 okX12_beingMany im_X12_beingMany sl_X12_beingMany rfl rfl rfl rfl (Nat.le_of_ble_eq_true rfl) (mf_rr (Nat.le_trans (by decide) hd) (Nat.le_refl _)) (Nat.le_refl _) ck4 hyp (fun r1 g2 h3 hyp => ?_)
  refine mf_icmp_ge (tgt := 103) (mf_dat eX12_image_p0 30 rfl) (by decide) (fun hc => ?_) (fun hc => ?_)
  · replace hyp := hyp.1 hc
    refine mf_aload_n (mf_dat eX12_image_p1 0 rfl) rfl rfl ?_
    refine mf_aload_n (mf_dat eX12_image_p1 1 rfl) rfl rfl ?_
    refine mf_getf (r := (RX12, TX12, 106)) (ci := 12) (k := 104) (t := 2) (v := g2 x0 104) (mf_dat eX12_image_p1 2 rfl) fl_X12_237 rfl (by decide) rfl rfl ck4 ?_
    refine mf_aload_n (mf_dat eX12_image_p1 3 rfl) rfl rfl ?_
    refine mf_getf (r := (RX12, TX12, 106)) (ci := 12) (k := 105) (t := 0) (v := h3 x0 105) (mf_dat eX12_image_p1 4 rfl) fl_X12_667 rfl (by decide) rfl rfl ck4 ?_
    refine mf_callS (Yc := YX12_checked) (mf_dat eX12_image_p1 5 rfl) ml_X12_676 okX12_checked sm_X12_checked rfl rfl (Nat.le_of_ble_eq_true rfl) (mf_rr (Nat.le_trans (by decide) hd) (Nat.le_refl _)) (Nat.le_refl _) hyp (fun r5 g6 h7 hyp => ?_)
    refine mf_callV (Yc := YX12_writes) (r := (RX12, TX12, 106)) (ci := 12) (mf_dat eX12_image_p1 6 rfl) ml_X12_670 okX12_writes im_X12_writes sl_X12_writes rfl rfl rfl rfl (Nat.le_of_ble_eq_true rfl) (mf_rr (Nat.le_trans (by decide) hd) (Nat.le_refl _)) (Nat.le_refl _) ck4 hyp (fun r8 g9 h10 hyp => ?_)
    refine mf_aload_n (mf_dat eX12_image_p1 7 rfl) rfl rfl ?_
    refine mf_getf (r := (RX12, TX12, 106)) (ci := 12) (k := 105) (t := 0) (v := h10 x0 105) (mf_dat eX12_image_p1 8 rfl) fl_X12_667 rfl (by decide) rfl rfl ck4 ?_
    exact mf_ireturn (mf_dat eX12_image_p1 9 rfl) rfl (Or.inl rfl) hyp
  · replace hyp := hyp.2 hc
    refine mf_aload_n (mf_dat eX12_image_p0 31 rfl) rfl rfl ?_
    refine mf_aload_n (mf_dat eX12_image_p0 32 rfl) rfl rfl ?_
    refine mf_iload_n (mf_dat eX12_image_p0 33 rfl) rfl rfl ?_
    refine mf_callV (Yc := YX12_leafOf) (r := (RX12, TX12, 106)) (ci := 12) (mf_dat eX12_image_p0 34 rfl) ml_X12_410 okX12_leafOf im_X12_leafOf sl_X12_leafOf rfl rfl rfl rfl (Nat.le_of_ble_eq_true rfl) (mf_rr (Nat.le_trans (by decide) hd) (Nat.le_refl _)) (Nat.le_refl _) ck4 hyp (fun r11 g12 h13 hyp => ?_)
    refine mf_callV (Yc := YX12_writes) (r := (RX12, TX12, 106)) (ci := 12) (mf_dat eX12_image_p0 35 rfl) ml_X12_670 okX12_writes im_X12_writes sl_X12_writes rfl rfl rfl rfl (Nat.le_of_ble_eq_true rfl) (mf_rr (Nat.le_trans (by decide) hd) (Nat.le_refl _)) (Nat.le_refl _) ck4 hyp (fun r14 g15 h16 hyp => ?_)
    refine mf_aload_n (mf_dat eX12_image_p0 36 rfl) rfl rfl ?_
    refine mf_aload_n (mf_dat eX12_image_p0 37 rfl) rfl rfl ?_
    refine mf_iload_n (mf_dat eX12_image_p0 38 rfl) rfl rfl ?_
    refine mf_callV (Yc := YX12_cellOf) (r := (RX12, TX12, 106)) (ci := 12) (mf_dat eX12_image_p0 39 rfl) ml_X12_413 okX12_cellOf im_X12_cellOf sl_X12_cellOf rfl rfl rfl rfl (Nat.le_of_ble_eq_true rfl) (mf_rr (Nat.le_trans (by decide) hd) (Nat.le_refl _)) (Nat.le_refl _) ck4 hyp (fun r17 g18 h19 hyp => ?_)
    refine mf_callV (Yc := YX12_writes) (r := (RX12, TX12, 106)) (ci := 12) (mf_dat eX12_image_p0 40 rfl) ml_X12_670 okX12_writes im_X12_writes sl_X12_writes rfl rfl rfl rfl (Nat.le_of_ble_eq_true rfl) (mf_rr (Nat.le_trans (by decide) hd) (Nat.le_refl _)) (Nat.le_refl _) ck4 hyp (fun r20 g21 h22 hyp => ?_)
    refine mf_aload_n (mf_dat eX12_image_p0 41 rfl) rfl rfl ?_
    refine mf_aload_n (mf_dat eX12_image_p0 42 rfl) rfl rfl ?_
    refine mf_iload_n (mf_dat eX12_image_p0 43 rfl) rfl rfl ?_
    refine mf_callV (Yc := YX12_purseOf) (r := (RX12, TX12, 106)) (ci := 12) (mf_dat eX12_image_p0 44 rfl) ml_X12_445 okX12_purseOf im_X12_purseOf sl_X12_purseOf rfl rfl rfl rfl (Nat.le_of_ble_eq_true rfl) (mf_rr (Nat.le_trans (by decide) hd) (Nat.le_refl _)) (Nat.le_refl _) ck4 hyp (fun r23 g24 h25 hyp => ?_)
    refine mf_callV (Yc := YX12_writesTwo) (r := (RX12, TX12, 106)) (ci := 12) (mf_dat eX12_image_p0 45 rfl) ml_X12_673 okX12_writesTwo im_X12_writesTwo sl_X12_writesTwo rfl rfl rfl rfl (Nat.le_of_ble_eq_true rfl) (mf_rr (Nat.le_trans (by decide) hd) (Nat.le_refl _)) (Nat.le_refl _) ck4 hyp (fun r26 g27 h28 hyp => ?_)
    refine mf_aload_n (mf_dat eX12_image_p0 46 rfl) rfl rfl ?_
    refine mf_aload_n (mf_dat eX12_image_p0 47 rfl) rfl rfl ?_
    refine mf_getf (r := (RX12, TX12, 106)) (ci := 12) (k := 56) (t := 2) (v := g27 x0 56) (mf_dat eX12_image_p0 48 rfl) fl_X12_136 rfl (by decide) rfl rfl ck4 ?_
    refine mf_bipush (v := 7) (mf_dat eX12_image_p0 49 rfl) (by decide) ?_
    refine mf_iconst (v := 4) (mf_dat eX12_image_p0 50 rfl) (by decide) ?_
    refine mf_iload_n (mf_dat eX12_image_p0 51 rfl) rfl rfl ?_
    refine mf_imul (mf_dat eX12_image_p0 52 rfl) ?_
    refine mf_iadd (mf_dat eX12_image_p0 53 rfl) ?_
    refine mf_iconst (v := 3) (mf_dat eX12_image_p0 54 rfl) (by decide) ?_
    refine mf_iadd (mf_dat eX12_image_p0 55 rfl) ?_
    obtain ⟨ck29, hyp⟩ := hyp
    obtain ⟨ck30, hyp⟩ := hyp
    obtain ⟨ck31, hyp⟩ := hyp
    refine mf_iald (mf_dat eX12_image_p0 56 rfl) ck29 ck30 ck31 ?_
    refine mf_callV (Yc := YX12_writesTwo) (r := (RX12, TX12, 106)) (ci := 12) (mf_dat eX12_image_p0 57 rfl) ml_X12_673 okX12_writesTwo im_X12_writesTwo sl_X12_writesTwo rfl rfl rfl rfl (Nat.le_of_ble_eq_true rfl) (mf_rr (Nat.le_trans (by decide) hd) (Nat.le_refl _)) (Nat.le_refl _) ck4 hyp (fun r32 g33 h34 hyp => ?_)
    refine mf_iinc (mf_dat eX12_image_p0 58 rfl) rfl (by decide) (by decide) ?_
    generalize qv35 : mf_w32 (x1 + 1) = v35
    replace hyp := hyp _ qv35.symm
    refine mf_goto (tgt := 45) (mf_dat eX12_image_p0 59 rfl) (by decide) ?_
    exact mf_sub [1, 0] rfl hyp
set_option maxRecDepth 100000 in
set_option maxHeartbeats 4000000 in
theorem mX12_image {C : mf_G} {l : Launch} {d n : Nat} {K : mf_Kt} {x0 : Int} {g h : mf_M} (hd : 2 ≤ d) (hyp : mf_is n x0 12 ∧ (∀ h2 : mf_M, h2 = mf_up h x0 105 0 → mf_is n (g x0 56) 20 ∧ 0 < mf_len (g x0 56) ∧ mf_MT C l 1 YX12_writesTwo [(2, x0), (0, h2 (g x0 56) 0)] n n g h2 (fun r5 g6 h7 => JX12_image_17 C l d n K x0 0 g6 h7))) : mf_MT C l d YX12_image [(2, x0)] n n g h K := by
  refine mf_entry (by decide) (Nat.le_of_ble_eq_true rfl) ?_
  refine mf_aload_n (mf_dat eX12_image_p0 0 rfl) rfl rfl ?_
  refine mf_iconst (v := 0) (mf_dat eX12_image_p0 1 rfl) (by decide) ?_
  obtain ⟨ck1, hyp⟩ := hyp
  refine mf_putI (r := (RX12, TX12, 106)) (ci := 12) (k := 105) (kI := 105) (t := 0) (mf_dat eX12_image_p0 2 rfl) fl_X12_667 rfl rfl (by decide) rfl (by decide) rfl (by decide) (fun h9 => absurd h9 (by decide)) ck1 ?_
  generalize qh2 : mf_up h x0 105 0 = h2
  replace hyp := hyp _ qh2.symm
  refine mf_aload_n (mf_dat eX12_image_p0 3 rfl) rfl rfl ?_
  refine mf_aload_n (mf_dat eX12_image_p0 4 rfl) rfl rfl ?_
  refine mf_getf (r := (RX12, TX12, 106)) (ci := 12) (k := 56) (t := 2) (v := g x0 56) (mf_dat eX12_image_p0 5 rfl) fl_X12_136 rfl (by decide) rfl rfl ck1 ?_
  refine mf_iconst (v := 0) (mf_dat eX12_image_p0 6 rfl) (by decide) ?_
  obtain ⟨ck3, hyp⟩ := hyp
  obtain ⟨ck4, hyp⟩ := hyp
  refine mf_iald (mf_dat eX12_image_p0 7 rfl) ck3 (by decide) ck4 ?_
  refine mf_callV (Yc := YX12_writesTwo) (r := (RX12, TX12, 106)) (ci := 12) (mf_dat eX12_image_p0 8 rfl) ml_X12_673 okX12_writesTwo im_X12_writesTwo sl_X12_writesTwo rfl rfl rfl rfl (Nat.le_of_ble_eq_true rfl) (mf_rr (Nat.le_trans (by decide) hd) (Nat.le_refl _)) (Nat.le_refl _) ck1 hyp (fun r5 g6 h7 hyp => ?_)
  refine mf_iconst (v := 0) (mf_dat eX12_image_p0 9 rfl) (by decide) ?_
  refine mf_istore_n (mf_dat eX12_image_p0 10 rfl) rfl (by decide) ?_
  exact mf_sub [1, 0] rfl hyp
set_option maxRecDepth 100000 in
set_option maxHeartbeats 4000000 in
theorem mX12_octet {C : mf_G} {l : Launch} {d n : Nat} {K : mf_Kt} {x0 x1 : Int} {g h : mf_M} (hyp : ((x1 < 0 → K (-1) g h) ∧ (¬ x1 < 0 → mf_is n x0 12 ∧ ((h x0 105 ≤ x1 → K (-1) g h) ∧ (¬ h x0 105 ≤ x1 → mf_is n (g x0 104) 20 ∧ 0 ≤ x1 ∧ x1 < mf_len (g x0 104) ∧ K (h (g x0 104) x1) g h))))) : mf_MT C l d YX12_octet [(2, x0), (0, x1)] n n g h K := by
  refine mf_entry (by decide) (Nat.le_of_ble_eq_true rfl) ?_
  refine mf_iload_n (mf_dat eX12_octet 0 rfl) rfl rfl ?_
  refine mf_if_lt (tgt := 21) (mf_dat eX12_octet 1 rfl) (by decide) (fun hc => ?_) (fun hc => ?_)
  · replace hyp := hyp.1 hc
    refine mf_iconst (v := (-1)) (mf_dat eX12_octet 11 rfl) (by decide) ?_
    exact mf_ireturn (mf_dat eX12_octet 12 rfl) rfl (Or.inl rfl) hyp
  · replace hyp := hyp.2 hc
    refine mf_iload_n (mf_dat eX12_octet 2 rfl) rfl rfl ?_
    refine mf_aload_n (mf_dat eX12_octet 3 rfl) rfl rfl ?_
    obtain ⟨ck1, hyp⟩ := hyp
    refine mf_getf (r := (RX12, TX12, 106)) (ci := 12) (k := 105) (t := 0) (v := h x0 105) (mf_dat eX12_octet 4 rfl) fl_X12_667 rfl (by decide) rfl rfl ck1 ?_
    refine mf_icmp_ge (tgt := 21) (mf_dat eX12_octet 5 rfl) (by decide) (fun hc => ?_) (fun hc => ?_)
    · replace hyp := hyp.1 hc
      refine mf_iconst (v := (-1)) (mf_dat eX12_octet 11 rfl) (by decide) ?_
      exact mf_ireturn (mf_dat eX12_octet 12 rfl) rfl (Or.inl rfl) hyp
    · replace hyp := hyp.2 hc
      refine mf_aload_n (mf_dat eX12_octet 6 rfl) rfl rfl ?_
      refine mf_getf (r := (RX12, TX12, 106)) (ci := 12) (k := 104) (t := 2) (v := g x0 104) (mf_dat eX12_octet 7 rfl) fl_X12_237 rfl (by decide) rfl rfl ck1 ?_
      refine mf_iload_n (mf_dat eX12_octet 8 rfl) rfl rfl ?_
      obtain ⟨ck2, hyp⟩ := hyp
      obtain ⟨ck3, hyp⟩ := hyp
      obtain ⟨ck4, hyp⟩ := hyp
      refine mf_iald (mf_dat eX12_octet 9 rfl) ck2 ck3 ck4 ?_
      refine mf_goto (tgt := 22) (mf_dat eX12_octet 10 rfl) (by decide) ?_
      exact mf_ireturn (mf_dat eX12_octet 12 rfl) rfl (Or.inl rfl) hyp
set_option maxRecDepth 100000 in
set_option maxHeartbeats 4000000 in
theorem mX12_twoAt {C : mf_G} {l : Launch} {d n : Nat} {K : mf_Kt} {x0 x1 : Int} {g h : mf_M} (hyp : mf_is n x0 12 ∧ mf_is n (g x0 0) 20 ∧ 0 ≤ x1 ∧ x1 < mf_len (g x0 0) ∧ 0 ≤ mf_w32 (x1 + 1) ∧ mf_w32 (x1 + 1) < mf_len (g x0 0) ∧ K (mf_w32 ((mf_w32 (256 * (h (g x0 0) x1))) + (h (g x0 0) (mf_w32 (x1 + 1))))) g h) : mf_MT C l d YX12_twoAt [(2, x0), (0, x1)] n n g h K := by
  refine mf_entry (by decide) (Nat.le_of_ble_eq_true rfl) ?_
  refine mf_sipush (v := 256) (mf_dat eX12_twoAt 0 rfl) (by decide) ?_
  refine mf_aload_n (mf_dat eX12_twoAt 1 rfl) rfl rfl ?_
  obtain ⟨ck1, hyp⟩ := hyp
  refine mf_getf (r := (RX12, TX12, 106)) (ci := 12) (k := 0) (t := 2) (v := g x0 0) (mf_dat eX12_twoAt 2 rfl) fl_X12_7 rfl (by decide) rfl rfl ck1 ?_
  refine mf_iload_n (mf_dat eX12_twoAt 3 rfl) rfl rfl ?_
  obtain ⟨ck2, hyp⟩ := hyp
  obtain ⟨ck3, hyp⟩ := hyp
  obtain ⟨ck4, hyp⟩ := hyp
  refine mf_iald (mf_dat eX12_twoAt 4 rfl) ck2 ck3 ck4 ?_
  refine mf_imul (mf_dat eX12_twoAt 5 rfl) ?_
  refine mf_aload_n (mf_dat eX12_twoAt 6 rfl) rfl rfl ?_
  refine mf_getf (r := (RX12, TX12, 106)) (ci := 12) (k := 0) (t := 2) (v := g x0 0) (mf_dat eX12_twoAt 7 rfl) fl_X12_7 rfl (by decide) rfl rfl ck1 ?_
  refine mf_iload_n (mf_dat eX12_twoAt 8 rfl) rfl rfl ?_
  refine mf_iconst (v := 1) (mf_dat eX12_twoAt 9 rfl) (by decide) ?_
  refine mf_iadd (mf_dat eX12_twoAt 10 rfl) ?_
  obtain ⟨ck5, hyp⟩ := hyp
  obtain ⟨ck6, hyp⟩ := hyp
  refine mf_iald (mf_dat eX12_twoAt 11 rfl) ck2 ck5 ck6 ?_
  refine mf_iadd (mf_dat eX12_twoAt 12 rfl) ?_
  exact mf_ireturn (mf_dat eX12_twoAt 13 rfl) rfl (Or.inl rfl) hyp
