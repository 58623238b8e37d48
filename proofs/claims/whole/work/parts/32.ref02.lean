set_option maxRecDepth 100000 in
set_option maxHeartbeats 4000000 in
theorem wX12_being {C : mf_G} {l : Launch} {d : Nat} {K : Int → mf_M → Prop} {x1 x2 : Int} {h : mf_M} (hd : 4 ≤ d) (hyp : mM C l 1 YX12_isBeing [(2, 245), (0, x1)] h (fun r1 h3 => ((¬ r1 = 0 → ((x2 = 0 → mM C l 0 YX12_leafOf [(2, 245), (0, x1)] h3 (fun r4 h6 => K r4 h6)) ∧ (x2 = 1 → mM C l 0 YX12_cellOf [(2, 245), (0, x1)] h3 (fun r7 h9 => K r7 h9)) ∧ (x2 = 2 → 0 ≤ mf_w32 (8 + x1) ∧ mf_w32 (8 + x1) < 16 ∧ K (h3 282 (mf_w32 (8 + x1))) h3) ∧ (x2 = 3 → mM C l 0 YX12_purseOf [(2, 245), (0, x1)] h3 (fun r12 h14 => K r12 h14)) ∧ (x2 = 4 → 0 ≤ mf_w32 ((mf_w32 (7 + (mf_w32 (4 * x1)))) + 3) ∧ mf_w32 ((mf_w32 (7 + (mf_w32 (4 * x1)))) + 3) < 160 ∧ K (h3 286 (mf_w32 ((mf_w32 (7 + (mf_w32 (4 * x1)))) + 3))) h3) ∧ (x2 = 5 → mM C l 0 YX12_leafOf [(2, 245), (0, x1)] h3 (fun r17 h19 => mM C l 3 YX12_openingOn [(2, 245), (0, h19 286 0)] h19 (fun r20 h22 => mM C l 0 YX12_isOpen [(0, r17), (0, r20)] h22 (fun r23 h25 => ((r23 = 0 → K 0 h25) ∧ (¬ r23 = 0 → K 1 h25)))))) ∧ ((x2 < 0 ∨ 5 < x2) → K (-1) h3))) ∧ (r1 = 0 → K (-1) h3)))) : mM C l d YX12_being [(2, 245), (0, x1), (0, x2)] h K := by
  intro g hG
  refine mf_entry (by decide) (Nat.le_of_ble_eq_true rfl) ?_
  refine mf_aload_n (mf_dat eX12_being 0 rfl) rfl rfl ?_
  refine mf_iload_n (mf_dat eX12_being 1 rfl) rfl rfl ?_
  refine mf_callV (Yc := YX12_isBeing) (r := (RX12, TX12, 106)) (ci := 12) (mf_dat eX12_being 2 rfl) ml_X12_502 okX12_isBeing im_X12_isBeing sl_X12_isBeing rfl rfl rfl rfl (Nat.le_of_ble_eq_true rfl) (mf_rr (Nat.le_trans (by decide) hd) (Nat.le_refl _)) (Nat.le_refl _) is245 (hyp g hG) (fun r1 g2 h3 hyp => ?_)
  obtain ⟨hgg, hyp⟩ := hyp
  subst hgg
  refine mf_if_ne (tgt := 10) (mf_dat eX12_being 3 rfl) (by decide) (fun hc => ?_) (fun hc => ?_)
  · replace hyp := hyp.1 hc
    refine mf_iload_n (mf_dat eX12_being 6 rfl) rfl rfl ?_
    refine mf_tsw1 (v := 0) (tgt := 48) (mf_dat eX12_being 7 rfl) (by decide) (by decide) (off := 37) (by decide) (by decide) (fun hc => ?_) (fun hc0 => ?_)
    · replace hyp := hyp.1 hc
      refine mf_aload_n (mf_dat eX12_being 8 rfl) rfl rfl ?_
      refine mf_iload_n (mf_dat eX12_being 9 rfl) rfl rfl ?_
      refine mf_callV (Yc := YX12_leafOf) (r := (RX12, TX12, 106)) (ci := 12) (mf_dat eX12_being 10 rfl) ml_X12_410 okX12_leafOf im_X12_leafOf sl_X12_leafOf rfl rfl rfl rfl (Nat.le_of_ble_eq_true rfl) (mf_rr (Nat.le_trans (by decide) hd) (Nat.le_refl _)) (Nat.le_refl _) is245 (hyp g2 hG) (fun r4 g5 h6 hyp => ?_)
      obtain ⟨hgg, hyp⟩ := hyp
      subst hgg
      exact mf_ireturn (mf_dat eX12_being 11 rfl) rfl (Or.inl rfl) ⟨rfl, hyp⟩
    replace hyp := hyp.2
    refine mf_tsw1 (v := 1) (tgt := 54) (mf_dat eX12_being 7 rfl) (by decide) (by decide) (off := 43) (by decide) (by decide) (fun hc => ?_) (fun hc1 => ?_)
    · replace hyp := hyp.1 hc
      refine mf_aload_n (mf_dat eX12_being 12 rfl) rfl rfl ?_
      refine mf_iload_n (mf_dat eX12_being 13 rfl) rfl rfl ?_
      refine mf_callV (Yc := YX12_cellOf) (r := (RX12, TX12, 106)) (ci := 12) (mf_dat eX12_being 14 rfl) ml_X12_413 okX12_cellOf im_X12_cellOf sl_X12_cellOf rfl rfl rfl rfl (Nat.le_of_ble_eq_true rfl) (mf_rr (Nat.le_trans (by decide) hd) (Nat.le_refl _)) (Nat.le_refl _) is245 (hyp g2 hG) (fun r7 g8 h9 hyp => ?_)
      obtain ⟨hgg, hyp⟩ := hyp
      subst hgg
      exact mf_ireturn (mf_dat eX12_being 15 rfl) rfl (Or.inl rfl) ⟨rfl, hyp⟩
    replace hyp := hyp.2
    refine mf_tsw1 (v := 2) (tgt := 60) (mf_dat eX12_being 7 rfl) (by decide) (by decide) (off := 49) (by decide) (by decide) (fun hc => ?_) (fun hc2 => ?_)
    · replace hyp := hyp.1 hc
      refine mf_aload_n (mf_dat eX12_being 16 rfl) rfl rfl ?_
      refine mf_getf (r := (RX12, TX12, 106)) (ci := 12) (k := 46) (t := 2) (v := 282) (mf_dat eX12_being 17 rfl) fl_X12_124 rfl (by decide) rfl (gm_46 hG) is245 ?_
      refine mf_bipush (v := 8) (mf_dat eX12_being 18 rfl) (by decide) ?_
      refine mf_iload_n (mf_dat eX12_being 19 rfl) rfl rfl ?_
      refine mf_iadd (mf_dat eX12_being 20 rfl) ?_
      obtain ⟨ck10, hyp⟩ := hyp
      obtain ⟨ck11, hyp⟩ := hyp
      refine mf_iald (mf_dat eX12_being 21 rfl) is282 len282 ck10 ck11 ?_
      exact mf_ireturn (mf_dat eX12_being 22 rfl) rfl (Or.inl rfl) ⟨rfl, hyp⟩
    replace hyp := hyp.2
    refine mf_tsw1 (v := 3) (tgt := 70) (mf_dat eX12_being 7 rfl) (by decide) (by decide) (off := 59) (by decide) (by decide) (fun hc => ?_) (fun hc3 => ?_)
    · replace hyp := hyp.1 hc
      refine mf_aload_n (mf_dat eX12_being 23 rfl) rfl rfl ?_
      refine mf_iload_n (mf_dat eX12_being 24 rfl) rfl rfl ?_
      refine mf_callV (Yc := YX12_purseOf) (r := (RX12, TX12, 106)) (ci := 12) (mf_dat eX12_being 25 rfl) ml_X12_445 okX12_purseOf im_X12_purseOf sl_X12_purseOf rfl rfl rfl rfl (Nat.le_of_ble_eq_true rfl) (mf_rr (Nat.le_trans (by decide) hd) (Nat.le_refl _)) (Nat.le_refl _) is245 (hyp g2 hG) (fun r12 g13 h14 hyp => ?_)
      obtain ⟨hgg, hyp⟩ := hyp
      subst hgg
      exact mf_ireturn (mf_dat eX12_being 26 rfl) rfl (Or.inl rfl) ⟨rfl, hyp⟩
    replace hyp := hyp.2
    refine mf_tsw1 (v := 4) (tgt := 76) (mf_dat eX12_being 7 rfl) (by decide) (by decide) (off := 65) (by decide) (by decide) (fun hc => ?_) (fun hc4 => ?_)
    · replace hyp := hyp.1 hc
      refine mf_aload_n (mf_dat eX12_being 27 rfl) rfl rfl ?_
      refine mf_getf (r := (RX12, TX12, 106)) (ci := 12) (k := 56) (t := 2) (v := 286) (mf_dat eX12_being 28 rfl) fl_X12_136 rfl (by decide) rfl (gm_56 hG) is245 ?_
      refine mf_bipush (v := 7) (mf_dat eX12_being 29 rfl) (by decide) ?_
      refine mf_iconst (v := 4) (mf_dat eX12_being 30 rfl) (by decide) ?_
      refine mf_iload_n (mf_dat eX12_being 31 rfl) rfl rfl ?_
      refine mf_imul (mf_dat eX12_being 32 rfl) ?_
      refine mf_iadd (mf_dat eX12_being 33 rfl) ?_
      refine mf_iconst (v := 3) (mf_dat eX12_being 34 rfl) (by decide) ?_
      refine mf_iadd (mf_dat eX12_being 35 rfl) ?_
      obtain ⟨ck15, hyp⟩ := hyp
      obtain ⟨ck16, hyp⟩ := hyp
      refine mf_iald (mf_dat eX12_being 36 rfl) is286 len286 ck15 ck16 ?_
      exact mf_ireturn (mf_dat eX12_being 37 rfl) rfl (Or.inl rfl) ⟨rfl, hyp⟩
    replace hyp := hyp.2
    refine mf_tsw1 (v := 5) (tgt := 90) (mf_dat eX12_being 7 rfl) (by decide) (by decide) (off := 79) (by decide) (by decide) (fun hc => ?_) (fun hc5 => ?_)
    · replace hyp := hyp.1 hc
      refine mf_aload_n (mf_dat eX12_being 38 rfl) rfl rfl ?_
      refine mf_iload_n (mf_dat eX12_being 39 rfl) rfl rfl ?_
      refine mf_callV (Yc := YX12_leafOf) (r := (RX12, TX12, 106)) (ci := 12) (mf_dat eX12_being 40 rfl) ml_X12_410 okX12_leafOf im_X12_leafOf sl_X12_leafOf rfl rfl rfl rfl (Nat.le_of_ble_eq_true rfl) (mf_rr (Nat.le_trans (by decide) hd) (Nat.le_refl _)) (Nat.le_refl _) is245 (hyp g2 hG) (fun r17 g18 h19 hyp => ?_)
      obtain ⟨hgg, hyp⟩ := hyp
      subst hgg
      refine mf_aload_n (mf_dat eX12_being 41 rfl) rfl rfl ?_
      refine mf_aload_n (mf_dat eX12_being 42 rfl) rfl rfl ?_
      refine mf_getf (r := (RX12, TX12, 106)) (ci := 12) (k := 56) (t := 2) (v := 286) (mf_dat eX12_being 43 rfl) fl_X12_136 rfl (by decide) rfl (gm_56 hG) is245 ?_
      refine mf_iconst (v := 0) (mf_dat eX12_being 44 rfl) (by decide) ?_
      refine mf_iald (mf_dat eX12_being 45 rfl) is286 len286 (by decide) (by decide) ?_
      refine mf_callV (Yc := YX12_openingOn) (r := (RX12, TX12, 106)) (ci := 12) (mf_dat eX12_being 46 rfl) ml_X12_487 okX12_openingOn im_X12_openingOn sl_X12_openingOn rfl rfl rfl rfl (Nat.le_of_ble_eq_true rfl) (mf_rr (Nat.le_trans (by decide) hd) (Nat.le_refl _)) (Nat.le_refl _) is245 (hyp g18 hG) (fun r20 g21 h22 hyp => ?_)
      obtain ⟨hgg, hyp⟩ := hyp
      subst hgg
      refine mf_callS (Yc := YX12_isOpen) (mf_dat eX12_being 47 rfl) ml_X12_416 okX12_isOpen sm_X12_isOpen rfl rfl (Nat.le_of_ble_eq_true rfl) (mf_rr (Nat.le_trans (by decide) hd) (Nat.le_refl _)) (Nat.le_refl _) (hyp g21 hG) (fun r23 g24 h25 hyp => ?_)
      obtain ⟨hgg, hyp⟩ := hyp
      subst hgg
      refine mf_if_eq (tgt := 115) (mf_dat eX12_being 48 rfl) (by decide) (fun hc => ?_) (fun hc => ?_)
      · replace hyp := hyp.1 hc
        refine mf_iconst (v := 0) (mf_dat eX12_being 51 rfl) (by decide) ?_
        exact mf_ireturn (mf_dat eX12_being 52 rfl) rfl (Or.inl rfl) ⟨rfl, hyp⟩
      · replace hyp := hyp.2 hc
        refine mf_iconst (v := 1) (mf_dat eX12_being 49 rfl) (by decide) ?_
        refine mf_goto (tgt := 116) (mf_dat eX12_being 50 rfl) (by decide) ?_
        exact mf_ireturn (mf_dat eX12_being 52 rfl) rfl (Or.inl rfl) ⟨rfl, hyp⟩
    replace hyp := hyp.2
    refine mf_tswO (tgt := 117) (mf_dat eX12_being 7 rfl) (by omega) (by decide) ?_
    replace hyp := hyp (by omega)
    refine mf_iconst (v := (-1)) (mf_dat eX12_being 53 rfl) (by decide) ?_
    exact mf_ireturn (mf_dat eX12_being 54 rfl) rfl (Or.inl rfl) ⟨rfl, hyp⟩
  · replace hyp := hyp.2 hc
    refine mf_iconst (v := (-1)) (mf_dat eX12_being 4 rfl) (by decide) ?_
    exact mf_ireturn (mf_dat eX12_being 5 rfl) rfl (Or.inl rfl) ⟨rfl, hyp⟩
abbrev BX12_cell_58 (C : mf_G) (l : Launch) (d : Nat) (K : Int → mf_M → Prop) (x1 x2 x3 s0 : Int) (h : mf_M) : Prop := jM C l d YX12_cell K 58 [(0, (2, 245)), (1, (0, x1)), (2, (0, x2)), (3, (0, x3))] [(0, s0)] h
set_option maxRecDepth 100000 in
set_option maxHeartbeats 4000000 in
theorem vX12_cell_58 {C : mf_G} {l : Launch} {d : Nat} {K : Int → mf_M → Prop} {x1 x2 x3 s0 : Int} {h : mf_M} (hd : 2 ≤ d) (hyp : ((x3 = 0 → mM C l 0 YX12_hasGloss [(2, 245), (0, x1), (0, x2)] h (fun r1 h3 => ((r1 = 0 → K 0 h3) ∧ (¬ r1 = 0 → K 1 h3)))) ∧ (x3 = 1 → mM C l 1 YX12_standsOn [(2, 245), (0, x1), (0, x2)] h (fun r4 h6 => K r4 h6)) ∧ (x3 = 2 → K s0 h) ∧ (x3 = 3 → ((¬ s0 = (-1) → K (mf_w32 ((mf_w32 ((h 276 3) - 1)) - x2)) h) ∧ (s0 = (-1) → K (-1) h))) ∧ ((x3 < 0 ∨ 3 < x3) → K (-1) h))) : BX12_cell_58 C l d K x1 x2 x3 s0 h := by
  intro g hG
  refine mf_istore (mf_dat eX12_cell_p0 35 rfl) (by decide) ?_
  refine mf_iload_n (mf_dat eX12_cell_p0 36 rfl) rfl rfl ?_
  refine mf_tsw1 (v := 0) (tgt := 92) (mf_dat eX12_cell_p0 37 rfl) (by decide) (by decide) (off := 31) (by decide) (by decide) (fun hc => ?_) (fun hc0 => ?_)
  · replace hyp := hyp.1 hc
    refine mf_aload_n (mf_dat eX12_cell_p0 38 rfl) rfl rfl ?_
    refine mf_iload_n (mf_dat eX12_cell_p0 39 rfl) rfl rfl ?_
    refine mf_iload_n (mf_dat eX12_cell_p0 40 rfl) rfl rfl ?_
    refine mf_callV (Yc := YX12_hasGloss) (r := (RX12, TX12, 106)) (ci := 12) (mf_dat eX12_cell_p0 41 rfl) ml_X12_481 okX12_hasGloss im_X12_hasGloss sl_X12_hasGloss rfl rfl rfl rfl (Nat.le_of_ble_eq_true rfl) (mf_rr (Nat.le_trans (by decide) hd) (Nat.le_refl _)) (Nat.le_refl _) is245 (hyp g hG) (fun r1 g2 h3 hyp => ?_)
    obtain ⟨hgg, hyp⟩ := hyp
    subst hgg
    refine mf_if_eq (tgt := 105) (mf_dat eX12_cell_p0 42 rfl) (by decide) (fun hc => ?_) (fun hc => ?_)
    · replace hyp := hyp.1 hc
      refine mf_iconst (v := 0) (mf_dat eX12_cell_p0 45 rfl) (by decide) ?_
      exact mf_ireturn (mf_dat eX12_cell_p0 46 rfl) rfl (Or.inl rfl) ⟨rfl, hyp⟩
    · replace hyp := hyp.2 hc
      refine mf_iconst (v := 1) (mf_dat eX12_cell_p0 43 rfl) (by decide) ?_
      refine mf_goto (tgt := 106) (mf_dat eX12_cell_p0 44 rfl) (by decide) ?_
      exact mf_ireturn (mf_dat eX12_cell_p0 46 rfl) rfl (Or.inl rfl) ⟨rfl, hyp⟩
  replace hyp := hyp.2
  refine mf_tsw1 (v := 1) (tgt := 107) (mf_dat eX12_cell_p0 37 rfl) (by decide) (by decide) (off := 46) (by decide) (by decide) (fun hc => ?_) (fun hc1 => ?_)
  · replace hyp := hyp.1 hc
    refine mf_aload_n (mf_dat eX12_cell_p0 47 rfl) rfl rfl ?_
    refine mf_iload_n (mf_dat eX12_cell_p0 48 rfl) rfl rfl ?_
    refine mf_iload_n (mf_dat eX12_cell_p0 49 rfl) rfl rfl ?_
    refine mf_callV (Yc := YX12_standsOn) (r := (RX12, TX12, 106)) (ci := 12) (mf_dat eX12_cell_p0 50 rfl) ml_X12_484 okX12_standsOn im_X12_standsOn sl_X12_standsOn rfl rfl rfl rfl (Nat.le_of_ble_eq_true rfl) (mf_rr (Nat.le_trans (by decide) hd) (Nat.le_refl _)) (Nat.le_refl _) is245 (hyp g hG) (fun r4 g5 h6 hyp => ?_)
    obtain ⟨hgg, hyp⟩ := hyp
    subst hgg
    exact mf_ireturn (mf_dat eX12_cell_p0 51 rfl) rfl (Or.inl rfl) ⟨rfl, hyp⟩
  replace hyp := hyp.2
  refine mf_tsw1 (v := 2) (tgt := 114) (mf_dat eX12_cell_p0 37 rfl) (by decide) (by decide) (off := 53) (by decide) (by decide) (fun hc => ?_) (fun hc2 => ?_)
  · replace hyp := hyp.1 hc
    refine mf_iload (mf_dat eX12_cell_p0 52 rfl) rfl ?_
    exact mf_ireturn (mf_dat eX12_cell_p0 53 rfl) rfl (Or.inl rfl) ⟨rfl, hyp⟩
  replace hyp := hyp.2
  refine mf_tsw1 (v := 3) (tgt := 117) (mf_dat eX12_cell_p0 37 rfl) (by decide) (by decide) (off := 56) (by decide) (by decide) (fun hc => ?_) (fun hc3 => ?_)
  · replace hyp := hyp.1 hc
    refine mf_iload (mf_dat eX12_cell_p0 54 rfl) rfl ?_
    refine mf_iconst (v := (-1)) (mf_dat eX12_cell_p0 55 rfl) (by decide) ?_
    refine mf_icmp_ne (tgt := 127) (mf_dat eX12_cell_p0 56 rfl) (by decide) (fun hc => ?_) (fun hc => ?_)
    · replace hyp := hyp.1 hc
      refine mf_aload_n (mf_dat eX12_cell_p0 59 rfl) rfl rfl ?_
      refine mf_getf (r := (RX12, TX12, 106)) (ci := 12) (k := 40) (t := 2) (v := 276) (mf_dat eX12_cell_p1 0 rfl) fl_X12_105 rfl (by decide) rfl (gm_40 hG) is245 ?_
      refine mf_iconst (v := 3) (mf_dat eX12_cell_p1 1 rfl) (by decide) ?_
      refine mf_iald (mf_dat eX12_cell_p1 2 rfl) is276 len276 (by decide) (by decide) ?_
      refine mf_iconst (v := 1) (mf_dat eX12_cell_p1 3 rfl) (by decide) ?_
      refine mf_isub (mf_dat eX12_cell_p1 4 rfl) ?_
      refine mf_iload_n (mf_dat eX12_cell_p1 5 rfl) rfl rfl ?_
      refine mf_isub (mf_dat eX12_cell_p1 6 rfl) ?_
      exact mf_ireturn (mf_dat eX12_cell_p1 7 rfl) rfl (Or.inl rfl) ⟨rfl, hyp⟩
    · replace hyp := hyp.2 hc
      refine mf_iconst (v := (-1)) (mf_dat eX12_cell_p0 57 rfl) (by decide) ?_
      refine mf_goto (tgt := 137) (mf_dat eX12_cell_p0 58 rfl) (by decide) ?_
      exact mf_ireturn (mf_dat eX12_cell_p1 7 rfl) rfl (Or.inl rfl) ⟨rfl, hyp⟩
  replace hyp := hyp.2
  refine mf_tswO (tgt := 138) (mf_dat eX12_cell_p0 37 rfl) (by omega) (by decide) ?_
  replace hyp := hyp (by omega)
  refine mf_iconst (v := (-1)) (mf_dat eX12_cell_p1 8 rfl) (by decide) ?_
  exact mf_ireturn (mf_dat eX12_cell_p1 9 rfl) rfl (Or.inl rfl) ⟨rfl, hyp⟩
set_option maxRecDepth 100000 in
set_option maxHeartbeats 4000000 in
theorem wX12_cell {C : mf_G} {l : Launch} {d : Nat} {K : Int → mf_M → Prop} {x1 x2 x3 : Int} {h : mf_M} (hd : 4 ≤ d) (hyp : mM C l 1 YX12_isCell [(2, 245), (0, x1), (0, x2)] h (fun r1 h3 => ((¬ r1 = 0 → mM C l 3 YX12_openingOn [(2, 245), (0, h3 286 0)] h3 (fun r4 h6 => mM C l 1 YX12_liesOnNext [(2, 245), (0, mf_w32 (x1 - 1)), (0, r4)] h6 (fun r7 h9 => ((r7 = 0 → mM C l 1 YX12_liesOnNext [(2, 245), (0, x1), (0, r4)] h9 (fun r10 h12 => ((r10 = 0 → BX12_cell_58 C l d K x1 x2 x3 (-1) h12) ∧ (¬ r10 = 0 → BX12_cell_58 C l d K x1 x2 x3 (mf_w32 (x1 + 1)) h12)))) ∧ (¬ r7 = 0 → BX12_cell_58 C l d K x1 x2 x3 (mf_w32 (x1 - 1)) h9))))) ∧ (r1 = 0 → K (-1) h3)))) : mM C l d YX12_cell [(2, 245), (0, x1), (0, x2), (0, x3)] h K := by
  intro g hG
  refine mf_entry (by decide) (Nat.le_of_ble_eq_true rfl) ?_
  refine mf_aload_n (mf_dat eX12_cell_p0 0 rfl) rfl rfl ?_
  refine mf_iload_n (mf_dat eX12_cell_p0 1 rfl) rfl rfl ?_
  refine mf_iload_n (mf_dat eX12_cell_p0 2 rfl) rfl rfl ?_
  refine mf_callV (Yc := YX12_isCell) (r := (RX12, TX12, 106)) (ci := 12) (mf_dat eX12_cell_p0 3 rfl) ml_X12_507 okX12_isCell im_X12_isCell sl_X12_isCell rfl rfl rfl rfl (Nat.le_of_ble_eq_true rfl) (mf_rr (Nat.le_trans (by decide) hd) (Nat.le_refl _)) (Nat.le_refl _) is245 (hyp g hG) (fun r1 g2 h3 hyp => ?_)
  obtain ⟨hgg, hyp⟩ := hyp
  subst hgg
  refine mf_if_ne (tgt := 11) (mf_dat eX12_cell_p0 4 rfl) (by decide) (fun hc => ?_) (fun hc => ?_)
  · replace hyp := hyp.1 hc
    refine mf_aload_n (mf_dat eX12_cell_p0 7 rfl) rfl rfl ?_
    refine mf_aload_n (mf_dat eX12_cell_p0 8 rfl) rfl rfl ?_
    refine mf_getf (r := (RX12, TX12, 106)) (ci := 12) (k := 56) (t := 2) (v := 286) (mf_dat eX12_cell_p0 9 rfl) fl_X12_136 rfl (by decide) rfl (gm_56 hG) is245 ?_
    refine mf_iconst (v := 0) (mf_dat eX12_cell_p0 10 rfl) (by decide) ?_
    refine mf_iald (mf_dat eX12_cell_p0 11 rfl) is286 len286 (by decide) (by decide) ?_
    refine mf_callV (Yc := YX12_openingOn) (r := (RX12, TX12, 106)) (ci := 12) (mf_dat eX12_cell_p0 12 rfl) ml_X12_487 okX12_openingOn im_X12_openingOn sl_X12_openingOn rfl rfl rfl rfl (Nat.le_of_ble_eq_true rfl) (mf_rr (Nat.le_trans (by decide) hd) (Nat.le_refl _)) (Nat.le_refl _) is245 (hyp g2 hG) (fun r4 g5 h6 hyp => ?_)
    obtain ⟨hgg, hyp⟩ := hyp
    subst hgg
    refine mf_istore (mf_dat eX12_cell_p0 13 rfl) (by decide) ?_
    refine mf_aload_n (mf_dat eX12_cell_p0 14 rfl) rfl rfl ?_
    refine mf_iload_n (mf_dat eX12_cell_p0 15 rfl) rfl rfl ?_
    refine mf_iconst (v := 1) (mf_dat eX12_cell_p0 16 rfl) (by decide) ?_
    refine mf_isub (mf_dat eX12_cell_p0 17 rfl) ?_
    refine mf_iload (mf_dat eX12_cell_p0 18 rfl) rfl ?_
    refine mf_callV (Yc := YX12_liesOnNext) (r := (RX12, TX12, 106)) (ci := 12) (mf_dat eX12_cell_p0 19 rfl) ml_X12_419 okX12_liesOnNext im_X12_liesOnNext sl_X12_liesOnNext rfl rfl rfl rfl (Nat.le_of_ble_eq_true rfl) (mf_rr (Nat.le_trans (by decide) hd) (Nat.le_refl _)) (Nat.le_refl _) is245 (hyp g5 hG) (fun r7 g8 h9 hyp => ?_)
    obtain ⟨hgg, hyp⟩ := hyp
    subst hgg
    refine mf_if_eq (tgt := 41) (mf_dat eX12_cell_p0 20 rfl) (by decide) (fun hc => ?_) (fun hc => ?_)
    · replace hyp := hyp.1 hc
      refine mf_aload_n (mf_dat eX12_cell_p0 25 rfl) rfl rfl ?_
      refine mf_iload_n (mf_dat eX12_cell_p0 26 rfl) rfl rfl ?_
      refine mf_iload (mf_dat eX12_cell_p0 27 rfl) rfl ?_
      refine mf_callV (Yc := YX12_liesOnNext) (r := (RX12, TX12, 106)) (ci := 12) (mf_dat eX12_cell_p0 28 rfl) ml_X12_419 okX12_liesOnNext im_X12_liesOnNext sl_X12_liesOnNext rfl rfl rfl rfl (Nat.le_of_ble_eq_true rfl) (mf_rr (Nat.le_trans (by decide) hd) (Nat.le_refl _)) (Nat.le_refl _) is245 (hyp g8 hG) (fun r10 g11 h12 hyp => ?_)
      obtain ⟨hgg, hyp⟩ := hyp
      subst hgg
      refine mf_if_eq (tgt := 57) (mf_dat eX12_cell_p0 29 rfl) (by decide) (fun hc => ?_) (fun hc => ?_)
      · replace hyp := hyp.1 hc
        refine mf_iconst (v := (-1)) (mf_dat eX12_cell_p0 34 rfl) (by decide) ?_
        exact mf_sub [1, 2, 3, 4] rfl (hyp g11 hG)
      · replace hyp := hyp.2 hc
        refine mf_iload_n (mf_dat eX12_cell_p0 30 rfl) rfl rfl ?_
        refine mf_iconst (v := 1) (mf_dat eX12_cell_p0 31 rfl) (by decide) ?_
        refine mf_iadd (mf_dat eX12_cell_p0 32 rfl) ?_
        refine mf_goto (tgt := 58) (mf_dat eX12_cell_p0 33 rfl) (by decide) ?_
        exact mf_sub [1, 2, 3, 4] rfl (hyp g11 hG)
    · replace hyp := hyp.2 hc
      refine mf_iload_n (mf_dat eX12_cell_p0 21 rfl) rfl rfl ?_
      refine mf_iconst (v := 1) (mf_dat eX12_cell_p0 22 rfl) (by decide) ?_
      refine mf_isub (mf_dat eX12_cell_p0 23 rfl) ?_
      refine mf_goto (tgt := 58) (mf_dat eX12_cell_p0 24 rfl) (by decide) ?_
      exact mf_sub [1, 2, 3, 4] rfl (hyp g8 hG)
  · replace hyp := hyp.2 hc
    refine mf_iconst (v := (-1)) (mf_dat eX12_cell_p0 5 rfl) (by decide) ?_
    exact mf_ireturn (mf_dat eX12_cell_p0 6 rfl) rfl (Or.inl rfl) ⟨rfl, hyp⟩
set_option maxRecDepth 100000 in
set_option maxHeartbeats 4000000 in
theorem wX12_kept {C : mf_G} {l : Launch} {d : Nat} {K : Int → mf_M → Prop} {x1 x2 : Int} {h : mf_M} (hd : 1 ≤ d) (hyp : mM C l 0 YX12_isIn [(1, x1), (1, 0), (1, mf_w32 ((h 286 39) - 1))] h (fun r1 h3 => ((r1 = 0 → K (-1) h3) ∧ (¬ r1 = 0 → mM C l 0 YX12_isIn [(1, x2), (1, 0), (1, 2)] h3 (fun r4 h6 => ((r4 = 0 → K (-1) h6) ∧ (¬ r4 = 0 → 0 ≤ mf_w32 ((mf_w32 (40 + (mf_w32 (3 * x1)))) + x2) ∧ mf_w32 ((mf_w32 (40 + (mf_w32 (3 * x1)))) + x2) < 160 ∧ K (h6 286 (mf_w32 ((mf_w32 (40 + (mf_w32 (3 * x1)))) + x2))) h6))))))) : mM C l d YX12_kept [(2, 245), (0, x1), (0, x2)] h K := by
  intro g hG
  refine mf_entry (by decide) (Nat.le_of_ble_eq_true rfl) ?_
  refine mf_iload_n (mf_dat eX12_kept 0 rfl) rfl rfl ?_
  refine mf_i2l (mf_dat eX12_kept 1 rfl) ?_
  refine mf_lconst (v := 0) (mf_dat eX12_kept 2 rfl) (by decide) ?_
  refine mf_aload_n (mf_dat eX12_kept 3 rfl) rfl rfl ?_
  refine mf_getf (r := (RX12, TX12, 106)) (ci := 12) (k := 56) (t := 2) (v := 286) (mf_dat eX12_kept 4 rfl) fl_X12_136 rfl (by decide) rfl (gm_56 hG) is245 ?_
  refine mf_bipush (v := 39) (mf_dat eX12_kept 5 rfl) (by decide) ?_
  refine mf_iald (mf_dat eX12_kept 6 rfl) is286 len286 (by decide) (by decide) ?_
  refine mf_iconst (v := 1) (mf_dat eX12_kept 7 rfl) (by decide) ?_
  refine mf_isub (mf_dat eX12_kept 8 rfl) ?_
  refine mf_i2l (mf_dat eX12_kept 9 rfl) ?_
  refine mf_callS (Yc := YX12_isIn) (mf_dat eX12_kept 10 rfl) ml_X12_286 okX12_isIn sm_X12_isIn rfl rfl (Nat.le_of_ble_eq_true rfl) (mf_rr (Nat.le_trans (by decide) hd) (Nat.le_refl _)) (Nat.le_refl _) (hyp g hG) (fun r1 g2 h3 hyp => ?_)
  obtain ⟨hgg, hyp⟩ := hyp
  subst hgg
  refine mf_if_eq (tgt := 47) (mf_dat eX12_kept 11 rfl) (by decide) (fun hc => ?_) (fun hc => ?_)
  · replace hyp := hyp.1 hc
    refine mf_iconst (v := (-1)) (mf_dat eX12_kept 29 rfl) (by decide) ?_
    exact mf_ireturn (mf_dat eX12_kept 30 rfl) rfl (Or.inl rfl) ⟨rfl, hyp⟩
  · replace hyp := hyp.2 hc
    refine mf_iload_n (mf_dat eX12_kept 12 rfl) rfl rfl ?_
    refine mf_i2l (mf_dat eX12_kept 13 rfl) ?_
    refine mf_lconst (v := 0) (mf_dat eX12_kept 14 rfl) (by decide) ?_
    refine mf_ldc2 (v := 2) cl_X12_510 (mf_dat eX12_kept 15 rfl) (by decide) ?_
    refine mf_callS (Yc := YX12_isIn) (mf_dat eX12_kept 16 rfl) ml_X12_286 okX12_isIn sm_X12_isIn rfl rfl (Nat.le_of_ble_eq_true rfl) (mf_rr (Nat.le_trans (by decide) hd) (Nat.le_refl _)) (Nat.le_refl _) (hyp g2 hG) (fun r4 g5 h6 hyp => ?_)
    obtain ⟨hgg, hyp⟩ := hyp
    subst hgg
    refine mf_if_eq (tgt := 47) (mf_dat eX12_kept 17 rfl) (by decide) (fun hc => ?_) (fun hc => ?_)
    · replace hyp := hyp.1 hc
      refine mf_iconst (v := (-1)) (mf_dat eX12_kept 29 rfl) (by decide) ?_
      exact mf_ireturn (mf_dat eX12_kept 30 rfl) rfl (Or.inl rfl) ⟨rfl, hyp⟩
    · replace hyp := hyp.2 hc
      refine mf_aload_n (mf_dat eX12_kept 18 rfl) rfl rfl ?_
      refine mf_getf (r := (RX12, TX12, 106)) (ci := 12) (k := 56) (t := 2) (v := 286) (mf_dat eX12_kept 19 rfl) fl_X12_136 rfl (by decide) rfl (gm_56 hG) is245 ?_
      refine mf_bipush (v := 40) (mf_dat eX12_kept 20 rfl) (by decide) ?_
      refine mf_iconst (v := 3) (mf_dat eX12_kept 21 rfl) (by decide) ?_
      refine mf_iload_n (mf_dat eX12_kept 22 rfl) rfl rfl ?_
      refine mf_imul (mf_dat eX12_kept 23 rfl) ?_
      refine mf_iadd (mf_dat eX12_kept 24 rfl) ?_
      refine mf_iload_n (mf_dat eX12_kept 25 rfl) rfl rfl ?_
      refine mf_iadd (mf_dat eX12_kept 26 rfl) ?_
      obtain ⟨ck7, hyp⟩ := hyp
      obtain ⟨ck8, hyp⟩ := hyp
      refine mf_iald (mf_dat eX12_kept 27 rfl) is286 len286 ck7 ck8 ?_
      refine mf_goto (tgt := 48) (mf_dat eX12_kept 28 rfl) (by decide) ?_
      exact mf_ireturn (mf_dat eX12_kept 30 rfl) rfl (Or.inl rfl) ⟨rfl, hyp⟩
set_option maxRecDepth 100000 in
set_option maxHeartbeats 4000000 in
theorem wX12_meets {C : mf_G} {l : Launch} {d : Nat} {K : Int → mf_M → Prop} {x1 x2 : Int} {h : mf_M} (hd : 4 ≤ d) (hyp : mM C l 1 YX12_isBeing [(2, 245), (0, x1)] h (fun r1 h3 => ((r1 = 0 → K (-1) h3) ∧ (¬ r1 = 0 → mM C l 1 YX12_isBeing [(2, 245), (0, x2)] h3 (fun r4 h6 => ((r4 = 0 → K (-1) h6) ∧ (¬ r4 = 0 → ((¬ x1 = x2 → mM C l 3 YX12_openingOn [(2, 245), (0, h6 286 0)] h6 (fun r7 h9 => mM C l 2 YX12_doMeet [(2, 245), (0, x1), (0, x2), (0, r7)] h9 (fun r10 h12 => ((r10 = 0 → K 0 h12) ∧ (¬ r10 = 0 → K 1 h12))))) ∧ (x1 = x2 → K (-1) h6))))))))) : mM C l d YX12_meets [(2, 245), (0, x1), (0, x2)] h K := by
  intro g hG
  refine mf_entry (by decide) (Nat.le_of_ble_eq_true rfl) ?_
  refine mf_aload_n (mf_dat eX12_meets 0 rfl) rfl rfl ?_
  refine mf_iload_n (mf_dat eX12_meets 1 rfl) rfl rfl ?_
  refine mf_callV (Yc := YX12_isBeing) (r := (RX12, TX12, 106)) (ci := 12) (mf_dat eX12_meets 2 rfl) ml_X12_502 okX12_isBeing im_X12_isBeing sl_X12_isBeing rfl rfl rfl rfl (Nat.le_of_ble_eq_true rfl) (mf_rr (Nat.le_trans (by decide) hd) (Nat.le_refl _)) (Nat.le_refl _) is245 (hyp g hG) (fun r1 g2 h3 hyp => ?_)
  obtain ⟨hgg, hyp⟩ := hyp
  subst hgg
  refine mf_if_eq (tgt := 21) (mf_dat eX12_meets 3 rfl) (by decide) (fun hc => ?_) (fun hc => ?_)
  · replace hyp := hyp.1 hc
    refine mf_iconst (v := (-1)) (mf_dat eX12_meets 11 rfl) (by decide) ?_
    exact mf_ireturn (mf_dat eX12_meets 12 rfl) rfl (Or.inl rfl) ⟨rfl, hyp⟩
  · replace hyp := hyp.2 hc
    refine mf_aload_n (mf_dat eX12_meets 4 rfl) rfl rfl ?_
    refine mf_iload_n (mf_dat eX12_meets 5 rfl) rfl rfl ?_
    refine mf_callV (Yc := YX12_isBeing) (r := (RX12, TX12, 106)) (ci := 12) (mf_dat eX12_meets 6 rfl) ml_X12_502 okX12_isBeing im_X12_isBeing sl_X12_isBeing rfl rfl rfl rfl (Nat.le_of_ble_eq_true rfl) (mf_rr (Nat.le_trans (by decide) hd) (Nat.le_refl _)) (Nat.le_refl _) is245 (hyp g2 hG) (fun r4 g5 h6 hyp => ?_)
    obtain ⟨hgg, hyp⟩ := hyp
    subst hgg
    refine mf_if_eq (tgt := 21) (mf_dat eX12_meets 7 rfl) (by decide) (fun hc => ?_) (fun hc => ?_)
    · replace hyp := hyp.1 hc
      refine mf_iconst (v := (-1)) (mf_dat eX12_meets 11 rfl) (by decide) ?_
      exact mf_ireturn (mf_dat eX12_meets 12 rfl) rfl (Or.inl rfl) ⟨rfl, hyp⟩
    · replace hyp := hyp.2 hc
      refine mf_iload_n (mf_dat eX12_meets 8 rfl) rfl rfl ?_
      refine mf_iload_n (mf_dat eX12_meets 9 rfl) rfl rfl ?_
      refine mf_icmp_ne (tgt := 23) (mf_dat eX12_meets 10 rfl) (by decide) (fun hc => ?_) (fun hc => ?_)
      · replace hyp := hyp.1 hc
        refine mf_aload_n (mf_dat eX12_meets 13 rfl) rfl rfl ?_
        refine mf_iload_n (mf_dat eX12_meets 14 rfl) rfl rfl ?_
        refine mf_iload_n (mf_dat eX12_meets 15 rfl) rfl rfl ?_
        refine mf_aload_n (mf_dat eX12_meets 16 rfl) rfl rfl ?_
        refine mf_aload_n (mf_dat eX12_meets 17 rfl) rfl rfl ?_
        refine mf_getf (r := (RX12, TX12, 106)) (ci := 12) (k := 56) (t := 2) (v := 286) (mf_dat eX12_meets 18 rfl) fl_X12_136 rfl (by decide) rfl (gm_56 hG) is245 ?_
        refine mf_iconst (v := 0) (mf_dat eX12_meets 19 rfl) (by decide) ?_
        refine mf_iald (mf_dat eX12_meets 20 rfl) is286 len286 (by decide) (by decide) ?_
        refine mf_callV (Yc := YX12_openingOn) (r := (RX12, TX12, 106)) (ci := 12) (mf_dat eX12_meets 21 rfl) ml_X12_487 okX12_openingOn im_X12_openingOn sl_X12_openingOn rfl rfl rfl rfl (Nat.le_of_ble_eq_true rfl) (mf_rr (Nat.le_trans (by decide) hd) (Nat.le_refl _)) (Nat.le_refl _) is245 (hyp g5 hG) (fun r7 g8 h9 hyp => ?_)
        obtain ⟨hgg, hyp⟩ := hyp
        subst hgg
        refine mf_callV (Yc := YX12_doMeet) (r := (RX12, TX12, 106)) (ci := 12) (mf_dat eX12_meets 22 rfl) ml_X12_471 okX12_doMeet im_X12_doMeet sl_X12_doMeet rfl rfl rfl rfl (Nat.le_of_ble_eq_true rfl) (mf_rr (Nat.le_trans (by decide) hd) (Nat.le_refl _)) (Nat.le_refl _) is245 (hyp g8 hG) (fun r10 g11 h12 hyp => ?_)
        obtain ⟨hgg, hyp⟩ := hyp
        subst hgg
        refine mf_if_eq (tgt := 46) (mf_dat eX12_meets 23 rfl) (by decide) (fun hc => ?_) (fun hc => ?_)
        · replace hyp := hyp.1 hc
          refine mf_iconst (v := 0) (mf_dat eX12_meets 26 rfl) (by decide) ?_
          exact mf_ireturn (mf_dat eX12_meets 27 rfl) rfl (Or.inl rfl) ⟨rfl, hyp⟩
        · replace hyp := hyp.2 hc
          refine mf_iconst (v := 1) (mf_dat eX12_meets 24 rfl) (by decide) ?_
          refine mf_goto (tgt := 47) (mf_dat eX12_meets 25 rfl) (by decide) ?_
          exact mf_ireturn (mf_dat eX12_meets 27 rfl) rfl (Or.inl rfl) ⟨rfl, hyp⟩
      · replace hyp := hyp.2 hc
        refine mf_iconst (v := (-1)) (mf_dat eX12_meets 11 rfl) (by decide) ?_
        exact mf_ireturn (mf_dat eX12_meets 12 rfl) rfl (Or.inl rfl) ⟨rfl, hyp⟩
abbrev BX12_pairsBy_4 (C : mf_G) (l : Launch) (d : Nat) (K : Int → mf_M → Prop) (x1 x2 x3 : Int) (h : mf_M) : Prop := jM C l d YX12_pairsBy K 4 [(0, (2, 245)), (1, (0, x1)), (2, (0, x2)), (3, (0, x3))] [] h
abbrev BX12_pairsBy_17 (C : mf_G) (l : Launch) (d : Nat) (K : Int → mf_M → Prop) (x1 x2 x3 x4 : Int) (h : mf_M) : Prop := jM C l d YX12_pairsBy K 17 [(0, (2, 245)), (1, (0, x1)), (2, (0, x2)), (3, (0, x3)), (4, (0, x4))] [] h
set_option maxRecDepth 100000 in
set_option maxHeartbeats 4000000 in
theorem vX12_pairsBy_4 {C : mf_G} {l : Launch} {d : Nat} {K : Int → mf_M → Prop} {x1 x2 x3 : Int} {h : mf_M} (hd : 1 ≤ d) (hyp : mM C l 0 YX12_beingMany [(2, 245)] h (fun r1 h3 => ((r1 ≤ x3 → K x2 h3) ∧ (¬ r1 ≤ x3 → (∀ v4 : Int, v4 = mf_w32 (x3 + 1) → BX12_pairsBy_17 C l d K x1 x2 x3 v4 h3))))) : BX12_pairsBy_4 C l d K x1 x2 x3 h := by
  intro g hG
  refine mf_iload_n (mf_dat eX12_pairsBy 4 rfl) rfl rfl ?_
  refine mf_aload_n (mf_dat eX12_pairsBy 5 rfl) rfl rfl ?_
  refine mf_callV (Yc := YX12_beingMany) (r := (RX12, TX12, 106)) (ci := 12) (mf_dat eX12_pairsBy 6 rfl) ml_X12_402 okX12_beingMany im_X12_beingMany sl_X12_beingMany rfl rfl rfl rfl (Nat.le_of_ble_eq_true rfl) (mf_rr (Nat.le_trans (by decide) hd) (Nat.le_refl _)) (Nat.le_refl _) is245 (hyp g hG) (fun r1 g2 h3 hyp => ?_)
  obtain ⟨hgg, hyp⟩ := hyp
  subst hgg
  refine mf_icmp_ge (tgt := 52) (mf_dat eX12_pairsBy 7 rfl) (by decide) (fun hc => ?_) (fun hc => ?_)
  · replace hyp := hyp.1 hc
    refine mf_iload_n (mf_dat eX12_pairsBy 27 rfl) rfl rfl ?_
    exact mf_ireturn (mf_dat eX12_pairsBy 28 rfl) rfl (Or.inl rfl) ⟨rfl, hyp⟩
  · replace hyp := hyp.2 hc
    refine mf_iload_n (mf_dat eX12_pairsBy 8 rfl) rfl rfl ?_
    refine mf_iconst (v := 1) (mf_dat eX12_pairsBy 9 rfl) (by decide) ?_
    refine mf_iadd (mf_dat eX12_pairsBy 10 rfl) ?_
    generalize qv4 : mf_w32 (x3 + 1) = v4
    replace hyp := hyp _ qv4.symm
    refine mf_istore (mf_dat eX12_pairsBy 11 rfl) (by decide) ?_
    exact mf_sub [1, 2, 3, 4, 0] rfl (hyp g2 hG)
set_option maxRecDepth 100000 in
set_option maxHeartbeats 4000000 in
theorem vX12_pairsBy_17 {C : mf_G} {l : Launch} {d : Nat} {K : Int → mf_M → Prop} {x1 x2 x3 x4 : Int} {h : mf_M} (hd : 3 ≤ d) (hyp : mM C l 0 YX12_beingMany [(2, 245)] h (fun r1 h3 => ((r1 ≤ x4 → (∀ v4 : Int, v4 = mf_w32 (x3 + 1) → BX12_pairsBy_4 C l d K x1 x2 v4 h3)) ∧ (¬ r1 ≤ x4 → mM C l 2 YX12_doMeet [(2, 245), (0, x3), (0, x4), (0, x1)] h3 (fun r5 h7 => ((r5 = 0 → (∀ v8 : Int, v8 = mf_w32 (x4 + 1) → BX12_pairsBy_17 C l d K x1 x2 x3 v8 h7)) ∧ (¬ r5 = 0 → (∀ v9 : Int, v9 = mf_w32 (x2 + 1) → (∀ v10 : Int, v10 = mf_w32 (x4 + 1) → BX12_pairsBy_17 C l d K x1 v9 x3 v10 h7))))))))) : BX12_pairsBy_17 C l d K x1 x2 x3 x4 h := by
  intro g hG
  refine mf_iload (mf_dat eX12_pairsBy 12 rfl) rfl ?_
  refine mf_aload_n (mf_dat eX12_pairsBy 13 rfl) rfl rfl ?_
  refine mf_callV (Yc := YX12_beingMany) (r := (RX12, TX12, 106)) (ci := 12) (mf_dat eX12_pairsBy 14 rfl) ml_X12_402 okX12_beingMany im_X12_beingMany sl_X12_beingMany rfl rfl rfl rfl (Nat.le_of_ble_eq_true rfl) (mf_rr (Nat.le_trans (by decide) hd) (Nat.le_refl _)) (Nat.le_refl _) is245 (hyp g hG) (fun r1 g2 h3 hyp => ?_)
  obtain ⟨hgg, hyp⟩ := hyp
  subst hgg
  refine mf_icmp_ge (tgt := 46) (mf_dat eX12_pairsBy 15 rfl) (by decide) (fun hc => ?_) (fun hc => ?_)
  · replace hyp := hyp.1 hc
    refine mf_iinc (mf_dat eX12_pairsBy 25 rfl) rfl (by decide) (by decide) ?_
    generalize qv4 : mf_w32 (x3 + 1) = v4
    replace hyp := hyp _ qv4.symm
    refine mf_goto (tgt := 4) (mf_dat eX12_pairsBy 26 rfl) (by decide) ?_
    exact mf_sub [1, 2, 3, 0] rfl (hyp g2 hG)
  · replace hyp := hyp.2 hc
    refine mf_aload_n (mf_dat eX12_pairsBy 16 rfl) rfl rfl ?_
    refine mf_iload_n (mf_dat eX12_pairsBy 17 rfl) rfl rfl ?_
    refine mf_iload (mf_dat eX12_pairsBy 18 rfl) rfl ?_
    refine mf_iload_n (mf_dat eX12_pairsBy 19 rfl) rfl rfl ?_
    refine mf_callV (Yc := YX12_doMeet) (r := (RX12, TX12, 106)) (ci := 12) (mf_dat eX12_pairsBy 20 rfl) ml_X12_471 okX12_doMeet im_X12_doMeet sl_X12_doMeet rfl rfl rfl rfl (Nat.le_of_ble_eq_true rfl) (mf_rr (Nat.le_trans (by decide) hd) (Nat.le_refl _)) (Nat.le_refl _) is245 (hyp g2 hG) (fun r5 g6 h7 hyp => ?_)
    obtain ⟨hgg, hyp⟩ := hyp
    subst hgg
    refine mf_if_eq (tgt := 40) (mf_dat eX12_pairsBy 21 rfl) (by decide) (fun hc => ?_) (fun hc => ?_)
    · replace hyp := hyp.1 hc
      refine mf_iinc (mf_dat eX12_pairsBy 23 rfl) rfl (by decide) (by decide) ?_
      generalize qv8 : mf_w32 (x4 + 1) = v8
      replace hyp := hyp _ qv8.symm
      refine mf_goto (tgt := 17) (mf_dat eX12_pairsBy 24 rfl) (by decide) ?_
      exact mf_sub [1, 2, 3, 4, 0] rfl (hyp g6 hG)
    · replace hyp := hyp.2 hc
      refine mf_iinc (mf_dat eX12_pairsBy 22 rfl) rfl (by decide) (by decide) ?_
      generalize qv9 : mf_w32 (x2 + 1) = v9
      replace hyp := hyp _ qv9.symm
      refine mf_iinc (mf_dat eX12_pairsBy 23 rfl) rfl (by decide) (by decide) ?_
      generalize qv10 : mf_w32 (x4 + 1) = v10
      replace hyp := hyp _ qv10.symm
      refine mf_goto (tgt := 17) (mf_dat eX12_pairsBy 24 rfl) (by decide) ?_
      exact mf_sub [2, 3, 1, 4, 0] rfl (hyp g6 hG)
set_option maxRecDepth 100000 in
set_option maxHeartbeats 4000000 in
theorem wX12_pairsBy {C : mf_G} {l : Launch} {d : Nat} {K : Int → mf_M → Prop} {x1 : Int} {h : mf_M} (hyp : BX12_pairsBy_4 C l d K x1 0 0 h) : mM C l d YX12_pairsBy [(2, 245), (0, x1)] h K := by
  intro g hG
  refine mf_entry (by decide) (Nat.le_of_ble_eq_true rfl) ?_
  refine mf_iconst (v := 0) (mf_dat eX12_pairsBy 0 rfl) (by decide) ?_
  refine mf_istore_n (mf_dat eX12_pairsBy 1 rfl) rfl (by decide) ?_
  refine mf_iconst (v := 0) (mf_dat eX12_pairsBy 2 rfl) (by decide) ?_
  refine mf_istore_n (mf_dat eX12_pairsBy 3 rfl) rfl (by decide) ?_
  exact mf_sub [2, 3, 1, 0] rfl (hyp g hG)
set_option maxRecDepth 100000 in
set_option maxHeartbeats 4000000 in
theorem wX12_pairs {C : mf_G} {l : Launch} {d : Nat} {K : Int → mf_M → Prop} {x1 : Int} {h : mf_M} (hd : 4 ≤ d) (hyp : ((h 245 54 = 0 → K (-1) h) ∧ (¬ h 245 54 = 0 → mM C l 0 YX12_leaves [(2, 245)] h (fun r1 h3 => mM C l 0 YX12_isIn [(1, x1), (1, (-1)), (1, r1)] h3 (fun r4 h6 => ((¬ r4 = 0 → ((¬ x1 = (-1) → mM C l 3 YX12_pairsBy [(2, 245), (0, x1)] h6 (fun r7 h9 => K r7 h9)) ∧ (x1 = (-1) → mM C l 3 YX12_openingOn [(2, 245), (0, h6 286 0)] h6 (fun r10 h12 => mM C l 3 YX12_pairsBy [(2, 245), (0, r10)] h12 (fun r13 h15 => K r13 h15))))) ∧ (r4 = 0 → K (-1) h6))))))) : mM C l d YX12_pairs [(2, 245), (0, x1)] h K := by
  intro g hG
  refine mf_entry (by decide) (Nat.le_of_ble_eq_true rfl) ?_
  refine mf_aload_n (mf_dat eX12_pairs 0 rfl) rfl rfl ?_
  refine mf_getf (r := (RX12, TX12, 106)) (ci := 12) (k := 54) (t := 0) (v := h 245 54) (mf_dat eX12_pairs 1 rfl) fl_X12_389 rfl (by decide) rfl rfl is245 ?_
  refine mf_if_eq (tgt := 23) (mf_dat eX12_pairs 2 rfl) (by decide) (fun hc => ?_) (fun hc => ?_)
  · replace hyp := hyp.1 hc
    refine mf_iconst (v := (-1)) (mf_dat eX12_pairs 11 rfl) (by decide) ?_
    exact mf_ireturn (mf_dat eX12_pairs 12 rfl) rfl (Or.inl rfl) ⟨rfl, hyp⟩
  · replace hyp := hyp.2 hc
    refine mf_iload_n (mf_dat eX12_pairs 3 rfl) rfl rfl ?_
    refine mf_i2l (mf_dat eX12_pairs 4 rfl) ?_
    refine mf_ldc2 (v := (-1)) cl_X12_512 (mf_dat eX12_pairs 5 rfl) (by decide) ?_
    refine mf_aload_n (mf_dat eX12_pairs 6 rfl) rfl rfl ?_
    refine mf_callV (Yc := YX12_leaves) (r := (RX12, TX12, 106)) (ci := 12) (mf_dat eX12_pairs 7 rfl) ml_X12_405 okX12_leaves im_X12_leaves sl_X12_leaves rfl rfl rfl rfl (Nat.le_of_ble_eq_true rfl) (mf_rr (Nat.le_trans (by decide) hd) (Nat.le_refl _)) (Nat.le_refl _) is245 (hyp g hG) (fun r1 g2 h3 hyp => ?_)
    obtain ⟨hgg, hyp⟩ := hyp
    subst hgg
    refine mf_i2l (mf_dat eX12_pairs 8 rfl) ?_
    refine mf_callS (Yc := YX12_isIn) (mf_dat eX12_pairs 9 rfl) ml_X12_286 okX12_isIn sm_X12_isIn rfl rfl (Nat.le_of_ble_eq_true rfl) (mf_rr (Nat.le_trans (by decide) hd) (Nat.le_refl _)) (Nat.le_refl _) (hyp g2 hG) (fun r4 g5 h6 hyp => ?_)
    obtain ⟨hgg, hyp⟩ := hyp
    subst hgg
    refine mf_if_ne (tgt := 25) (mf_dat eX12_pairs 10 rfl) (by decide) (fun hc => ?_) (fun hc => ?_)
    · replace hyp := hyp.1 hc
      refine mf_aload_n (mf_dat eX12_pairs 13 rfl) rfl rfl ?_
      refine mf_iload_n (mf_dat eX12_pairs 14 rfl) rfl rfl ?_
      refine mf_iconst (v := (-1)) (mf_dat eX12_pairs 15 rfl) (by decide) ?_
      refine mf_icmp_ne (tgt := 44) (mf_dat eX12_pairs 16 rfl) (by decide) (fun hc => ?_) (fun hc => ?_)
      · replace hyp := hyp.1 hc
        refine mf_iload_n (mf_dat eX12_pairs 24 rfl) rfl rfl ?_
        refine mf_callV (Yc := YX12_pairsBy) (r := (RX12, TX12, 106)) (ci := 12) (mf_dat eX12_pairs 25 rfl) ml_X12_514 okX12_pairsBy im_X12_pairsBy sl_X12_pairsBy rfl rfl rfl rfl (Nat.le_of_ble_eq_true rfl) (mf_rr (Nat.le_trans (by decide) hd) (Nat.le_refl _)) (Nat.le_refl _) is245 (hyp g5 hG) (fun r7 g8 h9 hyp => ?_)
        obtain ⟨hgg, hyp⟩ := hyp
        subst hgg
        exact mf_ireturn (mf_dat eX12_pairs 26 rfl) rfl (Or.inl rfl) ⟨rfl, hyp⟩
      · replace hyp := hyp.2 hc
        refine mf_aload_n (mf_dat eX12_pairs 17 rfl) rfl rfl ?_
        refine mf_aload_n (mf_dat eX12_pairs 18 rfl) rfl rfl ?_
        refine mf_getf (r := (RX12, TX12, 106)) (ci := 12) (k := 56) (t := 2) (v := 286) (mf_dat eX12_pairs 19 rfl) fl_X12_136 rfl (by decide) rfl (gm_56 hG) is245 ?_
        refine mf_iconst (v := 0) (mf_dat eX12_pairs 20 rfl) (by decide) ?_
        refine mf_iald (mf_dat eX12_pairs 21 rfl) is286 len286 (by decide) (by decide) ?_
        refine mf_callV (Yc := YX12_openingOn) (r := (RX12, TX12, 106)) (ci := 12) (mf_dat eX12_pairs 22 rfl) ml_X12_487 okX12_openingOn im_X12_openingOn sl_X12_openingOn rfl rfl rfl rfl (Nat.le_of_ble_eq_true rfl) (mf_rr (Nat.le_trans (by decide) hd) (Nat.le_refl _)) (Nat.le_refl _) is245 (hyp g5 hG) (fun r10 g11 h12 hyp => ?_)
        obtain ⟨hgg, hyp⟩ := hyp
        subst hgg
        refine mf_goto (tgt := 45) (mf_dat eX12_pairs 23 rfl) (by decide) ?_
        refine mf_callV (Yc := YX12_pairsBy) (r := (RX12, TX12, 106)) (ci := 12) (mf_dat eX12_pairs 25 rfl) ml_X12_514 okX12_pairsBy im_X12_pairsBy sl_X12_pairsBy rfl rfl rfl rfl (Nat.le_of_ble_eq_true rfl) (mf_rr (Nat.le_trans (by decide) hd) (Nat.le_refl _)) (Nat.le_refl _) is245 (hyp g11 hG) (fun r13 g14 h15 hyp => ?_)
        obtain ⟨hgg, hyp⟩ := hyp
        subst hgg
        exact mf_ireturn (mf_dat eX12_pairs 26 rfl) rfl (Or.inl rfl) ⟨rfl, hyp⟩
    · replace hyp := hyp.2 hc
      refine mf_iconst (v := (-1)) (mf_dat eX12_pairs 11 rfl) (by decide) ?_
      exact mf_ireturn (mf_dat eX12_pairs 12 rfl) rfl (Or.inl rfl) ⟨rfl, hyp⟩
abbrev BX12_apart_13 (C : mf_G) (l : Launch) (d : Nat) (K : Int → mf_M → Prop) (x1 x2 : Int) (h : mf_M) : Prop := jM C l d YX12_apart K 13 [(0, (2, 245)), (1, (0, x1)), (2, (0, x2))] [] h
set_option maxRecDepth 100000 in
set_option maxHeartbeats 4000000 in
theorem vX12_apart_13 {C : mf_G} {l : Launch} {d : Nat} {K : Int → mf_M → Prop} {x1 x2 : Int} {h : mf_M} (hd : 4 ≤ d) (hyp : mM C l 0 YX12_leaves [(2, 245)] h (fun r1 h3 => ((r1 < x2 → K x1 h3) ∧ (¬ r1 < x2 → mM C l 3 YX12_pairsBy [(2, 245), (0, x2)] h3 (fun r4 h6 => mM C l 3 YX12_pairsBy [(2, 245), (0, x1)] h6 (fun r7 h9 => ((r7 ≤ r4 → (∀ v10 : Int, v10 = mf_w32 (x2 + 1) → BX12_apart_13 C l d K x1 v10 h9)) ∧ (¬ r7 ≤ r4 → (∀ v11 : Int, v11 = mf_w32 (x2 + 1) → BX12_apart_13 C l d K x2 v11 h9))))))))) : BX12_apart_13 C l d K x1 x2 h := by
  intro g hG
  refine mf_iload_n (mf_dat eX12_apart 9 rfl) rfl rfl ?_
  refine mf_aload_n (mf_dat eX12_apart 10 rfl) rfl rfl ?_
  refine mf_callV (Yc := YX12_leaves) (r := (RX12, TX12, 106)) (ci := 12) (mf_dat eX12_apart 11 rfl) ml_X12_405 okX12_leaves im_X12_leaves sl_X12_leaves rfl rfl rfl rfl (Nat.le_of_ble_eq_true rfl) (mf_rr (Nat.le_trans (by decide) hd) (Nat.le_refl _)) (Nat.le_refl _) is245 (hyp g hG) (fun r1 g2 h3 hyp => ?_)
  obtain ⟨hgg, hyp⟩ := hyp
  subst hgg
  refine mf_icmp_gt (tgt := 42) (mf_dat eX12_apart 12 rfl) (by decide) (fun hc => ?_) (fun hc => ?_)
  · replace hyp := hyp.1 hc
    refine mf_iload_n (mf_dat eX12_apart 24 rfl) rfl rfl ?_
    exact mf_ireturn (mf_dat eX12_apart 25 rfl) rfl (Or.inl rfl) ⟨rfl, hyp⟩
  · replace hyp := hyp.2 hc
    refine mf_aload_n (mf_dat eX12_apart 13 rfl) rfl rfl ?_
    refine mf_iload_n (mf_dat eX12_apart 14 rfl) rfl rfl ?_
    refine mf_callV (Yc := YX12_pairsBy) (r := (RX12, TX12, 106)) (ci := 12) (mf_dat eX12_apart 15 rfl) ml_X12_514 okX12_pairsBy im_X12_pairsBy sl_X12_pairsBy rfl rfl rfl rfl (Nat.le_of_ble_eq_true rfl) (mf_rr (Nat.le_trans (by decide) hd) (Nat.le_refl _)) (Nat.le_refl _) is245 (hyp g2 hG) (fun r4 g5 h6 hyp => ?_)
    obtain ⟨hgg, hyp⟩ := hyp
    subst hgg
    refine mf_aload_n (mf_dat eX12_apart 16 rfl) rfl rfl ?_
    refine mf_iload_n (mf_dat eX12_apart 17 rfl) rfl rfl ?_
    refine mf_callV (Yc := YX12_pairsBy) (r := (RX12, TX12, 106)) (ci := 12) (mf_dat eX12_apart 18 rfl) ml_X12_514 okX12_pairsBy im_X12_pairsBy sl_X12_pairsBy rfl rfl rfl rfl (Nat.le_of_ble_eq_true rfl) (mf_rr (Nat.le_trans (by decide) hd) (Nat.le_refl _)) (Nat.le_refl _) is245 (hyp g5 hG) (fun r7 g8 h9 hyp => ?_)
    obtain ⟨hgg, hyp⟩ := hyp
    subst hgg
    refine mf_icmp_ge (tgt := 36) (mf_dat eX12_apart 19 rfl) (by decide) (fun hc => ?_) (fun hc => ?_)
    · replace hyp := hyp.1 hc
      refine mf_iinc (mf_dat eX12_apart 22 rfl) rfl (by decide) (by decide) ?_
      generalize qv10 : mf_w32 (x2 + 1) = v10
      replace hyp := hyp _ qv10.symm
      refine mf_goto (tgt := 13) (mf_dat eX12_apart 23 rfl) (by decide) ?_
      exact mf_sub [1, 2, 0] rfl (hyp g8 hG)
    · replace hyp := hyp.2 hc
      refine mf_iload_n (mf_dat eX12_apart 20 rfl) rfl rfl ?_
      refine mf_istore_n (mf_dat eX12_apart 21 rfl) rfl (by decide) ?_
      refine mf_iinc (mf_dat eX12_apart 22 rfl) rfl (by decide) (by decide) ?_
      generalize qv11 : mf_w32 (x2 + 1) = v11
      replace hyp := hyp _ qv11.symm
      refine mf_goto (tgt := 13) (mf_dat eX12_apart 23 rfl) (by decide) ?_
      exact mf_sub [2, 1, 0] rfl (hyp g8 hG)
set_option maxRecDepth 100000 in
set_option maxHeartbeats 4000000 in
theorem wX12_apart {C : mf_G} {l : Launch} {d : Nat} {K : Int → mf_M → Prop} {h : mf_M} (hyp : ((¬ h 245 54 = 0 → BX12_apart_13 C l d K 0 1 h) ∧ (h 245 54 = 0 → K (-1) h))) : mM C l d YX12_apart [(2, 245)] h K := by
  intro g hG
  refine mf_entry (by decide) (Nat.le_of_ble_eq_true rfl) ?_
  refine mf_aload_n (mf_dat eX12_apart 0 rfl) rfl rfl ?_
  refine mf_getf (r := (RX12, TX12, 106)) (ci := 12) (k := 54) (t := 0) (v := h 245 54) (mf_dat eX12_apart 1 rfl) fl_X12_389 rfl (by decide) rfl rfl is245 ?_
  refine mf_if_ne (tgt := 9) (mf_dat eX12_apart 2 rfl) (by decide) (fun hc => ?_) (fun hc => ?_)
  · replace hyp := hyp.1 hc
    refine mf_iconst (v := 0) (mf_dat eX12_apart 5 rfl) (by decide) ?_
    refine mf_istore_n (mf_dat eX12_apart 6 rfl) rfl (by decide) ?_
    refine mf_iconst (v := 1) (mf_dat eX12_apart 7 rfl) (by decide) ?_
    refine mf_istore_n (mf_dat eX12_apart 8 rfl) rfl (by decide) ?_
    exact mf_sub [2, 1, 0] rfl (hyp g hG)
  · replace hyp := hyp.2 hc
    refine mf_iconst (v := (-1)) (mf_dat eX12_apart 3 rfl) (by decide) ?_
    exact mf_ireturn (mf_dat eX12_apart 4 rfl) rfl (Or.inl rfl) ⟨rfl, hyp⟩
abbrev BX12_rowsOf_4 (C : mf_G) (l : Launch) (d : Nat) (K : Int → mf_M → Prop) (x1 x2 x3 : Int) (h : mf_M) : Prop := jM C l d YX12_rowsOf K 4 [(0, (2, 245)), (1, (0, x1)), (2, (0, x2)), (3, (0, x3))] [] h
set_option maxRecDepth 100000 in
set_option maxHeartbeats 4000000 in
theorem vX12_rowsOf_4 {C : mf_G} {l : Launch} {d : Nat} {K : Int → mf_M → Prop} {x1 x2 x3 : Int} {h : mf_M} (hd : 1 ≤ d) (hyp : ((x1 ≤ x3 → K x2 h) ∧ (¬ x1 ≤ x3 → mM C l 0 YX12_leaves [(2, 245)] h (fun r1 h3 => (∀ v4 : Int, v4 = mf_w32 (x2 * (mf_w32 (r1 + 1))) → (∀ v5 : Int, v5 = mf_w32 (x3 + 1) → BX12_rowsOf_4 C l d K x1 v4 v5 h3)))))) : BX12_rowsOf_4 C l d K x1 x2 x3 h := by
  intro g hG
  refine mf_iload_n (mf_dat eX12_rowsOf 4 rfl) rfl rfl ?_
  refine mf_iload_n (mf_dat eX12_rowsOf 5 rfl) rfl rfl ?_
  refine mf_icmp_ge (tgt := 24) (mf_dat eX12_rowsOf 6 rfl) (by decide) (fun hc => ?_) (fun hc => ?_)
  · replace hyp := hyp.1 hc
    refine mf_iload_n (mf_dat eX12_rowsOf 16 rfl) rfl rfl ?_
    exact mf_ireturn (mf_dat eX12_rowsOf 17 rfl) rfl (Or.inl rfl) ⟨rfl, hyp⟩
  · replace hyp := hyp.2 hc
    refine mf_iload_n (mf_dat eX12_rowsOf 7 rfl) rfl rfl ?_
    refine mf_aload_n (mf_dat eX12_rowsOf 8 rfl) rfl rfl ?_
    refine mf_callV (Yc := YX12_leaves) (r := (RX12, TX12, 106)) (ci := 12) (mf_dat eX12_rowsOf 9 rfl) ml_X12_405 okX12_leaves im_X12_leaves sl_X12_leaves rfl rfl rfl rfl (Nat.le_of_ble_eq_true rfl) (mf_rr (Nat.le_trans (by decide) hd) (Nat.le_refl _)) (Nat.le_refl _) is245 (hyp g hG) (fun r1 g2 h3 hyp => ?_)
    obtain ⟨hgg, hyp⟩ := hyp
    subst hgg
    refine mf_iconst (v := 1) (mf_dat eX12_rowsOf 10 rfl) (by decide) ?_
    refine mf_iadd (mf_dat eX12_rowsOf 11 rfl) ?_
    refine mf_imul (mf_dat eX12_rowsOf 12 rfl) ?_
    generalize qv4 : mf_w32 (x2 * (mf_w32 (r1 + 1))) = v4
    replace hyp := hyp _ qv4.symm
    refine mf_istore_n (mf_dat eX12_rowsOf 13 rfl) rfl (by decide) ?_
    refine mf_iinc (mf_dat eX12_rowsOf 14 rfl) rfl (by decide) (by decide) ?_
    generalize qv5 : mf_w32 (x3 + 1) = v5
    replace hyp := hyp _ qv5.symm
    refine mf_goto (tgt := 4) (mf_dat eX12_rowsOf 15 rfl) (by decide) ?_
    exact mf_sub [2, 3, 1, 0] rfl (hyp g2 hG)
set_option maxRecDepth 100000 in
set_option maxHeartbeats 4000000 in
theorem wX12_rowsOf {C : mf_G} {l : Launch} {d : Nat} {K : Int → mf_M → Prop} {x1 : Int} {h : mf_M} (hyp : BX12_rowsOf_4 C l d K x1 1 0 h) : mM C l d YX12_rowsOf [(2, 245), (0, x1)] h K := by
  intro g hG
  refine mf_entry (by decide) (Nat.le_of_ble_eq_true rfl) ?_
  refine mf_iconst (v := 1) (mf_dat eX12_rowsOf 0 rfl) (by decide) ?_
  refine mf_istore_n (mf_dat eX12_rowsOf 1 rfl) rfl (by decide) ?_
  refine mf_iconst (v := 0) (mf_dat eX12_rowsOf 2 rfl) (by decide) ?_
  refine mf_istore_n (mf_dat eX12_rowsOf 3 rfl) rfl (by decide) ?_
  exact mf_sub [2, 3, 1, 0] rfl (hyp g hG)
set_option maxRecDepth 100000 in
set_option maxHeartbeats 4000000 in
theorem wX12_openingAt {C : mf_G} {l : Launch} {d : Nat} {K : Int → mf_M → Prop} {x1 x2 x3 : Int} {h : mf_M} (hd : 2 ≤ d) (hyp : mM C l 1 YX12_rowsOf [(2, 245), (0, mf_w32 ((mf_w32 (x2 - 1)) - x3))] h (fun r1 h3 => ¬ r1 = 0 ∧ mM C l 0 YX12_leaves [(2, 245)] h3 (fun r5 h7 => ¬ mf_w32 (r5 + 1) = 0 ∧ K ((mf_w32 (x1.tdiv r1)).tmod (mf_w32 (r5 + 1))) h7))) : mM C l d YX12_openingAt [(2, 245), (0, x1), (0, x2), (0, x3)] h K := by
  intro g hG
  refine mf_entry (by decide) (Nat.le_of_ble_eq_true rfl) ?_
  refine mf_iload_n (mf_dat eX12_openingAt 0 rfl) rfl rfl ?_
  refine mf_aload_n (mf_dat eX12_openingAt 1 rfl) rfl rfl ?_
  refine mf_iload_n (mf_dat eX12_openingAt 2 rfl) rfl rfl ?_
  refine mf_iconst (v := 1) (mf_dat eX12_openingAt 3 rfl) (by decide) ?_
  refine mf_isub (mf_dat eX12_openingAt 4 rfl) ?_
  refine mf_iload_n (mf_dat eX12_openingAt 5 rfl) rfl rfl ?_
  refine mf_isub (mf_dat eX12_openingAt 6 rfl) ?_
  refine mf_callV (Yc := YX12_rowsOf) (r := (RX12, TX12, 106)) (ci := 12) (mf_dat eX12_openingAt 7 rfl) ml_X12_517 okX12_rowsOf im_X12_rowsOf sl_X12_rowsOf rfl rfl rfl rfl (Nat.le_of_ble_eq_true rfl) (mf_rr (Nat.le_trans (by decide) hd) (Nat.le_refl _)) (Nat.le_refl _) is245 (hyp g hG) (fun r1 g2 h3 hyp => ?_)
  obtain ⟨hgg, hyp⟩ := hyp
  subst hgg
  obtain ⟨ck4, hyp⟩ := hyp
  refine mf_idiv (mf_dat eX12_openingAt 8 rfl) ck4 ?_
  refine mf_aload_n (mf_dat eX12_openingAt 9 rfl) rfl rfl ?_
  refine mf_callV (Yc := YX12_leaves) (r := (RX12, TX12, 106)) (ci := 12) (mf_dat eX12_openingAt 10 rfl) ml_X12_405 okX12_leaves im_X12_leaves sl_X12_leaves rfl rfl rfl rfl (Nat.le_of_ble_eq_true rfl) (mf_rr (Nat.le_trans (by decide) hd) (Nat.le_refl _)) (Nat.le_refl _) is245 (hyp g2 hG) (fun r5 g6 h7 hyp => ?_)
  obtain ⟨hgg, hyp⟩ := hyp
  subst hgg
  refine mf_iconst (v := 1) (mf_dat eX12_openingAt 11 rfl) (by decide) ?_
  refine mf_iadd (mf_dat eX12_openingAt 12 rfl) ?_
  obtain ⟨ck8, hyp⟩ := hyp
  refine mf_irem (mf_dat eX12_openingAt 13 rfl) ck8 ?_
  exact mf_ireturn (mf_dat eX12_openingAt 14 rfl) rfl (Or.inl rfl) ⟨rfl, hyp⟩
abbrev BX12_reading_46 (C : mf_G) (l : Launch) (d : Nat) (K : Int → mf_M → Prop) (x1 x2 x3 x4 x5 x6 : Int) (h : mf_M) : Prop := jM C l d YX12_reading K 46 [(0, (2, 245)), (1, (0, x1)), (2, (0, x2)), (3, (0, x3)), (4, (0, x4)), (5, (0, x5)), (6, (0, x6))] [] h
abbrev BX12_reading_56 (C : mf_G) (l : Launch) (d : Nat) (K : Int → mf_M → Prop) (x1 x2 x3 x4 x5 x6 x7 : Int) (h : mf_M) : Prop := jM C l d YX12_reading K 56 [(0, (2, 245)), (1, (0, x1)), (2, (0, x2)), (3, (0, x3)), (4, (0, x4)), (5, (0, x5)), (6, (0, x6)), (7, (0, x7))] [] h
set_option maxRecDepth 100000 in
set_option maxHeartbeats 4000000 in
theorem vX12_reading_46 {C : mf_G} {l : Launch} {d : Nat} {K : Int → mf_M → Prop} {x1 x2 x3 x4 x5 x6 : Int} {h : mf_M} (hd : 3 ≤ d) (hyp : ((x5 ≤ x6 → mM C l 0 YX12_takesBack [(2, 245)] h (fun r1 h3 => ((¬ x2 = (-1) → mM C l 2 YX12_openingAt [(2, 245), (0, x3), (0, x1), (0, x2)] h3 (fun r4 h6 => K r4 h6)) ∧ (x2 = (-1) → K x4 h3)))) ∧ (¬ x5 ≤ x6 → BX12_reading_56 C l d K x1 x2 x3 x4 x5 x6 0 h))) : BX12_reading_46 C l d K x1 x2 x3 x4 x5 x6 h := by
  intro g hG
  refine mf_iload (mf_dat eX12_reading_p0 29 rfl) rfl ?_
  refine mf_iload (mf_dat eX12_reading_p0 30 rfl) rfl ?_
  refine mf_icmp_ge (tgt := 120) (mf_dat eX12_reading_p0 31 rfl) (by decide) (fun hc => ?_) (fun hc => ?_)
  · replace hyp := hyp.1 hc
    refine mf_aload_n (mf_dat eX12_reading_p1 4 rfl) rfl rfl ?_
    refine mf_callV (Yc := YX12_takesBack) (r := (RX12, TX12, 106)) (ci := 12) (mf_dat eX12_reading_p1 5 rfl) ml_X12_533 okX12_takesBack im_X12_takesBack sl_X12_takesBack rfl rfl rfl rfl (Nat.le_of_ble_eq_true rfl) (mf_rr (Nat.le_trans (by decide) hd) (Nat.le_refl _)) (Nat.le_refl _) is245 (hyp g hG) (fun r1 g2 h3 hyp => ?_)
    obtain ⟨hgg, hyp⟩ := hyp
    subst hgg
    refine mf_iload_n (mf_dat eX12_reading_p1 6 rfl) rfl rfl ?_
    refine mf_iconst (v := (-1)) (mf_dat eX12_reading_p1 7 rfl) (by decide) ?_
    refine mf_icmp_ne (tgt := 134) (mf_dat eX12_reading_p1 8 rfl) (by decide) (fun hc => ?_) (fun hc => ?_)
    · replace hyp := hyp.1 hc
      refine mf_aload_n (mf_dat eX12_reading_p1 11 rfl) rfl rfl ?_
      refine mf_iload_n (mf_dat eX12_reading_p1 12 rfl) rfl rfl ?_
      refine mf_iload_n (mf_dat eX12_reading_p1 13 rfl) rfl rfl ?_
      refine mf_iload_n (mf_dat eX12_reading_p1 14 rfl) rfl rfl ?_
      refine mf_callV (Yc := YX12_openingAt) (r := (RX12, TX12, 106)) (ci := 12) (mf_dat eX12_reading_p1 15 rfl) ml_X12_526 okX12_openingAt im_X12_openingAt sl_X12_openingAt rfl rfl rfl rfl (Nat.le_of_ble_eq_true rfl) (mf_rr (Nat.le_trans (by decide) hd) (Nat.le_refl _)) (Nat.le_refl _) is245 (hyp g2 hG) (fun r4 g5 h6 hyp => ?_)
      obtain ⟨hgg, hyp⟩ := hyp
      subst hgg
      exact mf_ireturn (mf_dat eX12_reading_p1 16 rfl) rfl (Or.inl rfl) ⟨rfl, hyp⟩
    · replace hyp := hyp.2 hc
      refine mf_iload (mf_dat eX12_reading_p1 9 rfl) rfl ?_
      refine mf_goto (tgt := 141) (mf_dat eX12_reading_p1 10 rfl) (by decide) ?_
      exact mf_ireturn (mf_dat eX12_reading_p1 16 rfl) rfl (Or.inl rfl) ⟨rfl, hyp⟩
  · replace hyp := hyp.2 hc
    refine mf_iconst (v := 0) (mf_dat eX12_reading_p0 32 rfl) (by decide) ?_
    refine mf_istore (mf_dat eX12_reading_p0 33 rfl) (by decide) ?_
    exact mf_sub [1, 2, 3, 4, 5, 6, 7, 0] rfl (hyp g hG)
set_option maxRecDepth 100000 in
set_option maxHeartbeats 4000000 in
theorem vX12_reading_56 {C : mf_G} {l : Launch} {d : Nat} {K : Int → mf_M → Prop} {x1 x2 x3 x4 x5 x6 x7 : Int} {h : mf_M} (hd : 5 ≤ d) (hyp : ((x1 ≤ x7 → (∀ v1 : Int, v1 = h 245 62 → mM C l 0 YX12_triesAnew [(2, 245)] h (fun r2 h4 => ((x4 = (-1) → (∀ v5 : Int, v5 = mf_w32 (x6 + 1) → BX12_reading_46 C l d K x1 x2 x6 v1 x5 v5 h4)) ∧ (¬ x4 = (-1) → ((v1 < x4 → (∀ v6 : Int, v6 = mf_w32 (x6 + 1) → BX12_reading_46 C l d K x1 x2 x6 v1 x5 v6 h4)) ∧ (¬ v1 < x4 → (∀ v7 : Int, v7 = mf_w32 (x6 + 1) → BX12_reading_46 C l d K x1 x2 x3 x4 x5 v7 h4)))))))) ∧ (¬ x1 ≤ x7 → mM C l 2 YX12_openingAt [(2, 245), (0, x6), (0, x1), (0, x7)] h (fun r8 h10 => mM C l 4 YX12_dayBy [(2, 245), (0, r8)] h10 (fun r11 h13 => (∀ v14 : Int, v14 = mf_w32 (x7 + 1) → BX12_reading_56 C l d K x1 x2 x3 x4 x5 x6 v14 h13)))))) : BX12_reading_56 C l d K x1 x2 x3 x4 x5 x6 x7 h := by
  intro g hG
  refine mf_iload (mf_dat eX12_reading_p0 34 rfl) rfl ?_
  refine mf_iload_n (mf_dat eX12_reading_p0 35 rfl) rfl rfl ?_
  refine mf_icmp_ge (tgt := 81) (mf_dat eX12_reading_p0 36 rfl) (by decide) (fun hc => ?_) (fun hc => ?_)
  · replace hyp := hyp.1 hc
    refine mf_aload_n (mf_dat eX12_reading_p0 46 rfl) rfl rfl ?_
    refine mf_getf (r := (RX12, TX12, 106)) (ci := 12) (k := 62) (t := 0) (v := h 245 62) (mf_dat eX12_reading_p0 47 rfl) fl_X12_452 rfl (by decide) rfl rfl is245 ?_
    generalize qv1 : h 245 62 = v1
    replace hyp := hyp _ qv1.symm
    refine mf_istore (mf_dat eX12_reading_p0 48 rfl) (by decide) ?_
    refine mf_aload_n (mf_dat eX12_reading_p0 49 rfl) rfl rfl ?_
    refine mf_callV (Yc := YX12_triesAnew) (r := (RX12, TX12, 106)) (ci := 12) (mf_dat eX12_reading_p0 50 rfl) ml_X12_530 okX12_triesAnew im_X12_triesAnew sl_X12_triesAnew rfl rfl rfl rfl (Nat.le_of_ble_eq_true rfl) (mf_rr (Nat.le_trans (by decide) hd) (Nat.le_refl _)) (Nat.le_refl _) is245 (hyp g hG) (fun r2 g3 h4 hyp => ?_)
    obtain ⟨hgg, hyp⟩ := hyp
    subst hgg
    refine mf_iload (mf_dat eX12_reading_p0 51 rfl) rfl ?_
    refine mf_iconst (v := (-1)) (mf_dat eX12_reading_p0 52 rfl) (by decide) ?_
    refine mf_icmp_eq (tgt := 107) (mf_dat eX12_reading_p0 53 rfl) (by decide) (fun hc => ?_) (fun hc => ?_)
    · replace hyp := hyp.1 hc
      refine mf_iload (mf_dat eX12_reading_p0 58 rfl) rfl ?_
      refine mf_istore_n (mf_dat eX12_reading_p0 59 rfl) rfl (by decide) ?_
      refine mf_iload (mf_dat eX12_reading_p1 0 rfl) rfl ?_
      refine mf_istore (mf_dat eX12_reading_p1 1 rfl) (by decide) ?_
      refine mf_iinc (mf_dat eX12_reading_p1 2 rfl) rfl (by decide) (by decide) ?_
      generalize qv5 : mf_w32 (x6 + 1) = v5
      replace hyp := hyp _ qv5.symm
      refine mf_goto (tgt := 46) (mf_dat eX12_reading_p1 3 rfl) (by decide) ?_
      exact mf_sub [4, 5, 6, 2, 1, 7, 0] rfl (hyp g3 hG)
    · replace hyp := hyp.2 hc
      refine mf_iload (mf_dat eX12_reading_p0 54 rfl) rfl ?_
      refine mf_iload (mf_dat eX12_reading_p0 55 rfl) rfl ?_
      refine mf_icmp_lt (tgt := 107) (mf_dat eX12_reading_p0 56 rfl) (by decide) (fun hc => ?_) (fun hc => ?_)
      · replace hyp := hyp.1 hc
        refine mf_iload (mf_dat eX12_reading_p0 58 rfl) rfl ?_
        refine mf_istore_n (mf_dat eX12_reading_p0 59 rfl) rfl (by decide) ?_
        refine mf_iload (mf_dat eX12_reading_p1 0 rfl) rfl ?_
        refine mf_istore (mf_dat eX12_reading_p1 1 rfl) (by decide) ?_
        refine mf_iinc (mf_dat eX12_reading_p1 2 rfl) rfl (by decide) (by decide) ?_
        generalize qv6 : mf_w32 (x6 + 1) = v6
        replace hyp := hyp _ qv6.symm
        refine mf_goto (tgt := 46) (mf_dat eX12_reading_p1 3 rfl) (by decide) ?_
        exact mf_sub [4, 5, 6, 2, 1, 7, 0] rfl (hyp g3 hG)
      · replace hyp := hyp.2 hc
        refine mf_goto (tgt := 114) (mf_dat eX12_reading_p0 57 rfl) (by decide) ?_
        refine mf_iinc (mf_dat eX12_reading_p1 2 rfl) rfl (by decide) (by decide) ?_
        generalize qv7 : mf_w32 (x6 + 1) = v7
        replace hyp := hyp _ qv7.symm
        refine mf_goto (tgt := 46) (mf_dat eX12_reading_p1 3 rfl) (by decide) ?_
        exact mf_sub [2, 3, 4, 5, 6, 7, 0] rfl (hyp g3 hG)
  · replace hyp := hyp.2 hc
    refine mf_aload_n (mf_dat eX12_reading_p0 37 rfl) rfl rfl ?_
    refine mf_aload_n (mf_dat eX12_reading_p0 38 rfl) rfl rfl ?_
    refine mf_iload (mf_dat eX12_reading_p0 39 rfl) rfl ?_
    refine mf_iload_n (mf_dat eX12_reading_p0 40 rfl) rfl rfl ?_
    refine mf_iload (mf_dat eX12_reading_p0 41 rfl) rfl ?_
    refine mf_callV (Yc := YX12_openingAt) (r := (RX12, TX12, 106)) (ci := 12) (mf_dat eX12_reading_p0 42 rfl) ml_X12_526 okX12_openingAt im_X12_openingAt sl_X12_openingAt rfl rfl rfl rfl (Nat.le_of_ble_eq_true rfl) (mf_rr (Nat.le_trans (by decide) hd) (Nat.le_refl _)) (Nat.le_refl _) is245 (hyp g hG) (fun r8 g9 h10 hyp => ?_)
    obtain ⟨hgg, hyp⟩ := hyp
    subst hgg
    refine mf_callV (Yc := YX12_dayBy) (r := (RX12, TX12, 106)) (ci := 12) (mf_dat eX12_reading_p0 43 rfl) ml_X12_490 okX12_dayBy im_X12_dayBy sl_X12_dayBy rfl rfl rfl rfl (Nat.le_of_ble_eq_true rfl) (mf_rr (Nat.le_trans (by decide) hd) (Nat.le_refl _)) (Nat.le_refl _) is245 (hyp g9 hG) (fun r11 g12 h13 hyp => ?_)
    obtain ⟨hgg, hyp⟩ := hyp
    subst hgg
    refine mf_iinc (mf_dat eX12_reading_p0 44 rfl) rfl (by decide) (by decide) ?_
    generalize qv14 : mf_w32 (x7 + 1) = v14
    replace hyp := hyp _ qv14.symm
    refine mf_goto (tgt := 56) (mf_dat eX12_reading_p0 45 rfl) (by decide) ?_
    exact mf_sub [1, 2, 3, 4, 5, 6, 7, 0] rfl (hyp g12 hG)
set_option maxRecDepth 100000 in
set_option maxHeartbeats 4000000 in
theorem wX12_reading {C : mf_G} {l : Launch} {d : Nat} {K : Int → mf_M → Prop} {x1 x2 : Int} {h : mf_M} (hd : 2 ≤ d) (hyp : mM C l 1 YX12_isAhead [(2, 245), (0, x1), (0, 1), (0, 3)] h (fun r1 h3 => ((r1 = 0 → K (-1) h3) ∧ (¬ r1 = 0 → mM C l 0 YX12_isIn [(1, x2), (1, (-1)), (1, mf_w32 (x1 - 1))] h3 (fun r4 h6 => ((¬ r4 = 0 → mM C l 1 YX12_rowsOf [(2, 245), (0, x1)] h6 (fun r7 h9 => mM C l 0 YX12_putsAside [(2, 245)] h9 (fun r10 h12 => BX12_reading_46 C l d K x1 x2 0 (-1) r7 0 h12))) ∧ (r4 = 0 → K (-1) h6))))))) : mM C l d YX12_reading [(2, 245), (0, x1), (0, x2)] h K := by
  intro g hG
  refine mf_entry (by decide) (Nat.le_of_ble_eq_true rfl) ?_
  refine mf_aload_n (mf_dat eX12_reading_p0 0 rfl) rfl rfl ?_
  refine mf_iload_n (mf_dat eX12_reading_p0 1 rfl) rfl rfl ?_
  refine mf_iconst (v := 1) (mf_dat eX12_reading_p0 2 rfl) (by decide) ?_
  refine mf_iconst (v := 3) (mf_dat eX12_reading_p0 3 rfl) (by decide) ?_
  refine mf_callV (Yc := YX12_isAhead) (r := (RX12, TX12, 106)) (ci := 12) (mf_dat eX12_reading_p0 4 rfl) ml_X12_520 okX12_isAhead im_X12_isAhead sl_X12_isAhead rfl rfl rfl rfl (Nat.le_of_ble_eq_true rfl) (mf_rr (Nat.le_trans (by decide) hd) (Nat.le_refl _)) (Nat.le_refl _) is245 (hyp g hG) (fun r1 g2 h3 hyp => ?_)
  obtain ⟨hgg, hyp⟩ := hyp
  subst hgg
  refine mf_if_eq (tgt := 25) (mf_dat eX12_reading_p0 5 rfl) (by decide) (fun hc => ?_) (fun hc => ?_)
  · replace hyp := hyp.1 hc
    refine mf_iconst (v := (-1)) (mf_dat eX12_reading_p0 15 rfl) (by decide) ?_
    exact mf_ireturn (mf_dat eX12_reading_p0 16 rfl) rfl (Or.inl rfl) ⟨rfl, hyp⟩
  · replace hyp := hyp.2 hc
    refine mf_iload_n (mf_dat eX12_reading_p0 6 rfl) rfl rfl ?_
    refine mf_i2l (mf_dat eX12_reading_p0 7 rfl) ?_
    refine mf_ldc2 (v := (-1)) cl_X12_512 (mf_dat eX12_reading_p0 8 rfl) (by decide) ?_
    refine mf_iload_n (mf_dat eX12_reading_p0 9 rfl) rfl rfl ?_
    refine mf_iconst (v := 1) (mf_dat eX12_reading_p0 10 rfl) (by decide) ?_
    refine mf_isub (mf_dat eX12_reading_p0 11 rfl) ?_
    refine mf_i2l (mf_dat eX12_reading_p0 12 rfl) ?_
    refine mf_callS (Yc := YX12_isIn) (mf_dat eX12_reading_p0 13 rfl) ml_X12_286 okX12_isIn sm_X12_isIn rfl rfl (Nat.le_of_ble_eq_true rfl) (mf_rr (Nat.le_trans (by decide) hd) (Nat.le_refl _)) (Nat.le_refl _) (hyp g2 hG) (fun r4 g5 h6 hyp => ?_)
    obtain ⟨hgg, hyp⟩ := hyp
    subst hgg
    refine mf_if_ne (tgt := 27) (mf_dat eX12_reading_p0 14 rfl) (by decide) (fun hc => ?_) (fun hc => ?_)
    · replace hyp := hyp.1 hc
      refine mf_iconst (v := 0) (mf_dat eX12_reading_p0 17 rfl) (by decide) ?_
      refine mf_istore_n (mf_dat eX12_reading_p0 18 rfl) rfl (by decide) ?_
      refine mf_iconst (v := (-1)) (mf_dat eX12_reading_p0 19 rfl) (by decide) ?_
      refine mf_istore (mf_dat eX12_reading_p0 20 rfl) (by decide) ?_
      refine mf_aload_n (mf_dat eX12_reading_p0 21 rfl) rfl rfl ?_
      refine mf_iload_n (mf_dat eX12_reading_p0 22 rfl) rfl rfl ?_
      refine mf_callV (Yc := YX12_rowsOf) (r := (RX12, TX12, 106)) (ci := 12) (mf_dat eX12_reading_p0 23 rfl) ml_X12_517 okX12_rowsOf im_X12_rowsOf sl_X12_rowsOf rfl rfl rfl rfl (Nat.le_of_ble_eq_true rfl) (mf_rr (Nat.le_trans (by decide) hd) (Nat.le_refl _)) (Nat.le_refl _) is245 (hyp g5 hG) (fun r7 g8 h9 hyp => ?_)
      obtain ⟨hgg, hyp⟩ := hyp
      subst hgg
      refine mf_istore (mf_dat eX12_reading_p0 24 rfl) (by decide) ?_
      refine mf_aload_n (mf_dat eX12_reading_p0 25 rfl) rfl rfl ?_
      refine mf_callV (Yc := YX12_putsAside) (r := (RX12, TX12, 106)) (ci := 12) (mf_dat eX12_reading_p0 26 rfl) ml_X12_523 okX12_putsAside im_X12_putsAside sl_X12_putsAside rfl rfl rfl rfl (Nat.le_of_ble_eq_true rfl) (mf_rr (Nat.le_trans (by decide) hd) (Nat.le_refl _)) (Nat.le_refl _) is245 (hyp g8 hG) (fun r10 g11 h12 hyp => ?_)
      obtain ⟨hgg, hyp⟩ := hyp
      subst hgg
      refine mf_iconst (v := 0) (mf_dat eX12_reading_p0 27 rfl) (by decide) ?_
      refine mf_istore (mf_dat eX12_reading_p0 28 rfl) (by decide) ?_
      exact mf_sub [4, 5, 6, 3, 2, 1, 0] rfl (hyp g11 hG)
    · replace hyp := hyp.2 hc
      refine mf_iconst (v := (-1)) (mf_dat eX12_reading_p0 15 rfl) (by decide) ?_
      exact mf_ireturn (mf_dat eX12_reading_p0 16 rfl) rfl (Or.inl rfl) ⟨rfl, hyp⟩
set_option maxRecDepth 100000 in
set_option maxHeartbeats 4000000 in
theorem wX12_later {C : mf_G} {l : Launch} {d : Nat} {K : Int → mf_M → Prop} {x1 x2 x3 : Int} {h : mf_M} (hd : 6 ≤ d) (hyp : mM C l 1 YX12_isBeing [(2, 245), (0, x1)] h (fun r1 h3 => ((r1 = 0 → K (-1) h3) ∧ (¬ r1 = 0 → mM C l 1 YX12_isAhead [(2, 245), (0, x2), (0, 0), (0, 60)] h3 (fun r4 h6 => ((r4 = 0 → K (-1) h6) ∧ (¬ r4 = 0 → mM C l 0 YX12_isIn [(1, x3), (1, 0), (1, 2)] h6 (fun r7 h9 => ((¬ r7 = 0 → mM C l 0 YX12_putsAside [(2, 245)] h9 (fun r10 h12 => mM C l 5 YX12_daysGo [(2, 245), (0, x2)] h12 (fun r13 h15 => ((¬ x3 = 0 → ((¬ x3 = 1 → 0 ≤ x1 ∧ x1 < 8 ∧ (∀ v18 : Int, v18 = h15 288 x1 → mM C l 0 YX12_takesBack [(2, 245)] h15 (fun r19 h21 => K v18 h21))) ∧ (x3 = 1 → mM C l 0 YX12_purseOf [(2, 245), (0, x1)] h15 (fun r22 h24 => mM C l 0 YX12_takesBack [(2, 245)] h24 (fun r25 h27 => K r22 h27))))) ∧ (x3 = 0 → mM C l 0 YX12_cellOf [(2, 245), (0, x1)] h15 (fun r28 h30 => mM C l 0 YX12_takesBack [(2, 245)] h30 (fun r31 h33 => K r28 h33))))))) ∧ (r7 = 0 → K (-1) h9)))))))))) : mM C l d YX12_later [(2, 245), (0, x1), (0, x2), (0, x3)] h K := by
  intro g hG
  refine mf_entry (by decide) (Nat.le_of_ble_eq_true rfl) ?_
  refine mf_aload_n (mf_dat eX12_later 0 rfl) rfl rfl ?_
  refine mf_iload_n (mf_dat eX12_later 1 rfl) rfl rfl ?_
  refine mf_callV (Yc := YX12_isBeing) (r := (RX12, TX12, 106)) (ci := 12) (mf_dat eX12_later 2 rfl) ml_X12_502 okX12_isBeing im_X12_isBeing sl_X12_isBeing rfl rfl rfl rfl (Nat.le_of_ble_eq_true rfl) (mf_rr (Nat.le_trans (by decide) hd) (Nat.le_refl _)) (Nat.le_refl _) is245 (hyp g hG) (fun r1 g2 h3 hyp => ?_)
  obtain ⟨hgg, hyp⟩ := hyp
  subst hgg
  refine mf_if_eq (tgt := 31) (mf_dat eX12_later 3 rfl) (by decide) (fun hc => ?_) (fun hc => ?_)
  · replace hyp := hyp.1 hc
    refine mf_iconst (v := (-1)) (mf_dat eX12_later 16 rfl) (by decide) ?_
    exact mf_ireturn (mf_dat eX12_later 17 rfl) rfl (Or.inl rfl) ⟨rfl, hyp⟩
  · replace hyp := hyp.2 hc
    refine mf_aload_n (mf_dat eX12_later 4 rfl) rfl rfl ?_
    refine mf_iload_n (mf_dat eX12_later 5 rfl) rfl rfl ?_
    refine mf_iconst (v := 0) (mf_dat eX12_later 6 rfl) (by decide) ?_
    refine mf_bipush (v := 60) (mf_dat eX12_later 7 rfl) (by decide) ?_
    refine mf_callV (Yc := YX12_isAhead) (r := (RX12, TX12, 106)) (ci := 12) (mf_dat eX12_later 8 rfl) ml_X12_520 okX12_isAhead im_X12_isAhead sl_X12_isAhead rfl rfl rfl rfl (Nat.le_of_ble_eq_true rfl) (mf_rr (Nat.le_trans (by decide) hd) (Nat.le_refl _)) (Nat.le_refl _) is245 (hyp g2 hG) (fun r4 g5 h6 hyp => ?_)
    obtain ⟨hgg, hyp⟩ := hyp
    subst hgg
    refine mf_if_eq (tgt := 31) (mf_dat eX12_later 9 rfl) (by decide) (fun hc => ?_) (fun hc => ?_)
    · replace hyp := hyp.1 hc
      refine mf_iconst (v := (-1)) (mf_dat eX12_later 16 rfl) (by decide) ?_
      exact mf_ireturn (mf_dat eX12_later 17 rfl) rfl (Or.inl rfl) ⟨rfl, hyp⟩
    · replace hyp := hyp.2 hc
      refine mf_iload_n (mf_dat eX12_later 10 rfl) rfl rfl ?_
      refine mf_i2l (mf_dat eX12_later 11 rfl) ?_
      refine mf_lconst (v := 0) (mf_dat eX12_later 12 rfl) (by decide) ?_
      refine mf_ldc2 (v := 2) cl_X12_510 (mf_dat eX12_later 13 rfl) (by decide) ?_
      refine mf_callS (Yc := YX12_isIn) (mf_dat eX12_later 14 rfl) ml_X12_286 okX12_isIn sm_X12_isIn rfl rfl (Nat.le_of_ble_eq_true rfl) (mf_rr (Nat.le_trans (by decide) hd) (Nat.le_refl _)) (Nat.le_refl _) (hyp g5 hG) (fun r7 g8 h9 hyp => ?_)
      obtain ⟨hgg, hyp⟩ := hyp
      subst hgg
      refine mf_if_ne (tgt := 33) (mf_dat eX12_later 15 rfl) (by decide) (fun hc => ?_) (fun hc => ?_)
      · replace hyp := hyp.1 hc
        refine mf_aload_n (mf_dat eX12_later 18 rfl) rfl rfl ?_
        refine mf_callV (Yc := YX12_putsAside) (r := (RX12, TX12, 106)) (ci := 12) (mf_dat eX12_later 19 rfl) ml_X12_523 okX12_putsAside im_X12_putsAside sl_X12_putsAside rfl rfl rfl rfl (Nat.le_of_ble_eq_true rfl) (mf_rr (Nat.le_trans (by decide) hd) (Nat.le_refl _)) (Nat.le_refl _) is245 (hyp g8 hG) (fun r10 g11 h12 hyp => ?_)
        obtain ⟨hgg, hyp⟩ := hyp
        subst hgg
        refine mf_aload_n (mf_dat eX12_later 20 rfl) rfl rfl ?_
        refine mf_iload_n (mf_dat eX12_later 21 rfl) rfl rfl ?_
        refine mf_callV (Yc := YX12_daysGo) (r := (RX12, TX12, 106)) (ci := 12) (mf_dat eX12_later 22 rfl) ml_X12_536 okX12_daysGo im_X12_daysGo sl_X12_daysGo rfl rfl rfl rfl (Nat.le_of_ble_eq_true rfl) (mf_rr (Nat.le_trans (by decide) hd) (Nat.le_refl _)) (Nat.le_refl _) is245 (hyp g11 hG) (fun r13 g14 h15 hyp => ?_)
        obtain ⟨hgg, hyp⟩ := hyp
        subst hgg
        refine mf_iload_n (mf_dat eX12_later 23 rfl) rfl rfl ?_
        refine mf_if_ne (tgt := 54) (mf_dat eX12_later 24 rfl) (by decide) (fun hc => ?_) (fun hc => ?_)
        · replace hyp := hyp.1 hc
          refine mf_iload_n (mf_dat eX12_later 29 rfl) rfl rfl ?_
          refine mf_iconst (v := 1) (mf_dat eX12_later 30 rfl) (by decide) ?_
          refine mf_icmp_ne (tgt := 67) (mf_dat eX12_later 31 rfl) (by decide) (fun hc => ?_) (fun hc => ?_)
          · replace hyp := hyp.1 hc
            refine mf_aload_n (mf_dat eX12_later 36 rfl) rfl rfl ?_
            refine mf_getf (r := (RX12, TX12, 106)) (ci := 12) (k := 63) (t := 2) (v := 288) (mf_dat eX12_later 37 rfl) fl_X12_142 rfl (by decide) rfl (gm_63 hG) is245 ?_
            refine mf_iload_n (mf_dat eX12_later 38 rfl) rfl rfl ?_
            obtain ⟨ck16, hyp⟩ := hyp
            obtain ⟨ck17, hyp⟩ := hyp
            refine mf_iald (mf_dat eX12_later 39 rfl) is288 len288 ck16 ck17 ?_
            generalize qv18 : h15 288 x1 = v18
            replace hyp := hyp _ qv18.symm
            refine mf_istore (mf_dat eX12_later 40 rfl) (by decide) ?_
            refine mf_aload_n (mf_dat eX12_later 41 rfl) rfl rfl ?_
            refine mf_callV (Yc := YX12_takesBack) (r := (RX12, TX12, 106)) (ci := 12) (mf_dat eX12_later 42 rfl) ml_X12_533 okX12_takesBack im_X12_takesBack sl_X12_takesBack rfl rfl rfl rfl (Nat.le_of_ble_eq_true rfl) (mf_rr (Nat.le_trans (by decide) hd) (Nat.le_refl _)) (Nat.le_refl _) is245 (hyp g14 hG) (fun r19 g20 h21 hyp => ?_)
            obtain ⟨hgg, hyp⟩ := hyp
            subst hgg
            refine mf_iload (mf_dat eX12_later 43 rfl) rfl ?_
            exact mf_ireturn (mf_dat eX12_later 44 rfl) rfl (Or.inl rfl) ⟨rfl, hyp⟩
          · replace hyp := hyp.2 hc
            refine mf_aload_n (mf_dat eX12_later 32 rfl) rfl rfl ?_
            refine mf_iload_n (mf_dat eX12_later 33 rfl) rfl rfl ?_
            refine mf_callV (Yc := YX12_purseOf) (r := (RX12, TX12, 106)) (ci := 12) (mf_dat eX12_later 34 rfl) ml_X12_445 okX12_purseOf im_X12_purseOf sl_X12_purseOf rfl rfl rfl rfl (Nat.le_of_ble_eq_true rfl) (mf_rr (Nat.le_trans (by decide) hd) (Nat.le_refl _)) (Nat.le_refl _) is245 (hyp g14 hG) (fun r22 g23 h24 hyp => ?_)
            obtain ⟨hgg, hyp⟩ := hyp
            subst hgg
            refine mf_goto (tgt := 73) (mf_dat eX12_later 35 rfl) (by decide) ?_
            refine mf_istore (mf_dat eX12_later 40 rfl) (by decide) ?_
            refine mf_aload_n (mf_dat eX12_later 41 rfl) rfl rfl ?_
            refine mf_callV (Yc := YX12_takesBack) (r := (RX12, TX12, 106)) (ci := 12) (mf_dat eX12_later 42 rfl) ml_X12_533 okX12_takesBack im_X12_takesBack sl_X12_takesBack rfl rfl rfl rfl (Nat.le_of_ble_eq_true rfl) (mf_rr (Nat.le_trans (by decide) hd) (Nat.le_refl _)) (Nat.le_refl _) is245 (hyp g23 hG) (fun r25 g26 h27 hyp => ?_)
            obtain ⟨hgg, hyp⟩ := hyp
            subst hgg
            refine mf_iload (mf_dat eX12_later 43 rfl) rfl ?_
            exact mf_ireturn (mf_dat eX12_later 44 rfl) rfl (Or.inl rfl) ⟨rfl, hyp⟩
        · replace hyp := hyp.2 hc
          refine mf_aload_n (mf_dat eX12_later 25 rfl) rfl rfl ?_
          refine mf_iload_n (mf_dat eX12_later 26 rfl) rfl rfl ?_
          refine mf_callV (Yc := YX12_cellOf) (r := (RX12, TX12, 106)) (ci := 12) (mf_dat eX12_later 27 rfl) ml_X12_413 okX12_cellOf im_X12_cellOf sl_X12_cellOf rfl rfl rfl rfl (Nat.le_of_ble_eq_true rfl) (mf_rr (Nat.le_trans (by decide) hd) (Nat.le_refl _)) (Nat.le_refl _) is245 (hyp g14 hG) (fun r28 g29 h30 hyp => ?_)
          obtain ⟨hgg, hyp⟩ := hyp
          subst hgg
          refine mf_goto (tgt := 73) (mf_dat eX12_later 28 rfl) (by decide) ?_
          refine mf_istore (mf_dat eX12_later 40 rfl) (by decide) ?_
          refine mf_aload_n (mf_dat eX12_later 41 rfl) rfl rfl ?_
          refine mf_callV (Yc := YX12_takesBack) (r := (RX12, TX12, 106)) (ci := 12) (mf_dat eX12_later 42 rfl) ml_X12_533 okX12_takesBack im_X12_takesBack sl_X12_takesBack rfl rfl rfl rfl (Nat.le_of_ble_eq_true rfl) (mf_rr (Nat.le_trans (by decide) hd) (Nat.le_refl _)) (Nat.le_refl _) is245 (hyp g29 hG) (fun r31 g32 h33 hyp => ?_)
          obtain ⟨hgg, hyp⟩ := hyp
          subst hgg
          refine mf_iload (mf_dat eX12_later 43 rfl) rfl ?_
          exact mf_ireturn (mf_dat eX12_later 44 rfl) rfl (Or.inl rfl) ⟨rfl, hyp⟩
      · replace hyp := hyp.2 hc
        refine mf_iconst (v := (-1)) (mf_dat eX12_later 16 rfl) (by decide) ?_
        exact mf_ireturn (mf_dat eX12_later 17 rfl) rfl (Or.inl rfl) ⟨rfl, hyp⟩
set_option maxRecDepth 100000 in
set_option maxHeartbeats 4000000 in
theorem wX12_opening {C : mf_G} {l : Launch} {d : Nat} {K : Int → mf_M → Prop} {x1 : Int} {h : mf_M} (hd : 4 ≤ d) (hyp : mM C l 1 YX12_isAhead [(2, 245), (0, x1), (0, 0), (0, 60)] h (fun r1 h3 => ((r1 = 0 → K (-1) h3) ∧ (¬ r1 = 0 → mM C l 3 YX12_openingOn [(2, 245), (0, mf_w32 ((h3 286 0) + x1))] h3 (fun r4 h6 => K r4 h6))))) : mM C l d YX12_opening [(2, 245), (0, x1)] h K := by
  intro g hG
  refine mf_entry (by decide) (Nat.le_of_ble_eq_true rfl) ?_
  refine mf_aload_n (mf_dat eX12_opening 0 rfl) rfl rfl ?_
  refine mf_iload_n (mf_dat eX12_opening 1 rfl) rfl rfl ?_
  refine mf_iconst (v := 0) (mf_dat eX12_opening 2 rfl) (by decide) ?_
  refine mf_bipush (v := 60) (mf_dat eX12_opening 3 rfl) (by decide) ?_
  refine mf_callV (Yc := YX12_isAhead) (r := (RX12, TX12, 106)) (ci := 12) (mf_dat eX12_opening 4 rfl) ml_X12_520 okX12_isAhead im_X12_isAhead sl_X12_isAhead rfl rfl rfl rfl (Nat.le_of_ble_eq_true rfl) (mf_rr (Nat.le_trans (by decide) hd) (Nat.le_refl _)) (Nat.le_refl _) is245 (hyp g hG) (fun r1 g2 h3 hyp => ?_)
  obtain ⟨hgg, hyp⟩ := hyp
  subst hgg
  refine mf_if_eq (tgt := 26) (mf_dat eX12_opening 5 rfl) (by decide) (fun hc => ?_) (fun hc => ?_)
  · replace hyp := hyp.1 hc
    refine mf_iconst (v := (-1)) (mf_dat eX12_opening 15 rfl) (by decide) ?_
    exact mf_ireturn (mf_dat eX12_opening 16 rfl) rfl (Or.inl rfl) ⟨rfl, hyp⟩
  · replace hyp := hyp.2 hc
    refine mf_aload_n (mf_dat eX12_opening 6 rfl) rfl rfl ?_
    refine mf_aload_n (mf_dat eX12_opening 7 rfl) rfl rfl ?_
    refine mf_getf (r := (RX12, TX12, 106)) (ci := 12) (k := 56) (t := 2) (v := 286) (mf_dat eX12_opening 8 rfl) fl_X12_136 rfl (by decide) rfl (gm_56 hG) is245 ?_
    refine mf_iconst (v := 0) (mf_dat eX12_opening 9 rfl) (by decide) ?_
    refine mf_iald (mf_dat eX12_opening 10 rfl) is286 len286 (by decide) (by decide) ?_
    refine mf_iload_n (mf_dat eX12_opening 11 rfl) rfl rfl ?_
    refine mf_iadd (mf_dat eX12_opening 12 rfl) ?_
    refine mf_callV (Yc := YX12_openingOn) (r := (RX12, TX12, 106)) (ci := 12) (mf_dat eX12_opening 13 rfl) ml_X12_487 okX12_openingOn im_X12_openingOn sl_X12_openingOn rfl rfl rfl rfl (Nat.le_of_ble_eq_true rfl) (mf_rr (Nat.le_trans (by decide) hd) (Nat.le_refl _)) (Nat.le_refl _) is245 (hyp g2 hG) (fun r4 g5 h6 hyp => ?_)
    obtain ⟨hgg, hyp⟩ := hyp
    subst hgg
    refine mf_goto (tgt := 27) (mf_dat eX12_opening 14 rfl) (by decide) ?_
    exact mf_ireturn (mf_dat eX12_opening 16 rfl) rfl (Or.inl rfl) ⟨rfl, hyp⟩
set_option maxRecDepth 100000 in
set_option maxHeartbeats 4000000 in
theorem wX12_comes {C : mf_G} {l : Launch} {d : Nat} {K : Int → mf_M → Prop} {x1 x2 x3 : Int} {h : mf_M} (hd : 2 ≤ d) (hyp : mM C l 1 YX12_isCell [(2, 245), (0, x2), (0, x3)] h (fun r1 h3 => ((r1 = 0 → K 0 h3) ∧ (¬ r1 = 0 → mM C l 0 YX12_hasGloss [(2, 245), (0, x2), (0, x3)] h3 (fun r4 h6 => ((¬ r4 = 0 → K 0 h6) ∧ (r4 = 0 → 0 ≤ mf_w32 ((mf_w32 ((mf_w32 (48 * x1)) + (mf_w32 (8 * x2)))) + x3) ∧ mf_w32 ((mf_w32 ((mf_w32 (48 * x1)) + (mf_w32 (8 * x2)))) + x3) < 96 ∧ (∀ h9 : mf_M, h9 = mf_up h6 289 (mf_w32 ((mf_w32 ((mf_w32 (48 * x1)) + (mf_w32 (8 * x2)))) + x3)) 1 → K 0 h9)))))))) : mM C l d YX12_comes [(2, 245), (0, x1), (0, x2), (0, x3)] h K := by
  intro g hG
  refine mf_entry (by decide) (Nat.le_of_ble_eq_true rfl) ?_
  refine mf_aload_n (mf_dat eX12_comes 0 rfl) rfl rfl ?_
  refine mf_iload_n (mf_dat eX12_comes 1 rfl) rfl rfl ?_
  refine mf_iload_n (mf_dat eX12_comes 2 rfl) rfl rfl ?_
  refine mf_callV (Yc := YX12_isCell) (r := (RX12, TX12, 106)) (ci := 12) (mf_dat eX12_comes 3 rfl) ml_X12_507 okX12_isCell im_X12_isCell sl_X12_isCell rfl rfl rfl rfl (Nat.le_of_ble_eq_true rfl) (mf_rr (Nat.le_trans (by decide) hd) (Nat.le_refl _)) (Nat.le_refl _) is245 (hyp g hG) (fun r1 g2 h3 hyp => ?_)
  obtain ⟨hgg, hyp⟩ := hyp
  subst hgg
  refine mf_if_eq (tgt := 35) (mf_dat eX12_comes 4 rfl) (by decide) (fun hc => ?_) (fun hc => ?_)
  · replace hyp := hyp.1 hc
    exact mf_return (mf_dat eX12_comes 23 rfl) rfl ⟨rfl, hyp⟩
  · replace hyp := hyp.2 hc
    refine mf_aload_n (mf_dat eX12_comes 5 rfl) rfl rfl ?_
    refine mf_iload_n (mf_dat eX12_comes 6 rfl) rfl rfl ?_
    refine mf_iload_n (mf_dat eX12_comes 7 rfl) rfl rfl ?_
    refine mf_callV (Yc := YX12_hasGloss) (r := (RX12, TX12, 106)) (ci := 12) (mf_dat eX12_comes 8 rfl) ml_X12_481 okX12_hasGloss im_X12_hasGloss sl_X12_hasGloss rfl rfl rfl rfl (Nat.le_of_ble_eq_true rfl) (mf_rr (Nat.le_trans (by decide) hd) (Nat.le_refl _)) (Nat.le_refl _) is245 (hyp g2 hG) (fun r4 g5 h6 hyp => ?_)
    obtain ⟨hgg, hyp⟩ := hyp
    subst hgg
    refine mf_if_ne (tgt := 35) (mf_dat eX12_comes 9 rfl) (by decide) (fun hc => ?_) (fun hc => ?_)
    · replace hyp := hyp.1 hc
      exact mf_return (mf_dat eX12_comes 23 rfl) rfl ⟨rfl, hyp⟩
    · replace hyp := hyp.2 hc
      refine mf_aload_n (mf_dat eX12_comes 10 rfl) rfl rfl ?_
      refine mf_getf (r := (RX12, TX12, 106)) (ci := 12) (k := 64) (t := 2) (v := 289) (mf_dat eX12_comes 11 rfl) fl_X12_145 rfl (by decide) rfl (gm_64 hG) is245 ?_
      refine mf_bipush (v := 48) (mf_dat eX12_comes 12 rfl) (by decide) ?_
      refine mf_iload_n (mf_dat eX12_comes 13 rfl) rfl rfl ?_
      refine mf_imul (mf_dat eX12_comes 14 rfl) ?_
      refine mf_bipush (v := 8) (mf_dat eX12_comes 15 rfl) (by decide) ?_
      refine mf_iload_n (mf_dat eX12_comes 16 rfl) rfl rfl ?_
      refine mf_imul (mf_dat eX12_comes 17 rfl) ?_
      refine mf_iadd (mf_dat eX12_comes 18 rfl) ?_
      refine mf_iload_n (mf_dat eX12_comes 19 rfl) rfl rfl ?_
      refine mf_iadd (mf_dat eX12_comes 20 rfl) ?_
      refine mf_iconst (v := 1) (mf_dat eX12_comes 21 rfl) (by decide) ?_
      obtain ⟨ck7, hyp⟩ := hyp
      obtain ⟨ck8, hyp⟩ := hyp
      refine mf_zast (mf_dat eX12_comes 22 rfl) is289 len289 ck7 ck8 (by decide) ?_
      generalize qh9 : mf_up h6 289 (mf_w32 ((mf_w32 ((mf_w32 (48 * x1)) + (mf_w32 (8 * x2)))) + x3)) 1 = h9
      replace hyp := hyp _ qh9.symm
      exact mf_return (mf_dat eX12_comes 23 rfl) rfl ⟨rfl, hyp⟩
abbrev BX12_goesOn_10 (C : mf_G) (l : Launch) (d : Nat) (K : Int → mf_M → Prop) (x2 x3 x4 x5 : Int) (h : mf_M) : Prop := jM C l d YX12_goesOn K 10 [(0, (2, 245)), (2, (0, x2)), (3, (0, x3)), (4, (0, x4)), (5, (0, x5))] [] h
abbrev BX12_goesOn_39 (C : mf_G) (l : Launch) (d : Nat) (K : Int → mf_M → Prop) (x2 x3 x4 x5 : Int) (h : mf_M) : Prop := jM C l d YX12_goesOn K 39 [(0, (2, 245)), (2, (0, x2)), (3, (0, x3)), (4, (0, x4)), (5, (0, x5))] [] h
abbrev BX12_goesOn_144 (C : mf_G) (l : Launch) (d : Nat) (K : Int → mf_M → Prop) (x2 x3 x4 x5 x6 x7 : Int) (h : mf_M) : Prop := jM C l d YX12_goesOn K 144 [(0, (2, 245)), (2, (0, x2)), (3, (0, x3)), (4, (0, x4)), (5, (0, x5)), (6, (0, x6)), (7, (0, x7))] [] h
abbrev BX12_goesOn_180 (C : mf_G) (l : Launch) (d : Nat) (K : Int → mf_M → Prop) (x2 x3 x4 x5 x6 x7 x8 : Int) (h : mf_M) : Prop := jM C l d YX12_goesOn K 180 [(0, (2, 245)), (2, (0, x2)), (3, (0, x3)), (4, (0, x4)), (5, (0, x5)), (6, (0, x6)), (7, (0, x7)), (8, (0, x8))] [] h
abbrev BX12_goesOn_247 (C : mf_G) (l : Launch) (d : Nat) (K : Int → mf_M → Prop) (x2 x3 x4 x5 x6 x7 x8 : Int) (h : mf_M) : Prop := jM C l d YX12_goesOn K 247 [(0, (2, 245)), (2, (0, x2)), (3, (0, x3)), (4, (0, x4)), (5, (0, x5)), (6, (0, x6)), (7, (0, x7)), (8, (0, x8))] [] h
set_option maxRecDepth 100000 in
set_option maxHeartbeats 4000000 in
theorem vX12_goesOn_10 {C : mf_G} {l : Launch} {d : Nat} {K : Int → mf_M → Prop} {x2 x3 x4 x5 : Int} {h : mf_M} (hyp : ((48 ≤ x5 → BX12_goesOn_39 C l d K x2 x3 x4 0 h) ∧ (¬ 48 ≤ x5 → 0 ≤ mf_w32 ((mf_w32 (48 * x3)) + x5) ∧ mf_w32 ((mf_w32 (48 * x3)) + x5) < 96 ∧ (∀ h3 : mf_M, h3 = mf_up h 289 (mf_w32 ((mf_w32 (48 * x3)) + x5)) 0 → (∀ v4 : Int, v4 = mf_w32 (x5 + 1) → BX12_goesOn_10 C l d K x2 x3 x4 v4 h3))))) : BX12_goesOn_10 C l d K x2 x3 x4 x5 h := by
  intro g hG
  refine mf_iload (mf_dat eX12_goesOn_p0 6 rfl) rfl ?_
  refine mf_bipush (v := 48) (mf_dat eX12_goesOn_p0 7 rfl) (by decide) ?_
  refine mf_icmp_ge (tgt := 36) (mf_dat eX12_goesOn_p0 8 rfl) (by decide) (fun hc => ?_) (fun hc => ?_)
  · replace hyp := hyp.1 hc
    refine mf_iconst (v := 0) (mf_dat eX12_goesOn_p0 20 rfl) (by decide) ?_
    refine mf_istore (mf_dat eX12_goesOn_p0 21 rfl) (by decide) ?_
    exact mf_sub [1, 2, 3, 4, 0] rfl (hyp g hG)
  · replace hyp := hyp.2 hc
    refine mf_aload_n (mf_dat eX12_goesOn_p0 9 rfl) rfl rfl ?_
    refine mf_getf (r := (RX12, TX12, 106)) (ci := 12) (k := 64) (t := 2) (v := 289) (mf_dat eX12_goesOn_p0 10 rfl) fl_X12_145 rfl (by decide) rfl (gm_64 hG) is245 ?_
    refine mf_bipush (v := 48) (mf_dat eX12_goesOn_p0 11 rfl) (by decide) ?_
    refine mf_iload_n (mf_dat eX12_goesOn_p0 12 rfl) rfl rfl ?_
    refine mf_imul (mf_dat eX12_goesOn_p0 13 rfl) ?_
    refine mf_iload (mf_dat eX12_goesOn_p0 14 rfl) rfl ?_
    refine mf_iadd (mf_dat eX12_goesOn_p0 15 rfl) ?_
    refine mf_iconst (v := 0) (mf_dat eX12_goesOn_p0 16 rfl) (by decide) ?_
    obtain ⟨ck1, hyp⟩ := hyp
    obtain ⟨ck2, hyp⟩ := hyp
    refine mf_zast (mf_dat eX12_goesOn_p0 17 rfl) is289 len289 ck1 ck2 (by decide) ?_
    generalize qh3 : mf_up h 289 (mf_w32 ((mf_w32 (48 * x3)) + x5)) 0 = h3
    replace hyp := hyp _ qh3.symm
    refine mf_iinc (mf_dat eX12_goesOn_p0 18 rfl) rfl (by decide) (by decide) ?_
    generalize qv4 : mf_w32 (x5 + 1) = v4
    replace hyp := hyp _ qv4.symm
    refine mf_goto (tgt := 10) (mf_dat eX12_goesOn_p0 19 rfl) (by decide) ?_
    exact mf_sub [1, 2, 3, 4, 0] rfl (hyp g hG)
set_option maxRecDepth 100000 in
set_option maxHeartbeats 4000000 in
theorem vX12_goesOn_39 {C : mf_G} {l : Launch} {d : Nat} {K : Int → mf_M → Prop} {x2 x3 x4 x5 : Int} {h : mf_M} (hd : 3 ≤ d) (hyp : ((48 ≤ x5 → K 0 h) ∧ (¬ 48 ≤ x5 → 0 ≤ mf_w32 ((mf_w32 (48 * x2)) + x5) ∧ mf_w32 ((mf_w32 (48 * x2)) + x5) < 96 ∧ ((¬ h 289 (mf_w32 ((mf_w32 (48 * x2)) + x5)) = 0 → (∀ v3 : Int, v3 = mf_w32 (x5.tdiv 8) → (∀ v4 : Int, v4 = x5.tmod 8 → 0 ≤ mf_w32 ((mf_w32 (48 * x3)) + x5) ∧ mf_w32 ((mf_w32 (48 * x3)) + x5) < 96 ∧ (∀ h7 : mf_M, h7 = mf_up h 289 (mf_w32 ((mf_w32 (48 * x3)) + x5)) 1 → mM C l 2 YX12_comes [(2, 245), (0, x3), (0, v3), (0, mf_w32 (v4 - 1))] h7 (fun r8 h10 => mM C l 2 YX12_comes [(2, 245), (0, x3), (0, v3), (0, mf_w32 (v4 + 1))] h10 (fun r11 h13 => mM C l 1 YX12_liesOnNext [(2, 245), (0, v3), (0, x4)] h13 (fun r14 h16 => ((r14 = 0 → BX12_goesOn_144 C l d K x2 x3 x4 x5 v3 v4 h16) ∧ (¬ r14 = 0 → mM C l 2 YX12_comes [(2, 245), (0, x3), (0, mf_w32 (v3 + 1)), (0, mf_w32 ((mf_w32 ((h16 276 3) - 1)) - v4))] h16 (fun r17 h19 => BX12_goesOn_144 C l d K x2 x3 x4 x5 v3 v4 h19)))))))))) ∧ (h 289 (mf_w32 ((mf_w32 (48 * x2)) + x5)) = 0 → (∀ v20 : Int, v20 = mf_w32 (x5 + 1) → BX12_goesOn_39 C l d K x2 x3 x4 v20 h)))))) : BX12_goesOn_39 C l d K x2 x3 x4 x5 h := by
  intro g hG
  refine mf_iload (mf_dat eX12_goesOn_p0 22 rfl) rfl ?_
  refine mf_bipush (v := 48) (mf_dat eX12_goesOn_p0 23 rfl) (by decide) ?_
  refine mf_icmp_ge (tgt := 295) (mf_dat eX12_goesOn_p0 24 rfl) (by decide) (fun hc => ?_) (fun hc => ?_)
  · replace hyp := hyp.1 hc
    exact mf_return (mf_dat eX12_goesOn_p2 53 rfl) rfl ⟨rfl, hyp⟩
  · replace hyp := hyp.2 hc
    refine mf_aload_n (mf_dat eX12_goesOn_p0 25 rfl) rfl rfl ?_
    refine mf_getf (r := (RX12, TX12, 106)) (ci := 12) (k := 64) (t := 2) (v := 289) (mf_dat eX12_goesOn_p0 26 rfl) fl_X12_145 rfl (by decide) rfl (gm_64 hG) is245 ?_
    refine mf_bipush (v := 48) (mf_dat eX12_goesOn_p0 27 rfl) (by decide) ?_
    refine mf_iload_n (mf_dat eX12_goesOn_p0 28 rfl) rfl rfl ?_
    refine mf_imul (mf_dat eX12_goesOn_p0 29 rfl) ?_
    refine mf_iload (mf_dat eX12_goesOn_p0 30 rfl) rfl ?_
    refine mf_iadd (mf_dat eX12_goesOn_p0 31 rfl) ?_
    obtain ⟨ck1, hyp⟩ := hyp
    obtain ⟨ck2, hyp⟩ := hyp
    refine mf_zald (mf_dat eX12_goesOn_p0 32 rfl) is289 len289 ck1 ck2 ?_
    refine mf_if_ne (tgt := 64) (mf_dat eX12_goesOn_p0 33 rfl) (by decide) (fun hc => ?_) (fun hc => ?_)
    · replace hyp := hyp.1 hc
      refine mf_iload (mf_dat eX12_goesOn_p0 35 rfl) rfl ?_
      refine mf_bipush (v := 8) (mf_dat eX12_goesOn_p0 36 rfl) (by decide) ?_
      refine mf_idiv (mf_dat eX12_goesOn_p0 37 rfl) (by decide) ?_
      generalize qv3 : mf_w32 (x5.tdiv 8) = v3
      replace hyp := hyp _ qv3.symm
      refine mf_istore (mf_dat eX12_goesOn_p0 38 rfl) (by decide) ?_
      refine mf_iload (mf_dat eX12_goesOn_p0 39 rfl) rfl ?_
      refine mf_bipush (v := 8) (mf_dat eX12_goesOn_p0 40 rfl) (by decide) ?_
      refine mf_irem (mf_dat eX12_goesOn_p0 41 rfl) (by decide) ?_
      generalize qv4 : x5.tmod 8 = v4
      replace hyp := hyp _ qv4.symm
      refine mf_istore (mf_dat eX12_goesOn_p0 42 rfl) (by decide) ?_
      refine mf_aload_n (mf_dat eX12_goesOn_p0 43 rfl) rfl rfl ?_
      refine mf_getf (r := (RX12, TX12, 106)) (ci := 12) (k := 64) (t := 2) (v := 289) (mf_dat eX12_goesOn_p0 44 rfl) fl_X12_145 rfl (by decide) rfl (gm_64 hG) is245 ?_
      refine mf_bipush (v := 48) (mf_dat eX12_goesOn_p0 45 rfl) (by decide) ?_
      refine mf_iload_n (mf_dat eX12_goesOn_p0 46 rfl) rfl rfl ?_
      refine mf_imul (mf_dat eX12_goesOn_p0 47 rfl) ?_
      refine mf_iload (mf_dat eX12_goesOn_p0 48 rfl) rfl ?_
      refine mf_iadd (mf_dat eX12_goesOn_p0 49 rfl) ?_
      refine mf_iconst (v := 1) (mf_dat eX12_goesOn_p0 50 rfl) (by decide) ?_
      obtain ⟨ck5, hyp⟩ := hyp
      obtain ⟨ck6, hyp⟩ := hyp
      refine mf_zast (mf_dat eX12_goesOn_p0 51 rfl) is289 len289 ck5 ck6 (by decide) ?_
      generalize qh7 : mf_up h 289 (mf_w32 ((mf_w32 (48 * x3)) + x5)) 1 = h7
      replace hyp := hyp _ qh7.symm
      refine mf_aload_n (mf_dat eX12_goesOn_p0 52 rfl) rfl rfl ?_
      refine mf_iload_n (mf_dat eX12_goesOn_p0 53 rfl) rfl rfl ?_
      refine mf_iload (mf_dat eX12_goesOn_p0 54 rfl) rfl ?_
      refine mf_iload (mf_dat eX12_goesOn_p0 55 rfl) rfl ?_
      refine mf_iconst (v := 1) (mf_dat eX12_goesOn_p0 56 rfl) (by decide) ?_
      refine mf_isub (mf_dat eX12_goesOn_p0 57 rfl) ?_
      refine mf_callV (Yc := YX12_comes) (r := (RX12, TX12, 106)) (ci := 12) (mf_dat eX12_goesOn_p0 58 rfl) ml_X12_539 okX12_comes im_X12_comes sl_X12_comes rfl rfl rfl rfl (Nat.le_of_ble_eq_true rfl) (mf_rr (Nat.le_trans (by decide) hd) (Nat.le_refl _)) (Nat.le_refl _) is245 (hyp g hG) (fun r8 g9 h10 hyp => ?_)
      obtain ⟨hgg, hyp⟩ := hyp
      subst hgg
      refine mf_aload_n (mf_dat eX12_goesOn_p0 59 rfl) rfl rfl ?_
      refine mf_iload_n (mf_dat eX12_goesOn_p1 0 rfl) rfl rfl ?_
      refine mf_iload (mf_dat eX12_goesOn_p1 1 rfl) rfl ?_
      refine mf_iload (mf_dat eX12_goesOn_p1 2 rfl) rfl ?_
      refine mf_iconst (v := 1) (mf_dat eX12_goesOn_p1 3 rfl) (by decide) ?_
      refine mf_iadd (mf_dat eX12_goesOn_p1 4 rfl) ?_
      refine mf_callV (Yc := YX12_comes) (r := (RX12, TX12, 106)) (ci := 12) (mf_dat eX12_goesOn_p1 5 rfl) ml_X12_539 okX12_comes im_X12_comes sl_X12_comes rfl rfl rfl rfl (Nat.le_of_ble_eq_true rfl) (mf_rr (Nat.le_trans (by decide) hd) (Nat.le_refl _)) (Nat.le_refl _) is245 (hyp g9 hG) (fun r11 g12 h13 hyp => ?_)
      obtain ⟨hgg, hyp⟩ := hyp
      subst hgg
      refine mf_aload_n (mf_dat eX12_goesOn_p1 6 rfl) rfl rfl ?_
      refine mf_iload (mf_dat eX12_goesOn_p1 7 rfl) rfl ?_
      refine mf_iload (mf_dat eX12_goesOn_p1 8 rfl) rfl ?_
      refine mf_callV (Yc := YX12_liesOnNext) (r := (RX12, TX12, 106)) (ci := 12) (mf_dat eX12_goesOn_p1 9 rfl) ml_X12_419 okX12_liesOnNext im_X12_liesOnNext sl_X12_liesOnNext rfl rfl rfl rfl (Nat.le_of_ble_eq_true rfl) (mf_rr (Nat.le_trans (by decide) hd) (Nat.le_refl _)) (Nat.le_refl _) is245 (hyp g12 hG) (fun r14 g15 h16 hyp => ?_)
      obtain ⟨hgg, hyp⟩ := hyp
      subst hgg
      refine mf_if_eq (tgt := 144) (mf_dat eX12_goesOn_p1 10 rfl) (by decide) (fun hc => ?_) (fun hc => ?_)
      · replace hyp := hyp.1 hc
        exact mf_sub [2, 3, 4, 5, 6, 1, 0] rfl (hyp g15 hG)
      · replace hyp := hyp.2 hc
        refine mf_aload_n (mf_dat eX12_goesOn_p1 11 rfl) rfl rfl ?_
        refine mf_iload_n (mf_dat eX12_goesOn_p1 12 rfl) rfl rfl ?_
        refine mf_iload (mf_dat eX12_goesOn_p1 13 rfl) rfl ?_
        refine mf_iconst (v := 1) (mf_dat eX12_goesOn_p1 14 rfl) (by decide) ?_
        refine mf_iadd (mf_dat eX12_goesOn_p1 15 rfl) ?_
        refine mf_aload_n (mf_dat eX12_goesOn_p1 16 rfl) rfl rfl ?_
        refine mf_getf (r := (RX12, TX12, 106)) (ci := 12) (k := 40) (t := 2) (v := 276) (mf_dat eX12_goesOn_p1 17 rfl) fl_X12_105 rfl (by decide) rfl (gm_40 hG) is245 ?_
        refine mf_iconst (v := 3) (mf_dat eX12_goesOn_p1 18 rfl) (by decide) ?_
        refine mf_iald (mf_dat eX12_goesOn_p1 19 rfl) is276 len276 (by decide) (by decide) ?_
        refine mf_iconst (v := 1) (mf_dat eX12_goesOn_p1 20 rfl) (by decide) ?_
        refine mf_isub (mf_dat eX12_goesOn_p1 21 rfl) ?_
        refine mf_iload (mf_dat eX12_goesOn_p1 22 rfl) rfl ?_
        refine mf_isub (mf_dat eX12_goesOn_p1 23 rfl) ?_
        refine mf_callV (Yc := YX12_comes) (r := (RX12, TX12, 106)) (ci := 12) (mf_dat eX12_goesOn_p1 24 rfl) ml_X12_539 okX12_comes im_X12_comes sl_X12_comes rfl rfl rfl rfl (Nat.le_of_ble_eq_true rfl) (mf_rr (Nat.le_trans (by decide) hd) (Nat.le_refl _)) (Nat.le_refl _) is245 (hyp g15 hG) (fun r17 g18 h19 hyp => ?_)
        obtain ⟨hgg, hyp⟩ := hyp
        subst hgg
        exact mf_sub [2, 3, 4, 5, 6, 1, 0] rfl (hyp g18 hG)
    · replace hyp := hyp.2 hc
      refine mf_goto (tgt := 289) (mf_dat eX12_goesOn_p0 34 rfl) (by decide) ?_
      refine mf_iinc (mf_dat eX12_goesOn_p2 51 rfl) rfl (by decide) (by decide) ?_
      generalize qv20 : mf_w32 (x5 + 1) = v20
      replace hyp := hyp _ qv20.symm
      refine mf_goto (tgt := 39) (mf_dat eX12_goesOn_p2 52 rfl) (by decide) ?_
      exact mf_sub [1, 2, 3, 4, 0] rfl (hyp g hG)
set_option maxRecDepth 100000 in
set_option maxHeartbeats 4000000 in
theorem vX12_goesOn_144 {C : mf_G} {l : Launch} {d : Nat} {K : Int → mf_M → Prop} {x2 x3 x4 x5 x6 x7 : Int} {h : mf_M} (hd : 3 ≤ d) (hyp : mM C l 1 YX12_liesOnNext [(2, 245), (0, mf_w32 (x6 - 1)), (0, x4)] h (fun r1 h3 => ((r1 = 0 → BX12_goesOn_180 C l d K x2 x3 x4 x5 x6 x7 0 h3) ∧ (¬ r1 = 0 → mM C l 2 YX12_comes [(2, 245), (0, x3), (0, mf_w32 (x6 - 1)), (0, mf_w32 ((mf_w32 ((h3 276 3) - 1)) - x7))] h3 (fun r4 h6 => BX12_goesOn_180 C l d K x2 x3 x4 x5 x6 x7 0 h6))))) : BX12_goesOn_144 C l d K x2 x3 x4 x5 x6 x7 h := by
  intro g hG
  refine mf_aload_n (mf_dat eX12_goesOn_p1 25 rfl) rfl rfl ?_
  refine mf_iload (mf_dat eX12_goesOn_p1 26 rfl) rfl ?_
  refine mf_iconst (v := 1) (mf_dat eX12_goesOn_p1 27 rfl) (by decide) ?_
  refine mf_isub (mf_dat eX12_goesOn_p1 28 rfl) ?_
  refine mf_iload (mf_dat eX12_goesOn_p1 29 rfl) rfl ?_
  refine mf_callV (Yc := YX12_liesOnNext) (r := (RX12, TX12, 106)) (ci := 12) (mf_dat eX12_goesOn_p1 30 rfl) ml_X12_419 okX12_liesOnNext im_X12_liesOnNext sl_X12_liesOnNext rfl rfl rfl rfl (Nat.le_of_ble_eq_true rfl) (mf_rr (Nat.le_trans (by decide) hd) (Nat.le_refl _)) (Nat.le_refl _) is245 (hyp g hG) (fun r1 g2 h3 hyp => ?_)
  obtain ⟨hgg, hyp⟩ := hyp
  subst hgg
  refine mf_if_eq (tgt := 177) (mf_dat eX12_goesOn_p1 31 rfl) (by decide) (fun hc => ?_) (fun hc => ?_)
  · replace hyp := hyp.1 hc
    refine mf_iconst (v := 0) (mf_dat eX12_goesOn_p1 46 rfl) (by decide) ?_
    refine mf_istore (mf_dat eX12_goesOn_p1 47 rfl) (by decide) ?_
    exact mf_sub [1, 2, 3, 4, 5, 6, 7, 0] rfl (hyp g2 hG)
  · replace hyp := hyp.2 hc
    refine mf_aload_n (mf_dat eX12_goesOn_p1 32 rfl) rfl rfl ?_
    refine mf_iload_n (mf_dat eX12_goesOn_p1 33 rfl) rfl rfl ?_
    refine mf_iload (mf_dat eX12_goesOn_p1 34 rfl) rfl ?_
    refine mf_iconst (v := 1) (mf_dat eX12_goesOn_p1 35 rfl) (by decide) ?_
    refine mf_isub (mf_dat eX12_goesOn_p1 36 rfl) ?_
    refine mf_aload_n (mf_dat eX12_goesOn_p1 37 rfl) rfl rfl ?_
    refine mf_getf (r := (RX12, TX12, 106)) (ci := 12) (k := 40) (t := 2) (v := 276) (mf_dat eX12_goesOn_p1 38 rfl) fl_X12_105 rfl (by decide) rfl (gm_40 hG) is245 ?_
    refine mf_iconst (v := 3) (mf_dat eX12_goesOn_p1 39 rfl) (by decide) ?_
    refine mf_iald (mf_dat eX12_goesOn_p1 40 rfl) is276 len276 (by decide) (by decide) ?_
    refine mf_iconst (v := 1) (mf_dat eX12_goesOn_p1 41 rfl) (by decide) ?_
    refine mf_isub (mf_dat eX12_goesOn_p1 42 rfl) ?_
    refine mf_iload (mf_dat eX12_goesOn_p1 43 rfl) rfl ?_
    refine mf_isub (mf_dat eX12_goesOn_p1 44 rfl) ?_
    refine mf_callV (Yc := YX12_comes) (r := (RX12, TX12, 106)) (ci := 12) (mf_dat eX12_goesOn_p1 45 rfl) ml_X12_539 okX12_comes im_X12_comes sl_X12_comes rfl rfl rfl rfl (Nat.le_of_ble_eq_true rfl) (mf_rr (Nat.le_trans (by decide) hd) (Nat.le_refl _)) (Nat.le_refl _) is245 (hyp g2 hG) (fun r4 g5 h6 hyp => ?_)
    obtain ⟨hgg, hyp⟩ := hyp
    subst hgg
    refine mf_iconst (v := 0) (mf_dat eX12_goesOn_p1 46 rfl) (by decide) ?_
    refine mf_istore (mf_dat eX12_goesOn_p1 47 rfl) (by decide) ?_
    exact mf_sub [1, 2, 3, 4, 5, 6, 7, 0] rfl (hyp g5 hG)
set_option maxRecDepth 100000 in
set_option maxHeartbeats 4000000 in
theorem vX12_goesOn_180 {C : mf_G} {l : Launch} {d : Nat} {K : Int → mf_M → Prop} {x2 x3 x4 x5 x6 x7 x8 : Int} {h : mf_M} (hd : 3 ≤ d) (hyp : ((h 277 4 ≤ x8 → (∀ v1 : Int, v1 = mf_w32 (x5 + 1) → BX12_goesOn_39 C l d K x2 x3 x4 v1 h)) ∧ (¬ h 277 4 ≤ x8 → 0 ≤ mf_w32 (38 + (mf_w32 (3 * x8))) ∧ mf_w32 (38 + (mf_w32 (3 * x8))) < 72 ∧ ((h 280 (mf_w32 (38 + (mf_w32 (3 * x8)))) = x7 → 0 ≤ mf_w32 (36 + (mf_w32 (3 * x8))) ∧ mf_w32 (36 + (mf_w32 (3 * x8))) < 72 ∧ ((¬ h 280 (mf_w32 (36 + (mf_w32 (3 * x8)))) = x6 → BX12_goesOn_247 C l d K x2 x3 x4 x5 x6 x7 x8 h) ∧ (h 280 (mf_w32 (36 + (mf_w32 (3 * x8)))) = x6 → 0 ≤ mf_w32 (37 + (mf_w32 (3 * x8))) ∧ mf_w32 (37 + (mf_w32 (3 * x8))) < 72 ∧ mM C l 2 YX12_comes [(2, 245), (0, x3), (0, h 280 (mf_w32 (37 + (mf_w32 (3 * x8))))), (0, x7)] h (fun r8 h10 => BX12_goesOn_247 C l d K x2 x3 x4 x5 x6 x7 x8 h10)))) ∧ (¬ h 280 (mf_w32 (38 + (mf_w32 (3 * x8)))) = x7 → (∀ v11 : Int, v11 = mf_w32 (x8 + 1) → BX12_goesOn_180 C l d K x2 x3 x4 x5 x6 x7 v11 h)))))) : BX12_goesOn_180 C l d K x2 x3 x4 x5 x6 x7 x8 h := by
  intro g hG
  refine mf_iload (mf_dat eX12_goesOn_p1 48 rfl) rfl ?_
  refine mf_aload_n (mf_dat eX12_goesOn_p1 49 rfl) rfl rfl ?_
  refine mf_getf (r := (RX12, TX12, 106)) (ci := 12) (k := 41) (t := 2) (v := 277) (mf_dat eX12_goesOn_p1 50 rfl) fl_X12_108 rfl (by decide) rfl (gm_41 hG) is245 ?_
  refine mf_iconst (v := 4) (mf_dat eX12_goesOn_p1 51 rfl) (by decide) ?_
  refine mf_iald (mf_dat eX12_goesOn_p1 52 rfl) is277 len277 (by decide) (by decide) ?_
  refine mf_icmp_ge (tgt := 289) (mf_dat eX12_goesOn_p1 53 rfl) (by decide) (fun hc => ?_) (fun hc => ?_)
  · replace hyp := hyp.1 hc
    refine mf_iinc (mf_dat eX12_goesOn_p2 51 rfl) rfl (by decide) (by decide) ?_
    generalize qv1 : mf_w32 (x5 + 1) = v1
    replace hyp := hyp _ qv1.symm
    refine mf_goto (tgt := 39) (mf_dat eX12_goesOn_p2 52 rfl) (by decide) ?_
    exact mf_sub [1, 2, 3, 4, 0] rfl (hyp g hG)
  · replace hyp := hyp.2 hc
    refine mf_aload_n (mf_dat eX12_goesOn_p1 54 rfl) rfl rfl ?_
    refine mf_getf (r := (RX12, TX12, 106)) (ci := 12) (k := 44) (t := 2) (v := 280) (mf_dat eX12_goesOn_p1 55 rfl) fl_X12_118 rfl (by decide) rfl (gm_44 hG) is245 ?_
    refine mf_bipush (v := 38) (mf_dat eX12_goesOn_p1 56 rfl) (by decide) ?_
    refine mf_iconst (v := 3) (mf_dat eX12_goesOn_p1 57 rfl) (by decide) ?_
    refine mf_iload (mf_dat eX12_goesOn_p1 58 rfl) rfl ?_
    refine mf_imul (mf_dat eX12_goesOn_p1 59 rfl) ?_
    refine mf_iadd (mf_dat eX12_goesOn_p2 0 rfl) ?_
    obtain ⟨ck2, hyp⟩ := hyp
    obtain ⟨ck3, hyp⟩ := hyp
    refine mf_iald (mf_dat eX12_goesOn_p2 1 rfl) is280 len280 ck2 ck3 ?_
    refine mf_iload (mf_dat eX12_goesOn_p2 2 rfl) rfl ?_
    refine mf_icmp_eq (tgt := 211) (mf_dat eX12_goesOn_p2 3 rfl) (by decide) (fun hc => ?_) (fun hc => ?_)
    · replace hyp := hyp.1 hc
      refine mf_aload_n (mf_dat eX12_goesOn_p2 5 rfl) rfl rfl ?_
      refine mf_getf (r := (RX12, TX12, 106)) (ci := 12) (k := 44) (t := 2) (v := 280) (mf_dat eX12_goesOn_p2 6 rfl) fl_X12_118 rfl (by decide) rfl (gm_44 hG) is245 ?_
      refine mf_bipush (v := 36) (mf_dat eX12_goesOn_p2 7 rfl) (by decide) ?_
      refine mf_iconst (v := 3) (mf_dat eX12_goesOn_p2 8 rfl) (by decide) ?_
      refine mf_iload (mf_dat eX12_goesOn_p2 9 rfl) rfl ?_
      refine mf_imul (mf_dat eX12_goesOn_p2 10 rfl) ?_
      refine mf_iadd (mf_dat eX12_goesOn_p2 11 rfl) ?_
      obtain ⟨ck4, hyp⟩ := hyp
      obtain ⟨ck5, hyp⟩ := hyp
      refine mf_iald (mf_dat eX12_goesOn_p2 12 rfl) is280 len280 ck4 ck5 ?_
      refine mf_iload (mf_dat eX12_goesOn_p2 13 rfl) rfl ?_
      refine mf_icmp_ne (tgt := 247) (mf_dat eX12_goesOn_p2 14 rfl) (by decide) (fun hc => ?_) (fun hc => ?_)
      · replace hyp := hyp.1 hc
        exact mf_sub [0, 1, 2, 3, 4, 5, 6, 7] rfl (hyp g hG)
      · replace hyp := hyp.2 hc
        refine mf_aload_n (mf_dat eX12_goesOn_p2 15 rfl) rfl rfl ?_
        refine mf_iload_n (mf_dat eX12_goesOn_p2 16 rfl) rfl rfl ?_
        refine mf_aload_n (mf_dat eX12_goesOn_p2 17 rfl) rfl rfl ?_
        refine mf_getf (r := (RX12, TX12, 106)) (ci := 12) (k := 44) (t := 2) (v := 280) (mf_dat eX12_goesOn_p2 18 rfl) fl_X12_118 rfl (by decide) rfl (gm_44 hG) is245 ?_
        refine mf_bipush (v := 37) (mf_dat eX12_goesOn_p2 19 rfl) (by decide) ?_
        refine mf_iconst (v := 3) (mf_dat eX12_goesOn_p2 20 rfl) (by decide) ?_
        refine mf_iload (mf_dat eX12_goesOn_p2 21 rfl) rfl ?_
        refine mf_imul (mf_dat eX12_goesOn_p2 22 rfl) ?_
        refine mf_iadd (mf_dat eX12_goesOn_p2 23 rfl) ?_
        obtain ⟨ck6, hyp⟩ := hyp
        obtain ⟨ck7, hyp⟩ := hyp
        refine mf_iald (mf_dat eX12_goesOn_p2 24 rfl) is280 len280 ck6 ck7 ?_
        refine mf_iload (mf_dat eX12_goesOn_p2 25 rfl) rfl ?_
        refine mf_callV (Yc := YX12_comes) (r := (RX12, TX12, 106)) (ci := 12) (mf_dat eX12_goesOn_p2 26 rfl) ml_X12_539 okX12_comes im_X12_comes sl_X12_comes rfl rfl rfl rfl (Nat.le_of_ble_eq_true rfl) (mf_rr (Nat.le_trans (by decide) hd) (Nat.le_refl _)) (Nat.le_refl _) is245 (hyp g hG) (fun r8 g9 h10 hyp => ?_)
        obtain ⟨hgg, hyp⟩ := hyp
        subst hgg
        exact mf_sub [0, 1, 2, 3, 4, 5, 6, 7] rfl (hyp g9 hG)
    · replace hyp := hyp.2 hc
      refine mf_goto (tgt := 283) (mf_dat eX12_goesOn_p2 4 rfl) (by decide) ?_
      refine mf_iinc (mf_dat eX12_goesOn_p2 49 rfl) rfl (by decide) (by decide) ?_
      generalize qv11 : mf_w32 (x8 + 1) = v11
      replace hyp := hyp _ qv11.symm
      refine mf_goto (tgt := 180) (mf_dat eX12_goesOn_p2 50 rfl) (by decide) ?_
      exact mf_sub [1, 2, 3, 4, 5, 6, 7, 0] rfl (hyp g hG)
set_option maxRecDepth 100000 in
set_option maxHeartbeats 4000000 in
theorem vX12_goesOn_247 {C : mf_G} {l : Launch} {d : Nat} {K : Int → mf_M → Prop} {x2 x3 x4 x5 x6 x7 x8 : Int} {h : mf_M} (hd : 3 ≤ d) (hyp : 0 ≤ mf_w32 (37 + (mf_w32 (3 * x8))) ∧ mf_w32 (37 + (mf_w32 (3 * x8))) < 72 ∧ ((¬ h 280 (mf_w32 (37 + (mf_w32 (3 * x8)))) = x6 → (∀ v3 : Int, v3 = mf_w32 (x8 + 1) → BX12_goesOn_180 C l d K x2 x3 x4 x5 x6 x7 v3 h)) ∧ (h 280 (mf_w32 (37 + (mf_w32 (3 * x8)))) = x6 → 0 ≤ mf_w32 (36 + (mf_w32 (3 * x8))) ∧ mf_w32 (36 + (mf_w32 (3 * x8))) < 72 ∧ mM C l 2 YX12_comes [(2, 245), (0, x3), (0, h 280 (mf_w32 (36 + (mf_w32 (3 * x8))))), (0, x7)] h (fun r6 h8 => (∀ v9 : Int, v9 = mf_w32 (x8 + 1) → BX12_goesOn_180 C l d K x2 x3 x4 x5 x6 x7 v9 h8))))) : BX12_goesOn_247 C l d K x2 x3 x4 x5 x6 x7 x8 h := by
  intro g hG
  refine mf_aload_n (mf_dat eX12_goesOn_p2 27 rfl) rfl rfl ?_
  refine mf_getf (r := (RX12, TX12, 106)) (ci := 12) (k := 44) (t := 2) (v := 280) (mf_dat eX12_goesOn_p2 28 rfl) fl_X12_118 rfl (by decide) rfl (gm_44 hG) is245 ?_
  refine mf_bipush (v := 37) (mf_dat eX12_goesOn_p2 29 rfl) (by decide) ?_
  refine mf_iconst (v := 3) (mf_dat eX12_goesOn_p2 30 rfl) (by decide) ?_
  refine mf_iload (mf_dat eX12_goesOn_p2 31 rfl) rfl ?_
  refine mf_imul (mf_dat eX12_goesOn_p2 32 rfl) ?_
  refine mf_iadd (mf_dat eX12_goesOn_p2 33 rfl) ?_
  obtain ⟨ck1, hyp⟩ := hyp
  obtain ⟨ck2, hyp⟩ := hyp
  refine mf_iald (mf_dat eX12_goesOn_p2 34 rfl) is280 len280 ck1 ck2 ?_
  refine mf_iload (mf_dat eX12_goesOn_p2 35 rfl) rfl ?_
  refine mf_icmp_ne (tgt := 283) (mf_dat eX12_goesOn_p2 36 rfl) (by decide) (fun hc => ?_) (fun hc => ?_)
  · replace hyp := hyp.1 hc
    refine mf_iinc (mf_dat eX12_goesOn_p2 49 rfl) rfl (by decide) (by decide) ?_
    generalize qv3 : mf_w32 (x8 + 1) = v3
    replace hyp := hyp _ qv3.symm
    refine mf_goto (tgt := 180) (mf_dat eX12_goesOn_p2 50 rfl) (by decide) ?_
    exact mf_sub [1, 2, 3, 4, 5, 6, 7, 0] rfl (hyp g hG)
  · replace hyp := hyp.2 hc
    refine mf_aload_n (mf_dat eX12_goesOn_p2 37 rfl) rfl rfl ?_
    refine mf_iload_n (mf_dat eX12_goesOn_p2 38 rfl) rfl rfl ?_
    refine mf_aload_n (mf_dat eX12_goesOn_p2 39 rfl) rfl rfl ?_
    refine mf_getf (r := (RX12, TX12, 106)) (ci := 12) (k := 44) (t := 2) (v := 280) (mf_dat eX12_goesOn_p2 40 rfl) fl_X12_118 rfl (by decide) rfl (gm_44 hG) is245 ?_
    refine mf_bipush (v := 36) (mf_dat eX12_goesOn_p2 41 rfl) (by decide) ?_
    refine mf_iconst (v := 3) (mf_dat eX12_goesOn_p2 42 rfl) (by decide) ?_
    refine mf_iload (mf_dat eX12_goesOn_p2 43 rfl) rfl ?_
    refine mf_imul (mf_dat eX12_goesOn_p2 44 rfl) ?_
    refine mf_iadd (mf_dat eX12_goesOn_p2 45 rfl) ?_
    obtain ⟨ck4, hyp⟩ := hyp
    obtain ⟨ck5, hyp⟩ := hyp
    refine mf_iald (mf_dat eX12_goesOn_p2 46 rfl) is280 len280 ck4 ck5 ?_
    refine mf_iload (mf_dat eX12_goesOn_p2 47 rfl) rfl ?_
    refine mf_callV (Yc := YX12_comes) (r := (RX12, TX12, 106)) (ci := 12) (mf_dat eX12_goesOn_p2 48 rfl) ml_X12_539 okX12_comes im_X12_comes sl_X12_comes rfl rfl rfl rfl (Nat.le_of_ble_eq_true rfl) (mf_rr (Nat.le_trans (by decide) hd) (Nat.le_refl _)) (Nat.le_refl _) is245 (hyp g hG) (fun r6 g7 h8 hyp => ?_)
    obtain ⟨hgg, hyp⟩ := hyp
    subst hgg
    refine mf_iinc (mf_dat eX12_goesOn_p2 49 rfl) rfl (by decide) (by decide) ?_
    generalize qv9 : mf_w32 (x8 + 1) = v9
    replace hyp := hyp _ qv9.symm
    refine mf_goto (tgt := 180) (mf_dat eX12_goesOn_p2 50 rfl) (by decide) ?_
    exact mf_sub [1, 2, 3, 4, 5, 6, 7, 0] rfl (hyp g7 hG)
set_option maxRecDepth 100000 in
set_option maxHeartbeats 4000000 in
theorem wX12_goesOn {C : mf_G} {l : Launch} {d : Nat} {K : Int → mf_M → Prop} {x1 x2 x3 : Int} {h : mf_M} (hd : 4 ≤ d) (hyp : mM C l 3 YX12_openingOn [(2, 245), (0, x1)] h (fun r1 h3 => BX12_goesOn_10 C l d K x2 x3 r1 0 h3)) : mM C l d YX12_goesOn [(2, 245), (0, x1), (0, x2), (0, x3)] h K := by
  intro g hG
  refine mf_entry (by decide) (Nat.le_of_ble_eq_true rfl) ?_
  refine mf_aload_n (mf_dat eX12_goesOn_p0 0 rfl) rfl rfl ?_
  refine mf_iload_n (mf_dat eX12_goesOn_p0 1 rfl) rfl rfl ?_
  refine mf_callV (Yc := YX12_openingOn) (r := (RX12, TX12, 106)) (ci := 12) (mf_dat eX12_goesOn_p0 2 rfl) ml_X12_487 okX12_openingOn im_X12_openingOn sl_X12_openingOn rfl rfl rfl rfl (Nat.le_of_ble_eq_true rfl) (mf_rr (Nat.le_trans (by decide) hd) (Nat.le_refl _)) (Nat.le_refl _) is245 (hyp g hG) (fun r1 g2 h3 hyp => ?_)
  obtain ⟨hgg, hyp⟩ := hyp
  subst hgg
  refine mf_istore (mf_dat eX12_goesOn_p0 3 rfl) (by decide) ?_
  refine mf_iconst (v := 0) (mf_dat eX12_goesOn_p0 4 rfl) (by decide) ?_
  refine mf_istore (mf_dat eX12_goesOn_p0 5 rfl) (by decide) ?_
  exact mf_sub [2, 4, 5, 1, 0] rfl (hyp g2 hG)
abbrev BX12_way_22 (C : mf_G) (l : Launch) (d : Nat) (K : Int → mf_M → Prop) (x1 x2 x3 x4 : Int) (h : mf_M) : Prop := jM C l d YX12_way K 22 [(0, (2, 245)), (1, (0, x1)), (2, (0, x2)), (3, (0, x3)), (4, (0, x4))] [] h
abbrev BX12_way_66 (C : mf_G) (l : Launch) (d : Nat) (K : Int → mf_M → Prop) (x2 x3 x4 : Int) (h : mf_M) : Prop := jM C l d YX12_way K 66 [(0, (2, 245)), (2, (0, x2)), (3, (0, x3)), (4, (0, x4))] [] h
set_option maxRecDepth 100000 in
set_option maxHeartbeats 4000000 in
theorem vX12_way_22 {C : mf_G} {l : Launch} {d : Nat} {K : Int → mf_M → Prop} {x1 x2 x3 x4 : Int} {h : mf_M} (hd : 1 ≤ d) (hyp : ((96 ≤ x4 → mM C l 0 YX12_leafOf [(2, 245), (0, x1)] h (fun r1 h3 => mM C l 0 YX12_cellOf [(2, 245), (0, x1)] h3 (fun r4 h6 => 0 ≤ mf_w32 ((mf_w32 (8 * r1)) + r4) ∧ mf_w32 ((mf_w32 (8 * r1)) + r4) < 96 ∧ (∀ h9 : mf_M, h9 = mf_up h6 289 (mf_w32 ((mf_w32 (8 * r1)) + r4)) 1 → BX12_way_66 C l d K x2 x3 0 h9)))) ∧ (¬ 96 ≤ x4 → 0 ≤ x4 ∧ x4 < 96 ∧ (∀ h12 : mf_M, h12 = mf_up h 289 x4 0 → (∀ v13 : Int, v13 = mf_w32 (x4 + 1) → BX12_way_22 C l d K x1 x2 x3 v13 h12))))) : BX12_way_22 C l d K x1 x2 x3 x4 h := by
  intro g hG
  refine mf_iload (mf_dat eX12_way_p0 13 rfl) rfl ?_
  refine mf_bipush (v := 96) (mf_dat eX12_way_p0 14 rfl) (by decide) ?_
  refine mf_icmp_ge (tgt := 43) (mf_dat eX12_way_p0 15 rfl) (by decide) (fun hc => ?_) (fun hc => ?_)
  · replace hyp := hyp.1 hc
    refine mf_aload_n (mf_dat eX12_way_p0 23 rfl) rfl rfl ?_
    refine mf_getf (r := (RX12, TX12, 106)) (ci := 12) (k := 64) (t := 2) (v := 289) (mf_dat eX12_way_p0 24 rfl) fl_X12_145 rfl (by decide) rfl (gm_64 hG) is245 ?_
    refine mf_bipush (v := 8) (mf_dat eX12_way_p0 25 rfl) (by decide) ?_
    refine mf_aload_n (mf_dat eX12_way_p0 26 rfl) rfl rfl ?_
    refine mf_iload_n (mf_dat eX12_way_p0 27 rfl) rfl rfl ?_
    refine mf_callV (Yc := YX12_leafOf) (r := (RX12, TX12, 106)) (ci := 12) (mf_dat eX12_way_p0 28 rfl) ml_X12_410 okX12_leafOf im_X12_leafOf sl_X12_leafOf rfl rfl rfl rfl (Nat.le_of_ble_eq_true rfl) (mf_rr (Nat.le_trans (by decide) hd) (Nat.le_refl _)) (Nat.le_refl _) is245 (hyp g hG) (fun r1 g2 h3 hyp => ?_)
    obtain ⟨hgg, hyp⟩ := hyp
    subst hgg
    refine mf_imul (mf_dat eX12_way_p0 29 rfl) ?_
    refine mf_aload_n (mf_dat eX12_way_p0 30 rfl) rfl rfl ?_
    refine mf_iload_n (mf_dat eX12_way_p0 31 rfl) rfl rfl ?_
    refine mf_callV (Yc := YX12_cellOf) (r := (RX12, TX12, 106)) (ci := 12) (mf_dat eX12_way_p0 32 rfl) ml_X12_413 okX12_cellOf im_X12_cellOf sl_X12_cellOf rfl rfl rfl rfl (Nat.le_of_ble_eq_true rfl) (mf_rr (Nat.le_trans (by decide) hd) (Nat.le_refl _)) (Nat.le_refl _) is245 (hyp g2 hG) (fun r4 g5 h6 hyp => ?_)
    obtain ⟨hgg, hyp⟩ := hyp
    subst hgg
    refine mf_iadd (mf_dat eX12_way_p0 33 rfl) ?_
    refine mf_iconst (v := 1) (mf_dat eX12_way_p0 34 rfl) (by decide) ?_
    obtain ⟨ck7, hyp⟩ := hyp
    obtain ⟨ck8, hyp⟩ := hyp
    refine mf_zast (mf_dat eX12_way_p0 35 rfl) is289 len289 ck7 ck8 (by decide) ?_
    generalize qh9 : mf_up h6 289 (mf_w32 ((mf_w32 (8 * r1)) + r4)) 1 = h9
    replace hyp := hyp _ qh9.symm
    refine mf_iconst (v := 0) (mf_dat eX12_way_p0 36 rfl) (by decide) ?_
    refine mf_istore (mf_dat eX12_way_p0 37 rfl) (by decide) ?_
    exact mf_sub [1, 3, 4, 0] rfl (hyp g5 hG)
  · replace hyp := hyp.2 hc
    refine mf_aload_n (mf_dat eX12_way_p0 16 rfl) rfl rfl ?_
    refine mf_getf (r := (RX12, TX12, 106)) (ci := 12) (k := 64) (t := 2) (v := 289) (mf_dat eX12_way_p0 17 rfl) fl_X12_145 rfl (by decide) rfl (gm_64 hG) is245 ?_
    refine mf_iload (mf_dat eX12_way_p0 18 rfl) rfl ?_
    refine mf_iconst (v := 0) (mf_dat eX12_way_p0 19 rfl) (by decide) ?_
    obtain ⟨ck10, hyp⟩ := hyp
    obtain ⟨ck11, hyp⟩ := hyp
    refine mf_zast (mf_dat eX12_way_p0 20 rfl) is289 len289 ck10 ck11 (by decide) ?_
    generalize qh12 : mf_up h 289 x4 0 = h12
    replace hyp := hyp _ qh12.symm
    refine mf_iinc (mf_dat eX12_way_p0 21 rfl) rfl (by decide) (by decide) ?_
    generalize qv13 : mf_w32 (x4 + 1) = v13
    replace hyp := hyp _ qv13.symm
    refine mf_goto (tgt := 22) (mf_dat eX12_way_p0 22 rfl) (by decide) ?_
    exact mf_sub [1, 2, 3, 4, 0] rfl (hyp g hG)
set_option maxRecDepth 100000 in
set_option maxHeartbeats 4000000 in
theorem vX12_way_66 {C : mf_G} {l : Launch} {d : Nat} {K : Int → mf_M → Prop} {x2 x3 x4 : Int} {h : mf_M} (hd : 5 ≤ d) (hyp : ((40 < x4 → K (-1) h) ∧ (¬ 40 < x4 → ((999 < mf_w32 ((h 286 0) + x4) → K (-1) h) ∧ (¬ 999 < mf_w32 ((h 286 0) + x4) → 0 ≤ mf_w32 ((mf_w32 ((mf_w32 (48 * (x4.tmod 2))) + (mf_w32 (8 * x2)))) + x3) ∧ mf_w32 ((mf_w32 ((mf_w32 (48 * (x4.tmod 2))) + (mf_w32 (8 * x2)))) + x3) < 96 ∧ ((h 289 (mf_w32 ((mf_w32 ((mf_w32 (48 * (x4.tmod 2))) + (mf_w32 (8 * x2)))) + x3)) = 0 → mM C l 4 YX12_goesOn [(2, 245), (0, mf_w32 ((h 286 0) + x4)), (0, x4.tmod 2), (0, mf_w32 (1 - (x4.tmod 2)))] h (fun r3 h5 => (∀ v6 : Int, v6 = mf_w32 (x4 + 1) → BX12_way_66 C l d K x2 x3 v6 h5))) ∧ (¬ h 289 (mf_w32 ((mf_w32 ((mf_w32 (48 * (x4.tmod 2))) + (mf_w32 (8 * x2)))) + x3)) = 0 → K x4 h))))))) : BX12_way_66 C l d K x2 x3 x4 h := by
  intro g hG
  refine mf_iload (mf_dat eX12_way_p0 38 rfl) rfl ?_
  refine mf_bipush (v := 40) (mf_dat eX12_way_p0 39 rfl) (by decide) ?_
  refine mf_icmp_gt (tgt := 142) (mf_dat eX12_way_p0 40 rfl) (by decide) (fun hc => ?_) (fun hc => ?_)
  · replace hyp := hyp.1 hc
    refine mf_iconst (v := (-1)) (mf_dat eX12_way_p1 24 rfl) (by decide) ?_
    exact mf_ireturn (mf_dat eX12_way_p1 25 rfl) rfl (Or.inl rfl) ⟨rfl, hyp⟩
  · replace hyp := hyp.2 hc
    refine mf_aload_n (mf_dat eX12_way_p0 41 rfl) rfl rfl ?_
    refine mf_getf (r := (RX12, TX12, 106)) (ci := 12) (k := 56) (t := 2) (v := 286) (mf_dat eX12_way_p0 42 rfl) fl_X12_136 rfl (by decide) rfl (gm_56 hG) is245 ?_
    refine mf_iconst (v := 0) (mf_dat eX12_way_p0 43 rfl) (by decide) ?_
    refine mf_iald (mf_dat eX12_way_p0 44 rfl) is286 len286 (by decide) (by decide) ?_
    refine mf_iload (mf_dat eX12_way_p0 45 rfl) rfl ?_
    refine mf_iadd (mf_dat eX12_way_p0 46 rfl) ?_
    refine mf_sipush (v := 999) (mf_dat eX12_way_p0 47 rfl) (by decide) ?_
    refine mf_icmp_gt (tgt := 142) (mf_dat eX12_way_p0 48 rfl) (by decide) (fun hc => ?_) (fun hc => ?_)
    · replace hyp := hyp.1 hc
      refine mf_iconst (v := (-1)) (mf_dat eX12_way_p1 24 rfl) (by decide) ?_
      exact mf_ireturn (mf_dat eX12_way_p1 25 rfl) rfl (Or.inl rfl) ⟨rfl, hyp⟩
    · replace hyp := hyp.2 hc
      refine mf_aload_n (mf_dat eX12_way_p0 49 rfl) rfl rfl ?_
      refine mf_getf (r := (RX12, TX12, 106)) (ci := 12) (k := 64) (t := 2) (v := 289) (mf_dat eX12_way_p0 50 rfl) fl_X12_145 rfl (by decide) rfl (gm_64 hG) is245 ?_
      refine mf_bipush (v := 48) (mf_dat eX12_way_p0 51 rfl) (by decide) ?_
      refine mf_iload (mf_dat eX12_way_p0 52 rfl) rfl ?_
      refine mf_iconst (v := 2) (mf_dat eX12_way_p0 53 rfl) (by decide) ?_
      refine mf_irem (mf_dat eX12_way_p0 54 rfl) (by decide) ?_
      refine mf_imul (mf_dat eX12_way_p0 55 rfl) ?_
      refine mf_bipush (v := 8) (mf_dat eX12_way_p0 56 rfl) (by decide) ?_
      refine mf_iload_n (mf_dat eX12_way_p0 57 rfl) rfl rfl ?_
      refine mf_imul (mf_dat eX12_way_p0 58 rfl) ?_
      refine mf_iadd (mf_dat eX12_way_p0 59 rfl) ?_
      refine mf_iload_n (mf_dat eX12_way_p1 0 rfl) rfl rfl ?_
      refine mf_iadd (mf_dat eX12_way_p1 1 rfl) ?_
      obtain ⟨ck1, hyp⟩ := hyp
      obtain ⟨ck2, hyp⟩ := hyp
      refine mf_zald (mf_dat eX12_way_p1 2 rfl) is289 len289 ck1 ck2 ?_
      refine mf_if_eq (tgt := 113) (mf_dat eX12_way_p1 3 rfl) (by decide) (fun hc => ?_) (fun hc => ?_)
      · replace hyp := hyp.1 hc
        refine mf_aload_n (mf_dat eX12_way_p1 6 rfl) rfl rfl ?_
        refine mf_aload_n (mf_dat eX12_way_p1 7 rfl) rfl rfl ?_
        refine mf_getf (r := (RX12, TX12, 106)) (ci := 12) (k := 56) (t := 2) (v := 286) (mf_dat eX12_way_p1 8 rfl) fl_X12_136 rfl (by decide) rfl (gm_56 hG) is245 ?_
        refine mf_iconst (v := 0) (mf_dat eX12_way_p1 9 rfl) (by decide) ?_
        refine mf_iald (mf_dat eX12_way_p1 10 rfl) is286 len286 (by decide) (by decide) ?_
        refine mf_iload (mf_dat eX12_way_p1 11 rfl) rfl ?_
        refine mf_iadd (mf_dat eX12_way_p1 12 rfl) ?_
        refine mf_iload (mf_dat eX12_way_p1 13 rfl) rfl ?_
        refine mf_iconst (v := 2) (mf_dat eX12_way_p1 14 rfl) (by decide) ?_
        refine mf_irem (mf_dat eX12_way_p1 15 rfl) (by decide) ?_
        refine mf_iconst (v := 1) (mf_dat eX12_way_p1 16 rfl) (by decide) ?_
        refine mf_iload (mf_dat eX12_way_p1 17 rfl) rfl ?_
        refine mf_iconst (v := 2) (mf_dat eX12_way_p1 18 rfl) (by decide) ?_
        refine mf_irem (mf_dat eX12_way_p1 19 rfl) (by decide) ?_
        refine mf_isub (mf_dat eX12_way_p1 20 rfl) ?_
        refine mf_callV (Yc := YX12_goesOn) (r := (RX12, TX12, 106)) (ci := 12) (mf_dat eX12_way_p1 21 rfl) ml_X12_543 okX12_goesOn im_X12_goesOn sl_X12_goesOn rfl rfl rfl rfl (Nat.le_of_ble_eq_true rfl) (mf_rr (Nat.le_trans (by decide) hd) (Nat.le_refl _)) (Nat.le_refl _) is245 (hyp g hG) (fun r3 g4 h5 hyp => ?_)
        obtain ⟨hgg, hyp⟩ := hyp
        subst hgg
        refine mf_iinc (mf_dat eX12_way_p1 22 rfl) rfl (by decide) (by decide) ?_
        generalize qv6 : mf_w32 (x4 + 1) = v6
        replace hyp := hyp _ qv6.symm
        refine mf_goto (tgt := 66) (mf_dat eX12_way_p1 23 rfl) (by decide) ?_
        exact mf_sub [1, 2, 3, 0] rfl (hyp g4 hG)
      · replace hyp := hyp.2 hc
        refine mf_iload (mf_dat eX12_way_p1 4 rfl) rfl ?_
        exact mf_ireturn (mf_dat eX12_way_p1 5 rfl) rfl (Or.inl rfl) ⟨rfl, hyp⟩
set_option maxRecDepth 100000 in
set_option maxHeartbeats 4000000 in
theorem wX12_way {C : mf_G} {l : Launch} {d : Nat} {K : Int → mf_M → Prop} {x1 x2 x3 : Int} {h : mf_M} (hd : 2 ≤ d) (hyp : mM C l 1 YX12_isBeing [(2, 245), (0, x1)] h (fun r1 h3 => ((r1 = 0 → K (-1) h3) ∧ (¬ r1 = 0 → mM C l 1 YX12_isCell [(2, 245), (0, x2), (0, x3)] h3 (fun r4 h6 => ((¬ r4 = 0 → BX12_way_22 C l d K x1 x2 x3 0 h6) ∧ (r4 = 0 → K (-1) h6))))))) : mM C l d YX12_way [(2, 245), (0, x1), (0, x2), (0, x3)] h K := by
  intro g hG
  refine mf_entry (by decide) (Nat.le_of_ble_eq_true rfl) ?_
  refine mf_aload_n (mf_dat eX12_way_p0 0 rfl) rfl rfl ?_
  refine mf_iload_n (mf_dat eX12_way_p0 1 rfl) rfl rfl ?_
  refine mf_callV (Yc := YX12_isBeing) (r := (RX12, TX12, 106)) (ci := 12) (mf_dat eX12_way_p0 2 rfl) ml_X12_502 okX12_isBeing im_X12_isBeing sl_X12_isBeing rfl rfl rfl rfl (Nat.le_of_ble_eq_true rfl) (mf_rr (Nat.le_trans (by decide) hd) (Nat.le_refl _)) (Nat.le_refl _) is245 (hyp g hG) (fun r1 g2 h3 hyp => ?_)
  obtain ⟨hgg, hyp⟩ := hyp
  subst hgg
  refine mf_if_eq (tgt := 17) (mf_dat eX12_way_p0 3 rfl) (by decide) (fun hc => ?_) (fun hc => ?_)
  · replace hyp := hyp.1 hc
    refine mf_iconst (v := (-1)) (mf_dat eX12_way_p0 9 rfl) (by decide) ?_
    exact mf_ireturn (mf_dat eX12_way_p0 10 rfl) rfl (Or.inl rfl) ⟨rfl, hyp⟩
  · replace hyp := hyp.2 hc
    refine mf_aload_n (mf_dat eX12_way_p0 4 rfl) rfl rfl ?_
    refine mf_iload_n (mf_dat eX12_way_p0 5 rfl) rfl rfl ?_
    refine mf_iload_n (mf_dat eX12_way_p0 6 rfl) rfl rfl ?_
    refine mf_callV (Yc := YX12_isCell) (r := (RX12, TX12, 106)) (ci := 12) (mf_dat eX12_way_p0 7 rfl) ml_X12_507 okX12_isCell im_X12_isCell sl_X12_isCell rfl rfl rfl rfl (Nat.le_of_ble_eq_true rfl) (mf_rr (Nat.le_trans (by decide) hd) (Nat.le_refl _)) (Nat.le_refl _) is245 (hyp g2 hG) (fun r4 g5 h6 hyp => ?_)
    obtain ⟨hgg, hyp⟩ := hyp
    subst hgg
    refine mf_if_ne (tgt := 19) (mf_dat eX12_way_p0 8 rfl) (by decide) (fun hc => ?_) (fun hc => ?_)
    · replace hyp := hyp.1 hc
      refine mf_iconst (v := 0) (mf_dat eX12_way_p0 11 rfl) (by decide) ?_
      refine mf_istore (mf_dat eX12_way_p0 12 rfl) (by decide) ?_
      exact mf_sub [1, 2, 3, 4, 0] rfl (hyp g5 hG)
    · replace hyp := hyp.2 hc
      refine mf_iconst (v := (-1)) (mf_dat eX12_way_p0 9 rfl) (by decide) ?_
      exact mf_ireturn (mf_dat eX12_way_p0 10 rfl) rfl (Or.inl rfl) ⟨rfl, hyp⟩
set_option maxRecDepth 100000 in
set_option maxHeartbeats 4000000 in
theorem wX12_refuses {C : mf_G} {l : Launch} {d : Nat} {K : Int → mf_M → Prop} {x1 : Int} {h : mf_M} (hyp : 0 ≤ x1 ∧ x1 < 6 ∧ (∀ h3 : mf_M, h3 = mf_up h 247 x1 (mf_w32 ((h 247 x1) + 1)) → K (-1) h3)) : mM C l d YX12_refuses [(2, 245), (0, x1)] h K := by
  intro g hG
  refine mf_entry (by decide) (Nat.le_of_ble_eq_true rfl) ?_
  refine mf_aload_n (mf_dat eX12_refuses 0 rfl) rfl rfl ?_
  refine mf_getf (r := (RX12, TX12, 106)) (ci := 12) (k := 9) (t := 2) (v := 247) (mf_dat eX12_refuses 1 rfl) fl_X12_17 rfl (by decide) rfl (gm_9 hG) is245 ?_
  refine mf_iload_n (mf_dat eX12_refuses 2 rfl) rfl rfl ?_
  refine mf_dup2 (mf_dat eX12_refuses 3 rfl) (by decide) (by decide) ?_
  obtain ⟨ck1, hyp⟩ := hyp
  obtain ⟨ck2, hyp⟩ := hyp
  refine mf_iald (mf_dat eX12_refuses 4 rfl) is247 len247 ck1 ck2 ?_
  refine mf_iconst (v := 1) (mf_dat eX12_refuses 5 rfl) (by decide) ?_
  refine mf_iadd (mf_dat eX12_refuses 6 rfl) ?_
  refine mf_iast (mf_dat eX12_refuses 7 rfl) is247 len247 ck1 ck2 ?_
  generalize qh3 : mf_up h 247 x1 (mf_w32 ((h 247 x1) + 1)) = h3
  replace hyp := hyp _ qh3.symm
  refine mf_iconst (v := (-1)) (mf_dat eX12_refuses 8 rfl) (by decide) ?_
  exact mf_ireturn (mf_dat eX12_refuses 9 rfl) rfl (Or.inl rfl) ⟨rfl, hyp⟩
abbrev BX12_see_36 (C : mf_G) (l : Launch) (d : Nat) (K : Int → mf_M → Prop) (x1 x2 x3 : Int) (h : mf_M) : Prop := jM C l d YX12_see K 36 [(0, (2, 245)), (1, (0, x1)), (2, (0, x2)), (3, (0, x3))] [] h
abbrev BX12_see_99 (C : mf_G) (l : Launch) (d : Nat) (K : Int → mf_M → Prop) (x1 x3 : Int) (h : mf_M) : Prop := jM C l d YX12_see K 99 [(0, (2, 245)), (1, (0, x1)), (3, (0, x3))] [] h
set_option maxRecDepth 100000 in
set_option maxHeartbeats 4000000 in
theorem vX12_see_36 {C : mf_G} {l : Launch} {d : Nat} {K : Int → mf_M → Prop} {x1 x2 x3 : Int} {h : mf_M} (hd : 2 ≤ d) (hyp : ((x1 ≤ x3 → ((¬ x2 = 0 → BX12_see_99 C l d K x1 0 h) ∧ (x2 = 0 → mM C l 0 YX12_refuses [(2, 245), (0, 1)] h (fun r1 h3 => K r1 h3)))) ∧ (¬ x1 ≤ x3 → ((x2 = 0 → ((¬ x2 = 0 → BX12_see_99 C l d K x1 0 h) ∧ (x2 = 0 → mM C l 0 YX12_refuses [(2, 245), (0, 1)] h (fun r4 h6 => K r4 h6)))) ∧ (¬ x2 = 0 → 0 ≤ x3 ∧ x3 < 1600 ∧ mM C l 1 YX12_isBeing [(2, 245), (0, h 246 x3)] h (fun r9 h11 => ((r9 = 0 → (∀ v12 : Int, v12 = mf_w32 (x3 + 2) → BX12_see_36 C l d K x1 0 v12 h11)) ∧ (¬ r9 = 0 → 0 ≤ mf_w32 (x3 + 1) ∧ mf_w32 (x3 + 1) < 1600 ∧ ((h11 276 3 ≤ h11 246 (mf_w32 (x3 + 1)) → (∀ v15 : Int, v15 = mf_w32 (x3 + 2) → BX12_see_36 C l d K x1 0 v15 h11)) ∧ (¬ h11 276 3 ≤ h11 246 (mf_w32 (x3 + 1)) → (∀ v16 : Int, v16 = mf_w32 (x3 + 2) → BX12_see_36 C l d K x1 1 v16 h11))))))))))) : BX12_see_36 C l d K x1 x2 x3 h := by
  intro g hG
  refine mf_iload_n (mf_dat eX12_see_p0 23 rfl) rfl rfl ?_
  refine mf_iload_n (mf_dat eX12_see_p0 24 rfl) rfl rfl ?_
  refine mf_icmp_ge (tgt := 87) (mf_dat eX12_see_p0 25 rfl) (by decide) (fun hc => ?_) (fun hc => ?_)
  · replace hyp := hyp.1 hc
    refine mf_iload_n (mf_dat eX12_see_p0 52 rfl) rfl rfl ?_
    refine mf_if_ne (tgt := 97) (mf_dat eX12_see_p0 53 rfl) (by decide) (fun hc => ?_) (fun hc => ?_)
    · replace hyp := hyp.1 hc
      refine mf_iconst (v := 0) (mf_dat eX12_see_p0 58 rfl) (by decide) ?_
      refine mf_istore_n (mf_dat eX12_see_p0 59 rfl) rfl (by decide) ?_
      exact mf_sub [1, 2, 0] rfl (hyp g hG)
    · replace hyp := hyp.2 hc
      refine mf_aload_n (mf_dat eX12_see_p0 54 rfl) rfl rfl ?_
      refine mf_iconst (v := 1) (mf_dat eX12_see_p0 55 rfl) (by decide) ?_
      refine mf_callV (Yc := YX12_refuses) (r := (RX12, TX12, 106)) (ci := 12) (mf_dat eX12_see_p0 56 rfl) ml_X12_546 okX12_refuses im_X12_refuses sl_X12_refuses rfl rfl rfl rfl (Nat.le_of_ble_eq_true rfl) (mf_rr (Nat.le_trans (by decide) hd) (Nat.le_refl _)) (Nat.le_refl _) is245 (hyp g hG) (fun r1 g2 h3 hyp => ?_)
      obtain ⟨hgg, hyp⟩ := hyp
      subst hgg
      exact mf_ireturn (mf_dat eX12_see_p0 57 rfl) rfl (Or.inl rfl) ⟨rfl, hyp⟩
  · replace hyp := hyp.2 hc
    refine mf_iload_n (mf_dat eX12_see_p0 26 rfl) rfl rfl ?_
    refine mf_if_eq (tgt := 87) (mf_dat eX12_see_p0 27 rfl) (by decide) (fun hc => ?_) (fun hc => ?_)
    · replace hyp := hyp.1 hc
      refine mf_iload_n (mf_dat eX12_see_p0 52 rfl) rfl rfl ?_
      refine mf_if_ne (tgt := 97) (mf_dat eX12_see_p0 53 rfl) (by decide) (fun hc => ?_) (fun hc => ?_)
      · replace hyp := hyp.1 hc
        refine mf_iconst (v := 0) (mf_dat eX12_see_p0 58 rfl) (by decide) ?_
        refine mf_istore_n (mf_dat eX12_see_p0 59 rfl) rfl (by decide) ?_
        exact mf_sub [1, 2, 0] rfl (hyp g hG)
      · replace hyp := hyp.2 hc
        refine mf_aload_n (mf_dat eX12_see_p0 54 rfl) rfl rfl ?_
        refine mf_iconst (v := 1) (mf_dat eX12_see_p0 55 rfl) (by decide) ?_
        refine mf_callV (Yc := YX12_refuses) (r := (RX12, TX12, 106)) (ci := 12) (mf_dat eX12_see_p0 56 rfl) ml_X12_546 okX12_refuses im_X12_refuses sl_X12_refuses rfl rfl rfl rfl (Nat.le_of_ble_eq_true rfl) (mf_rr (Nat.le_trans (by decide) hd) (Nat.le_refl _)) (Nat.le_refl _) is245 (hyp g hG) (fun r4 g5 h6 hyp => ?_)
        obtain ⟨hgg, hyp⟩ := hyp
        subst hgg
        exact mf_ireturn (mf_dat eX12_see_p0 57 rfl) rfl (Or.inl rfl) ⟨rfl, hyp⟩
    · replace hyp := hyp.2 hc
      refine mf_aload_n (mf_dat eX12_see_p0 28 rfl) rfl rfl ?_
      refine mf_aload_n (mf_dat eX12_see_p0 29 rfl) rfl rfl ?_
      refine mf_getf (r := (RX12, TX12, 106)) (ci := 12) (k := 0) (t := 2) (v := 246) (mf_dat eX12_see_p0 30 rfl) fl_X12_7 rfl (by decide) rfl (gm_0 hG) is245 ?_
      refine mf_iload_n (mf_dat eX12_see_p0 31 rfl) rfl rfl ?_
      obtain ⟨ck7, hyp⟩ := hyp
      obtain ⟨ck8, hyp⟩ := hyp
      refine mf_iald (mf_dat eX12_see_p0 32 rfl) is246 len246 ck7 ck8 ?_
      refine mf_callV (Yc := YX12_isBeing) (r := (RX12, TX12, 106)) (ci := 12) (mf_dat eX12_see_p0 33 rfl) ml_X12_502 okX12_isBeing im_X12_isBeing sl_X12_isBeing rfl rfl rfl rfl (Nat.le_of_ble_eq_true rfl) (mf_rr (Nat.le_trans (by decide) hd) (Nat.le_refl _)) (Nat.le_refl _) is245 (hyp g hG) (fun r9 g10 h11 hyp => ?_)
      obtain ⟨hgg, hyp⟩ := hyp
      subst hgg
      refine mf_if_eq (tgt := 79) (mf_dat eX12_see_p0 34 rfl) (by decide) (fun hc => ?_) (fun hc => ?_)
      · replace hyp := hyp.1 hc
        refine mf_iconst (v := 0) (mf_dat eX12_see_p0 48 rfl) (by decide) ?_
        refine mf_istore_n (mf_dat eX12_see_p0 49 rfl) rfl (by decide) ?_
        refine mf_iinc (mf_dat eX12_see_p0 50 rfl) rfl (by decide) (by decide) ?_
        generalize qv12 : mf_w32 (x3 + 2) = v12
        replace hyp := hyp _ qv12.symm
        refine mf_goto (tgt := 36) (mf_dat eX12_see_p0 51 rfl) (by decide) ?_
        exact mf_sub [2, 3, 1, 0] rfl (hyp g10 hG)
      · replace hyp := hyp.2 hc
        refine mf_aload_n (mf_dat eX12_see_p0 35 rfl) rfl rfl ?_
        refine mf_getf (r := (RX12, TX12, 106)) (ci := 12) (k := 0) (t := 2) (v := 246) (mf_dat eX12_see_p0 36 rfl) fl_X12_7 rfl (by decide) rfl (gm_0 hG) is245 ?_
        refine mf_iload_n (mf_dat eX12_see_p0 37 rfl) rfl rfl ?_
        refine mf_iconst (v := 1) (mf_dat eX12_see_p0 38 rfl) (by decide) ?_
        refine mf_iadd (mf_dat eX12_see_p0 39 rfl) ?_
        obtain ⟨ck13, hyp⟩ := hyp
        obtain ⟨ck14, hyp⟩ := hyp
        refine mf_iald (mf_dat eX12_see_p0 40 rfl) is246 len246 ck13 ck14 ?_
        refine mf_aload_n (mf_dat eX12_see_p0 41 rfl) rfl rfl ?_
        refine mf_getf (r := (RX12, TX12, 106)) (ci := 12) (k := 40) (t := 2) (v := 276) (mf_dat eX12_see_p0 42 rfl) fl_X12_105 rfl (by decide) rfl (gm_40 hG) is245 ?_
        refine mf_iconst (v := 3) (mf_dat eX12_see_p0 43 rfl) (by decide) ?_
        refine mf_iald (mf_dat eX12_see_p0 44 rfl) is276 len276 (by decide) (by decide) ?_
        refine mf_icmp_ge (tgt := 79) (mf_dat eX12_see_p0 45 rfl) (by decide) (fun hc => ?_) (fun hc => ?_)
        · replace hyp := hyp.1 hc
          refine mf_iconst (v := 0) (mf_dat eX12_see_p0 48 rfl) (by decide) ?_
          refine mf_istore_n (mf_dat eX12_see_p0 49 rfl) rfl (by decide) ?_
          refine mf_iinc (mf_dat eX12_see_p0 50 rfl) rfl (by decide) (by decide) ?_
          generalize qv15 : mf_w32 (x3 + 2) = v15
          replace hyp := hyp _ qv15.symm
          refine mf_goto (tgt := 36) (mf_dat eX12_see_p0 51 rfl) (by decide) ?_
          exact mf_sub [2, 3, 1, 0] rfl (hyp g10 hG)
        · replace hyp := hyp.2 hc
          refine mf_iconst (v := 1) (mf_dat eX12_see_p0 46 rfl) (by decide) ?_
          refine mf_goto (tgt := 80) (mf_dat eX12_see_p0 47 rfl) (by decide) ?_
          refine mf_istore_n (mf_dat eX12_see_p0 49 rfl) rfl (by decide) ?_
          refine mf_iinc (mf_dat eX12_see_p0 50 rfl) rfl (by decide) (by decide) ?_
          generalize qv16 : mf_w32 (x3 + 2) = v16
          replace hyp := hyp _ qv16.symm
          refine mf_goto (tgt := 36) (mf_dat eX12_see_p0 51 rfl) (by decide) ?_
          exact mf_sub [2, 3, 1, 0] rfl (hyp g10 hG)
set_option maxRecDepth 100000 in
set_option maxHeartbeats 4000000 in
theorem vX12_see_99 {C : mf_G} {l : Launch} {d : Nat} {K : Int → mf_M → Prop} {x1 x3 : Int} {h : mf_M} (hyp : ((x1 ≤ x3 → (∀ h1 : mf_M, h1 = mf_up h 245 65 (mf_w32 (x1.tdiv 2)) → K (h1 245 65) h1)) ∧ (¬ x1 ≤ x3 → 0 ≤ x3 ∧ x3 < 1600 ∧ x3 < 32 ∧ (∀ h5 : mf_M, h5 = mf_up h 290 x3 (h 246 x3) → (∀ v6 : Int, v6 = mf_w32 (x3 + 1) → BX12_see_99 C l d K x1 v6 h5))))) : BX12_see_99 C l d K x1 x3 h := by
  intro g hG
  refine mf_iload_n (mf_dat eX12_see_p1 0 rfl) rfl rfl ?_
  refine mf_iload_n (mf_dat eX12_see_p1 1 rfl) rfl rfl ?_
  refine mf_icmp_ge (tgt := 122) (mf_dat eX12_see_p1 2 rfl) (by decide) (fun hc => ?_) (fun hc => ?_)
  · replace hyp := hyp.1 hc
    refine mf_aload_n (mf_dat eX12_see_p1 13 rfl) rfl rfl ?_
    refine mf_iload_n (mf_dat eX12_see_p1 14 rfl) rfl rfl ?_
    refine mf_iconst (v := 2) (mf_dat eX12_see_p1 15 rfl) (by decide) ?_
    refine mf_idiv (mf_dat eX12_see_p1 16 rfl) (by decide) ?_
    refine mf_putI (r := (RX12, TX12, 106)) (ci := 12) (k := 65) (kI := 65) (t := 0) (mf_dat eX12_see_p1 17 rfl) fl_X12_399 rfl rfl (by decide) rfl (by decide) rfl (by decide) (fun h9 => absurd h9 (by decide)) is245 ?_
    generalize qh1 : mf_up h 245 65 (mf_w32 (x1.tdiv 2)) = h1
    replace hyp := hyp _ qh1.symm
    refine mf_aload_n (mf_dat eX12_see_p1 18 rfl) rfl rfl ?_
    refine mf_getf (r := (RX12, TX12, 106)) (ci := 12) (k := 65) (t := 0) (v := h1 245 65) (mf_dat eX12_see_p1 19 rfl) fl_X12_399 rfl (by decide) rfl rfl is245 ?_
    exact mf_ireturn (mf_dat eX12_see_p1 20 rfl) rfl (Or.inl rfl) ⟨rfl, hyp⟩
  · replace hyp := hyp.2 hc
    refine mf_aload_n (mf_dat eX12_see_p1 3 rfl) rfl rfl ?_
    refine mf_getf (r := (RX12, TX12, 106)) (ci := 12) (k := 66) (t := 2) (v := 290) (mf_dat eX12_see_p1 4 rfl) fl_X12_149 rfl (by decide) rfl (gm_66 hG) is245 ?_
    refine mf_iload_n (mf_dat eX12_see_p1 5 rfl) rfl rfl ?_
    refine mf_aload_n (mf_dat eX12_see_p1 6 rfl) rfl rfl ?_
    refine mf_getf (r := (RX12, TX12, 106)) (ci := 12) (k := 0) (t := 2) (v := 246) (mf_dat eX12_see_p1 7 rfl) fl_X12_7 rfl (by decide) rfl (gm_0 hG) is245 ?_
    refine mf_iload_n (mf_dat eX12_see_p1 8 rfl) rfl rfl ?_
    obtain ⟨ck2, hyp⟩ := hyp
    obtain ⟨ck3, hyp⟩ := hyp
    refine mf_iald (mf_dat eX12_see_p1 9 rfl) is246 len246 ck2 ck3 ?_
    obtain ⟨ck4, hyp⟩ := hyp
    refine mf_iast (mf_dat eX12_see_p1 10 rfl) is290 len290 ck2 ck4 ?_
    generalize qh5 : mf_up h 290 x3 (h 246 x3) = h5
    replace hyp := hyp _ qh5.symm
    refine mf_iinc (mf_dat eX12_see_p1 11 rfl) rfl (by decide) (by decide) ?_
    generalize qv6 : mf_w32 (x3 + 1) = v6
    replace hyp := hyp _ qv6.symm
    refine mf_goto (tgt := 99) (mf_dat eX12_see_p1 12 rfl) (by decide) ?_
    exact mf_sub [1, 2, 0] rfl (hyp g hG)
set_option maxRecDepth 100000 in
set_option maxHeartbeats 4000000 in
theorem wX12_see {C : mf_G} {l : Launch} {d : Nat} {K : Int → mf_M → Prop} {h : mf_M} (hyp : (∀ v1 : Int, v1 = h 245 1 → (∀ h2 : mf_M, h2 = mf_up h 245 1 0 → ((v1 ≤ 0 → BX12_see_36 C l d K v1 0 0 h2) ∧ (¬ v1 ≤ 0 → ((¬ v1.tmod 2 = 0 → BX12_see_36 C l d K v1 0 0 h2) ∧ (v1.tmod 2 = 0 → ((16 < mf_w32 (v1.tdiv 2) → BX12_see_36 C l d K v1 0 0 h2) ∧ (¬ 16 < mf_w32 (v1.tdiv 2) → BX12_see_36 C l d K v1 1 0 h2))))))))) : mM C l d YX12_see [(2, 245)] h K := by
  intro g hG
  refine mf_entry (by decide) (Nat.le_of_ble_eq_true rfl) ?_
  refine mf_aload_n (mf_dat eX12_see_p0 0 rfl) rfl rfl ?_
  refine mf_getf (r := (RX12, TX12, 106)) (ci := 12) (k := 1) (t := 0) (v := h 245 1) (mf_dat eX12_see_p0 1 rfl) fl_X12_240 rfl (by decide) rfl rfl is245 ?_
  generalize qv1 : h 245 1 = v1
  replace hyp := hyp _ qv1.symm
  refine mf_istore_n (mf_dat eX12_see_p0 2 rfl) rfl (by decide) ?_
  refine mf_aload_n (mf_dat eX12_see_p0 3 rfl) rfl rfl ?_
  refine mf_iconst (v := 0) (mf_dat eX12_see_p0 4 rfl) (by decide) ?_
  refine mf_putI (r := (RX12, TX12, 106)) (ci := 12) (k := 1) (kI := 1) (t := 0) (mf_dat eX12_see_p0 5 rfl) fl_X12_240 rfl rfl (by decide) rfl (by decide) rfl (by decide) (fun h9 => absurd h9 (by decide)) is245 ?_
  generalize qh2 : mf_up h 245 1 0 = h2
  replace hyp := hyp _ qh2.symm
  refine mf_iload_n (mf_dat eX12_see_p0 6 rfl) rfl rfl ?_
  refine mf_if_le (tgt := 32) (mf_dat eX12_see_p0 7 rfl) (by decide) (fun hc => ?_) (fun hc => ?_)
  · replace hyp := hyp.1 hc
    refine mf_iconst (v := 0) (mf_dat eX12_see_p0 19 rfl) (by decide) ?_
    refine mf_istore_n (mf_dat eX12_see_p0 20 rfl) rfl (by decide) ?_
    refine mf_iconst (v := 0) (mf_dat eX12_see_p0 21 rfl) (by decide) ?_
    refine mf_istore_n (mf_dat eX12_see_p0 22 rfl) rfl (by decide) ?_
    exact mf_sub [3, 2, 1, 0] rfl (hyp g hG)
  · replace hyp := hyp.2 hc
    refine mf_iload_n (mf_dat eX12_see_p0 8 rfl) rfl rfl ?_
    refine mf_iconst (v := 2) (mf_dat eX12_see_p0 9 rfl) (by decide) ?_
    refine mf_irem (mf_dat eX12_see_p0 10 rfl) (by decide) ?_
    refine mf_if_ne (tgt := 32) (mf_dat eX12_see_p0 11 rfl) (by decide) (fun hc => ?_) (fun hc => ?_)
    · replace hyp := hyp.1 hc
      refine mf_iconst (v := 0) (mf_dat eX12_see_p0 19 rfl) (by decide) ?_
      refine mf_istore_n (mf_dat eX12_see_p0 20 rfl) rfl (by decide) ?_
      refine mf_iconst (v := 0) (mf_dat eX12_see_p0 21 rfl) (by decide) ?_
      refine mf_istore_n (mf_dat eX12_see_p0 22 rfl) rfl (by decide) ?_
      exact mf_sub [3, 2, 1, 0] rfl (hyp g hG)
    · replace hyp := hyp.2 hc
      refine mf_iload_n (mf_dat eX12_see_p0 12 rfl) rfl rfl ?_
      refine mf_iconst (v := 2) (mf_dat eX12_see_p0 13 rfl) (by decide) ?_
      refine mf_idiv (mf_dat eX12_see_p0 14 rfl) (by decide) ?_
      refine mf_bipush (v := 16) (mf_dat eX12_see_p0 15 rfl) (by decide) ?_
      refine mf_icmp_gt (tgt := 32) (mf_dat eX12_see_p0 16 rfl) (by decide) (fun hc => ?_) (fun hc => ?_)
      · replace hyp := hyp.1 hc
        refine mf_iconst (v := 0) (mf_dat eX12_see_p0 19 rfl) (by decide) ?_
        refine mf_istore_n (mf_dat eX12_see_p0 20 rfl) rfl (by decide) ?_
        refine mf_iconst (v := 0) (mf_dat eX12_see_p0 21 rfl) (by decide) ?_
        refine mf_istore_n (mf_dat eX12_see_p0 22 rfl) rfl (by decide) ?_
        exact mf_sub [3, 2, 1, 0] rfl (hyp g hG)
      · replace hyp := hyp.2 hc
        refine mf_iconst (v := 1) (mf_dat eX12_see_p0 17 rfl) (by decide) ?_
        refine mf_goto (tgt := 33) (mf_dat eX12_see_p0 18 rfl) (by decide) ?_
        refine mf_istore_n (mf_dat eX12_see_p0 20 rfl) rfl (by decide) ?_
        refine mf_iconst (v := 0) (mf_dat eX12_see_p0 21 rfl) (by decide) ?_
        refine mf_istore_n (mf_dat eX12_see_p0 22 rfl) rfl (by decide) ?_
        exact mf_sub [3, 2, 1, 0] rfl (hyp g hG)
abbrev BX12_isAsSeen_2 (C : mf_G) (l : Launch) (d : Nat) (K : Int → mf_M → Prop) (x1 x2 : Int) (h : mf_M) : Prop := jM C l d YX12_isAsSeen K 2 [(0, (2, 245)), (1, (0, x1)), (2, (0, x2))] [] h
set_option maxRecDepth 100000 in
set_option maxHeartbeats 4000000 in
theorem vX12_isAsSeen_2 {C : mf_G} {l : Launch} {d : Nat} {K : Int → mf_M → Prop} {x1 x2 : Int} {h : mf_M} (hyp : ((h 245 65 ≤ x2 → K 1 h) ∧ (¬ h 245 65 ≤ x2 → 0 ≤ mf_w32 (2 * x2) ∧ mf_w32 (2 * x2) < 32 ∧ 0 ≤ mf_w32 ((mf_w32 (8 * x1)) + (h 290 (mf_w32 (2 * x2)))) ∧ mf_w32 ((mf_w32 (8 * x1)) + (h 290 (mf_w32 (2 * x2)))) < 56 ∧ 0 ≤ mf_w32 ((mf_w32 (2 * x2)) + 1) ∧ mf_w32 ((mf_w32 (2 * x2)) + 1) < 32 ∧ ((h 291 (mf_w32 ((mf_w32 (8 * x1)) + (h 290 (mf_w32 (2 * x2))))) = h 290 (mf_w32 ((mf_w32 (2 * x2)) + 1)) → (∀ v7 : Int, v7 = mf_w32 (x2 + 1) → BX12_isAsSeen_2 C l d K x1 v7 h)) ∧ (¬ h 291 (mf_w32 ((mf_w32 (8 * x1)) + (h 290 (mf_w32 (2 * x2))))) = h 290 (mf_w32 ((mf_w32 (2 * x2)) + 1)) → K 0 h))))) : BX12_isAsSeen_2 C l d K x1 x2 h := by
  intro g hG
  refine mf_iload_n (mf_dat eX12_isAsSeen 2 rfl) rfl rfl ?_
  refine mf_aload_n (mf_dat eX12_isAsSeen 3 rfl) rfl rfl ?_
  refine mf_getf (r := (RX12, TX12, 106)) (ci := 12) (k := 65) (t := 0) (v := h 245 65) (mf_dat eX12_isAsSeen 4 rfl) fl_X12_399 rfl (by decide) rfl rfl is245 ?_
  refine mf_icmp_ge (tgt := 49) (mf_dat eX12_isAsSeen 5 rfl) (by decide) (fun hc => ?_) (fun hc => ?_)
  · replace hyp := hyp.1 hc
    refine mf_iconst (v := 1) (mf_dat eX12_isAsSeen 32 rfl) (by decide) ?_
    exact mf_ireturn (mf_dat eX12_isAsSeen 33 rfl) rfl (Or.inr ⟨rfl, by decide⟩) ⟨rfl, hyp⟩
  · replace hyp := hyp.2 hc
    refine mf_aload_n (mf_dat eX12_isAsSeen 6 rfl) rfl rfl ?_
    refine mf_getf (r := (RX12, TX12, 106)) (ci := 12) (k := 67) (t := 2) (v := 291) (mf_dat eX12_isAsSeen 7 rfl) fl_X12_152 rfl (by decide) rfl (gm_67 hG) is245 ?_
    refine mf_bipush (v := 8) (mf_dat eX12_isAsSeen 8 rfl) (by decide) ?_
    refine mf_iload_n (mf_dat eX12_isAsSeen 9 rfl) rfl rfl ?_
    refine mf_imul (mf_dat eX12_isAsSeen 10 rfl) ?_
    refine mf_aload_n (mf_dat eX12_isAsSeen 11 rfl) rfl rfl ?_
    refine mf_getf (r := (RX12, TX12, 106)) (ci := 12) (k := 66) (t := 2) (v := 290) (mf_dat eX12_isAsSeen 12 rfl) fl_X12_149 rfl (by decide) rfl (gm_66 hG) is245 ?_
    refine mf_iconst (v := 2) (mf_dat eX12_isAsSeen 13 rfl) (by decide) ?_
    refine mf_iload_n (mf_dat eX12_isAsSeen 14 rfl) rfl rfl ?_
    refine mf_imul (mf_dat eX12_isAsSeen 15 rfl) ?_
    obtain ⟨ck1, hyp⟩ := hyp
    obtain ⟨ck2, hyp⟩ := hyp
    refine mf_iald (mf_dat eX12_isAsSeen 16 rfl) is290 len290 ck1 ck2 ?_
    refine mf_iadd (mf_dat eX12_isAsSeen 17 rfl) ?_
    obtain ⟨ck3, hyp⟩ := hyp
    obtain ⟨ck4, hyp⟩ := hyp
    refine mf_iald (mf_dat eX12_isAsSeen 18 rfl) is291 len291 ck3 ck4 ?_
    refine mf_aload_n (mf_dat eX12_isAsSeen 19 rfl) rfl rfl ?_
    refine mf_getf (r := (RX12, TX12, 106)) (ci := 12) (k := 66) (t := 2) (v := 290) (mf_dat eX12_isAsSeen 20 rfl) fl_X12_149 rfl (by decide) rfl (gm_66 hG) is245 ?_
    refine mf_iconst (v := 2) (mf_dat eX12_isAsSeen 21 rfl) (by decide) ?_
    refine mf_iload_n (mf_dat eX12_isAsSeen 22 rfl) rfl rfl ?_
    refine mf_imul (mf_dat eX12_isAsSeen 23 rfl) ?_
    refine mf_iconst (v := 1) (mf_dat eX12_isAsSeen 24 rfl) (by decide) ?_
    refine mf_iadd (mf_dat eX12_isAsSeen 25 rfl) ?_
    obtain ⟨ck5, hyp⟩ := hyp
    obtain ⟨ck6, hyp⟩ := hyp
    refine mf_iald (mf_dat eX12_isAsSeen 26 rfl) is290 len290 ck5 ck6 ?_
    refine mf_icmp_eq (tgt := 43) (mf_dat eX12_isAsSeen 27 rfl) (by decide) (fun hc => ?_) (fun hc => ?_)
    · replace hyp := hyp.1 hc
      refine mf_iinc (mf_dat eX12_isAsSeen 30 rfl) rfl (by decide) (by decide) ?_
      generalize qv7 : mf_w32 (x2 + 1) = v7
      replace hyp := hyp _ qv7.symm
      refine mf_goto (tgt := 2) (mf_dat eX12_isAsSeen 31 rfl) (by decide) ?_
      exact mf_sub [1, 2, 0] rfl (hyp g hG)
    · replace hyp := hyp.2 hc
      refine mf_iconst (v := 0) (mf_dat eX12_isAsSeen 28 rfl) (by decide) ?_
      exact mf_ireturn (mf_dat eX12_isAsSeen 29 rfl) rfl (Or.inr ⟨rfl, by decide⟩) ⟨rfl, hyp⟩
set_option maxRecDepth 100000 in
set_option maxHeartbeats 4000000 in
theorem wX12_isAsSeen {C : mf_G} {l : Launch} {d : Nat} {K : Int → mf_M → Prop} {x1 : Int} {h : mf_M} (hyp : BX12_isAsSeen_2 C l d K x1 0 h) : mM C l d YX12_isAsSeen [(2, 245), (0, x1)] h K := by
  intro g hG
  refine mf_entry (by decide) (Nat.le_of_ble_eq_true rfl) ?_
  refine mf_iconst (v := 0) (mf_dat eX12_isAsSeen 0 rfl) (by decide) ?_
  refine mf_istore_n (mf_dat eX12_isAsSeen 1 rfl) rfl (by decide) ?_
  exact mf_sub [1, 2, 0] rfl (hyp g hG)
abbrev BX12_openingsSeen_8 (C : mf_G) (l : Launch) (d : Nat) (K : Int → mf_M → Prop) (x1 x2 : Int) (h : mf_M) : Prop := jM C l d YX12_openingsSeen K 8 [(0, (2, 245)), (1, (0, x1)), (2, (0, x2))] [] h
abbrev BX12_openingsSeen_23 (C : mf_G) (l : Launch) (d : Nat) (K : Int → mf_M → Prop) (x1 x2 x3 : Int) (h : mf_M) : Prop := jM C l d YX12_openingsSeen K 23 [(0, (2, 245)), (1, (0, x1)), (2, (0, x2)), (3, (0, x3))] [] h
set_option maxRecDepth 100000 in
set_option maxHeartbeats 4000000 in
theorem vX12_openingsSeen_8 {C : mf_G} {l : Launch} {d : Nat} {K : Int → mf_M → Prop} {x1 x2 : Int} {h : mf_M} (hd : 5 ≤ d) (hyp : mM C l 0 YX12_leaves [(2, 245)] h (fun r1 h3 => ((r1 < x2 → mM C l 0 YX12_takesBack [(2, 245)] h3 (fun r4 h6 => K x1 h6)) ∧ (¬ r1 < x2 → mM C l 4 YX12_dayBy [(2, 245), (0, x2)] h3 (fun r7 h9 => BX12_openingsSeen_23 C l d K x1 x2 0 h9))))) : BX12_openingsSeen_8 C l d K x1 x2 h := by
  intro g hG
  refine mf_iload_n (mf_dat eX12_openingsSeen 6 rfl) rfl rfl ?_
  refine mf_aload_n (mf_dat eX12_openingsSeen 7 rfl) rfl rfl ?_
  refine mf_callV (Yc := YX12_leaves) (r := (RX12, TX12, 106)) (ci := 12) (mf_dat eX12_openingsSeen 8 rfl) ml_X12_405 okX12_leaves im_X12_leaves sl_X12_leaves rfl rfl rfl rfl (Nat.le_of_ble_eq_true rfl) (mf_rr (Nat.le_trans (by decide) hd) (Nat.le_refl _)) (Nat.le_refl _) is245 (hyp g hG) (fun r1 g2 h3 hyp => ?_)
  obtain ⟨hgg, hyp⟩ := hyp
  subst hgg
  refine mf_icmp_gt (tgt := 77) (mf_dat eX12_openingsSeen 9 rfl) (by decide) (fun hc => ?_) (fun hc => ?_)
  · replace hyp := hyp.1 hc
    refine mf_aload_n (mf_dat eX12_openingsSeen 46 rfl) rfl rfl ?_
    refine mf_callV (Yc := YX12_takesBack) (r := (RX12, TX12, 106)) (ci := 12) (mf_dat eX12_openingsSeen 47 rfl) ml_X12_533 okX12_takesBack im_X12_takesBack sl_X12_takesBack rfl rfl rfl rfl (Nat.le_of_ble_eq_true rfl) (mf_rr (Nat.le_trans (by decide) hd) (Nat.le_refl _)) (Nat.le_refl _) is245 (hyp g2 hG) (fun r4 g5 h6 hyp => ?_)
    obtain ⟨hgg, hyp⟩ := hyp
    subst hgg
    refine mf_iload_n (mf_dat eX12_openingsSeen 48 rfl) rfl rfl ?_
    exact mf_ireturn (mf_dat eX12_openingsSeen 49 rfl) rfl (Or.inl rfl) ⟨rfl, hyp⟩
  · replace hyp := hyp.2 hc
    refine mf_aload_n (mf_dat eX12_openingsSeen 10 rfl) rfl rfl ?_
    refine mf_iload_n (mf_dat eX12_openingsSeen 11 rfl) rfl rfl ?_
    refine mf_callV (Yc := YX12_dayBy) (r := (RX12, TX12, 106)) (ci := 12) (mf_dat eX12_openingsSeen 12 rfl) ml_X12_490 okX12_dayBy im_X12_dayBy sl_X12_dayBy rfl rfl rfl rfl (Nat.le_of_ble_eq_true rfl) (mf_rr (Nat.le_trans (by decide) hd) (Nat.le_refl _)) (Nat.le_refl _) is245 (hyp g2 hG) (fun r7 g8 h9 hyp => ?_)
    obtain ⟨hgg, hyp⟩ := hyp
    subst hgg
    refine mf_iconst (v := 0) (mf_dat eX12_openingsSeen 13 rfl) (by decide) ?_
    refine mf_istore_n (mf_dat eX12_openingsSeen 14 rfl) rfl (by decide) ?_
    exact mf_sub [1, 2, 3, 0] rfl (hyp g8 hG)
set_option maxRecDepth 100000 in
set_option maxHeartbeats 4000000 in
theorem vX12_openingsSeen_23 {C : mf_G} {l : Launch} {d : Nat} {K : Int → mf_M → Prop} {x1 x2 x3 : Int} {h : mf_M} (hd : 1 ≤ d) (hyp : mM C l 0 YX12_beingMany [(2, 245)] h (fun r1 h3 => ((r1 ≤ x3 → mM C l 0 YX12_triesAnew [(2, 245)] h3 (fun r4 h6 => mM C l 0 YX12_isAsSeen [(2, 245), (0, x2)] h6 (fun r7 h9 => ((r7 = 0 → (∀ v10 : Int, v10 = mf_w32 (x2 + 1) → BX12_openingsSeen_8 C l d K x1 v10 h9)) ∧ (¬ r7 = 0 → (∀ v11 : Int, v11 = mf_or x1 (mf_shl 1 x2) → (∀ v12 : Int, v12 = mf_w32 (x2 + 1) → BX12_openingsSeen_8 C l d K v11 v12 h9))))))) ∧ (¬ r1 ≤ x3 → mM C l 0 YX12_cellOf [(2, 245), (0, x3)] h3 (fun r13 h15 => 0 ≤ mf_w32 ((mf_w32 (8 * x2)) + x3) ∧ mf_w32 ((mf_w32 (8 * x2)) + x3) < 56 ∧ (∀ h18 : mf_M, h18 = mf_up h15 291 (mf_w32 ((mf_w32 (8 * x2)) + x3)) r13 → (∀ v19 : Int, v19 = mf_w32 (x3 + 1) → BX12_openingsSeen_23 C l d K x1 x2 v19 h18))))))) : BX12_openingsSeen_23 C l d K x1 x2 x3 h := by
  intro g hG
  refine mf_iload_n (mf_dat eX12_openingsSeen 15 rfl) rfl rfl ?_
  refine mf_aload_n (mf_dat eX12_openingsSeen 16 rfl) rfl rfl ?_
  refine mf_callV (Yc := YX12_beingMany) (r := (RX12, TX12, 106)) (ci := 12) (mf_dat eX12_openingsSeen 17 rfl) ml_X12_402 okX12_beingMany im_X12_beingMany sl_X12_beingMany rfl rfl rfl rfl (Nat.le_of_ble_eq_true rfl) (mf_rr (Nat.le_trans (by decide) hd) (Nat.le_refl _)) (Nat.le_refl _) is245 (hyp g hG) (fun r1 g2 h3 hyp => ?_)
  obtain ⟨hgg, hyp⟩ := hyp
  subst hgg
  refine mf_icmp_ge (tgt := 53) (mf_dat eX12_openingsSeen 18 rfl) (by decide) (fun hc => ?_) (fun hc => ?_)
  · replace hyp := hyp.1 hc
    refine mf_aload_n (mf_dat eX12_openingsSeen 32 rfl) rfl rfl ?_
    refine mf_callV (Yc := YX12_triesAnew) (r := (RX12, TX12, 106)) (ci := 12) (mf_dat eX12_openingsSeen 33 rfl) ml_X12_530 okX12_triesAnew im_X12_triesAnew sl_X12_triesAnew rfl rfl rfl rfl (Nat.le_of_ble_eq_true rfl) (mf_rr (Nat.le_trans (by decide) hd) (Nat.le_refl _)) (Nat.le_refl _) is245 (hyp g2 hG) (fun r4 g5 h6 hyp => ?_)
    obtain ⟨hgg, hyp⟩ := hyp
    subst hgg
    refine mf_aload_n (mf_dat eX12_openingsSeen 34 rfl) rfl rfl ?_
    refine mf_iload_n (mf_dat eX12_openingsSeen 35 rfl) rfl rfl ?_
    refine mf_callV (Yc := YX12_isAsSeen) (r := (RX12, TX12, 106)) (ci := 12) (mf_dat eX12_openingsSeen 36 rfl) ml_X12_549 okX12_isAsSeen im_X12_isAsSeen sl_X12_isAsSeen rfl rfl rfl rfl (Nat.le_of_ble_eq_true rfl) (mf_rr (Nat.le_trans (by decide) hd) (Nat.le_refl _)) (Nat.le_refl _) is245 (hyp g5 hG) (fun r7 g8 h9 hyp => ?_)
    obtain ⟨hgg, hyp⟩ := hyp
    subst hgg
    refine mf_if_eq (tgt := 71) (mf_dat eX12_openingsSeen 37 rfl) (by decide) (fun hc => ?_) (fun hc => ?_)
    · replace hyp := hyp.1 hc
      refine mf_iinc (mf_dat eX12_openingsSeen 44 rfl) rfl (by decide) (by decide) ?_
      generalize qv10 : mf_w32 (x2 + 1) = v10
      replace hyp := hyp _ qv10.symm
      refine mf_goto (tgt := 8) (mf_dat eX12_openingsSeen 45 rfl) (by decide) ?_
      exact mf_sub [1, 2, 0] rfl (hyp g8 hG)
    · replace hyp := hyp.2 hc
      refine mf_iload_n (mf_dat eX12_openingsSeen 38 rfl) rfl rfl ?_
      refine mf_iconst (v := 1) (mf_dat eX12_openingsSeen 39 rfl) (by decide) ?_
      refine mf_iload_n (mf_dat eX12_openingsSeen 40 rfl) rfl rfl ?_
      refine mf_ishl (mf_dat eX12_openingsSeen 41 rfl) ?_
      refine mf_ior (mf_dat eX12_openingsSeen 42 rfl) ?_
      generalize qv11 : mf_or x1 (mf_shl 1 x2) = v11
      replace hyp := hyp _ qv11.symm
      refine mf_istore_n (mf_dat eX12_openingsSeen 43 rfl) rfl (by decide) ?_
      refine mf_iinc (mf_dat eX12_openingsSeen 44 rfl) rfl (by decide) (by decide) ?_
      generalize qv12 : mf_w32 (x2 + 1) = v12
      replace hyp := hyp _ qv12.symm
      refine mf_goto (tgt := 8) (mf_dat eX12_openingsSeen 45 rfl) (by decide) ?_
      exact mf_sub [2, 1, 0] rfl (hyp g8 hG)
  · replace hyp := hyp.2 hc
    refine mf_aload_n (mf_dat eX12_openingsSeen 19 rfl) rfl rfl ?_
    refine mf_getf (r := (RX12, TX12, 106)) (ci := 12) (k := 67) (t := 2) (v := 291) (mf_dat eX12_openingsSeen 20 rfl) fl_X12_152 rfl (by decide) rfl (gm_67 hG) is245 ?_
    refine mf_bipush (v := 8) (mf_dat eX12_openingsSeen 21 rfl) (by decide) ?_
    refine mf_iload_n (mf_dat eX12_openingsSeen 22 rfl) rfl rfl ?_
    refine mf_imul (mf_dat eX12_openingsSeen 23 rfl) ?_
    refine mf_iload_n (mf_dat eX12_openingsSeen 24 rfl) rfl rfl ?_
    refine mf_iadd (mf_dat eX12_openingsSeen 25 rfl) ?_
    refine mf_aload_n (mf_dat eX12_openingsSeen 26 rfl) rfl rfl ?_
    refine mf_iload_n (mf_dat eX12_openingsSeen 27 rfl) rfl rfl ?_
    refine mf_callV (Yc := YX12_cellOf) (r := (RX12, TX12, 106)) (ci := 12) (mf_dat eX12_openingsSeen 28 rfl) ml_X12_413 okX12_cellOf im_X12_cellOf sl_X12_cellOf rfl rfl rfl rfl (Nat.le_of_ble_eq_true rfl) (mf_rr (Nat.le_trans (by decide) hd) (Nat.le_refl _)) (Nat.le_refl _) is245 (hyp g2 hG) (fun r13 g14 h15 hyp => ?_)
    obtain ⟨hgg, hyp⟩ := hyp
    subst hgg
    obtain ⟨ck16, hyp⟩ := hyp
    obtain ⟨ck17, hyp⟩ := hyp
    refine mf_iast (mf_dat eX12_openingsSeen 29 rfl) is291 len291 ck16 ck17 ?_
    generalize qh18 : mf_up h15 291 (mf_w32 ((mf_w32 (8 * x2)) + x3)) r13 = h18
    replace hyp := hyp _ qh18.symm
    refine mf_iinc (mf_dat eX12_openingsSeen 30 rfl) rfl (by decide) (by decide) ?_
    generalize qv19 : mf_w32 (x3 + 1) = v19
    replace hyp := hyp _ qv19.symm
    refine mf_goto (tgt := 23) (mf_dat eX12_openingsSeen 31 rfl) (by decide) ?_
    exact mf_sub [1, 2, 3, 0] rfl (hyp g14 hG)
set_option maxRecDepth 100000 in
set_option maxHeartbeats 4000000 in
theorem wX12_openingsSeen {C : mf_G} {l : Launch} {d : Nat} {K : Int → mf_M → Prop} {h : mf_M} (hd : 1 ≤ d) (hyp : mM C l 0 YX12_putsAside [(2, 245)] h (fun r1 h3 => BX12_openingsSeen_8 C l d K 0 0 h3)) : mM C l d YX12_openingsSeen [(2, 245)] h K := by
  intro g hG
  refine mf_entry (by decide) (Nat.le_of_ble_eq_true rfl) ?_
  refine mf_iconst (v := 0) (mf_dat eX12_openingsSeen 0 rfl) (by decide) ?_
  refine mf_istore_n (mf_dat eX12_openingsSeen 1 rfl) rfl (by decide) ?_
  refine mf_aload_n (mf_dat eX12_openingsSeen 2 rfl) rfl rfl ?_
  refine mf_callV (Yc := YX12_putsAside) (r := (RX12, TX12, 106)) (ci := 12) (mf_dat eX12_openingsSeen 3 rfl) ml_X12_523 okX12_putsAside im_X12_putsAside sl_X12_putsAside rfl rfl rfl rfl (Nat.le_of_ble_eq_true rfl) (mf_rr (Nat.le_trans (by decide) hd) (Nat.le_refl _)) (Nat.le_refl _) is245 (hyp g hG) (fun r1 g2 h3 hyp => ?_)
  obtain ⟨hgg, hyp⟩ := hyp
  subst hgg
  refine mf_iconst (v := 0) (mf_dat eX12_openingsSeen 4 rfl) (by decide) ?_
  refine mf_istore_n (mf_dat eX12_openingsSeen 5 rfl) rfl (by decide) ?_
  exact mf_sub [2, 1, 0] rfl (hyp g2 hG)
set_option maxRecDepth 100000 in
set_option maxHeartbeats 4000000 in
theorem wX12_lay {C : mf_G} {l : Launch} {d : Nat} {K : Int → mf_M → Prop} {x1 : Int} {h : mf_M} (hd : 6 ≤ d) (hyp : mM C l 1 YX12_isAhead [(2, 245), (0, 1), (0, 1), (0, 1)] h (fun r1 h3 => ((r1 = 0 → K (-1) h3) ∧ (¬ r1 = 0 → mM C l 0 YX12_isIn [(1, x1), (1, 0), (1, 1)] h3 (fun r4 h6 => ((¬ r4 = 0 → mM C l 5 YX12_openingsSeen [(2, 245)] h6 (fun r7 h9 => ((¬ x1 = 0 → K r7 h9) ∧ (x1 = 0 → mM C l 0 YX12_bits [(0, r7)] h9 (fun r10 h12 => K r10 h12))))) ∧ (r4 = 0 → K (-1) h6))))))) : mM C l d YX12_lay [(2, 245), (0, x1)] h K := by
  intro g hG
  refine mf_entry (by decide) (Nat.le_of_ble_eq_true rfl) ?_
  refine mf_aload_n (mf_dat eX12_lay 0 rfl) rfl rfl ?_
  refine mf_iconst (v := 1) (mf_dat eX12_lay 1 rfl) (by decide) ?_
  refine mf_iconst (v := 1) (mf_dat eX12_lay 2 rfl) (by decide) ?_
  refine mf_iconst (v := 1) (mf_dat eX12_lay 3 rfl) (by decide) ?_
  refine mf_callV (Yc := YX12_isAhead) (r := (RX12, TX12, 106)) (ci := 12) (mf_dat eX12_lay 4 rfl) ml_X12_520 okX12_isAhead im_X12_isAhead sl_X12_isAhead rfl rfl rfl rfl (Nat.le_of_ble_eq_true rfl) (mf_rr (Nat.le_trans (by decide) hd) (Nat.le_refl _)) (Nat.le_refl _) is245 (hyp g hG) (fun r1 g2 h3 hyp => ?_)
  obtain ⟨hgg, hyp⟩ := hyp
  subst hgg
  refine mf_if_eq (tgt := 20) (mf_dat eX12_lay 5 rfl) (by decide) (fun hc => ?_) (fun hc => ?_)
  · replace hyp := hyp.1 hc
    refine mf_iconst (v := (-1)) (mf_dat eX12_lay 12 rfl) (by decide) ?_
    exact mf_ireturn (mf_dat eX12_lay 13 rfl) rfl (Or.inl rfl) ⟨rfl, hyp⟩
  · replace hyp := hyp.2 hc
    refine mf_iload_n (mf_dat eX12_lay 6 rfl) rfl rfl ?_
    refine mf_i2l (mf_dat eX12_lay 7 rfl) ?_
    refine mf_lconst (v := 0) (mf_dat eX12_lay 8 rfl) (by decide) ?_
    refine mf_lconst (v := 1) (mf_dat eX12_lay 9 rfl) (by decide) ?_
    refine mf_callS (Yc := YX12_isIn) (mf_dat eX12_lay 10 rfl) ml_X12_286 okX12_isIn sm_X12_isIn rfl rfl (Nat.le_of_ble_eq_true rfl) (mf_rr (Nat.le_trans (by decide) hd) (Nat.le_refl _)) (Nat.le_refl _) (hyp g2 hG) (fun r4 g5 h6 hyp => ?_)
    obtain ⟨hgg, hyp⟩ := hyp
    subst hgg
    refine mf_if_ne (tgt := 22) (mf_dat eX12_lay 11 rfl) (by decide) (fun hc => ?_) (fun hc => ?_)
    · replace hyp := hyp.1 hc
      refine mf_aload_n (mf_dat eX12_lay 14 rfl) rfl rfl ?_
      refine mf_callV (Yc := YX12_openingsSeen) (r := (RX12, TX12, 106)) (ci := 12) (mf_dat eX12_lay 15 rfl) ml_X12_552 okX12_openingsSeen im_X12_openingsSeen sl_X12_openingsSeen rfl rfl rfl rfl (Nat.le_of_ble_eq_true rfl) (mf_rr (Nat.le_trans (by decide) hd) (Nat.le_refl _)) (Nat.le_refl _) is245 (hyp g5 hG) (fun r7 g8 h9 hyp => ?_)
      obtain ⟨hgg, hyp⟩ := hyp
      subst hgg
      refine mf_istore_n (mf_dat eX12_lay 16 rfl) rfl (by decide) ?_
      refine mf_iload_n (mf_dat eX12_lay 17 rfl) rfl rfl ?_
      refine mf_if_ne (tgt := 38) (mf_dat eX12_lay 18 rfl) (by decide) (fun hc => ?_) (fun hc => ?_)
      · replace hyp := hyp.1 hc
        refine mf_iload_n (mf_dat eX12_lay 22 rfl) rfl rfl ?_
        exact mf_ireturn (mf_dat eX12_lay 23 rfl) rfl (Or.inl rfl) ⟨rfl, hyp⟩
      · replace hyp := hyp.2 hc
        refine mf_iload_n (mf_dat eX12_lay 19 rfl) rfl rfl ?_
        refine mf_callS (Yc := YX12_bits) (mf_dat eX12_lay 20 rfl) ml_X12_493 okX12_bits sm_X12_bits rfl rfl (Nat.le_of_ble_eq_true rfl) (mf_rr (Nat.le_trans (by decide) hd) (Nat.le_refl _)) (Nat.le_refl _) (hyp g8 hG) (fun r10 g11 h12 hyp => ?_)
        obtain ⟨hgg, hyp⟩ := hyp
        subst hgg
        refine mf_goto (tgt := 39) (mf_dat eX12_lay 21 rfl) (by decide) ?_
        exact mf_ireturn (mf_dat eX12_lay 23 rfl) rfl (Or.inl rfl) ⟨rfl, hyp⟩
    · replace hyp := hyp.2 hc
      refine mf_iconst (v := (-1)) (mf_dat eX12_lay 12 rfl) (by decide) ?_
      exact mf_ireturn (mf_dat eX12_lay 13 rfl) rfl (Or.inl rfl) ⟨rfl, hyp⟩
abbrev BX12_after_35 (C : mf_G) (l : Launch) (d : Nat) (K : Int → mf_M → Prop) (x1 x2 x3 x4 x5 : Int) (h : mf_M) : Prop := jM C l d YX12_after K 35 [(0, (2, 245)), (1, (0, x1)), (2, (0, x2)), (3, (0, x3)), (4, (0, x4)), (5, (0, x5))] [] h
abbrev BX12_after_54 (C : mf_G) (l : Launch) (d : Nat) (K : Int → mf_M → Prop) (x1 x2 x3 x4 x5 x6 x7 : Int) (h : mf_M) : Prop := jM C l d YX12_after K 54 [(0, (2, 245)), (1, (0, x1)), (2, (0, x2)), (3, (0, x3)), (4, (0, x4)), (5, (0, x5)), (6, (0, x6)), (7, (0, x7))] [] h
abbrev BX12_after_71 (C : mf_G) (l : Launch) (d : Nat) (K : Int → mf_M → Prop) (x1 x2 x3 x4 x5 x6 x7 x8 x9 : Int) (h : mf_M) : Prop := jM C l d YX12_after K 71 [(0, (2, 245)), (1, (0, x1)), (2, (0, x2)), (3, (0, x3)), (4, (0, x4)), (5, (0, x5)), (6, (0, x6)), (7, (0, x7)), (8, (0, x8)), (9, (0, x9))] [] h
set_option maxRecDepth 100000 in
set_option maxHeartbeats 4000000 in
theorem vX12_after_35 {C : mf_G} {l : Launch} {d : Nat} {K : Int → mf_M → Prop} {x1 x2 x3 x4 x5 : Int} {h : mf_M} (hd : 1 ≤ d) (hyp : mM C l 0 YX12_beingMany [(2, 245)] h (fun r1 h3 => ((r1 ≤ x5 → ((¬ x3 = (-1) → ((¬ x1 = 0 → K x4 h3) ∧ (x1 = 0 → K x3 h3))) ∧ (x3 = (-1) → K (-1) h3))) ∧ (¬ r1 ≤ x5 → ((x2 = 0 → ((¬ x3 = (-1) → ((¬ x1 = 0 → K x4 h3) ∧ (x1 = 0 → K x3 h3))) ∧ (x3 = (-1) → K (-1) h3))) ∧ (¬ x2 = 0 → BX12_after_54 C l d K x1 x2 x3 x4 x5 0 0 h3)))))) : BX12_after_35 C l d K x1 x2 x3 x4 x5 h := by
  intro g hG
  refine mf_iload (mf_dat eX12_after_p0 23 rfl) rfl ?_
  refine mf_aload_n (mf_dat eX12_after_p0 24 rfl) rfl rfl ?_
  refine mf_callV (Yc := YX12_beingMany) (r := (RX12, TX12, 106)) (ci := 12) (mf_dat eX12_after_p0 25 rfl) ml_X12_402 okX12_beingMany im_X12_beingMany sl_X12_beingMany rfl rfl rfl rfl (Nat.le_of_ble_eq_true rfl) (mf_rr (Nat.le_trans (by decide) hd) (Nat.le_refl _)) (Nat.le_refl _) is245 (hyp g hG) (fun r1 g2 h3 hyp => ?_)
  obtain ⟨hgg, hyp⟩ := hyp
  subst hgg
  refine mf_icmp_ge (tgt := 162) (mf_dat eX12_after_p0 26 rfl) (by decide) (fun hc => ?_) (fun hc => ?_)
  · replace hyp := hyp.1 hc
    refine mf_iload_n (mf_dat eX12_after_p1 27 rfl) rfl rfl ?_
    refine mf_iconst (v := (-1)) (mf_dat eX12_after_p1 28 rfl) (by decide) ?_
    refine mf_icmp_ne (tgt := 171) (mf_dat eX12_after_p1 29 rfl) (by decide) (fun hc => ?_) (fun hc => ?_)
    · replace hyp := hyp.1 hc
      refine mf_iload_n (mf_dat eX12_after_p1 32 rfl) rfl rfl ?_
      refine mf_if_ne (tgt := 179) (mf_dat eX12_after_p1 33 rfl) (by decide) (fun hc => ?_) (fun hc => ?_)
      · replace hyp := hyp.1 hc
        refine mf_iload (mf_dat eX12_after_p1 36 rfl) rfl ?_
        exact mf_ireturn (mf_dat eX12_after_p1 37 rfl) rfl (Or.inl rfl) ⟨rfl, hyp⟩
      · replace hyp := hyp.2 hc
        refine mf_iload_n (mf_dat eX12_after_p1 34 rfl) rfl rfl ?_
        refine mf_goto (tgt := 181) (mf_dat eX12_after_p1 35 rfl) (by decide) ?_
        exact mf_ireturn (mf_dat eX12_after_p1 37 rfl) rfl (Or.inl rfl) ⟨rfl, hyp⟩
    · replace hyp := hyp.2 hc
      refine mf_iconst (v := (-1)) (mf_dat eX12_after_p1 30 rfl) (by decide) ?_
      refine mf_goto (tgt := 181) (mf_dat eX12_after_p1 31 rfl) (by decide) ?_
      exact mf_ireturn (mf_dat eX12_after_p1 37 rfl) rfl (Or.inl rfl) ⟨rfl, hyp⟩
  · replace hyp := hyp.2 hc
    refine mf_iload_n (mf_dat eX12_after_p0 27 rfl) rfl rfl ?_
    refine mf_if_eq (tgt := 162) (mf_dat eX12_after_p0 28 rfl) (by decide) (fun hc => ?_) (fun hc => ?_)
    · replace hyp := hyp.1 hc
      refine mf_iload_n (mf_dat eX12_after_p1 27 rfl) rfl rfl ?_
      refine mf_iconst (v := (-1)) (mf_dat eX12_after_p1 28 rfl) (by decide) ?_
      refine mf_icmp_ne (tgt := 171) (mf_dat eX12_after_p1 29 rfl) (by decide) (fun hc => ?_) (fun hc => ?_)
      · replace hyp := hyp.1 hc
        refine mf_iload_n (mf_dat eX12_after_p1 32 rfl) rfl rfl ?_
        refine mf_if_ne (tgt := 179) (mf_dat eX12_after_p1 33 rfl) (by decide) (fun hc => ?_) (fun hc => ?_)
        · replace hyp := hyp.1 hc
          refine mf_iload (mf_dat eX12_after_p1 36 rfl) rfl ?_
          exact mf_ireturn (mf_dat eX12_after_p1 37 rfl) rfl (Or.inl rfl) ⟨rfl, hyp⟩
        · replace hyp := hyp.2 hc
          refine mf_iload_n (mf_dat eX12_after_p1 34 rfl) rfl rfl ?_
          refine mf_goto (tgt := 181) (mf_dat eX12_after_p1 35 rfl) (by decide) ?_
          exact mf_ireturn (mf_dat eX12_after_p1 37 rfl) rfl (Or.inl rfl) ⟨rfl, hyp⟩
      · replace hyp := hyp.2 hc
        refine mf_iconst (v := (-1)) (mf_dat eX12_after_p1 30 rfl) (by decide) ?_
        refine mf_goto (tgt := 181) (mf_dat eX12_after_p1 31 rfl) (by decide) ?_
        exact mf_ireturn (mf_dat eX12_after_p1 37 rfl) rfl (Or.inl rfl) ⟨rfl, hyp⟩
    · replace hyp := hyp.2 hc
      refine mf_iconst (v := 0) (mf_dat eX12_after_p0 29 rfl) (by decide) ?_
      refine mf_istore (mf_dat eX12_after_p0 30 rfl) (by decide) ?_
      refine mf_iconst (v := 0) (mf_dat eX12_after_p0 31 rfl) (by decide) ?_
      refine mf_istore (mf_dat eX12_after_p0 32 rfl) (by decide) ?_
      exact mf_sub [2, 3, 4, 5, 6, 7, 1, 0] rfl (hyp g2 hG)
set_option maxRecDepth 100000 in
set_option maxHeartbeats 4000000 in
theorem vX12_after_54 {C : mf_G} {l : Launch} {d : Nat} {K : Int → mf_M → Prop} {x1 x2 x3 x4 x5 x6 x7 : Int} {h : mf_M} (hyp : ((h 276 3 ≤ x7 → ((x3 = (-1) → (∀ v1 : Int, v1 = mf_w32 (x5 + 1) → BX12_after_35 C l d K x1 x2 x5 x6 v1 h)) ∧ (¬ x3 = (-1) → ((x6 < x4 → (∀ v2 : Int, v2 = mf_w32 (x5 + 1) → BX12_after_35 C l d K x1 x2 x5 x6 v2 h)) ∧ (¬ x6 < x4 → (∀ v3 : Int, v3 = mf_w32 (x5 + 1) → BX12_after_35 C l d K x1 x2 x3 x4 v3 h)))))) ∧ (¬ h 276 3 ≤ x7 → BX12_after_71 C l d K x1 x2 x3 x4 x5 x6 x7 0 0 h))) : BX12_after_54 C l d K x1 x2 x3 x4 x5 x6 x7 h := by
  intro g hG
  refine mf_iload (mf_dat eX12_after_p0 33 rfl) rfl ?_
  refine mf_aload_n (mf_dat eX12_after_p0 34 rfl) rfl rfl ?_
  refine mf_getf (r := (RX12, TX12, 106)) (ci := 12) (k := 40) (t := 2) (v := 276) (mf_dat eX12_after_p0 35 rfl) fl_X12_105 rfl (by decide) rfl (gm_40 hG) is245 ?_
  refine mf_iconst (v := 3) (mf_dat eX12_after_p0 36 rfl) (by decide) ?_
  refine mf_iald (mf_dat eX12_after_p0 37 rfl) is276 len276 (by decide) (by decide) ?_
  refine mf_icmp_ge (tgt := 134) (mf_dat eX12_after_p0 38 rfl) (by decide) (fun hc => ?_) (fun hc => ?_)
  · replace hyp := hyp.1 hc
    refine mf_iload_n (mf_dat eX12_after_p1 14 rfl) rfl rfl ?_
    refine mf_iconst (v := (-1)) (mf_dat eX12_after_p1 15 rfl) (by decide) ?_
    refine mf_icmp_eq (tgt := 149) (mf_dat eX12_after_p1 16 rfl) (by decide) (fun hc => ?_) (fun hc => ?_)
    · replace hyp := hyp.1 hc
      refine mf_iload (mf_dat eX12_after_p1 21 rfl) rfl ?_
      refine mf_istore_n (mf_dat eX12_after_p1 22 rfl) rfl (by decide) ?_
      refine mf_iload (mf_dat eX12_after_p1 23 rfl) rfl ?_
      refine mf_istore (mf_dat eX12_after_p1 24 rfl) (by decide) ?_
      refine mf_iinc (mf_dat eX12_after_p1 25 rfl) rfl (by decide) (by decide) ?_
      generalize qv1 : mf_w32 (x5 + 1) = v1
      replace hyp := hyp _ qv1.symm
      refine mf_goto (tgt := 35) (mf_dat eX12_after_p1 26 rfl) (by decide) ?_
      exact mf_sub [3, 4, 5, 2, 1, 0] rfl (hyp g hG)
    · replace hyp := hyp.2 hc
      refine mf_iload (mf_dat eX12_after_p1 17 rfl) rfl ?_
      refine mf_iload (mf_dat eX12_after_p1 18 rfl) rfl ?_
      refine mf_icmp_lt (tgt := 149) (mf_dat eX12_after_p1 19 rfl) (by decide) (fun hc => ?_) (fun hc => ?_)
      · replace hyp := hyp.1 hc
        refine mf_iload (mf_dat eX12_after_p1 21 rfl) rfl ?_
        refine mf_istore_n (mf_dat eX12_after_p1 22 rfl) rfl (by decide) ?_
        refine mf_iload (mf_dat eX12_after_p1 23 rfl) rfl ?_
        refine mf_istore (mf_dat eX12_after_p1 24 rfl) (by decide) ?_
        refine mf_iinc (mf_dat eX12_after_p1 25 rfl) rfl (by decide) (by decide) ?_
        generalize qv2 : mf_w32 (x5 + 1) = v2
        replace hyp := hyp _ qv2.symm
        refine mf_goto (tgt := 35) (mf_dat eX12_after_p1 26 rfl) (by decide) ?_
        exact mf_sub [3, 4, 5, 2, 1, 0] rfl (hyp g hG)
      · replace hyp := hyp.2 hc
        refine mf_goto (tgt := 156) (mf_dat eX12_after_p1 20 rfl) (by decide) ?_
        refine mf_iinc (mf_dat eX12_after_p1 25 rfl) rfl (by decide) (by decide) ?_
        generalize qv3 : mf_w32 (x5 + 1) = v3
        replace hyp := hyp _ qv3.symm
        refine mf_goto (tgt := 35) (mf_dat eX12_after_p1 26 rfl) (by decide) ?_
        exact mf_sub [1, 2, 3, 4, 5, 0] rfl (hyp g hG)
  · replace hyp := hyp.2 hc
    refine mf_iconst (v := 0) (mf_dat eX12_after_p0 39 rfl) (by decide) ?_
    refine mf_istore (mf_dat eX12_after_p0 40 rfl) (by decide) ?_
    refine mf_iconst (v := 0) (mf_dat eX12_after_p0 41 rfl) (by decide) ?_
    refine mf_istore (mf_dat eX12_after_p0 42 rfl) (by decide) ?_
    exact mf_sub [2, 3, 4, 5, 6, 7, 8, 9, 1, 0] rfl (hyp g hG)
set_option maxRecDepth 100000 in
set_option maxHeartbeats 4000000 in
theorem vX12_after_71 {C : mf_G} {l : Launch} {d : Nat} {K : Int → mf_M → Prop} {x1 x2 x3 x4 x5 x6 x7 x8 x9 : Int} {h : mf_M} (hd : 1 ≤ d) (hyp : mM C l 0 YX12_leaves [(2, 245)] h (fun r1 h3 => ((r1 < x9 → ((x8 ≤ x6 → (∀ v4 : Int, v4 = mf_w32 (x7 + 1) → BX12_after_54 C l d K x1 x2 x3 x4 x5 x6 v4 h3)) ∧ (¬ x8 ≤ x6 → (∀ v5 : Int, v5 = mf_w32 (x7 + 1) → BX12_after_54 C l d K x1 x2 x3 x4 x5 x8 v5 h3)))) ∧ (¬ r1 < x9 → ((¬ mf_and (mf_shr x2 x9) 1 = 1 → (∀ v6 : Int, v6 = mf_w32 (x9 + 1) → BX12_after_71 C l d K x1 x2 x3 x4 x5 x6 x7 x8 v6 h3)) ∧ (mf_and (mf_shr x2 x9) 1 = 1 → 0 ≤ mf_w32 ((mf_w32 (8 * x9)) + x5) ∧ mf_w32 ((mf_w32 (8 * x9)) + x5) < 56 ∧ ((¬ h3 291 (mf_w32 ((mf_w32 (8 * x9)) + x5)) = x7 → (∀ v9 : Int, v9 = mf_w32 (x9 + 1) → BX12_after_71 C l d K x1 x2 x3 x4 x5 x6 x7 x8 v9 h3)) ∧ (h3 291 (mf_w32 ((mf_w32 (8 * x9)) + x5)) = x7 → (∀ v10 : Int, v10 = mf_w32 (x8 + 1) → (∀ v11 : Int, v11 = mf_w32 (x9 + 1) → BX12_after_71 C l d K x1 x2 x3 x4 x5 x6 x7 v10 v11 h3)))))))))) : BX12_after_71 C l d K x1 x2 x3 x4 x5 x6 x7 x8 x9 h := by
  intro g hG
  refine mf_iload (mf_dat eX12_after_p0 43 rfl) rfl ?_
  refine mf_aload_n (mf_dat eX12_after_p0 44 rfl) rfl rfl ?_
  refine mf_callV (Yc := YX12_leaves) (r := (RX12, TX12, 106)) (ci := 12) (mf_dat eX12_after_p0 45 rfl) ml_X12_405 okX12_leaves im_X12_leaves sl_X12_leaves rfl rfl rfl rfl (Nat.le_of_ble_eq_true rfl) (mf_rr (Nat.le_trans (by decide) hd) (Nat.le_refl _)) (Nat.le_refl _) is245 (hyp g hG) (fun r1 g2 h3 hyp => ?_)
  obtain ⟨hgg, hyp⟩ := hyp
  subst hgg
  refine mf_icmp_gt (tgt := 117) (mf_dat eX12_after_p0 46 rfl) (by decide) (fun hc => ?_) (fun hc => ?_)
  · replace hyp := hyp.1 hc
    refine mf_iload (mf_dat eX12_after_p1 7 rfl) rfl ?_
    refine mf_iload (mf_dat eX12_after_p1 8 rfl) rfl ?_
    refine mf_icmp_le (tgt := 128) (mf_dat eX12_after_p1 9 rfl) (by decide) (fun hc => ?_) (fun hc => ?_)
    · replace hyp := hyp.1 hc
      refine mf_iinc (mf_dat eX12_after_p1 12 rfl) rfl (by decide) (by decide) ?_
      generalize qv4 : mf_w32 (x7 + 1) = v4
      replace hyp := hyp _ qv4.symm
      refine mf_goto (tgt := 54) (mf_dat eX12_after_p1 13 rfl) (by decide) ?_
      exact mf_sub [1, 2, 3, 4, 5, 6, 7, 0] rfl (hyp g2 hG)
    · replace hyp := hyp.2 hc
      refine mf_iload (mf_dat eX12_after_p1 10 rfl) rfl ?_
      refine mf_istore (mf_dat eX12_after_p1 11 rfl) (by decide) ?_
      refine mf_iinc (mf_dat eX12_after_p1 12 rfl) rfl (by decide) (by decide) ?_
      generalize qv5 : mf_w32 (x7 + 1) = v5
      replace hyp := hyp _ qv5.symm
      refine mf_goto (tgt := 54) (mf_dat eX12_after_p1 13 rfl) (by decide) ?_
      exact mf_sub [2, 3, 4, 5, 6, 7, 1, 0] rfl (hyp g2 hG)
  · replace hyp := hyp.2 hc
    refine mf_iload_n (mf_dat eX12_after_p0 47 rfl) rfl rfl ?_
    refine mf_iload (mf_dat eX12_after_p0 48 rfl) rfl ?_
    refine mf_ishr (mf_dat eX12_after_p0 49 rfl) ?_
    refine mf_iconst (v := 1) (mf_dat eX12_after_p0 50 rfl) (by decide) ?_
    refine mf_iand (mf_dat eX12_after_p0 51 rfl) ?_
    refine mf_iconst (v := 1) (mf_dat eX12_after_p0 52 rfl) (by decide) ?_
    refine mf_icmp_ne (tgt := 111) (mf_dat eX12_after_p0 53 rfl) (by decide) (fun hc => ?_) (fun hc => ?_)
    · replace hyp := hyp.1 hc
      refine mf_iinc (mf_dat eX12_after_p1 5 rfl) rfl (by decide) (by decide) ?_
      generalize qv6 : mf_w32 (x9 + 1) = v6
      replace hyp := hyp _ qv6.symm
      refine mf_goto (tgt := 71) (mf_dat eX12_after_p1 6 rfl) (by decide) ?_
      exact mf_sub [1, 2, 3, 4, 5, 6, 7, 8, 9, 0] rfl (hyp g2 hG)
    · replace hyp := hyp.2 hc
      refine mf_aload_n (mf_dat eX12_after_p0 54 rfl) rfl rfl ?_
      refine mf_getf (r := (RX12, TX12, 106)) (ci := 12) (k := 67) (t := 2) (v := 291) (mf_dat eX12_after_p0 55 rfl) fl_X12_152 rfl (by decide) rfl (gm_67 hG) is245 ?_
      refine mf_bipush (v := 8) (mf_dat eX12_after_p0 56 rfl) (by decide) ?_
      refine mf_iload (mf_dat eX12_after_p0 57 rfl) rfl ?_
      refine mf_imul (mf_dat eX12_after_p0 58 rfl) ?_
      refine mf_iload (mf_dat eX12_after_p0 59 rfl) rfl ?_
      refine mf_iadd (mf_dat eX12_after_p1 0 rfl) ?_
      obtain ⟨ck7, hyp⟩ := hyp
      obtain ⟨ck8, hyp⟩ := hyp
      refine mf_iald (mf_dat eX12_after_p1 1 rfl) is291 len291 ck7 ck8 ?_
      refine mf_iload (mf_dat eX12_after_p1 2 rfl) rfl ?_
      refine mf_icmp_ne (tgt := 111) (mf_dat eX12_after_p1 3 rfl) (by decide) (fun hc => ?_) (fun hc => ?_)
      · replace hyp := hyp.1 hc
        refine mf_iinc (mf_dat eX12_after_p1 5 rfl) rfl (by decide) (by decide) ?_
        generalize qv9 : mf_w32 (x9 + 1) = v9
        replace hyp := hyp _ qv9.symm
        refine mf_goto (tgt := 71) (mf_dat eX12_after_p1 6 rfl) (by decide) ?_
        exact mf_sub [1, 2, 3, 4, 5, 6, 7, 8, 9, 0] rfl (hyp g2 hG)
      · replace hyp := hyp.2 hc
        refine mf_iinc (mf_dat eX12_after_p1 4 rfl) rfl (by decide) (by decide) ?_
        generalize qv10 : mf_w32 (x8 + 1) = v10
        replace hyp := hyp _ qv10.symm
        refine mf_iinc (mf_dat eX12_after_p1 5 rfl) rfl (by decide) (by decide) ?_
        generalize qv11 : mf_w32 (x9 + 1) = v11
        replace hyp := hyp _ qv11.symm
        refine mf_goto (tgt := 71) (mf_dat eX12_after_p1 6 rfl) (by decide) ?_
        exact mf_sub [2, 3, 4, 5, 6, 7, 8, 9, 1, 0] rfl (hyp g2 hG)
set_option maxRecDepth 100000 in
set_option maxHeartbeats 4000000 in
theorem wX12_after {C : mf_G} {l : Launch} {d : Nat} {K : Int → mf_M → Prop} {x1 : Int} {h : mf_M} (hd : 6 ≤ d) (hyp : mM C l 1 YX12_isAhead [(2, 245), (0, 1), (0, 1), (0, 1)] h (fun r1 h3 => ((r1 = 0 → K (-1) h3) ∧ (¬ r1 = 0 → mM C l 0 YX12_isIn [(1, x1), (1, 0), (1, 1)] h3 (fun r4 h6 => ((¬ r4 = 0 → mM C l 5 YX12_openingsSeen [(2, 245)] h6 (fun r7 h9 => BX12_after_35 C l d K x1 r7 (-1) 0 0 h9)) ∧ (r4 = 0 → K (-1) h6))))))) : mM C l d YX12_after [(2, 245), (0, x1)] h K := by
  intro g hG
  refine mf_entry (by decide) (Nat.le_of_ble_eq_true rfl) ?_
  refine mf_aload_n (mf_dat eX12_after_p0 0 rfl) rfl rfl ?_
  refine mf_iconst (v := 1) (mf_dat eX12_after_p0 1 rfl) (by decide) ?_
  refine mf_iconst (v := 1) (mf_dat eX12_after_p0 2 rfl) (by decide) ?_
  refine mf_iconst (v := 1) (mf_dat eX12_after_p0 3 rfl) (by decide) ?_
  refine mf_callV (Yc := YX12_isAhead) (r := (RX12, TX12, 106)) (ci := 12) (mf_dat eX12_after_p0 4 rfl) ml_X12_520 okX12_isAhead im_X12_isAhead sl_X12_isAhead rfl rfl rfl rfl (Nat.le_of_ble_eq_true rfl) (mf_rr (Nat.le_trans (by decide) hd) (Nat.le_refl _)) (Nat.le_refl _) is245 (hyp g hG) (fun r1 g2 h3 hyp => ?_)
  obtain ⟨hgg, hyp⟩ := hyp
  subst hgg
  refine mf_if_eq (tgt := 20) (mf_dat eX12_after_p0 5 rfl) (by decide) (fun hc => ?_) (fun hc => ?_)
  · replace hyp := hyp.1 hc
    refine mf_iconst (v := (-1)) (mf_dat eX12_after_p0 12 rfl) (by decide) ?_
    exact mf_ireturn (mf_dat eX12_after_p0 13 rfl) rfl (Or.inl rfl) ⟨rfl, hyp⟩
  · replace hyp := hyp.2 hc
    refine mf_iload_n (mf_dat eX12_after_p0 6 rfl) rfl rfl ?_
    refine mf_i2l (mf_dat eX12_after_p0 7 rfl) ?_
    refine mf_lconst (v := 0) (mf_dat eX12_after_p0 8 rfl) (by decide) ?_
    refine mf_lconst (v := 1) (mf_dat eX12_after_p0 9 rfl) (by decide) ?_
    refine mf_callS (Yc := YX12_isIn) (mf_dat eX12_after_p0 10 rfl) ml_X12_286 okX12_isIn sm_X12_isIn rfl rfl (Nat.le_of_ble_eq_true rfl) (mf_rr (Nat.le_trans (by decide) hd) (Nat.le_refl _)) (Nat.le_refl _) (hyp g2 hG) (fun r4 g5 h6 hyp => ?_)
    obtain ⟨hgg, hyp⟩ := hyp
    subst hgg
    refine mf_if_ne (tgt := 22) (mf_dat eX12_after_p0 11 rfl) (by decide) (fun hc => ?_) (fun hc => ?_)
    · replace hyp := hyp.1 hc
      refine mf_aload_n (mf_dat eX12_after_p0 14 rfl) rfl rfl ?_
      refine mf_callV (Yc := YX12_openingsSeen) (r := (RX12, TX12, 106)) (ci := 12) (mf_dat eX12_after_p0 15 rfl) ml_X12_552 okX12_openingsSeen im_X12_openingsSeen sl_X12_openingsSeen rfl rfl rfl rfl (Nat.le_of_ble_eq_true rfl) (mf_rr (Nat.le_trans (by decide) hd) (Nat.le_refl _)) (Nat.le_refl _) is245 (hyp g5 hG) (fun r7 g8 h9 hyp => ?_)
      obtain ⟨hgg, hyp⟩ := hyp
      subst hgg
      refine mf_istore_n (mf_dat eX12_after_p0 16 rfl) rfl (by decide) ?_
      refine mf_iconst (v := (-1)) (mf_dat eX12_after_p0 17 rfl) (by decide) ?_
      refine mf_istore_n (mf_dat eX12_after_p0 18 rfl) rfl (by decide) ?_
      refine mf_iconst (v := 0) (mf_dat eX12_after_p0 19 rfl) (by decide) ?_
      refine mf_istore (mf_dat eX12_after_p0 20 rfl) (by decide) ?_
      refine mf_iconst (v := 0) (mf_dat eX12_after_p0 21 rfl) (by decide) ?_
      refine mf_istore (mf_dat eX12_after_p0 22 rfl) (by decide) ?_
      exact mf_sub [4, 5, 3, 2, 1, 0] rfl (hyp g8 hG)
    · replace hyp := hyp.2 hc
      refine mf_iconst (v := (-1)) (mf_dat eX12_after_p0 12 rfl) (by decide) ?_
      exact mf_ireturn (mf_dat eX12_after_p0 13 rfl) rfl (Or.inl rfl) ⟨rfl, hyp⟩
abbrev BX12_trim_63 (C : mf_G) (l : Launch) (d : Nat) (K : Int → mf_M → Prop) (x1 x4 x5 x6 : Int) (h : mf_M) : Prop := jM C l d YX12_trim K 63 [(0, (2, 245)), (1, (0, x1)), (4, (0, x4)), (5, (0, x5)), (6, (0, x6))] [] h
abbrev BX12_trim_88 (C : mf_G) (l : Launch) (d : Nat) (K : Int → mf_M → Prop) (x1 x4 x5 x6 : Int) (h : mf_M) : Prop := jM C l d YX12_trim K 88 [(0, (2, 245)), (1, (0, x1)), (4, (0, x4)), (5, (0, x5)), (6, (0, x6))] [] h
set_option maxRecDepth 100000 in
set_option maxHeartbeats 4000000 in
theorem vX12_trim_63 {C : mf_G} {l : Launch} {d : Nat} {K : Int → mf_M → Prop} {x1 x4 x5 x6 : Int} {h : mf_M} (hd : 2 ≤ d) (hyp : ((h 276 3 ≤ x6 → K x5 h) ∧ (¬ h 276 3 ≤ x6 → mM C l 1 YX12_standsOn [(2, 245), (0, x1), (0, x6)] h (fun r1 h3 => ((¬ r1 = (-1) → BX12_trim_88 C l d K x1 x4 x5 x6 h3) ∧ (r1 = (-1) → (∀ v4 : Int, v4 = mf_w32 (x6 + 1) → BX12_trim_63 C l d K x1 x4 x5 v4 h3))))))) : BX12_trim_63 C l d K x1 x4 x5 x6 h := by
  intro g hG
  refine mf_iload (mf_dat eX12_trim_p0 42 rfl) rfl ?_
  refine mf_aload_n (mf_dat eX12_trim_p0 43 rfl) rfl rfl ?_
  refine mf_getf (r := (RX12, TX12, 106)) (ci := 12) (k := 40) (t := 2) (v := 276) (mf_dat eX12_trim_p0 44 rfl) fl_X12_105 rfl (by decide) rfl (gm_40 hG) is245 ?_
  refine mf_iconst (v := 3) (mf_dat eX12_trim_p0 45 rfl) (by decide) ?_
  refine mf_iald (mf_dat eX12_trim_p0 46 rfl) is276 len276 (by decide) (by decide) ?_
  refine mf_icmp_ge (tgt := 146) (mf_dat eX12_trim_p0 47 rfl) (by decide) (fun hc => ?_) (fun hc => ?_)
  · replace hyp := hyp.1 hc
    refine mf_iload (mf_dat eX12_trim_p1 23 rfl) rfl ?_
    exact mf_ireturn (mf_dat eX12_trim_p1 24 rfl) rfl (Or.inl rfl) ⟨rfl, hyp⟩
  · replace hyp := hyp.2 hc
    refine mf_aload_n (mf_dat eX12_trim_p0 48 rfl) rfl rfl ?_
    refine mf_iload_n (mf_dat eX12_trim_p0 49 rfl) rfl rfl ?_
    refine mf_iload (mf_dat eX12_trim_p0 50 rfl) rfl ?_
    refine mf_callV (Yc := YX12_standsOn) (r := (RX12, TX12, 106)) (ci := 12) (mf_dat eX12_trim_p0 51 rfl) ml_X12_484 okX12_standsOn im_X12_standsOn sl_X12_standsOn rfl rfl rfl rfl (Nat.le_of_ble_eq_true rfl) (mf_rr (Nat.le_trans (by decide) hd) (Nat.le_refl _)) (Nat.le_refl _) is245 (hyp g hG) (fun r1 g2 h3 hyp => ?_)
    obtain ⟨hgg, hyp⟩ := hyp
    subst hgg
    refine mf_iconst (v := (-1)) (mf_dat eX12_trim_p0 52 rfl) (by decide) ?_
    refine mf_icmp_ne (tgt := 88) (mf_dat eX12_trim_p0 53 rfl) (by decide) (fun hc => ?_) (fun hc => ?_)
    · replace hyp := hyp.1 hc
      exact mf_sub [0, 1, 2, 3, 4] rfl (hyp g2 hG)
    · replace hyp := hyp.2 hc
      refine mf_goto (tgt := 140) (mf_dat eX12_trim_p0 54 rfl) (by decide) ?_
      refine mf_iinc (mf_dat eX12_trim_p1 21 rfl) rfl (by decide) (by decide) ?_
      generalize qv4 : mf_w32 (x6 + 1) = v4
      replace hyp := hyp _ qv4.symm
      refine mf_goto (tgt := 63) (mf_dat eX12_trim_p1 22 rfl) (by decide) ?_
      exact mf_sub [1, 2, 3, 4, 0] rfl (hyp g2 hG)
set_option maxRecDepth 100000 in
set_option maxHeartbeats 4000000 in
theorem vX12_trim_88 {C : mf_G} {l : Launch} {d : Nat} {K : Int → mf_M → Prop} {x1 x4 x5 x6 : Int} {h : mf_M} (hd : 2 ≤ d) (hyp : ((x4 < 0 → ((0 ≤ x4 → (∀ v1 : Int, v1 = mf_w32 (x5 + (mf_w32 (x6 - x4))) → (∀ v2 : Int, v2 = mf_w32 (x4 + (-1)) → (∀ v3 : Int, v3 = mf_w32 (x6 + 1) → BX12_trim_63 C l d K x1 v2 v1 v3 h)))) ∧ (¬ 0 ≤ x4 → K (-1) h))) ∧ (¬ x4 < 0 → mM C l 0 YX12_hasGloss [(2, 245), (0, x1), (0, x4)] h (fun r4 h6 => ((¬ r4 = 0 → (∀ v7 : Int, v7 = mf_w32 (x4 + (-1)) → BX12_trim_88 C l d K x1 v7 x5 x6 h6)) ∧ (r4 = 0 → mM C l 1 YX12_standsOn [(2, 245), (0, x1), (0, x4)] h6 (fun r8 h10 => ((r8 = (-1) → ((0 ≤ x4 → (∀ v11 : Int, v11 = mf_w32 (x5 + (mf_w32 (x6 - x4))) → (∀ v12 : Int, v12 = mf_w32 (x4 + (-1)) → (∀ v13 : Int, v13 = mf_w32 (x6 + 1) → BX12_trim_63 C l d K x1 v12 v11 v13 h10)))) ∧ (¬ 0 ≤ x4 → K (-1) h10))) ∧ (¬ r8 = (-1) → (∀ v14 : Int, v14 = mf_w32 (x4 + (-1)) → BX12_trim_88 C l d K x1 v14 x5 x6 h10)))))))))) : BX12_trim_88 C l d K x1 x4 x5 x6 h := by
  intro g hG
  refine mf_iload (mf_dat eX12_trim_p0 55 rfl) rfl ?_
  refine mf_if_lt (tgt := 120) (mf_dat eX12_trim_p0 56 rfl) (by decide) (fun hc => ?_) (fun hc => ?_)
  · replace hyp := hyp.1 hc
    refine mf_iload (mf_dat eX12_trim_p1 10 rfl) rfl ?_
    refine mf_if_ge (tgt := 127) (mf_dat eX12_trim_p1 11 rfl) (by decide) (fun hc => ?_) (fun hc => ?_)
    · replace hyp := hyp.1 hc
      refine mf_iload (mf_dat eX12_trim_p1 14 rfl) rfl ?_
      refine mf_iload (mf_dat eX12_trim_p1 15 rfl) rfl ?_
      refine mf_iload (mf_dat eX12_trim_p1 16 rfl) rfl ?_
      refine mf_isub (mf_dat eX12_trim_p1 17 rfl) ?_
      refine mf_iadd (mf_dat eX12_trim_p1 18 rfl) ?_
      generalize qv1 : mf_w32 (x5 + (mf_w32 (x6 - x4))) = v1
      replace hyp := hyp _ qv1.symm
      refine mf_istore (mf_dat eX12_trim_p1 19 rfl) (by decide) ?_
      refine mf_iinc (mf_dat eX12_trim_p1 20 rfl) rfl (by decide) (by decide) ?_
      generalize qv2 : mf_w32 (x4 + (-1)) = v2
      replace hyp := hyp _ qv2.symm
      refine mf_iinc (mf_dat eX12_trim_p1 21 rfl) rfl (by decide) (by decide) ?_
      generalize qv3 : mf_w32 (x6 + 1) = v3
      replace hyp := hyp _ qv3.symm
      refine mf_goto (tgt := 63) (mf_dat eX12_trim_p1 22 rfl) (by decide) ?_
      exact mf_sub [3, 4, 1, 2, 0] rfl (hyp g hG)
    · replace hyp := hyp.2 hc
      refine mf_iconst (v := (-1)) (mf_dat eX12_trim_p1 12 rfl) (by decide) ?_
      exact mf_ireturn (mf_dat eX12_trim_p1 13 rfl) rfl (Or.inl rfl) ⟨rfl, hyp⟩
  · replace hyp := hyp.2 hc
    refine mf_aload_n (mf_dat eX12_trim_p0 57 rfl) rfl rfl ?_
    refine mf_iload_n (mf_dat eX12_trim_p0 58 rfl) rfl rfl ?_
    refine mf_iload (mf_dat eX12_trim_p0 59 rfl) rfl ?_
    refine mf_callV (Yc := YX12_hasGloss) (r := (RX12, TX12, 106)) (ci := 12) (mf_dat eX12_trim_p1 0 rfl) ml_X12_481 okX12_hasGloss im_X12_hasGloss sl_X12_hasGloss rfl rfl rfl rfl (Nat.le_of_ble_eq_true rfl) (mf_rr (Nat.le_trans (by decide) hd) (Nat.le_refl _)) (Nat.le_refl _) is245 (hyp g hG) (fun r4 g5 h6 hyp => ?_)
    obtain ⟨hgg, hyp⟩ := hyp
    subst hgg
    refine mf_if_ne (tgt := 114) (mf_dat eX12_trim_p1 1 rfl) (by decide) (fun hc => ?_) (fun hc => ?_)
    · replace hyp := hyp.1 hc
      refine mf_iinc (mf_dat eX12_trim_p1 8 rfl) rfl (by decide) (by decide) ?_
      generalize qv7 : mf_w32 (x4 + (-1)) = v7
      replace hyp := hyp _ qv7.symm
      refine mf_goto (tgt := 88) (mf_dat eX12_trim_p1 9 rfl) (by decide) ?_
      exact mf_sub [1, 2, 0, 3, 4] rfl (hyp g5 hG)
    · replace hyp := hyp.2 hc
      refine mf_aload_n (mf_dat eX12_trim_p1 2 rfl) rfl rfl ?_
      refine mf_iload_n (mf_dat eX12_trim_p1 3 rfl) rfl rfl ?_
      refine mf_iload (mf_dat eX12_trim_p1 4 rfl) rfl ?_
      refine mf_callV (Yc := YX12_standsOn) (r := (RX12, TX12, 106)) (ci := 12) (mf_dat eX12_trim_p1 5 rfl) ml_X12_484 okX12_standsOn im_X12_standsOn sl_X12_standsOn rfl rfl rfl rfl (Nat.le_of_ble_eq_true rfl) (mf_rr (Nat.le_trans (by decide) hd) (Nat.le_refl _)) (Nat.le_refl _) is245 (hyp g5 hG) (fun r8 g9 h10 hyp => ?_)
      obtain ⟨hgg, hyp⟩ := hyp
      subst hgg
      refine mf_iconst (v := (-1)) (mf_dat eX12_trim_p1 6 rfl) (by decide) ?_
      refine mf_icmp_eq (tgt := 120) (mf_dat eX12_trim_p1 7 rfl) (by decide) (fun hc => ?_) (fun hc => ?_)
      · replace hyp := hyp.1 hc
        refine mf_iload (mf_dat eX12_trim_p1 10 rfl) rfl ?_
        refine mf_if_ge (tgt := 127) (mf_dat eX12_trim_p1 11 rfl) (by decide) (fun hc => ?_) (fun hc => ?_)
        · replace hyp := hyp.1 hc
          refine mf_iload (mf_dat eX12_trim_p1 14 rfl) rfl ?_
          refine mf_iload (mf_dat eX12_trim_p1 15 rfl) rfl ?_
          refine mf_iload (mf_dat eX12_trim_p1 16 rfl) rfl ?_
          refine mf_isub (mf_dat eX12_trim_p1 17 rfl) ?_
          refine mf_iadd (mf_dat eX12_trim_p1 18 rfl) ?_
          generalize qv11 : mf_w32 (x5 + (mf_w32 (x6 - x4))) = v11
          replace hyp := hyp _ qv11.symm
          refine mf_istore (mf_dat eX12_trim_p1 19 rfl) (by decide) ?_
          refine mf_iinc (mf_dat eX12_trim_p1 20 rfl) rfl (by decide) (by decide) ?_
          generalize qv12 : mf_w32 (x4 + (-1)) = v12
          replace hyp := hyp _ qv12.symm
          refine mf_iinc (mf_dat eX12_trim_p1 21 rfl) rfl (by decide) (by decide) ?_
          generalize qv13 : mf_w32 (x6 + 1) = v13
          replace hyp := hyp _ qv13.symm
          refine mf_goto (tgt := 63) (mf_dat eX12_trim_p1 22 rfl) (by decide) ?_
          exact mf_sub [3, 4, 1, 2, 0] rfl (hyp g9 hG)
        · replace hyp := hyp.2 hc
          refine mf_iconst (v := (-1)) (mf_dat eX12_trim_p1 12 rfl) (by decide) ?_
          exact mf_ireturn (mf_dat eX12_trim_p1 13 rfl) rfl (Or.inl rfl) ⟨rfl, hyp⟩
      · replace hyp := hyp.2 hc
        refine mf_iinc (mf_dat eX12_trim_p1 8 rfl) rfl (by decide) (by decide) ?_
        generalize qv14 : mf_w32 (x4 + (-1)) = v14
        replace hyp := hyp _ qv14.symm
        refine mf_goto (tgt := 88) (mf_dat eX12_trim_p1 9 rfl) (by decide) ?_
        exact mf_sub [1, 2, 0, 3, 4] rfl (hyp g9 hG)
set_option maxRecDepth 100000 in
set_option maxHeartbeats 4000000 in
theorem wX12_trim {C : mf_G} {l : Launch} {d : Nat} {K : Int → mf_M → Prop} {x1 x2 : Int} {h : mf_M} (hd : 1 ≤ d) (hyp : ((h 245 54 = 0 → K (-1) h) ∧ (¬ h 245 54 = 0 → mM C l 0 YX12_leaves [(2, 245)] h (fun r1 h3 => mM C l 0 YX12_isIn [(1, x1), (1, 0), (1, mf_w32 (r1 - 1))] h3 (fun r4 h6 => ((r4 = 0 → K (-1) h6) ∧ (¬ r4 = 0 → mM C l 0 YX12_isIn [(1, x2), (1, 1), (1, mf_w32 ((h6 276 3) - 1))] h6 (fun r7 h9 => ((¬ r7 = 0 → (∀ v10 : Int, v10 = mf_w32 ((h9 276 3) - x2) → (∀ v11 : Int, v11 = mf_w32 (v10 - 1) → BX12_trim_63 C l d K x1 v11 0 v10 h9))) ∧ (r7 = 0 → K (-1) h9)))))))))) : mM C l d YX12_trim [(2, 245), (0, x1), (0, x2)] h K := by
  intro g hG
  refine mf_entry (by decide) (Nat.le_of_ble_eq_true rfl) ?_
  refine mf_aload_n (mf_dat eX12_trim_p0 0 rfl) rfl rfl ?_
  refine mf_getf (r := (RX12, TX12, 106)) (ci := 12) (k := 54) (t := 0) (v := h 245 54) (mf_dat eX12_trim_p0 1 rfl) fl_X12_389 rfl (by decide) rfl rfl is245 ?_
  refine mf_if_eq (tgt := 41) (mf_dat eX12_trim_p0 2 rfl) (by decide) (fun hc => ?_) (fun hc => ?_)
  · replace hyp := hyp.1 hc
    refine mf_iconst (v := (-1)) (mf_dat eX12_trim_p0 25 rfl) (by decide) ?_
    exact mf_ireturn (mf_dat eX12_trim_p0 26 rfl) rfl (Or.inl rfl) ⟨rfl, hyp⟩
  · replace hyp := hyp.2 hc
    refine mf_iload_n (mf_dat eX12_trim_p0 3 rfl) rfl rfl ?_
    refine mf_i2l (mf_dat eX12_trim_p0 4 rfl) ?_
    refine mf_lconst (v := 0) (mf_dat eX12_trim_p0 5 rfl) (by decide) ?_
    refine mf_aload_n (mf_dat eX12_trim_p0 6 rfl) rfl rfl ?_
    refine mf_callV (Yc := YX12_leaves) (r := (RX12, TX12, 106)) (ci := 12) (mf_dat eX12_trim_p0 7 rfl) ml_X12_405 okX12_leaves im_X12_leaves sl_X12_leaves rfl rfl rfl rfl (Nat.le_of_ble_eq_true rfl) (mf_rr (Nat.le_trans (by decide) hd) (Nat.le_refl _)) (Nat.le_refl _) is245 (hyp g hG) (fun r1 g2 h3 hyp => ?_)
    obtain ⟨hgg, hyp⟩ := hyp
    subst hgg
    refine mf_iconst (v := 1) (mf_dat eX12_trim_p0 8 rfl) (by decide) ?_
    refine mf_isub (mf_dat eX12_trim_p0 9 rfl) ?_
    refine mf_i2l (mf_dat eX12_trim_p0 10 rfl) ?_
    refine mf_callS (Yc := YX12_isIn) (mf_dat eX12_trim_p0 11 rfl) ml_X12_286 okX12_isIn sm_X12_isIn rfl rfl (Nat.le_of_ble_eq_true rfl) (mf_rr (Nat.le_trans (by decide) hd) (Nat.le_refl _)) (Nat.le_refl _) (hyp g2 hG) (fun r4 g5 h6 hyp => ?_)
    obtain ⟨hgg, hyp⟩ := hyp
    subst hgg
    refine mf_if_eq (tgt := 41) (mf_dat eX12_trim_p0 12 rfl) (by decide) (fun hc => ?_) (fun hc => ?_)
    · replace hyp := hyp.1 hc
      refine mf_iconst (v := (-1)) (mf_dat eX12_trim_p0 25 rfl) (by decide) ?_
      exact mf_ireturn (mf_dat eX12_trim_p0 26 rfl) rfl (Or.inl rfl) ⟨rfl, hyp⟩
    · replace hyp := hyp.2 hc
      refine mf_iload_n (mf_dat eX12_trim_p0 13 rfl) rfl rfl ?_
      refine mf_i2l (mf_dat eX12_trim_p0 14 rfl) ?_
      refine mf_lconst (v := 1) (mf_dat eX12_trim_p0 15 rfl) (by decide) ?_
      refine mf_aload_n (mf_dat eX12_trim_p0 16 rfl) rfl rfl ?_
      refine mf_getf (r := (RX12, TX12, 106)) (ci := 12) (k := 40) (t := 2) (v := 276) (mf_dat eX12_trim_p0 17 rfl) fl_X12_105 rfl (by decide) rfl (gm_40 hG) is245 ?_
      refine mf_iconst (v := 3) (mf_dat eX12_trim_p0 18 rfl) (by decide) ?_
      refine mf_iald (mf_dat eX12_trim_p0 19 rfl) is276 len276 (by decide) (by decide) ?_
      refine mf_iconst (v := 1) (mf_dat eX12_trim_p0 20 rfl) (by decide) ?_
      refine mf_isub (mf_dat eX12_trim_p0 21 rfl) ?_
      refine mf_i2l (mf_dat eX12_trim_p0 22 rfl) ?_
      refine mf_callS (Yc := YX12_isIn) (mf_dat eX12_trim_p0 23 rfl) ml_X12_286 okX12_isIn sm_X12_isIn rfl rfl (Nat.le_of_ble_eq_true rfl) (mf_rr (Nat.le_trans (by decide) hd) (Nat.le_refl _)) (Nat.le_refl _) (hyp g5 hG) (fun r7 g8 h9 hyp => ?_)
      obtain ⟨hgg, hyp⟩ := hyp
      subst hgg
      refine mf_if_ne (tgt := 43) (mf_dat eX12_trim_p0 24 rfl) (by decide) (fun hc => ?_) (fun hc => ?_)
      · replace hyp := hyp.1 hc
        refine mf_aload_n (mf_dat eX12_trim_p0 27 rfl) rfl rfl ?_
        refine mf_getf (r := (RX12, TX12, 106)) (ci := 12) (k := 40) (t := 2) (v := 276) (mf_dat eX12_trim_p0 28 rfl) fl_X12_105 rfl (by decide) rfl (gm_40 hG) is245 ?_
        refine mf_iconst (v := 3) (mf_dat eX12_trim_p0 29 rfl) (by decide) ?_
        refine mf_iald (mf_dat eX12_trim_p0 30 rfl) is276 len276 (by decide) (by decide) ?_
        refine mf_iload_n (mf_dat eX12_trim_p0 31 rfl) rfl rfl ?_
        refine mf_isub (mf_dat eX12_trim_p0 32 rfl) ?_
        generalize qv10 : mf_w32 ((h9 276 3) - x2) = v10
        replace hyp := hyp _ qv10.symm
        refine mf_istore_n (mf_dat eX12_trim_p0 33 rfl) rfl (by decide) ?_
        refine mf_iload_n (mf_dat eX12_trim_p0 34 rfl) rfl rfl ?_
        refine mf_iconst (v := 1) (mf_dat eX12_trim_p0 35 rfl) (by decide) ?_
        refine mf_isub (mf_dat eX12_trim_p0 36 rfl) ?_
        generalize qv11 : mf_w32 (v10 - 1) = v11
        replace hyp := hyp _ qv11.symm
        refine mf_istore (mf_dat eX12_trim_p0 37 rfl) (by decide) ?_
        refine mf_iconst (v := 0) (mf_dat eX12_trim_p0 38 rfl) (by decide) ?_
        refine mf_istore (mf_dat eX12_trim_p0 39 rfl) (by decide) ?_
        refine mf_iload_n (mf_dat eX12_trim_p0 40 rfl) rfl rfl ?_
        refine mf_istore (mf_dat eX12_trim_p0 41 rfl) (by decide) ?_
        exact mf_sub [4, 5, 2, 1, 0] rfl (hyp g8 hG)
      · replace hyp := hyp.2 hc
        refine mf_iconst (v := (-1)) (mf_dat eX12_trim_p0 25 rfl) (by decide) ?_
        exact mf_ireturn (mf_dat eX12_trim_p0 26 rfl) rfl (Or.inl rfl) ⟨rfl, hyp⟩
abbrev BX12_keeps_15 (C : mf_G) (l : Launch) (d : Nat) (K : Int → mf_M → Prop) (x1 : Int) (h : mf_M) : Prop := jM C l d YX12_keeps K 15 [(0, (2, 245)), (1, (0, x1))] [] h
set_option maxRecDepth 100000 in
set_option maxHeartbeats 4000000 in
theorem vX12_keeps_15 {C : mf_G} {l : Launch} {d : Nat} {K : Int → mf_M → Prop} {x1 : Int} {h : mf_M} (hyp : ((160 ≤ x1 → ((20 ≤ h 245 69 → K 0 h) ∧ (¬ 20 ≤ h 245 69 → (∀ h1 : mf_M, h1 = mf_up h 245 69 (mf_w32 ((h 245 69) + 1)) → K 0 h1)))) ∧ (¬ 160 ≤ x1 → 0 ≤ x1 ∧ x1 < 160 ∧ 0 ≤ mf_w32 ((mf_w32 (160 * (h 245 70))) + x1) ∧ mf_w32 ((mf_w32 (160 * (h 245 70))) + x1) < 3200 ∧ (∀ h6 : mf_M, h6 = mf_up h 292 (mf_w32 ((mf_w32 (160 * (h 245 70))) + x1)) (h 286 x1) → (∀ v7 : Int, v7 = mf_w32 (x1 + 1) → BX12_keeps_15 C l d K v7 h6))))) : BX12_keeps_15 C l d K x1 h := by
  intro g hG
  refine mf_iload_n (mf_dat eX12_keeps 10 rfl) rfl rfl ?_
  refine mf_sipush (v := 160) (mf_dat eX12_keeps 11 rfl) (by decide) ?_
  refine mf_icmp_ge (tgt := 49) (mf_dat eX12_keeps 12 rfl) (by decide) (fun hc => ?_) (fun hc => ?_)
  · replace hyp := hyp.1 hc
    refine mf_aload_n (mf_dat eX12_keeps 28 rfl) rfl rfl ?_
    refine mf_getf (r := (RX12, TX12, 106)) (ci := 12) (k := 69) (t := 0) (v := h 245 69) (mf_dat eX12_keeps 29 rfl) fl_X12_396 rfl (by decide) rfl rfl is245 ?_
    refine mf_bipush (v := 20) (mf_dat eX12_keeps 30 rfl) (by decide) ?_
    refine mf_icmp_ge (tgt := 68) (mf_dat eX12_keeps 31 rfl) (by decide) (fun hc => ?_) (fun hc => ?_)
    · replace hyp := hyp.1 hc
      exact mf_return (mf_dat eX12_keeps 38 rfl) rfl ⟨rfl, hyp⟩
    · replace hyp := hyp.2 hc
      refine mf_aload_n (mf_dat eX12_keeps 32 rfl) rfl rfl ?_
      refine mf_dup (mf_dat eX12_keeps 33 rfl) (by decide) ?_
      refine mf_getf (r := (RX12, TX12, 106)) (ci := 12) (k := 69) (t := 0) (v := h 245 69) (mf_dat eX12_keeps 34 rfl) fl_X12_396 rfl (by decide) rfl rfl is245 ?_
      refine mf_iconst (v := 1) (mf_dat eX12_keeps 35 rfl) (by decide) ?_
      refine mf_iadd (mf_dat eX12_keeps 36 rfl) ?_
      refine mf_putI (r := (RX12, TX12, 106)) (ci := 12) (k := 69) (kI := 69) (t := 0) (mf_dat eX12_keeps 37 rfl) fl_X12_396 rfl rfl (by decide) rfl (by decide) rfl (by decide) (fun h9 => absurd h9 (by decide)) is245 ?_
      generalize qh1 : mf_up h 245 69 (mf_w32 ((h 245 69) + 1)) = h1
      replace hyp := hyp _ qh1.symm
      exact mf_return (mf_dat eX12_keeps 38 rfl) rfl ⟨rfl, hyp⟩
  · replace hyp := hyp.2 hc
    refine mf_aload_n (mf_dat eX12_keeps 13 rfl) rfl rfl ?_
    refine mf_getf (r := (RX12, TX12, 106)) (ci := 12) (k := 68) (t := 2) (v := 292) (mf_dat eX12_keeps 14 rfl) fl_X12_155 rfl (by decide) rfl (gm_68 hG) is245 ?_
    refine mf_sipush (v := 160) (mf_dat eX12_keeps 15 rfl) (by decide) ?_
    refine mf_aload_n (mf_dat eX12_keeps 16 rfl) rfl rfl ?_
    refine mf_getf (r := (RX12, TX12, 106)) (ci := 12) (k := 70) (t := 0) (v := h 245 70) (mf_dat eX12_keeps 17 rfl) fl_X12_555 rfl (by decide) rfl rfl is245 ?_
    refine mf_imul (mf_dat eX12_keeps 18 rfl) ?_
    refine mf_iload_n (mf_dat eX12_keeps 19 rfl) rfl rfl ?_
    refine mf_iadd (mf_dat eX12_keeps 20 rfl) ?_
    refine mf_aload_n (mf_dat eX12_keeps 21 rfl) rfl rfl ?_
    refine mf_getf (r := (RX12, TX12, 106)) (ci := 12) (k := 56) (t := 2) (v := 286) (mf_dat eX12_keeps 22 rfl) fl_X12_136 rfl (by decide) rfl (gm_56 hG) is245 ?_
    refine mf_iload_n (mf_dat eX12_keeps 23 rfl) rfl rfl ?_
    obtain ⟨ck2, hyp⟩ := hyp
    obtain ⟨ck3, hyp⟩ := hyp
    refine mf_iald (mf_dat eX12_keeps 24 rfl) is286 len286 ck2 ck3 ?_
    obtain ⟨ck4, hyp⟩ := hyp
    obtain ⟨ck5, hyp⟩ := hyp
    refine mf_iast (mf_dat eX12_keeps 25 rfl) is292 len292 ck4 ck5 ?_
    generalize qh6 : mf_up h 292 (mf_w32 ((mf_w32 (160 * (h 245 70))) + x1)) (h 286 x1) = h6
    replace hyp := hyp _ qh6.symm
    refine mf_iinc (mf_dat eX12_keeps 26 rfl) rfl (by decide) (by decide) ?_
    generalize qv7 : mf_w32 (x1 + 1) = v7
    replace hyp := hyp _ qv7.symm
    refine mf_goto (tgt := 15) (mf_dat eX12_keeps 27 rfl) (by decide) ?_
    exact mf_sub [1, 0] rfl (hyp g hG)
set_option maxRecDepth 100000 in
set_option maxHeartbeats 4000000 in
theorem wX12_keeps {C : mf_G} {l : Launch} {d : Nat} {K : Int → mf_M → Prop} {h : mf_M} (hyp : (∀ h1 : mf_M, h1 = mf_up h 245 70 ((mf_w32 ((h 245 70) + 1)).tmod 20) → BX12_keeps_15 C l d K 0 h1)) : mM C l d YX12_keeps [(2, 245)] h K := by
  intro g hG
  refine mf_entry (by decide) (Nat.le_of_ble_eq_true rfl) ?_
  refine mf_aload_n (mf_dat eX12_keeps 0 rfl) rfl rfl ?_
  refine mf_aload_n (mf_dat eX12_keeps 1 rfl) rfl rfl ?_
  refine mf_getf (r := (RX12, TX12, 106)) (ci := 12) (k := 70) (t := 0) (v := h 245 70) (mf_dat eX12_keeps 2 rfl) fl_X12_555 rfl (by decide) rfl rfl is245 ?_
  refine mf_iconst (v := 1) (mf_dat eX12_keeps 3 rfl) (by decide) ?_
  refine mf_iadd (mf_dat eX12_keeps 4 rfl) ?_
  refine mf_bipush (v := 20) (mf_dat eX12_keeps 5 rfl) (by decide) ?_
  refine mf_irem (mf_dat eX12_keeps 6 rfl) (by decide) ?_
  refine mf_putI (r := (RX12, TX12, 106)) (ci := 12) (k := 70) (kI := 70) (t := 0) (mf_dat eX12_keeps 7 rfl) fl_X12_555 rfl rfl (by decide) rfl (by decide) rfl (by decide) (fun h9 => absurd h9 (by decide)) is245 ?_
  generalize qh1 : mf_up h 245 70 ((mf_w32 ((h 245 70) + 1)).tmod 20) = h1
  replace hyp := hyp _ qh1.symm
  refine mf_iconst (v := 0) (mf_dat eX12_keeps 8 rfl) (by decide) ?_
  refine mf_istore_n (mf_dat eX12_keeps 9 rfl) rfl (by decide) ?_
  exact mf_sub [1, 0] rfl (hyp g hG)
abbrev BX12_undo_21 (C : mf_G) (l : Launch) (d : Nat) (K : Int → mf_M → Prop) (x1 : Int) (h : mf_M) : Prop := jM C l d YX12_undo K 21 [(0, (2, 245)), (1, (0, x1))] [] h
set_option maxRecDepth 100000 in
set_option maxHeartbeats 4000000 in
theorem vX12_undo_21 {C : mf_G} {l : Launch} {d : Nat} {K : Int → mf_M → Prop} {x1 : Int} {h : mf_M} (hyp : ((160 ≤ x1 → (∀ h1 : mf_M, h1 = mf_up h 245 70 ((mf_w32 ((mf_w32 ((h 245 70) + 20)) - 1)).tmod 20) → (∀ h2 : mf_M, h2 = mf_up h1 245 69 (mf_w32 ((h1 245 69) - 1)) → K 1 h2))) ∧ (¬ 160 ≤ x1 → 0 ≤ mf_w32 ((mf_w32 (160 * (h 245 70))) + x1) ∧ mf_w32 ((mf_w32 (160 * (h 245 70))) + x1) < 3200 ∧ 0 ≤ x1 ∧ x1 < 160 ∧ (∀ h7 : mf_M, h7 = mf_up h 286 x1 (h 292 (mf_w32 ((mf_w32 (160 * (h 245 70))) + x1))) → (∀ v8 : Int, v8 = mf_w32 (x1 + 1) → BX12_undo_21 C l d K v8 h7))))) : BX12_undo_21 C l d K x1 h := by
  intro g hG
  refine mf_iload_n (mf_dat eX12_undo 15 rfl) rfl rfl ?_
  refine mf_sipush (v := 160) (mf_dat eX12_undo 16 rfl) (by decide) ?_
  refine mf_icmp_ge (tgt := 55) (mf_dat eX12_undo 17 rfl) (by decide) (fun hc => ?_) (fun hc => ?_)
  · replace hyp := hyp.1 hc
    refine mf_aload_n (mf_dat eX12_undo 33 rfl) rfl rfl ?_
    refine mf_aload_n (mf_dat eX12_undo 34 rfl) rfl rfl ?_
    refine mf_getf (r := (RX12, TX12, 106)) (ci := 12) (k := 70) (t := 0) (v := h 245 70) (mf_dat eX12_undo 35 rfl) fl_X12_555 rfl (by decide) rfl rfl is245 ?_
    refine mf_bipush (v := 20) (mf_dat eX12_undo 36 rfl) (by decide) ?_
    refine mf_iadd (mf_dat eX12_undo 37 rfl) ?_
    refine mf_iconst (v := 1) (mf_dat eX12_undo 38 rfl) (by decide) ?_
    refine mf_isub (mf_dat eX12_undo 39 rfl) ?_
    refine mf_bipush (v := 20) (mf_dat eX12_undo 40 rfl) (by decide) ?_
    refine mf_irem (mf_dat eX12_undo 41 rfl) (by decide) ?_
    refine mf_putI (r := (RX12, TX12, 106)) (ci := 12) (k := 70) (kI := 70) (t := 0) (mf_dat eX12_undo 42 rfl) fl_X12_555 rfl rfl (by decide) rfl (by decide) rfl (by decide) (fun h9 => absurd h9 (by decide)) is245 ?_
    generalize qh1 : mf_up h 245 70 ((mf_w32 ((mf_w32 ((h 245 70) + 20)) - 1)).tmod 20) = h1
    replace hyp := hyp _ qh1.symm
    refine mf_aload_n (mf_dat eX12_undo 43 rfl) rfl rfl ?_
    refine mf_dup (mf_dat eX12_undo 44 rfl) (by decide) ?_
    refine mf_getf (r := (RX12, TX12, 106)) (ci := 12) (k := 69) (t := 0) (v := h1 245 69) (mf_dat eX12_undo 45 rfl) fl_X12_396 rfl (by decide) rfl rfl is245 ?_
    refine mf_iconst (v := 1) (mf_dat eX12_undo 46 rfl) (by decide) ?_
    refine mf_isub (mf_dat eX12_undo 47 rfl) ?_
    refine mf_putI (r := (RX12, TX12, 106)) (ci := 12) (k := 69) (kI := 69) (t := 0) (mf_dat eX12_undo 48 rfl) fl_X12_396 rfl rfl (by decide) rfl (by decide) rfl (by decide) (fun h9 => absurd h9 (by decide)) is245 ?_
    generalize qh2 : mf_up h1 245 69 (mf_w32 ((h1 245 69) - 1)) = h2
    replace hyp := hyp _ qh2.symm
    refine mf_iconst (v := 1) (mf_dat eX12_undo 49 rfl) (by decide) ?_
    exact mf_ireturn (mf_dat eX12_undo 50 rfl) rfl (Or.inr ⟨rfl, by decide⟩) ⟨rfl, hyp⟩
  · replace hyp := hyp.2 hc
    refine mf_aload_n (mf_dat eX12_undo 18 rfl) rfl rfl ?_
    refine mf_getf (r := (RX12, TX12, 106)) (ci := 12) (k := 56) (t := 2) (v := 286) (mf_dat eX12_undo 19 rfl) fl_X12_136 rfl (by decide) rfl (gm_56 hG) is245 ?_
    refine mf_iload_n (mf_dat eX12_undo 20 rfl) rfl rfl ?_
    refine mf_aload_n (mf_dat eX12_undo 21 rfl) rfl rfl ?_
    refine mf_getf (r := (RX12, TX12, 106)) (ci := 12) (k := 68) (t := 2) (v := 292) (mf_dat eX12_undo 22 rfl) fl_X12_155 rfl (by decide) rfl (gm_68 hG) is245 ?_
    refine mf_sipush (v := 160) (mf_dat eX12_undo 23 rfl) (by decide) ?_
    refine mf_aload_n (mf_dat eX12_undo 24 rfl) rfl rfl ?_
    refine mf_getf (r := (RX12, TX12, 106)) (ci := 12) (k := 70) (t := 0) (v := h 245 70) (mf_dat eX12_undo 25 rfl) fl_X12_555 rfl (by decide) rfl rfl is245 ?_
    refine mf_imul (mf_dat eX12_undo 26 rfl) ?_
    refine mf_iload_n (mf_dat eX12_undo 27 rfl) rfl rfl ?_
    refine mf_iadd (mf_dat eX12_undo 28 rfl) ?_
    obtain ⟨ck3, hyp⟩ := hyp
    obtain ⟨ck4, hyp⟩ := hyp
    refine mf_iald (mf_dat eX12_undo 29 rfl) is292 len292 ck3 ck4 ?_
    obtain ⟨ck5, hyp⟩ := hyp
    obtain ⟨ck6, hyp⟩ := hyp
    refine mf_iast (mf_dat eX12_undo 30 rfl) is286 len286 ck5 ck6 ?_
    generalize qh7 : mf_up h 286 x1 (h 292 (mf_w32 ((mf_w32 (160 * (h 245 70))) + x1))) = h7
    replace hyp := hyp _ qh7.symm
    refine mf_iinc (mf_dat eX12_undo 31 rfl) rfl (by decide) (by decide) ?_
    generalize qv8 : mf_w32 (x1 + 1) = v8
    replace hyp := hyp _ qv8.symm
    refine mf_goto (tgt := 21) (mf_dat eX12_undo 32 rfl) (by decide) ?_
    exact mf_sub [1, 0] rfl (hyp g hG)
set_option maxRecDepth 100000 in
set_option maxHeartbeats 4000000 in
theorem wX12_undo {C : mf_G} {l : Launch} {d : Nat} {K : Int → mf_M → Prop} {h : mf_M} (hyp : ((¬ h 245 69 = 0 → BX12_undo_21 C l d K 0 h) ∧ (h 245 69 = 0 → (∀ h1 : mf_M, h1 = mf_up h 247 4 (mf_w32 ((h 247 4) + 1)) → K 0 h1)))) : mM C l d YX12_undo [(2, 245)] h K := by
  intro g hG
  refine mf_entry (by decide) (Nat.le_of_ble_eq_true rfl) ?_
  refine mf_aload_n (mf_dat eX12_undo 0 rfl) rfl rfl ?_
  refine mf_getf (r := (RX12, TX12, 106)) (ci := 12) (k := 69) (t := 0) (v := h 245 69) (mf_dat eX12_undo 1 rfl) fl_X12_396 rfl (by decide) rfl rfl is245 ?_
  refine mf_if_ne (tgt := 19) (mf_dat eX12_undo 2 rfl) (by decide) (fun hc => ?_) (fun hc => ?_)
  · replace hyp := hyp.1 hc
    refine mf_iconst (v := 0) (mf_dat eX12_undo 13 rfl) (by decide) ?_
    refine mf_istore_n (mf_dat eX12_undo 14 rfl) rfl (by decide) ?_
    exact mf_sub [1, 0] rfl (hyp g hG)
  · replace hyp := hyp.2 hc
    refine mf_aload_n (mf_dat eX12_undo 3 rfl) rfl rfl ?_
    refine mf_getf (r := (RX12, TX12, 106)) (ci := 12) (k := 9) (t := 2) (v := 247) (mf_dat eX12_undo 4 rfl) fl_X12_17 rfl (by decide) rfl (gm_9 hG) is245 ?_
    refine mf_iconst (v := 4) (mf_dat eX12_undo 5 rfl) (by decide) ?_
    refine mf_dup2 (mf_dat eX12_undo 6 rfl) (by decide) (by decide) ?_
    refine mf_iald (mf_dat eX12_undo 7 rfl) is247 len247 (by decide) (by decide) ?_
    refine mf_iconst (v := 1) (mf_dat eX12_undo 8 rfl) (by decide) ?_
    refine mf_iadd (mf_dat eX12_undo 9 rfl) ?_
    refine mf_iast (mf_dat eX12_undo 10 rfl) is247 len247 (by decide) (by decide) ?_
    generalize qh1 : mf_up h 247 4 (mf_w32 ((h 247 4) + 1)) = h1
    replace hyp := hyp _ qh1.symm
    refine mf_iconst (v := 0) (mf_dat eX12_undo 11 rfl) (by decide) ?_
    exact mf_ireturn (mf_dat eX12_undo 12 rfl) rfl (Or.inr ⟨rfl, by decide⟩) ⟨rfl, hyp⟩
set_option maxRecDepth 100000 in
set_option maxHeartbeats 4000000 in
theorem wX12_go {C : mf_G} {l : Launch} {d : Nat} {K : Int → mf_M → Prop} {x1 x2 x3 : Int} {h : mf_M} (hd : 2 ≤ d) (hyp : mM C l 1 YX12_isBeing [(2, 245), (0, x1)] h (fun r1 h3 => ((r1 = 0 → (∀ h4 : mf_M, h4 = mf_up h3 247 2 (mf_w32 ((h3 247 2) + 1)) → K 0 h4)) ∧ (¬ r1 = 0 → mM C l 1 YX12_isCell [(2, 245), (0, x2), (0, x3)] h3 (fun r5 h7 => ((r5 = 0 → (∀ h8 : mf_M, h8 = mf_up h7 247 2 (mf_w32 ((h7 247 2) + 1)) → K 0 h8)) ∧ (¬ r5 = 0 → mM C l 0 YX12_hasGloss [(2, 245), (0, x2), (0, x3)] h7 (fun r9 h11 => ((¬ r9 = 0 → (∀ h12 : mf_M, h12 = mf_up h11 247 2 (mf_w32 ((h11 247 2) + 1)) → K 0 h12)) ∧ (r9 = 0 → mM C l 1 YX12_standsOn [(2, 245), (0, x2), (0, x3)] h11 (fun r13 h15 => ((r13 = (-1) → mM C l 0 YX12_keeps [(2, 245)] h15 (fun r16 h18 => 0 ≤ mf_w32 (7 + (mf_w32 (4 * x1))) ∧ mf_w32 (7 + (mf_w32 (4 * x1))) < 160 ∧ (∀ h21 : mf_M, h21 = mf_up h18 286 (mf_w32 (7 + (mf_w32 (4 * x1)))) x2 → 0 ≤ mf_w32 ((mf_w32 (7 + (mf_w32 (4 * x1)))) + 1) ∧ mf_w32 ((mf_w32 (7 + (mf_w32 (4 * x1)))) + 1) < 160 ∧ (∀ h24 : mf_M, h24 = mf_up h21 286 (mf_w32 ((mf_w32 (7 + (mf_w32 (4 * x1)))) + 1)) x3 → K 1 h24)))) ∧ (¬ r13 = (-1) → (∀ h25 : mf_M, h25 = mf_up h15 247 2 (mf_w32 ((h15 247 2) + 1)) → K 0 h25)))))))))))))) : mM C l d YX12_go [(2, 245), (0, x1), (0, x2), (0, x3)] h K := by
  intro g hG
  refine mf_entry (by decide) (Nat.le_of_ble_eq_true rfl) ?_
  refine mf_aload_n (mf_dat eX12_go 0 rfl) rfl rfl ?_
  refine mf_iload_n (mf_dat eX12_go 1 rfl) rfl rfl ?_
  refine mf_callV (Yc := YX12_isBeing) (r := (RX12, TX12, 106)) (ci := 12) (mf_dat eX12_go 2 rfl) ml_X12_502 okX12_isBeing im_X12_isBeing sl_X12_isBeing rfl rfl rfl rfl (Nat.le_of_ble_eq_true rfl) (mf_rr (Nat.le_trans (by decide) hd) (Nat.le_refl _)) (Nat.le_refl _) is245 (hyp g hG) (fun r1 g2 h3 hyp => ?_)
  obtain ⟨hgg, hyp⟩ := hyp
  subst hgg
  refine mf_if_eq (tgt := 36) (mf_dat eX12_go 3 rfl) (by decide) (fun hc => ?_) (fun hc => ?_)
  · replace hyp := hyp.1 hc
    refine mf_aload_n (mf_dat eX12_go 20 rfl) rfl rfl ?_
    refine mf_getf (r := (RX12, TX12, 106)) (ci := 12) (k := 9) (t := 2) (v := 247) (mf_dat eX12_go 21 rfl) fl_X12_17 rfl (by decide) rfl (gm_9 hG) is245 ?_
    refine mf_iconst (v := 2) (mf_dat eX12_go 22 rfl) (by decide) ?_
    refine mf_dup2 (mf_dat eX12_go 23 rfl) (by decide) (by decide) ?_
    refine mf_iald (mf_dat eX12_go 24 rfl) is247 len247 (by decide) (by decide) ?_
    refine mf_iconst (v := 1) (mf_dat eX12_go 25 rfl) (by decide) ?_
    refine mf_iadd (mf_dat eX12_go 26 rfl) ?_
    refine mf_iast (mf_dat eX12_go 27 rfl) is247 len247 (by decide) (by decide) ?_
    generalize qh4 : mf_up h3 247 2 (mf_w32 ((h3 247 2) + 1)) = h4
    replace hyp := hyp _ qh4.symm
    refine mf_iconst (v := 0) (mf_dat eX12_go 28 rfl) (by decide) ?_
    exact mf_ireturn (mf_dat eX12_go 29 rfl) rfl (Or.inr ⟨rfl, by decide⟩) ⟨rfl, hyp⟩
  · replace hyp := hyp.2 hc
    refine mf_aload_n (mf_dat eX12_go 4 rfl) rfl rfl ?_
    refine mf_iload_n (mf_dat eX12_go 5 rfl) rfl rfl ?_
    refine mf_iload_n (mf_dat eX12_go 6 rfl) rfl rfl ?_
    refine mf_callV (Yc := YX12_isCell) (r := (RX12, TX12, 106)) (ci := 12) (mf_dat eX12_go 7 rfl) ml_X12_507 okX12_isCell im_X12_isCell sl_X12_isCell rfl rfl rfl rfl (Nat.le_of_ble_eq_true rfl) (mf_rr (Nat.le_trans (by decide) hd) (Nat.le_refl _)) (Nat.le_refl _) is245 (hyp g2 hG) (fun r5 g6 h7 hyp => ?_)
    obtain ⟨hgg, hyp⟩ := hyp
    subst hgg
    refine mf_if_eq (tgt := 36) (mf_dat eX12_go 8 rfl) (by decide) (fun hc => ?_) (fun hc => ?_)
    · replace hyp := hyp.1 hc
      refine mf_aload_n (mf_dat eX12_go 20 rfl) rfl rfl ?_
      refine mf_getf (r := (RX12, TX12, 106)) (ci := 12) (k := 9) (t := 2) (v := 247) (mf_dat eX12_go 21 rfl) fl_X12_17 rfl (by decide) rfl (gm_9 hG) is245 ?_
      refine mf_iconst (v := 2) (mf_dat eX12_go 22 rfl) (by decide) ?_
      refine mf_dup2 (mf_dat eX12_go 23 rfl) (by decide) (by decide) ?_
      refine mf_iald (mf_dat eX12_go 24 rfl) is247 len247 (by decide) (by decide) ?_
      refine mf_iconst (v := 1) (mf_dat eX12_go 25 rfl) (by decide) ?_
      refine mf_iadd (mf_dat eX12_go 26 rfl) ?_
      refine mf_iast (mf_dat eX12_go 27 rfl) is247 len247 (by decide) (by decide) ?_
      generalize qh8 : mf_up h7 247 2 (mf_w32 ((h7 247 2) + 1)) = h8
      replace hyp := hyp _ qh8.symm
      refine mf_iconst (v := 0) (mf_dat eX12_go 28 rfl) (by decide) ?_
      exact mf_ireturn (mf_dat eX12_go 29 rfl) rfl (Or.inr ⟨rfl, by decide⟩) ⟨rfl, hyp⟩
    · replace hyp := hyp.2 hc
      refine mf_aload_n (mf_dat eX12_go 9 rfl) rfl rfl ?_
      refine mf_iload_n (mf_dat eX12_go 10 rfl) rfl rfl ?_
      refine mf_iload_n (mf_dat eX12_go 11 rfl) rfl rfl ?_
      refine mf_callV (Yc := YX12_hasGloss) (r := (RX12, TX12, 106)) (ci := 12) (mf_dat eX12_go 12 rfl) ml_X12_481 okX12_hasGloss im_X12_hasGloss sl_X12_hasGloss rfl rfl rfl rfl (Nat.le_of_ble_eq_true rfl) (mf_rr (Nat.le_trans (by decide) hd) (Nat.le_refl _)) (Nat.le_refl _) is245 (hyp g6 hG) (fun r9 g10 h11 hyp => ?_)
      obtain ⟨hgg, hyp⟩ := hyp
      subst hgg
      refine mf_if_ne (tgt := 36) (mf_dat eX12_go 13 rfl) (by decide) (fun hc => ?_) (fun hc => ?_)
      · replace hyp := hyp.1 hc
        refine mf_aload_n (mf_dat eX12_go 20 rfl) rfl rfl ?_
        refine mf_getf (r := (RX12, TX12, 106)) (ci := 12) (k := 9) (t := 2) (v := 247) (mf_dat eX12_go 21 rfl) fl_X12_17 rfl (by decide) rfl (gm_9 hG) is245 ?_
        refine mf_iconst (v := 2) (mf_dat eX12_go 22 rfl) (by decide) ?_
        refine mf_dup2 (mf_dat eX12_go 23 rfl) (by decide) (by decide) ?_
        refine mf_iald (mf_dat eX12_go 24 rfl) is247 len247 (by decide) (by decide) ?_
        refine mf_iconst (v := 1) (mf_dat eX12_go 25 rfl) (by decide) ?_
        refine mf_iadd (mf_dat eX12_go 26 rfl) ?_
        refine mf_iast (mf_dat eX12_go 27 rfl) is247 len247 (by decide) (by decide) ?_
        generalize qh12 : mf_up h11 247 2 (mf_w32 ((h11 247 2) + 1)) = h12
        replace hyp := hyp _ qh12.symm
        refine mf_iconst (v := 0) (mf_dat eX12_go 28 rfl) (by decide) ?_
        exact mf_ireturn (mf_dat eX12_go 29 rfl) rfl (Or.inr ⟨rfl, by decide⟩) ⟨rfl, hyp⟩
      · replace hyp := hyp.2 hc
        refine mf_aload_n (mf_dat eX12_go 14 rfl) rfl rfl ?_
        refine mf_iload_n (mf_dat eX12_go 15 rfl) rfl rfl ?_
        refine mf_iload_n (mf_dat eX12_go 16 rfl) rfl rfl ?_
        refine mf_callV (Yc := YX12_standsOn) (r := (RX12, TX12, 106)) (ci := 12) (mf_dat eX12_go 17 rfl) ml_X12_484 okX12_standsOn im_X12_standsOn sl_X12_standsOn rfl rfl rfl rfl (Nat.le_of_ble_eq_true rfl) (mf_rr (Nat.le_trans (by decide) hd) (Nat.le_refl _)) (Nat.le_refl _) is245 (hyp g10 hG) (fun r13 g14 h15 hyp => ?_)
        obtain ⟨hgg, hyp⟩ := hyp
        subst hgg
        refine mf_iconst (v := (-1)) (mf_dat eX12_go 18 rfl) (by decide) ?_
        refine mf_icmp_eq (tgt := 48) (mf_dat eX12_go 19 rfl) (by decide) (fun hc => ?_) (fun hc => ?_)
        · replace hyp := hyp.1 hc
          refine mf_aload_n (mf_dat eX12_go 30 rfl) rfl rfl ?_
          refine mf_callV (Yc := YX12_keeps) (r := (RX12, TX12, 106)) (ci := 12) (mf_dat eX12_go 31 rfl) ml_X12_558 okX12_keeps im_X12_keeps sl_X12_keeps rfl rfl rfl rfl (Nat.le_of_ble_eq_true rfl) (mf_rr (Nat.le_trans (by decide) hd) (Nat.le_refl _)) (Nat.le_refl _) is245 (hyp g14 hG) (fun r16 g17 h18 hyp => ?_)
          obtain ⟨hgg, hyp⟩ := hyp
          subst hgg
          refine mf_aload_n (mf_dat eX12_go 32 rfl) rfl rfl ?_
          refine mf_getf (r := (RX12, TX12, 106)) (ci := 12) (k := 56) (t := 2) (v := 286) (mf_dat eX12_go 33 rfl) fl_X12_136 rfl (by decide) rfl (gm_56 hG) is245 ?_
          refine mf_bipush (v := 7) (mf_dat eX12_go 34 rfl) (by decide) ?_
          refine mf_iconst (v := 4) (mf_dat eX12_go 35 rfl) (by decide) ?_
          refine mf_iload_n (mf_dat eX12_go 36 rfl) rfl rfl ?_
          refine mf_imul (mf_dat eX12_go 37 rfl) ?_
          refine mf_iadd (mf_dat eX12_go 38 rfl) ?_
          refine mf_iload_n (mf_dat eX12_go 39 rfl) rfl rfl ?_
          obtain ⟨ck19, hyp⟩ := hyp
          obtain ⟨ck20, hyp⟩ := hyp
          refine mf_iast (mf_dat eX12_go 40 rfl) is286 len286 ck19 ck20 ?_
          generalize qh21 : mf_up h18 286 (mf_w32 (7 + (mf_w32 (4 * x1)))) x2 = h21
          replace hyp := hyp _ qh21.symm
          refine mf_aload_n (mf_dat eX12_go 41 rfl) rfl rfl ?_
          refine mf_getf (r := (RX12, TX12, 106)) (ci := 12) (k := 56) (t := 2) (v := 286) (mf_dat eX12_go 42 rfl) fl_X12_136 rfl (by decide) rfl (gm_56 hG) is245 ?_
          refine mf_bipush (v := 7) (mf_dat eX12_go 43 rfl) (by decide) ?_
          refine mf_iconst (v := 4) (mf_dat eX12_go 44 rfl) (by decide) ?_
          refine mf_iload_n (mf_dat eX12_go 45 rfl) rfl rfl ?_
          refine mf_imul (mf_dat eX12_go 46 rfl) ?_
          refine mf_iadd (mf_dat eX12_go 47 rfl) ?_
          refine mf_iconst (v := 1) (mf_dat eX12_go 48 rfl) (by decide) ?_
          refine mf_iadd (mf_dat eX12_go 49 rfl) ?_
          refine mf_iload_n (mf_dat eX12_go 50 rfl) rfl rfl ?_
          obtain ⟨ck22, hyp⟩ := hyp
          obtain ⟨ck23, hyp⟩ := hyp
          refine mf_iast (mf_dat eX12_go 51 rfl) is286 len286 ck22 ck23 ?_
          generalize qh24 : mf_up h21 286 (mf_w32 ((mf_w32 (7 + (mf_w32 (4 * x1)))) + 1)) x3 = h24
          replace hyp := hyp _ qh24.symm
          refine mf_iconst (v := 1) (mf_dat eX12_go 52 rfl) (by decide) ?_
          exact mf_ireturn (mf_dat eX12_go 53 rfl) rfl (Or.inr ⟨rfl, by decide⟩) ⟨rfl, hyp⟩
        · replace hyp := hyp.2 hc
          refine mf_aload_n (mf_dat eX12_go 20 rfl) rfl rfl ?_
          refine mf_getf (r := (RX12, TX12, 106)) (ci := 12) (k := 9) (t := 2) (v := 247) (mf_dat eX12_go 21 rfl) fl_X12_17 rfl (by decide) rfl (gm_9 hG) is245 ?_
          refine mf_iconst (v := 2) (mf_dat eX12_go 22 rfl) (by decide) ?_
          refine mf_dup2 (mf_dat eX12_go 23 rfl) (by decide) (by decide) ?_
          refine mf_iald (mf_dat eX12_go 24 rfl) is247 len247 (by decide) (by decide) ?_
          refine mf_iconst (v := 1) (mf_dat eX12_go 25 rfl) (by decide) ?_
          refine mf_iadd (mf_dat eX12_go 26 rfl) ?_
          refine mf_iast (mf_dat eX12_go 27 rfl) is247 len247 (by decide) (by decide) ?_
          generalize qh25 : mf_up h15 247 2 (mf_w32 ((h15 247 2) + 1)) = h25
          replace hyp := hyp _ qh25.symm
          refine mf_iconst (v := 0) (mf_dat eX12_go 28 rfl) (by decide) ?_
          exact mf_ireturn (mf_dat eX12_go 29 rfl) rfl (Or.inr ⟨rfl, by decide⟩) ⟨rfl, hyp⟩
set_option maxRecDepth 100000 in
set_option maxHeartbeats 4000000 in
theorem wX12_isFree {C : mf_G} {l : Launch} {d : Nat} {K : Int → mf_M → Prop} {x1 x2 : Int} {h : mf_M} (hd : 2 ≤ d) (hyp : mM C l 1 YX12_isCell [(2, 245), (0, x1), (0, x2)] h (fun r1 h3 => ((r1 = 0 → K 0 h3) ∧ (¬ r1 = 0 → mM C l 0 YX12_hasGloss [(2, 245), (0, x1), (0, x2)] h3 (fun r4 h6 => ((¬ r4 = 0 → K 0 h6) ∧ (r4 = 0 → mM C l 1 YX12_standsOn [(2, 245), (0, x1), (0, x2)] h6 (fun r7 h9 => ((¬ r7 = (-1) → K 0 h9) ∧ (r7 = (-1) → K 1 h9)))))))))) : mM C l d YX12_isFree [(2, 245), (0, x1), (0, x2)] h K := by
  intro g hG
  refine mf_entry (by decide) (Nat.le_of_ble_eq_true rfl) ?_
  refine mf_aload_n (mf_dat eX12_isFree 0 rfl) rfl rfl ?_
  refine mf_iload_n (mf_dat eX12_isFree 1 rfl) rfl rfl ?_
  refine mf_iload_n (mf_dat eX12_isFree 2 rfl) rfl rfl ?_
  refine mf_callV (Yc := YX12_isCell) (r := (RX12, TX12, 106)) (ci := 12) (mf_dat eX12_isFree 3 rfl) ml_X12_507 okX12_isCell im_X12_isCell sl_X12_isCell rfl rfl rfl rfl (Nat.le_of_ble_eq_true rfl) (mf_rr (Nat.le_trans (by decide) hd) (Nat.le_refl _)) (Nat.le_refl _) is245 (hyp g hG) (fun r1 g2 h3 hyp => ?_)
  obtain ⟨hgg, hyp⟩ := hyp
  subst hgg
  refine mf_if_eq (tgt := 32) (mf_dat eX12_isFree 4 rfl) (by decide) (fun hc => ?_) (fun hc => ?_)
  · replace hyp := hyp.1 hc
    refine mf_iconst (v := 0) (mf_dat eX12_isFree 18 rfl) (by decide) ?_
    exact mf_ireturn (mf_dat eX12_isFree 19 rfl) rfl (Or.inr ⟨rfl, by decide⟩) ⟨rfl, hyp⟩
  · replace hyp := hyp.2 hc
    refine mf_aload_n (mf_dat eX12_isFree 5 rfl) rfl rfl ?_
    refine mf_iload_n (mf_dat eX12_isFree 6 rfl) rfl rfl ?_
    refine mf_iload_n (mf_dat eX12_isFree 7 rfl) rfl rfl ?_
    refine mf_callV (Yc := YX12_hasGloss) (r := (RX12, TX12, 106)) (ci := 12) (mf_dat eX12_isFree 8 rfl) ml_X12_481 okX12_hasGloss im_X12_hasGloss sl_X12_hasGloss rfl rfl rfl rfl (Nat.le_of_ble_eq_true rfl) (mf_rr (Nat.le_trans (by decide) hd) (Nat.le_refl _)) (Nat.le_refl _) is245 (hyp g2 hG) (fun r4 g5 h6 hyp => ?_)
    obtain ⟨hgg, hyp⟩ := hyp
    subst hgg
    refine mf_if_ne (tgt := 32) (mf_dat eX12_isFree 9 rfl) (by decide) (fun hc => ?_) (fun hc => ?_)
    · replace hyp := hyp.1 hc
      refine mf_iconst (v := 0) (mf_dat eX12_isFree 18 rfl) (by decide) ?_
      exact mf_ireturn (mf_dat eX12_isFree 19 rfl) rfl (Or.inr ⟨rfl, by decide⟩) ⟨rfl, hyp⟩
    · replace hyp := hyp.2 hc
      refine mf_aload_n (mf_dat eX12_isFree 10 rfl) rfl rfl ?_
      refine mf_iload_n (mf_dat eX12_isFree 11 rfl) rfl rfl ?_
      refine mf_iload_n (mf_dat eX12_isFree 12 rfl) rfl rfl ?_
      refine mf_callV (Yc := YX12_standsOn) (r := (RX12, TX12, 106)) (ci := 12) (mf_dat eX12_isFree 13 rfl) ml_X12_484 okX12_standsOn im_X12_standsOn sl_X12_standsOn rfl rfl rfl rfl (Nat.le_of_ble_eq_true rfl) (mf_rr (Nat.le_trans (by decide) hd) (Nat.le_refl _)) (Nat.le_refl _) is245 (hyp g5 hG) (fun r7 g8 h9 hyp => ?_)
      obtain ⟨hgg, hyp⟩ := hyp
      subst hgg
      refine mf_iconst (v := (-1)) (mf_dat eX12_isFree 14 rfl) (by decide) ?_
      refine mf_icmp_ne (tgt := 32) (mf_dat eX12_isFree 15 rfl) (by decide) (fun hc => ?_) (fun hc => ?_)
      · replace hyp := hyp.1 hc
        refine mf_iconst (v := 0) (mf_dat eX12_isFree 18 rfl) (by decide) ?_
        exact mf_ireturn (mf_dat eX12_isFree 19 rfl) rfl (Or.inr ⟨rfl, by decide⟩) ⟨rfl, hyp⟩
      · replace hyp := hyp.2 hc
        refine mf_iconst (v := 1) (mf_dat eX12_isFree 16 rfl) (by decide) ?_
        refine mf_goto (tgt := 33) (mf_dat eX12_isFree 17 rfl) (by decide) ?_
        exact mf_ireturn (mf_dat eX12_isFree 19 rfl) rfl (Or.inr ⟨rfl, by decide⟩) ⟨rfl, hyp⟩
abbrev BX12_refuge_2 (C : mf_G) (l : Launch) (d : Nat) (K : Int → mf_M → Prop) (x1 x2 x3 : Int) (h : mf_M) : Prop := jM C l d YX12_refuge K 2 [(0, (2, 245)), (1, (0, x1)), (2, (0, x2)), (3, (0, x3))] [] h
set_option maxRecDepth 100000 in
set_option maxHeartbeats 4000000 in
theorem vX12_refuge_2 {C : mf_G} {l : Launch} {d : Nat} {K : Int → mf_M → Prop} {x1 x2 x3 : Int} {h : mf_M} (hd : 3 ≤ d) (hyp : ((8 ≤ x3 → K (-1) h) ∧ (¬ 8 ≤ x3 → mM C l 2 YX12_isFree [(2, 245), (0, x1), (0, mf_w32 (x2 - x3))] h (fun r1 h3 => ((r1 = 0 → mM C l 2 YX12_isFree [(2, 245), (0, x1), (0, mf_w32 (x2 + x3))] h3 (fun r4 h6 => ((r4 = 0 → (∀ v7 : Int, v7 = mf_w32 (x3 + 1) → BX12_refuge_2 C l d K x1 x2 v7 h6)) ∧ (¬ r4 = 0 → K (mf_w32 (x2 + x3)) h6)))) ∧ (¬ r1 = 0 → K (mf_w32 (x2 - x3)) h3)))))) : BX12_refuge_2 C l d K x1 x2 x3 h := by
  intro g hG
  refine mf_iload_n (mf_dat eX12_refuge 2 rfl) rfl rfl ?_
  refine mf_bipush (v := 8) (mf_dat eX12_refuge 3 rfl) (by decide) ?_
  refine mf_icmp_ge (tgt := 44) (mf_dat eX12_refuge 4 rfl) (by decide) (fun hc => ?_) (fun hc => ?_)
  · replace hyp := hyp.1 hc
    refine mf_iconst (v := (-1)) (mf_dat eX12_refuge 29 rfl) (by decide) ?_
    exact mf_ireturn (mf_dat eX12_refuge 30 rfl) rfl (Or.inl rfl) ⟨rfl, hyp⟩
  · replace hyp := hyp.2 hc
    refine mf_aload_n (mf_dat eX12_refuge 5 rfl) rfl rfl ?_
    refine mf_iload_n (mf_dat eX12_refuge 6 rfl) rfl rfl ?_
    refine mf_iload_n (mf_dat eX12_refuge 7 rfl) rfl rfl ?_
    refine mf_iload_n (mf_dat eX12_refuge 8 rfl) rfl rfl ?_
    refine mf_isub (mf_dat eX12_refuge 9 rfl) ?_
    refine mf_callV (Yc := YX12_isFree) (r := (RX12, TX12, 106)) (ci := 12) (mf_dat eX12_refuge 10 rfl) ml_X12_561 okX12_isFree im_X12_isFree sl_X12_isFree rfl rfl rfl rfl (Nat.le_of_ble_eq_true rfl) (mf_rr (Nat.le_trans (by decide) hd) (Nat.le_refl _)) (Nat.le_refl _) is245 (hyp g hG) (fun r1 g2 h3 hyp => ?_)
    obtain ⟨hgg, hyp⟩ := hyp
    subst hgg
    refine mf_if_eq (tgt := 23) (mf_dat eX12_refuge 11 rfl) (by decide) (fun hc => ?_) (fun hc => ?_)
    · replace hyp := hyp.1 hc
      refine mf_aload_n (mf_dat eX12_refuge 16 rfl) rfl rfl ?_
      refine mf_iload_n (mf_dat eX12_refuge 17 rfl) rfl rfl ?_
      refine mf_iload_n (mf_dat eX12_refuge 18 rfl) rfl rfl ?_
      refine mf_iload_n (mf_dat eX12_refuge 19 rfl) rfl rfl ?_
      refine mf_iadd (mf_dat eX12_refuge 20 rfl) ?_
      refine mf_callV (Yc := YX12_isFree) (r := (RX12, TX12, 106)) (ci := 12) (mf_dat eX12_refuge 21 rfl) ml_X12_561 okX12_isFree im_X12_isFree sl_X12_isFree rfl rfl rfl rfl (Nat.le_of_ble_eq_true rfl) (mf_rr (Nat.le_trans (by decide) hd) (Nat.le_refl _)) (Nat.le_refl _) is245 (hyp g2 hG) (fun r4 g5 h6 hyp => ?_)
      obtain ⟨hgg, hyp⟩ := hyp
      subst hgg
      refine mf_if_eq (tgt := 38) (mf_dat eX12_refuge 22 rfl) (by decide) (fun hc => ?_) (fun hc => ?_)
      · replace hyp := hyp.1 hc
        refine mf_iinc (mf_dat eX12_refuge 27 rfl) rfl (by decide) (by decide) ?_
        generalize qv7 : mf_w32 (x3 + 1) = v7
        replace hyp := hyp _ qv7.symm
        refine mf_goto (tgt := 2) (mf_dat eX12_refuge 28 rfl) (by decide) ?_
        exact mf_sub [1, 2, 3, 0] rfl (hyp g5 hG)
      · replace hyp := hyp.2 hc
        refine mf_iload_n (mf_dat eX12_refuge 23 rfl) rfl rfl ?_
        refine mf_iload_n (mf_dat eX12_refuge 24 rfl) rfl rfl ?_
        refine mf_iadd (mf_dat eX12_refuge 25 rfl) ?_
        exact mf_ireturn (mf_dat eX12_refuge 26 rfl) rfl (Or.inl rfl) ⟨rfl, hyp⟩
    · replace hyp := hyp.2 hc
      refine mf_iload_n (mf_dat eX12_refuge 12 rfl) rfl rfl ?_
      refine mf_iload_n (mf_dat eX12_refuge 13 rfl) rfl rfl ?_
      refine mf_isub (mf_dat eX12_refuge 14 rfl) ?_
      exact mf_ireturn (mf_dat eX12_refuge 15 rfl) rfl (Or.inl rfl) ⟨rfl, hyp⟩
set_option maxRecDepth 100000 in
set_option maxHeartbeats 4000000 in
theorem wX12_refuge {C : mf_G} {l : Launch} {d : Nat} {K : Int → mf_M → Prop} {x1 x2 : Int} {h : mf_M} (hyp : BX12_refuge_2 C l d K x1 x2 1 h) : mM C l d YX12_refuge [(2, 245), (0, x1), (0, x2)] h K := by
  intro g hG
  refine mf_entry (by decide) (Nat.le_of_ble_eq_true rfl) ?_
  refine mf_iconst (v := 1) (mf_dat eX12_refuge 0 rfl) (by decide) ?_
  refine mf_istore_n (mf_dat eX12_refuge 1 rfl) rfl (by decide) ?_
  exact mf_sub [1, 2, 3, 0] rfl (hyp g hG)
