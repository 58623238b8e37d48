set_option maxRecDepth 100000 in
set_option maxHeartbeats 4000000 in
theorem wX12_qPartOf {C : mf_G} {l : Launch} {d : Nat} {K : Int → mf_M → Prop} {x1 x2 : Int} {h : mf_M} (hd : 1 ≤ d) (hyp : ((x1 = 0 → K (h 245 58) h) ∧ (x1 = 1 → mM C l 0 YX12_leafOf [(2, 245), (0, x2)] h (fun r1 h3 => K r1 h3)) ∧ (x1 = 2 → mM C l 0 YX12_cellOf [(2, 245), (0, x2)] h (fun r4 h6 => K r4 h6)) ∧ (x1 = 3 → 0 ≤ mf_w32 (8 + x2) ∧ mf_w32 (8 + x2) < 16 ∧ K (h 282 (mf_w32 (8 + x2))) h) ∧ (x1 = 4 → mM C l 0 YX12_purseOf [(2, 245), (0, x2)] h (fun r9 h11 => K r9 h11)) ∧ (x1 = 5 → mM C l 0 YX12_leafOf [(2, 245), (0, x2)] h (fun r12 h14 => mM C l 0 YX12_isOpen [(0, r12), (0, h14 245 59)] h14 (fun r15 h17 => ((r15 = 0 → K 0 h17) ∧ (¬ r15 = 0 → K 1 h17))))) ∧ (x1 = 6 → K (h 245 60) h) ∧ (x1 = 7 → K x2 h) ∧ ((x1 < 0 ∨ 7 < x1) → 0 ≤ mf_w32 ((mf_w32 (7 + (mf_w32 (4 * x2)))) + 3) ∧ mf_w32 ((mf_w32 (7 + (mf_w32 (4 * x2)))) + 3) < 160 ∧ K (h 286 (mf_w32 ((mf_w32 (7 + (mf_w32 (4 * x2)))) + 3))) h))) : mM C l d YX12_qPartOf [(2, 245), (0, x1), (0, x2)] h K := by
  intro g hG
  refine mf_entry (by decide) (Nat.le_of_ble_eq_true rfl) ?_
  refine mf_iload_n (mf_dat eX12_qPartOf 0 rfl) rfl rfl ?_
  refine mf_tsw1 (v := 0) (tgt := 48) (mf_dat eX12_qPartOf 1 rfl) (by decide) (by decide) (off := 47) (by decide) (by decide) (fun hc => ?_) (fun hc0 => ?_)
  · replace hyp := hyp.1 hc
    refine mf_aload_n (mf_dat eX12_qPartOf 2 rfl) rfl rfl ?_
    refine mf_getf (r := (RX12, TX12, 106)) (ci := 12) (k := 58) (t := 0) (v := h 245 58) (mf_dat eX12_qPartOf 3 rfl) fl_X12_436 rfl (by decide) rfl rfl is245 ?_
    refine mf_i2l (mf_dat eX12_qPartOf 4 rfl) ?_
    exact mf_lreturn (mf_dat eX12_qPartOf 5 rfl) rfl ⟨rfl, hyp⟩
  replace hyp := hyp.2
  refine mf_tsw1 (v := 1) (tgt := 54) (mf_dat eX12_qPartOf 1 rfl) (by decide) (by decide) (off := 53) (by decide) (by decide) (fun hc => ?_) (fun hc1 => ?_)
  · replace hyp := hyp.1 hc
    refine mf_aload_n (mf_dat eX12_qPartOf 6 rfl) rfl rfl ?_
    refine mf_iload_n (mf_dat eX12_qPartOf 7 rfl) rfl rfl ?_
    refine mf_callV (Yc := YX12_leafOf) (r := (RX12, TX12, 106)) (ci := 12) (mf_dat eX12_qPartOf 8 rfl) ml_X12_410 okX12_leafOf im_X12_leafOf sl_X12_leafOf rfl rfl rfl rfl (Nat.le_of_ble_eq_true rfl) (mf_rr (Nat.le_trans (by decide) hd) (Nat.le_refl _)) (Nat.le_refl _) is245 (hyp g hG) (fun r1 g2 h3 hyp => ?_)
    obtain ⟨hgg, hyp⟩ := hyp
    subst hgg
    refine mf_i2l (mf_dat eX12_qPartOf 9 rfl) ?_
    exact mf_lreturn (mf_dat eX12_qPartOf 10 rfl) rfl ⟨rfl, hyp⟩
  replace hyp := hyp.2
  refine mf_tsw1 (v := 2) (tgt := 61) (mf_dat eX12_qPartOf 1 rfl) (by decide) (by decide) (off := 60) (by decide) (by decide) (fun hc => ?_) (fun hc2 => ?_)
  · replace hyp := hyp.1 hc
    refine mf_aload_n (mf_dat eX12_qPartOf 11 rfl) rfl rfl ?_
    refine mf_iload_n (mf_dat eX12_qPartOf 12 rfl) rfl rfl ?_
    refine mf_callV (Yc := YX12_cellOf) (r := (RX12, TX12, 106)) (ci := 12) (mf_dat eX12_qPartOf 13 rfl) ml_X12_413 okX12_cellOf im_X12_cellOf sl_X12_cellOf rfl rfl rfl rfl (Nat.le_of_ble_eq_true rfl) (mf_rr (Nat.le_trans (by decide) hd) (Nat.le_refl _)) (Nat.le_refl _) is245 (hyp g hG) (fun r4 g5 h6 hyp => ?_)
    obtain ⟨hgg, hyp⟩ := hyp
    subst hgg
    refine mf_i2l (mf_dat eX12_qPartOf 14 rfl) ?_
    exact mf_lreturn (mf_dat eX12_qPartOf 15 rfl) rfl ⟨rfl, hyp⟩
  replace hyp := hyp.2
  refine mf_tsw1 (v := 3) (tgt := 68) (mf_dat eX12_qPartOf 1 rfl) (by decide) (by decide) (off := 67) (by decide) (by decide) (fun hc => ?_) (fun hc3 => ?_)
  · replace hyp := hyp.1 hc
    refine mf_aload_n (mf_dat eX12_qPartOf 16 rfl) rfl rfl ?_
    refine mf_getf (r := (RX12, TX12, 106)) (ci := 12) (k := 46) (t := 2) (v := 282) (mf_dat eX12_qPartOf 17 rfl) fl_X12_124 rfl (by decide) rfl (gm_46 hG) is245 ?_
    refine mf_bipush (v := 8) (mf_dat eX12_qPartOf 18 rfl) (by decide) ?_
    refine mf_iload_n (mf_dat eX12_qPartOf 19 rfl) rfl rfl ?_
    refine mf_iadd (mf_dat eX12_qPartOf 20 rfl) ?_
    obtain ⟨ck7, hyp⟩ := hyp
    obtain ⟨ck8, hyp⟩ := hyp
    refine mf_iald (mf_dat eX12_qPartOf 21 rfl) is282 len282 ck7 ck8 ?_
    refine mf_i2l (mf_dat eX12_qPartOf 22 rfl) ?_
    exact mf_lreturn (mf_dat eX12_qPartOf 23 rfl) rfl ⟨rfl, hyp⟩
  replace hyp := hyp.2
  refine mf_tsw1 (v := 4) (tgt := 79) (mf_dat eX12_qPartOf 1 rfl) (by decide) (by decide) (off := 78) (by decide) (by decide) (fun hc => ?_) (fun hc4 => ?_)
  · replace hyp := hyp.1 hc
    refine mf_aload_n (mf_dat eX12_qPartOf 24 rfl) rfl rfl ?_
    refine mf_iload_n (mf_dat eX12_qPartOf 25 rfl) rfl rfl ?_
    refine mf_callV (Yc := YX12_purseOf) (r := (RX12, TX12, 106)) (ci := 12) (mf_dat eX12_qPartOf 26 rfl) ml_X12_445 okX12_purseOf im_X12_purseOf sl_X12_purseOf rfl rfl rfl rfl (Nat.le_of_ble_eq_true rfl) (mf_rr (Nat.le_trans (by decide) hd) (Nat.le_refl _)) (Nat.le_refl _) is245 (hyp g hG) (fun r9 g10 h11 hyp => ?_)
    obtain ⟨hgg, hyp⟩ := hyp
    subst hgg
    refine mf_i2l (mf_dat eX12_qPartOf 27 rfl) ?_
    exact mf_lreturn (mf_dat eX12_qPartOf 28 rfl) rfl ⟨rfl, hyp⟩
  replace hyp := hyp.2
  refine mf_tsw1 (v := 5) (tgt := 86) (mf_dat eX12_qPartOf 1 rfl) (by decide) (by decide) (off := 85) (by decide) (by decide) (fun hc => ?_) (fun hc5 => ?_)
  · replace hyp := hyp.1 hc
    refine mf_aload_n (mf_dat eX12_qPartOf 29 rfl) rfl rfl ?_
    refine mf_iload_n (mf_dat eX12_qPartOf 30 rfl) rfl rfl ?_
    refine mf_callV (Yc := YX12_leafOf) (r := (RX12, TX12, 106)) (ci := 12) (mf_dat eX12_qPartOf 31 rfl) ml_X12_410 okX12_leafOf im_X12_leafOf sl_X12_leafOf rfl rfl rfl rfl (Nat.le_of_ble_eq_true rfl) (mf_rr (Nat.le_trans (by decide) hd) (Nat.le_refl _)) (Nat.le_refl _) is245 (hyp g hG) (fun r12 g13 h14 hyp => ?_)
    obtain ⟨hgg, hyp⟩ := hyp
    subst hgg
    refine mf_aload_n (mf_dat eX12_qPartOf 32 rfl) rfl rfl ?_
    refine mf_getf (r := (RX12, TX12, 106)) (ci := 12) (k := 59) (t := 0) (v := h14 245 59) (mf_dat eX12_qPartOf 33 rfl) fl_X12_468 rfl (by decide) rfl rfl is245 ?_
    refine mf_callS (Yc := YX12_isOpen) (mf_dat eX12_qPartOf 34 rfl) ml_X12_416 okX12_isOpen sm_X12_isOpen rfl rfl (Nat.le_of_ble_eq_true rfl) (mf_rr (Nat.le_trans (by decide) hd) (Nat.le_refl _)) (Nat.le_refl _) (hyp g13 hG) (fun r15 g16 h17 hyp => ?_)
    obtain ⟨hgg, hyp⟩ := hyp
    subst hgg
    refine mf_if_eq (tgt := 105) (mf_dat eX12_qPartOf 35 rfl) (by decide) (fun hc => ?_) (fun hc => ?_)
    · replace hyp := hyp.1 hc
      refine mf_lconst (v := 0) (mf_dat eX12_qPartOf 38 rfl) (by decide) ?_
      exact mf_lreturn (mf_dat eX12_qPartOf 39 rfl) rfl ⟨rfl, hyp⟩
    · replace hyp := hyp.2 hc
      refine mf_lconst (v := 1) (mf_dat eX12_qPartOf 36 rfl) (by decide) ?_
      refine mf_goto (tgt := 106) (mf_dat eX12_qPartOf 37 rfl) (by decide) ?_
      exact mf_lreturn (mf_dat eX12_qPartOf 39 rfl) rfl ⟨rfl, hyp⟩
  replace hyp := hyp.2
  refine mf_tsw1 (v := 6) (tgt := 107) (mf_dat eX12_qPartOf 1 rfl) (by decide) (by decide) (off := 106) (by decide) (by decide) (fun hc => ?_) (fun hc6 => ?_)
  · replace hyp := hyp.1 hc
    refine mf_aload_n (mf_dat eX12_qPartOf 40 rfl) rfl rfl ?_
    refine mf_getf (r := (RX12, TX12, 106)) (ci := 12) (k := 60) (t := 0) (v := h 245 60) (mf_dat eX12_qPartOf 41 rfl) fl_X12_461 rfl (by decide) rfl rfl is245 ?_
    refine mf_i2l (mf_dat eX12_qPartOf 42 rfl) ?_
    exact mf_lreturn (mf_dat eX12_qPartOf 43 rfl) rfl ⟨rfl, hyp⟩
  replace hyp := hyp.2
  refine mf_tsw1 (v := 7) (tgt := 113) (mf_dat eX12_qPartOf 1 rfl) (by decide) (by decide) (off := 112) (by decide) (by decide) (fun hc => ?_) (fun hc7 => ?_)
  · replace hyp := hyp.1 hc
    refine mf_iload_n (mf_dat eX12_qPartOf 44 rfl) rfl rfl ?_
    refine mf_i2l (mf_dat eX12_qPartOf 45 rfl) ?_
    exact mf_lreturn (mf_dat eX12_qPartOf 46 rfl) rfl ⟨rfl, hyp⟩
  replace hyp := hyp.2
  refine mf_tswO (tgt := 116) (mf_dat eX12_qPartOf 1 rfl) (by omega) (by decide) ?_
  replace hyp := hyp (by omega)
  refine mf_aload_n (mf_dat eX12_qPartOf 47 rfl) rfl rfl ?_
  refine mf_getf (r := (RX12, TX12, 106)) (ci := 12) (k := 56) (t := 2) (v := 286) (mf_dat eX12_qPartOf 48 rfl) fl_X12_136 rfl (by decide) rfl (gm_56 hG) is245 ?_
  refine mf_bipush (v := 7) (mf_dat eX12_qPartOf 49 rfl) (by decide) ?_
  refine mf_iconst (v := 4) (mf_dat eX12_qPartOf 50 rfl) (by decide) ?_
  refine mf_iload_n (mf_dat eX12_qPartOf 51 rfl) rfl rfl ?_
  refine mf_imul (mf_dat eX12_qPartOf 52 rfl) ?_
  refine mf_iadd (mf_dat eX12_qPartOf 53 rfl) ?_
  refine mf_iconst (v := 3) (mf_dat eX12_qPartOf 54 rfl) (by decide) ?_
  refine mf_iadd (mf_dat eX12_qPartOf 55 rfl) ?_
  obtain ⟨ck18, hyp⟩ := hyp
  obtain ⟨ck19, hyp⟩ := hyp
  refine mf_iald (mf_dat eX12_qPartOf 56 rfl) is286 len286 ck18 ck19 ?_
  refine mf_i2l (mf_dat eX12_qPartOf 57 rfl) ?_
  exact mf_lreturn (mf_dat eX12_qPartOf 58 rfl) rfl ⟨rfl, hyp⟩
set_option maxRecDepth 100000 in
set_option maxHeartbeats 4000000 in
theorem wX12_qOf {C : mf_G} {l : Launch} {d : Nat} {K : Int → mf_M → Prop} {x1 x2 x4 : Int} {h : mf_M} (hd : 3 ≤ d) (hyp : mM C l 0 YX12_beingMany [(2, 245)] h (fun r1 h3 => mM C l 0 YX12_isIn [(1, x2), (1, 0), (1, mf_w32 (r1 - 1))] h3 (fun r4 h6 => ((r4 = 0 → K 0 h6) ∧ (¬ r4 = 0 → ((x2 = x4 → K 0 h6) ∧ (¬ x2 = x4 → mM C l 2 YX12_doMeet [(2, 245), (0, x4), (0, mf_w32 x2), (0, h6 245 59)] h6 (fun r7 h9 => ((r7 = 0 → K 0 h9) ∧ (¬ r7 = 0 → K 1 h9)))))))))) : mM C l d YX12_qOf [(2, 245), (0, x1), (1, x2), (0, x4)] h K := by
  intro g hG
  refine mf_entry (by decide) (Nat.le_of_ble_eq_true rfl) ?_
  refine mf_iload_n (mf_dat eX12_qOf 0 rfl) rfl rfl ?_
  refine mf_lsw (tgt := 12) (off := 11) (mf_dat eX12_qOf 1 rfl) (by decide) (by simp [Op.lookupswitch.offset]) (by decide) ?_
  refine mf_lload_n (mf_dat eX12_qOf 2 rfl) rfl rfl ?_
  refine mf_lconst (v := 0) (mf_dat eX12_qOf 3 rfl) (by decide) ?_
  refine mf_aload_n (mf_dat eX12_qOf 4 rfl) rfl rfl ?_
  refine mf_callV (Yc := YX12_beingMany) (r := (RX12, TX12, 106)) (ci := 12) (mf_dat eX12_qOf 5 rfl) ml_X12_402 okX12_beingMany im_X12_beingMany sl_X12_beingMany rfl rfl rfl rfl (Nat.le_of_ble_eq_true rfl) (mf_rr (Nat.le_trans (by decide) hd) (Nat.le_refl _)) (Nat.le_refl _) is245 (hyp g hG) (fun r1 g2 h3 hyp => ?_)
  obtain ⟨hgg, hyp⟩ := hyp
  subst hgg
  refine mf_iconst (v := 1) (mf_dat eX12_qOf 6 rfl) (by decide) ?_
  refine mf_isub (mf_dat eX12_qOf 7 rfl) ?_
  refine mf_i2l (mf_dat eX12_qOf 8 rfl) ?_
  refine mf_callS (Yc := YX12_isIn) (mf_dat eX12_qOf 9 rfl) ml_X12_286 okX12_isIn sm_X12_isIn rfl rfl (Nat.le_of_ble_eq_true rfl) (mf_rr (Nat.le_trans (by decide) hd) (Nat.le_refl _)) (Nat.le_refl _) (hyp g2 hG) (fun r4 g5 h6 hyp => ?_)
  obtain ⟨hgg, hyp⟩ := hyp
  subst hgg
  refine mf_if_eq (tgt := 54) (mf_dat eX12_qOf 10 rfl) (by decide) (fun hc => ?_) (fun hc => ?_)
  · replace hyp := hyp.1 hc
    refine mf_lconst (v := 0) (mf_dat eX12_qOf 26 rfl) (by decide) ?_
    exact mf_lreturn (mf_dat eX12_qOf 27 rfl) rfl ⟨rfl, hyp⟩
  · replace hyp := hyp.2 hc
    refine mf_lload_n (mf_dat eX12_qOf 11 rfl) rfl rfl ?_
    refine mf_iload (mf_dat eX12_qOf 12 rfl) rfl ?_
    refine mf_i2l (mf_dat eX12_qOf 13 rfl) ?_
    refine mf_lcmp_eq (tgt := 54) (mf_dat eX12_qOf 14 rfl) (mf_dat eX12_qOf 15 rfl) (by decide) (fun hc => ?_) (fun hc => ?_)
    · replace hyp := hyp.1 hc
      refine mf_lconst (v := 0) (mf_dat eX12_qOf 26 rfl) (by decide) ?_
      exact mf_lreturn (mf_dat eX12_qOf 27 rfl) rfl ⟨rfl, hyp⟩
    · replace hyp := hyp.2 hc
      refine mf_aload_n (mf_dat eX12_qOf 16 rfl) rfl rfl ?_
      refine mf_iload (mf_dat eX12_qOf 17 rfl) rfl ?_
      refine mf_lload_n (mf_dat eX12_qOf 18 rfl) rfl rfl ?_
      refine mf_l2i (mf_dat eX12_qOf 19 rfl) ?_
      refine mf_aload_n (mf_dat eX12_qOf 20 rfl) rfl rfl ?_
      refine mf_getf (r := (RX12, TX12, 106)) (ci := 12) (k := 59) (t := 0) (v := h6 245 59) (mf_dat eX12_qOf 21 rfl) fl_X12_468 rfl (by decide) rfl rfl is245 ?_
      refine mf_callV (Yc := YX12_doMeet) (r := (RX12, TX12, 106)) (ci := 12) (mf_dat eX12_qOf 22 rfl) ml_X12_471 okX12_doMeet im_X12_doMeet sl_X12_doMeet rfl rfl rfl rfl (Nat.le_of_ble_eq_true rfl) (mf_rr (Nat.le_trans (by decide) hd) (Nat.le_refl _)) (Nat.le_refl _) is245 (hyp g5 hG) (fun r7 g8 h9 hyp => ?_)
      obtain ⟨hgg, hyp⟩ := hyp
      subst hgg
      refine mf_if_eq (tgt := 54) (mf_dat eX12_qOf 23 rfl) (by decide) (fun hc => ?_) (fun hc => ?_)
      · replace hyp := hyp.1 hc
        refine mf_lconst (v := 0) (mf_dat eX12_qOf 26 rfl) (by decide) ?_
        exact mf_lreturn (mf_dat eX12_qOf 27 rfl) rfl ⟨rfl, hyp⟩
      · replace hyp := hyp.2 hc
        refine mf_lconst (v := 1) (mf_dat eX12_qOf 24 rfl) (by decide) ?_
        refine mf_goto (tgt := 55) (mf_dat eX12_qOf 25 rfl) (by decide) ?_
        exact mf_lreturn (mf_dat eX12_qOf 27 rfl) rfl ⟨rfl, hyp⟩
abbrev BX12_qTold_7 (C : mf_G) (l : Launch) (d : Nat) (K : Int → mf_M → Prop) (x1 x2 : Int) (h : mf_M) : Prop := jM C l d YX12_qTold K 7 [(0, (2, 245)), (1, (0, x1)), (2, (0, x2))] [] h
set_option maxRecDepth 100000 in
set_option maxHeartbeats 4000000 in
theorem vX12_qTold_7 {C : mf_G} {l : Launch} {d : Nat} {K : Int → mf_M → Prop} {x1 x2 : Int} {h : mf_M} (hd : 4 ≤ d) (hyp : ((h 245 95 ≤ x2 → K (h 317 0) h) ∧ (¬ h 245 95 ≤ x2 → 0 ≤ x2 ∧ x2 < 1700 ∧ (∀ v3 : Int, v3 = h 315 x2 → ((v3 < 1000 → ((v3 < 60 → ((v3 < 40 → ((¬ v3 = 13 → ((¬ v3 = 12 → mM C l 1 YX12_qJoins [(2, 245), (0, v3)] h (fun r4 h6 => (∀ v7 : Int, v7 = mf_w32 (x2 + 1) → BX12_qTold_7 C l d K x1 v7 h6))) ∧ (v3 = 12 → 0 ≤ mf_w32 ((h 245 101) - 1) ∧ mf_w32 ((h 245 101) - 1) < 1700 ∧ (∀ h10 : mf_M, h10 = mf_up h 317 (mf_w32 ((h 245 101) - 1)) (mf_w64 (1 - (h 317 (mf_w32 ((h 245 101) - 1))))) → (∀ v11 : Int, v11 = mf_w32 (x2 + 1) → BX12_qTold_7 C l d K x1 v11 h10))))) ∧ (v3 = 13 → mM C l 0 YX12_qPuts [(2, 245), (1, 1)] h (fun r12 h14 => (∀ v15 : Int, v15 = mf_w32 (x2 + 1) → BX12_qTold_7 C l d K x1 v15 h14))))) ∧ (¬ v3 < 40 → mM C l 1 YX12_qPartOf [(2, 245), (0, mf_w32 (v3 - 40)), (0, x1)] h (fun r16 h18 => mM C l 0 YX12_qClip [(1, r16)] h18 (fun r19 h21 => mM C l 0 YX12_qPuts [(2, 245), (1, r19)] h21 (fun r22 h24 => (∀ v25 : Int, v25 = mf_w32 (x2 + 1) → BX12_qTold_7 C l d K x1 v25 h24))))))) ∧ (¬ v3 < 60 → 0 ≤ mf_w32 ((h 245 101) - 1) ∧ mf_w32 ((h 245 101) - 1) < 1700 ∧ mM C l 3 YX12_qOf [(2, 245), (0, mf_w32 (v3 - 60)), (1, h 317 (mf_w32 ((h 245 101) - 1))), (0, x1)] h (fun r28 h30 => mM C l 0 YX12_qClip [(1, r28)] h30 (fun r31 h33 => (∀ h34 : mf_M, h34 = mf_up h33 317 (mf_w32 ((h 245 101) - 1)) r31 → (∀ v35 : Int, v35 = mf_w32 (x2 + 1) → BX12_qTold_7 C l d K x1 v35 h34))))))) ∧ (¬ v3 < 1000 → mM C l 0 YX12_qPuts [(2, 245), (1, mf_w32 (v3 - 1000))] h (fun r36 h38 => (∀ v39 : Int, v39 = mf_w32 (x2 + 1) → BX12_qTold_7 C l d K x1 v39 h38)))))))) : BX12_qTold_7 C l d K x1 x2 h := by
  intro g hG
  refine mf_iload_n (mf_dat eX12_qTold_p0 5 rfl) rfl rfl ?_
  refine mf_aload_n (mf_dat eX12_qTold_p0 6 rfl) rfl rfl ?_
  refine mf_getf (r := (RX12, TX12, 106)) (ci := 12) (k := 95) (t := 0) (v := h 245 95) (mf_dat eX12_qTold_p0 7 rfl) fl_X12_338 rfl (by decide) rfl rfl is245 ?_
  refine mf_icmp_ge (tgt := 168) (mf_dat eX12_qTold_p0 8 rfl) (by decide) (fun hc => ?_) (fun hc => ?_)
  · replace hyp := hyp.1 hc
    refine mf_aload_n (mf_dat eX12_qTold_p1 34 rfl) rfl rfl ?_
    refine mf_getf (r := (RX12, TX12, 106)) (ci := 12) (k := 100) (t := 2) (v := 317) (mf_dat eX12_qTold_p1 35 rfl) fl_X12_234 rfl (by decide) rfl (gm_100 hG) is245 ?_
    refine mf_iconst (v := 0) (mf_dat eX12_qTold_p1 36 rfl) (by decide) ?_
    refine mf_lald (mf_dat eX12_qTold_p1 37 rfl) is317 len317 (by decide) (by decide) ?_
    exact mf_lreturn (mf_dat eX12_qTold_p1 38 rfl) rfl ⟨rfl, hyp⟩
  · replace hyp := hyp.2 hc
    refine mf_aload_n (mf_dat eX12_qTold_p0 9 rfl) rfl rfl ?_
    refine mf_getf (r := (RX12, TX12, 106)) (ci := 12) (k := 94) (t := 2) (v := 315) (mf_dat eX12_qTold_p0 10 rfl) fl_X12_228 rfl (by decide) rfl (gm_94 hG) is245 ?_
    refine mf_iload_n (mf_dat eX12_qTold_p0 11 rfl) rfl rfl ?_
    obtain ⟨ck1, hyp⟩ := hyp
    obtain ⟨ck2, hyp⟩ := hyp
    refine mf_iald (mf_dat eX12_qTold_p0 12 rfl) is315 len315 ck1 ck2 ?_
    generalize qv3 : h 315 x2 = v3
    replace hyp := hyp _ qv3.symm
    refine mf_istore_n (mf_dat eX12_qTold_p0 13 rfl) rfl (by decide) ?_
    refine mf_iload_n (mf_dat eX12_qTold_p0 14 rfl) rfl rfl ?_
    refine mf_sipush (v := 1000) (mf_dat eX12_qTold_p0 15 rfl) (by decide) ?_
    refine mf_icmp_lt (tgt := 42) (mf_dat eX12_qTold_p0 16 rfl) (by decide) (fun hc => ?_) (fun hc => ?_)
    · replace hyp := hyp.1 hc
      refine mf_iload_n (mf_dat eX12_qTold_p0 24 rfl) rfl rfl ?_
      refine mf_bipush (v := 60) (mf_dat eX12_qTold_p0 25 rfl) (by decide) ?_
      refine mf_icmp_lt (tgt := 85) (mf_dat eX12_qTold_p0 26 rfl) (by decide) (fun hc => ?_) (fun hc => ?_)
      · replace hyp := hyp.1 hc
        refine mf_iload_n (mf_dat eX12_qTold_p0 49 rfl) rfl rfl ?_
        refine mf_bipush (v := 40) (mf_dat eX12_qTold_p0 50 rfl) (by decide) ?_
        refine mf_icmp_lt (tgt := 110) (mf_dat eX12_qTold_p0 51 rfl) (by decide) (fun hc => ?_) (fun hc => ?_)
        · replace hyp := hyp.1 hc
          refine mf_iload_n (mf_dat eX12_qTold_p1 2 rfl) rfl rfl ?_
          refine mf_bipush (v := 13) (mf_dat eX12_qTold_p1 3 rfl) (by decide) ?_
          refine mf_icmp_ne (tgt := 124) (mf_dat eX12_qTold_p1 4 rfl) (by decide) (fun hc => ?_) (fun hc => ?_)
          · replace hyp := hyp.1 hc
            refine mf_iload_n (mf_dat eX12_qTold_p1 9 rfl) rfl rfl ?_
            refine mf_bipush (v := 12) (mf_dat eX12_qTold_p1 10 rfl) (by decide) ?_
            refine mf_icmp_ne (tgt := 157) (mf_dat eX12_qTold_p1 11 rfl) (by decide) (fun hc => ?_) (fun hc => ?_)
            · replace hyp := hyp.1 hc
              refine mf_aload_n (mf_dat eX12_qTold_p1 29 rfl) rfl rfl ?_
              refine mf_iload_n (mf_dat eX12_qTold_p1 30 rfl) rfl rfl ?_
              refine mf_callV (Yc := YX12_qJoins) (r := (RX12, TX12, 106)) (ci := 12) (mf_dat eX12_qTold_p1 31 rfl) ml_X12_433 okX12_qJoins im_X12_qJoins sl_X12_qJoins rfl rfl rfl rfl (Nat.le_of_ble_eq_true rfl) (mf_rr (Nat.le_trans (by decide) hd) (Nat.le_refl _)) (Nat.le_refl _) is245 (hyp g hG) (fun r4 g5 h6 hyp => ?_)
              obtain ⟨hgg, hyp⟩ := hyp
              subst hgg
              refine mf_iinc (mf_dat eX12_qTold_p1 32 rfl) rfl (by decide) (by decide) ?_
              generalize qv7 : mf_w32 (x2 + 1) = v7
              replace hyp := hyp _ qv7.symm
              refine mf_goto (tgt := 7) (mf_dat eX12_qTold_p1 33 rfl) (by decide) ?_
              exact mf_sub [2, 3, 0] rfl (hyp g5 hG)
            · replace hyp := hyp.2 hc
              refine mf_aload_n (mf_dat eX12_qTold_p1 12 rfl) rfl rfl ?_
              refine mf_getf (r := (RX12, TX12, 106)) (ci := 12) (k := 100) (t := 2) (v := 317) (mf_dat eX12_qTold_p1 13 rfl) fl_X12_234 rfl (by decide) rfl (gm_100 hG) is245 ?_
              refine mf_aload_n (mf_dat eX12_qTold_p1 14 rfl) rfl rfl ?_
              refine mf_getf (r := (RX12, TX12, 106)) (ci := 12) (k := 101) (t := 0) (v := h 245 101) (mf_dat eX12_qTold_p1 15 rfl) fl_X12_422 rfl (by decide) rfl rfl is245 ?_
              refine mf_iconst (v := 1) (mf_dat eX12_qTold_p1 16 rfl) (by decide) ?_
              refine mf_isub (mf_dat eX12_qTold_p1 17 rfl) ?_
              refine mf_lconst (v := 1) (mf_dat eX12_qTold_p1 18 rfl) (by decide) ?_
              refine mf_aload_n (mf_dat eX12_qTold_p1 19 rfl) rfl rfl ?_
              refine mf_getf (r := (RX12, TX12, 106)) (ci := 12) (k := 100) (t := 2) (v := 317) (mf_dat eX12_qTold_p1 20 rfl) fl_X12_234 rfl (by decide) rfl (gm_100 hG) is245 ?_
              refine mf_aload_n (mf_dat eX12_qTold_p1 21 rfl) rfl rfl ?_
              refine mf_getf (r := (RX12, TX12, 106)) (ci := 12) (k := 101) (t := 0) (v := h 245 101) (mf_dat eX12_qTold_p1 22 rfl) fl_X12_422 rfl (by decide) rfl rfl is245 ?_
              refine mf_iconst (v := 1) (mf_dat eX12_qTold_p1 23 rfl) (by decide) ?_
              refine mf_isub (mf_dat eX12_qTold_p1 24 rfl) ?_
              obtain ⟨ck8, hyp⟩ := hyp
              obtain ⟨ck9, hyp⟩ := hyp
              refine mf_lald (mf_dat eX12_qTold_p1 25 rfl) is317 len317 ck8 ck9 ?_
              refine mf_lsub (mf_dat eX12_qTold_p1 26 rfl) ?_
              refine mf_last (mf_dat eX12_qTold_p1 27 rfl) is317 len317 ck8 ck9 ?_
              generalize qh10 : mf_up h 317 (mf_w32 ((h 245 101) - 1)) (mf_w64 (1 - (h 317 (mf_w32 ((h 245 101) - 1))))) = h10
              replace hyp := hyp _ qh10.symm
              refine mf_goto (tgt := 162) (mf_dat eX12_qTold_p1 28 rfl) (by decide) ?_
              refine mf_iinc (mf_dat eX12_qTold_p1 32 rfl) rfl (by decide) (by decide) ?_
              generalize qv11 : mf_w32 (x2 + 1) = v11
              replace hyp := hyp _ qv11.symm
              refine mf_goto (tgt := 7) (mf_dat eX12_qTold_p1 33 rfl) (by decide) ?_
              exact mf_sub [2, 3, 0] rfl (hyp g hG)
          · replace hyp := hyp.2 hc
            refine mf_aload_n (mf_dat eX12_qTold_p1 5 rfl) rfl rfl ?_
            refine mf_lconst (v := 1) (mf_dat eX12_qTold_p1 6 rfl) (by decide) ?_
            refine mf_callV (Yc := YX12_qPuts) (r := (RX12, TX12, 106)) (ci := 12) (mf_dat eX12_qTold_p1 7 rfl) ml_X12_425 okX12_qPuts im_X12_qPuts sl_X12_qPuts rfl rfl rfl rfl (Nat.le_of_ble_eq_true rfl) (mf_rr (Nat.le_trans (by decide) hd) (Nat.le_refl _)) (Nat.le_refl _) is245 (hyp g hG) (fun r12 g13 h14 hyp => ?_)
            obtain ⟨hgg, hyp⟩ := hyp
            subst hgg
            refine mf_goto (tgt := 162) (mf_dat eX12_qTold_p1 8 rfl) (by decide) ?_
            refine mf_iinc (mf_dat eX12_qTold_p1 32 rfl) rfl (by decide) (by decide) ?_
            generalize qv15 : mf_w32 (x2 + 1) = v15
            replace hyp := hyp _ qv15.symm
            refine mf_goto (tgt := 7) (mf_dat eX12_qTold_p1 33 rfl) (by decide) ?_
            exact mf_sub [2, 3, 0] rfl (hyp g13 hG)
        · replace hyp := hyp.2 hc
          refine mf_aload_n (mf_dat eX12_qTold_p0 52 rfl) rfl rfl ?_
          refine mf_aload_n (mf_dat eX12_qTold_p0 53 rfl) rfl rfl ?_
          refine mf_iload_n (mf_dat eX12_qTold_p0 54 rfl) rfl rfl ?_
          refine mf_bipush (v := 40) (mf_dat eX12_qTold_p0 55 rfl) (by decide) ?_
          refine mf_isub (mf_dat eX12_qTold_p0 56 rfl) ?_
          refine mf_iload_n (mf_dat eX12_qTold_p0 57 rfl) rfl rfl ?_
          refine mf_callV (Yc := YX12_qPartOf) (r := (RX12, TX12, 106)) (ci := 12) (mf_dat eX12_qTold_p0 58 rfl) ml_X12_429 okX12_qPartOf im_X12_qPartOf sl_X12_qPartOf rfl rfl rfl rfl (Nat.le_of_ble_eq_true rfl) (mf_rr (Nat.le_trans (by decide) hd) (Nat.le_refl _)) (Nat.le_refl _) is245 (hyp g hG) (fun r16 g17 h18 hyp => ?_)
          obtain ⟨hgg, hyp⟩ := hyp
          subst hgg
          refine mf_callS (Yc := YX12_qClip) (mf_dat eX12_qTold_p0 59 rfl) ml_X12_636 okX12_qClip sm_X12_qClip rfl rfl (Nat.le_of_ble_eq_true rfl) (mf_rr (Nat.le_trans (by decide) hd) (Nat.le_refl _)) (Nat.le_refl _) (hyp g17 hG) (fun r19 g20 h21 hyp => ?_)
          obtain ⟨hgg, hyp⟩ := hyp
          subst hgg
          refine mf_callV (Yc := YX12_qPuts) (r := (RX12, TX12, 106)) (ci := 12) (mf_dat eX12_qTold_p1 0 rfl) ml_X12_425 okX12_qPuts im_X12_qPuts sl_X12_qPuts rfl rfl rfl rfl (Nat.le_of_ble_eq_true rfl) (mf_rr (Nat.le_trans (by decide) hd) (Nat.le_refl _)) (Nat.le_refl _) is245 (hyp g20 hG) (fun r22 g23 h24 hyp => ?_)
          obtain ⟨hgg, hyp⟩ := hyp
          subst hgg
          refine mf_goto (tgt := 162) (mf_dat eX12_qTold_p1 1 rfl) (by decide) ?_
          refine mf_iinc (mf_dat eX12_qTold_p1 32 rfl) rfl (by decide) (by decide) ?_
          generalize qv25 : mf_w32 (x2 + 1) = v25
          replace hyp := hyp _ qv25.symm
          refine mf_goto (tgt := 7) (mf_dat eX12_qTold_p1 33 rfl) (by decide) ?_
          exact mf_sub [2, 3, 0] rfl (hyp g23 hG)
      · replace hyp := hyp.2 hc
        refine mf_aload_n (mf_dat eX12_qTold_p0 27 rfl) rfl rfl ?_
        refine mf_getf (r := (RX12, TX12, 106)) (ci := 12) (k := 100) (t := 2) (v := 317) (mf_dat eX12_qTold_p0 28 rfl) fl_X12_234 rfl (by decide) rfl (gm_100 hG) is245 ?_
        refine mf_aload_n (mf_dat eX12_qTold_p0 29 rfl) rfl rfl ?_
        refine mf_getf (r := (RX12, TX12, 106)) (ci := 12) (k := 101) (t := 0) (v := h 245 101) (mf_dat eX12_qTold_p0 30 rfl) fl_X12_422 rfl (by decide) rfl rfl is245 ?_
        refine mf_iconst (v := 1) (mf_dat eX12_qTold_p0 31 rfl) (by decide) ?_
        refine mf_isub (mf_dat eX12_qTold_p0 32 rfl) ?_
        refine mf_aload_n (mf_dat eX12_qTold_p0 33 rfl) rfl rfl ?_
        refine mf_iload_n (mf_dat eX12_qTold_p0 34 rfl) rfl rfl ?_
        refine mf_bipush (v := 60) (mf_dat eX12_qTold_p0 35 rfl) (by decide) ?_
        refine mf_isub (mf_dat eX12_qTold_p0 36 rfl) ?_
        refine mf_aload_n (mf_dat eX12_qTold_p0 37 rfl) rfl rfl ?_
        refine mf_getf (r := (RX12, TX12, 106)) (ci := 12) (k := 100) (t := 2) (v := 317) (mf_dat eX12_qTold_p0 38 rfl) fl_X12_234 rfl (by decide) rfl (gm_100 hG) is245 ?_
        refine mf_aload_n (mf_dat eX12_qTold_p0 39 rfl) rfl rfl ?_
        refine mf_getf (r := (RX12, TX12, 106)) (ci := 12) (k := 101) (t := 0) (v := h 245 101) (mf_dat eX12_qTold_p0 40 rfl) fl_X12_422 rfl (by decide) rfl rfl is245 ?_
        refine mf_iconst (v := 1) (mf_dat eX12_qTold_p0 41 rfl) (by decide) ?_
        refine mf_isub (mf_dat eX12_qTold_p0 42 rfl) ?_
        obtain ⟨ck26, hyp⟩ := hyp
        obtain ⟨ck27, hyp⟩ := hyp
        refine mf_lald (mf_dat eX12_qTold_p0 43 rfl) is317 len317 ck26 ck27 ?_
        refine mf_iload_n (mf_dat eX12_qTold_p0 44 rfl) rfl rfl ?_
        refine mf_callV (Yc := YX12_qOf) (r := (RX12, TX12, 106)) (ci := 12) (mf_dat eX12_qTold_p0 45 rfl) ml_X12_644 okX12_qOf im_X12_qOf sl_X12_qOf rfl rfl rfl rfl (Nat.le_of_ble_eq_true rfl) (mf_rr (Nat.le_trans (by decide) hd) (Nat.le_refl _)) (Nat.le_refl _) is245 (hyp g hG) (fun r28 g29 h30 hyp => ?_)
        obtain ⟨hgg, hyp⟩ := hyp
        subst hgg
        refine mf_callS (Yc := YX12_qClip) (mf_dat eX12_qTold_p0 46 rfl) ml_X12_636 okX12_qClip sm_X12_qClip rfl rfl (Nat.le_of_ble_eq_true rfl) (mf_rr (Nat.le_trans (by decide) hd) (Nat.le_refl _)) (Nat.le_refl _) (hyp g29 hG) (fun r31 g32 h33 hyp => ?_)
        obtain ⟨hgg, hyp⟩ := hyp
        subst hgg
        refine mf_last (mf_dat eX12_qTold_p0 47 rfl) is317 len317 ck26 ck27 ?_
        generalize qh34 : mf_up h33 317 (mf_w32 ((h 245 101) - 1)) r31 = h34
        replace hyp := hyp _ qh34.symm
        refine mf_goto (tgt := 162) (mf_dat eX12_qTold_p0 48 rfl) (by decide) ?_
        refine mf_iinc (mf_dat eX12_qTold_p1 32 rfl) rfl (by decide) (by decide) ?_
        generalize qv35 : mf_w32 (x2 + 1) = v35
        replace hyp := hyp _ qv35.symm
        refine mf_goto (tgt := 7) (mf_dat eX12_qTold_p1 33 rfl) (by decide) ?_
        exact mf_sub [2, 3, 0] rfl (hyp g32 hG)
    · replace hyp := hyp.2 hc
      refine mf_aload_n (mf_dat eX12_qTold_p0 17 rfl) rfl rfl ?_
      refine mf_iload_n (mf_dat eX12_qTold_p0 18 rfl) rfl rfl ?_
      refine mf_sipush (v := 1000) (mf_dat eX12_qTold_p0 19 rfl) (by decide) ?_
      refine mf_isub (mf_dat eX12_qTold_p0 20 rfl) ?_
      refine mf_i2l (mf_dat eX12_qTold_p0 21 rfl) ?_
      refine mf_callV (Yc := YX12_qPuts) (r := (RX12, TX12, 106)) (ci := 12) (mf_dat eX12_qTold_p0 22 rfl) ml_X12_425 okX12_qPuts im_X12_qPuts sl_X12_qPuts rfl rfl rfl rfl (Nat.le_of_ble_eq_true rfl) (mf_rr (Nat.le_trans (by decide) hd) (Nat.le_refl _)) (Nat.le_refl _) is245 (hyp g hG) (fun r36 g37 h38 hyp => ?_)
      obtain ⟨hgg, hyp⟩ := hyp
      subst hgg
      refine mf_goto (tgt := 162) (mf_dat eX12_qTold_p0 23 rfl) (by decide) ?_
      refine mf_iinc (mf_dat eX12_qTold_p1 32 rfl) rfl (by decide) (by decide) ?_
      generalize qv39 : mf_w32 (x2 + 1) = v39
      replace hyp := hyp _ qv39.symm
      refine mf_goto (tgt := 7) (mf_dat eX12_qTold_p1 33 rfl) (by decide) ?_
      exact mf_sub [2, 3, 0] rfl (hyp g37 hG)
set_option maxRecDepth 100000 in
set_option maxHeartbeats 4000000 in
theorem wX12_qTold {C : mf_G} {l : Launch} {d : Nat} {K : Int → mf_M → Prop} {x1 : Int} {h : mf_M} (hyp : (∀ h1 : mf_M, h1 = mf_up h 245 101 0 → BX12_qTold_7 C l d K x1 0 h1)) : mM C l d YX12_qTold [(2, 245), (0, x1)] h K := by
  intro g hG
  refine mf_entry (by decide) (Nat.le_of_ble_eq_true rfl) ?_
  refine mf_aload_n (mf_dat eX12_qTold_p0 0 rfl) rfl rfl ?_
  refine mf_iconst (v := 0) (mf_dat eX12_qTold_p0 1 rfl) (by decide) ?_
  refine mf_putI (r := (RX12, TX12, 106)) (ci := 12) (k := 101) (kI := 101) (t := 0) (mf_dat eX12_qTold_p0 2 rfl) fl_X12_422 rfl rfl (by decide) rfl (by decide) rfl (by decide) (fun h9 => absurd h9 (by decide)) is245 ?_
  generalize qh1 : mf_up h 245 101 0 = h1
  replace hyp := hyp _ qh1.symm
  refine mf_iconst (v := 0) (mf_dat eX12_qTold_p0 3 rfl) (by decide) ?_
  refine mf_istore_n (mf_dat eX12_qTold_p0 4 rfl) rfl (by decide) ?_
  exact mf_sub [1, 2, 0] rfl (hyp g hG)
set_option maxRecDepth 100000 in
set_option maxHeartbeats 4000000 in
theorem wX12_qKind {C : mf_G} {l : Launch} {d : Nat} {K : Int → mf_M → Prop} {h : mf_M} (hd : 4 ≤ d) (hyp : mM C l 2 YX12_takes [(2, 245), (2, 293)] h (fun r1 h3 => ((r1 = 0 → mM C l 2 YX12_takes [(2, 245), (2, 294)] h3 (fun r4 h6 => ((r4 = 0 → mM C l 2 YX12_takes [(2, 245), (2, 295)] h6 (fun r7 h9 => ((r7 = 0 → mM C l 2 YX12_takes [(2, 245), (2, 296)] h9 (fun r10 h12 => ((r10 = 0 → mM C l 2 YX12_takes [(2, 245), (2, 297)] h12 (fun r13 h15 => ((r13 = 0 → ((¬ (5 : Int) = 5 → K 5 h15) ∧ ((5 : Int) = 5 → mM C l 3 YX12_asks [(2, 245), (2, 298)] h15 (fun r16 h18 => K 5 h18)))) ∧ (¬ r13 = 0 → ((¬ (4 : Int) = 5 → K 4 h15) ∧ ((4 : Int) = 5 → mM C l 3 YX12_asks [(2, 245), (2, 298)] h15 (fun r19 h21 => K 4 h21))))))) ∧ (¬ r10 = 0 → ((¬ (3 : Int) = 5 → K 3 h12) ∧ ((3 : Int) = 5 → mM C l 3 YX12_asks [(2, 245), (2, 298)] h12 (fun r22 h24 => K 3 h24))))))) ∧ (¬ r7 = 0 → ((¬ (2 : Int) = 5 → K 2 h9) ∧ ((2 : Int) = 5 → mM C l 3 YX12_asks [(2, 245), (2, 298)] h9 (fun r25 h27 => K 2 h27))))))) ∧ (¬ r4 = 0 → ((¬ (1 : Int) = 5 → K 1 h6) ∧ ((1 : Int) = 5 → mM C l 3 YX12_asks [(2, 245), (2, 298)] h6 (fun r28 h30 => K 1 h30))))))) ∧ (¬ r1 = 0 → ((¬ (0 : Int) = 5 → K 0 h3) ∧ ((0 : Int) = 5 → mM C l 3 YX12_asks [(2, 245), (2, 298)] h3 (fun r31 h33 => K 0 h33))))))) : mM C l d YX12_qKind [(2, 245)] h K := by
  intro g hG
  refine mf_entry (by decide) (Nat.le_of_ble_eq_true rfl) ?_
  refine mf_aload_n (mf_dat eX12_qKind 0 rfl) rfl rfl ?_
  refine mf_aload_n (mf_dat eX12_qKind 1 rfl) rfl rfl ?_
  refine mf_getf (r := (RX12, TX12, 106)) (ci := 12) (k := 72) (t := 2) (v := 293) (mf_dat eX12_qKind 2 rfl) fl_X12_162 rfl (by decide) rfl (gm_72 hG) is245 ?_
  refine mf_callV (Yc := YX12_takes) (r := (RX12, TX12, 106)) (ci := 12) (mf_dat eX12_qKind 3 rfl) ml_X12_270 okX12_takes im_X12_takes sl_X12_takes rfl rfl rfl rfl (Nat.le_of_ble_eq_true rfl) (mf_rr (Nat.le_trans (by decide) hd) (Nat.le_refl _)) (Nat.le_refl _) is245 (hyp g hG) (fun r1 g2 h3 hyp => ?_)
  obtain ⟨hgg, hyp⟩ := hyp
  subst hgg
  refine mf_if_eq (tgt := 15) (mf_dat eX12_qKind 4 rfl) (by decide) (fun hc => ?_) (fun hc => ?_)
  · replace hyp := hyp.1 hc
    refine mf_aload_n (mf_dat eX12_qKind 7 rfl) rfl rfl ?_
    refine mf_aload_n (mf_dat eX12_qKind 8 rfl) rfl rfl ?_
    refine mf_getf (r := (RX12, TX12, 106)) (ci := 12) (k := 73) (t := 2) (v := 294) (mf_dat eX12_qKind 9 rfl) fl_X12_165 rfl (by decide) rfl (gm_73 hG) is245 ?_
    refine mf_callV (Yc := YX12_takes) (r := (RX12, TX12, 106)) (ci := 12) (mf_dat eX12_qKind 10 rfl) ml_X12_270 okX12_takes im_X12_takes sl_X12_takes rfl rfl rfl rfl (Nat.le_of_ble_eq_true rfl) (mf_rr (Nat.le_trans (by decide) hd) (Nat.le_refl _)) (Nat.le_refl _) is245 (hyp g2 hG) (fun r4 g5 h6 hyp => ?_)
    obtain ⟨hgg, hyp⟩ := hyp
    subst hgg
    refine mf_if_eq (tgt := 30) (mf_dat eX12_qKind 11 rfl) (by decide) (fun hc => ?_) (fun hc => ?_)
    · replace hyp := hyp.1 hc
      refine mf_aload_n (mf_dat eX12_qKind 14 rfl) rfl rfl ?_
      refine mf_aload_n (mf_dat eX12_qKind 15 rfl) rfl rfl ?_
      refine mf_getf (r := (RX12, TX12, 106)) (ci := 12) (k := 74) (t := 2) (v := 295) (mf_dat eX12_qKind 16 rfl) fl_X12_168 rfl (by decide) rfl (gm_74 hG) is245 ?_
      refine mf_callV (Yc := YX12_takes) (r := (RX12, TX12, 106)) (ci := 12) (mf_dat eX12_qKind 17 rfl) ml_X12_270 okX12_takes im_X12_takes sl_X12_takes rfl rfl rfl rfl (Nat.le_of_ble_eq_true rfl) (mf_rr (Nat.le_trans (by decide) hd) (Nat.le_refl _)) (Nat.le_refl _) is245 (hyp g5 hG) (fun r7 g8 h9 hyp => ?_)
      obtain ⟨hgg, hyp⟩ := hyp
      subst hgg
      refine mf_if_eq (tgt := 45) (mf_dat eX12_qKind 18 rfl) (by decide) (fun hc => ?_) (fun hc => ?_)
      · replace hyp := hyp.1 hc
        refine mf_aload_n (mf_dat eX12_qKind 21 rfl) rfl rfl ?_
        refine mf_aload_n (mf_dat eX12_qKind 22 rfl) rfl rfl ?_
        refine mf_getf (r := (RX12, TX12, 106)) (ci := 12) (k := 75) (t := 2) (v := 296) (mf_dat eX12_qKind 23 rfl) fl_X12_171 rfl (by decide) rfl (gm_75 hG) is245 ?_
        refine mf_callV (Yc := YX12_takes) (r := (RX12, TX12, 106)) (ci := 12) (mf_dat eX12_qKind 24 rfl) ml_X12_270 okX12_takes im_X12_takes sl_X12_takes rfl rfl rfl rfl (Nat.le_of_ble_eq_true rfl) (mf_rr (Nat.le_trans (by decide) hd) (Nat.le_refl _)) (Nat.le_refl _) is245 (hyp g8 hG) (fun r10 g11 h12 hyp => ?_)
        obtain ⟨hgg, hyp⟩ := hyp
        subst hgg
        refine mf_if_eq (tgt := 60) (mf_dat eX12_qKind 25 rfl) (by decide) (fun hc => ?_) (fun hc => ?_)
        · replace hyp := hyp.1 hc
          refine mf_aload_n (mf_dat eX12_qKind 28 rfl) rfl rfl ?_
          refine mf_aload_n (mf_dat eX12_qKind 29 rfl) rfl rfl ?_
          refine mf_getf (r := (RX12, TX12, 106)) (ci := 12) (k := 76) (t := 2) (v := 297) (mf_dat eX12_qKind 30 rfl) fl_X12_174 rfl (by decide) rfl (gm_76 hG) is245 ?_
          refine mf_callV (Yc := YX12_takes) (r := (RX12, TX12, 106)) (ci := 12) (mf_dat eX12_qKind 31 rfl) ml_X12_270 okX12_takes im_X12_takes sl_X12_takes rfl rfl rfl rfl (Nat.le_of_ble_eq_true rfl) (mf_rr (Nat.le_trans (by decide) hd) (Nat.le_refl _)) (Nat.le_refl _) is245 (hyp g11 hG) (fun r13 g14 h15 hyp => ?_)
          obtain ⟨hgg, hyp⟩ := hyp
          subst hgg
          refine mf_if_eq (tgt := 75) (mf_dat eX12_qKind 32 rfl) (by decide) (fun hc => ?_) (fun hc => ?_)
          · replace hyp := hyp.1 hc
            refine mf_iconst (v := 5) (mf_dat eX12_qKind 35 rfl) (by decide) ?_
            refine mf_istore_n (mf_dat eX12_qKind 36 rfl) rfl (by decide) ?_
            refine mf_iload_n (mf_dat eX12_qKind 37 rfl) rfl rfl ?_
            refine mf_iconst (v := 5) (mf_dat eX12_qKind 38 rfl) (by decide) ?_
            refine mf_icmp_ne (tgt := 90) (mf_dat eX12_qKind 39 rfl) (by decide) (fun hc => ?_) (fun hc => ?_)
            · replace hyp := hyp.1 hc
              refine mf_iload_n (mf_dat eX12_qKind 44 rfl) rfl rfl ?_
              exact mf_ireturn (mf_dat eX12_qKind 45 rfl) rfl (Or.inl rfl) ⟨rfl, hyp⟩
            · replace hyp := hyp.2 hc
              refine mf_aload_n (mf_dat eX12_qKind 40 rfl) rfl rfl ?_
              refine mf_aload_n (mf_dat eX12_qKind 41 rfl) rfl rfl ?_
              refine mf_getf (r := (RX12, TX12, 106)) (ci := 12) (k := 77) (t := 2) (v := 298) (mf_dat eX12_qKind 42 rfl) fl_X12_177 rfl (by decide) rfl (gm_77 hG) is245 ?_
              refine mf_callV (Yc := YX12_asks) (r := (RX12, TX12, 106)) (ci := 12) (mf_dat eX12_qKind 43 rfl) ml_X12_304 okX12_asks im_X12_asks sl_X12_asks rfl rfl rfl rfl (Nat.le_of_ble_eq_true rfl) (mf_rr (Nat.le_trans (by decide) hd) (Nat.le_refl _)) (Nat.le_refl _) is245 (hyp g14 hG) (fun r16 g17 h18 hyp => ?_)
              obtain ⟨hgg, hyp⟩ := hyp
              subst hgg
              refine mf_iload_n (mf_dat eX12_qKind 44 rfl) rfl rfl ?_
              exact mf_ireturn (mf_dat eX12_qKind 45 rfl) rfl (Or.inl rfl) ⟨rfl, hyp⟩
          · replace hyp := hyp.2 hc
            refine mf_iconst (v := 4) (mf_dat eX12_qKind 33 rfl) (by decide) ?_
            refine mf_goto (tgt := 76) (mf_dat eX12_qKind 34 rfl) (by decide) ?_
            refine mf_istore_n (mf_dat eX12_qKind 36 rfl) rfl (by decide) ?_
            refine mf_iload_n (mf_dat eX12_qKind 37 rfl) rfl rfl ?_
            refine mf_iconst (v := 5) (mf_dat eX12_qKind 38 rfl) (by decide) ?_
            refine mf_icmp_ne (tgt := 90) (mf_dat eX12_qKind 39 rfl) (by decide) (fun hc => ?_) (fun hc => ?_)
            · replace hyp := hyp.1 hc
              refine mf_iload_n (mf_dat eX12_qKind 44 rfl) rfl rfl ?_
              exact mf_ireturn (mf_dat eX12_qKind 45 rfl) rfl (Or.inl rfl) ⟨rfl, hyp⟩
            · replace hyp := hyp.2 hc
              refine mf_aload_n (mf_dat eX12_qKind 40 rfl) rfl rfl ?_
              refine mf_aload_n (mf_dat eX12_qKind 41 rfl) rfl rfl ?_
              refine mf_getf (r := (RX12, TX12, 106)) (ci := 12) (k := 77) (t := 2) (v := 298) (mf_dat eX12_qKind 42 rfl) fl_X12_177 rfl (by decide) rfl (gm_77 hG) is245 ?_
              refine mf_callV (Yc := YX12_asks) (r := (RX12, TX12, 106)) (ci := 12) (mf_dat eX12_qKind 43 rfl) ml_X12_304 okX12_asks im_X12_asks sl_X12_asks rfl rfl rfl rfl (Nat.le_of_ble_eq_true rfl) (mf_rr (Nat.le_trans (by decide) hd) (Nat.le_refl _)) (Nat.le_refl _) is245 (hyp g14 hG) (fun r19 g20 h21 hyp => ?_)
              obtain ⟨hgg, hyp⟩ := hyp
              subst hgg
              refine mf_iload_n (mf_dat eX12_qKind 44 rfl) rfl rfl ?_
              exact mf_ireturn (mf_dat eX12_qKind 45 rfl) rfl (Or.inl rfl) ⟨rfl, hyp⟩
        · replace hyp := hyp.2 hc
          refine mf_iconst (v := 3) (mf_dat eX12_qKind 26 rfl) (by decide) ?_
          refine mf_goto (tgt := 76) (mf_dat eX12_qKind 27 rfl) (by decide) ?_
          refine mf_istore_n (mf_dat eX12_qKind 36 rfl) rfl (by decide) ?_
          refine mf_iload_n (mf_dat eX12_qKind 37 rfl) rfl rfl ?_
          refine mf_iconst (v := 5) (mf_dat eX12_qKind 38 rfl) (by decide) ?_
          refine mf_icmp_ne (tgt := 90) (mf_dat eX12_qKind 39 rfl) (by decide) (fun hc => ?_) (fun hc => ?_)
          · replace hyp := hyp.1 hc
            refine mf_iload_n (mf_dat eX12_qKind 44 rfl) rfl rfl ?_
            exact mf_ireturn (mf_dat eX12_qKind 45 rfl) rfl (Or.inl rfl) ⟨rfl, hyp⟩
          · replace hyp := hyp.2 hc
            refine mf_aload_n (mf_dat eX12_qKind 40 rfl) rfl rfl ?_
            refine mf_aload_n (mf_dat eX12_qKind 41 rfl) rfl rfl ?_
            refine mf_getf (r := (RX12, TX12, 106)) (ci := 12) (k := 77) (t := 2) (v := 298) (mf_dat eX12_qKind 42 rfl) fl_X12_177 rfl (by decide) rfl (gm_77 hG) is245 ?_
            refine mf_callV (Yc := YX12_asks) (r := (RX12, TX12, 106)) (ci := 12) (mf_dat eX12_qKind 43 rfl) ml_X12_304 okX12_asks im_X12_asks sl_X12_asks rfl rfl rfl rfl (Nat.le_of_ble_eq_true rfl) (mf_rr (Nat.le_trans (by decide) hd) (Nat.le_refl _)) (Nat.le_refl _) is245 (hyp g11 hG) (fun r22 g23 h24 hyp => ?_)
            obtain ⟨hgg, hyp⟩ := hyp
            subst hgg
            refine mf_iload_n (mf_dat eX12_qKind 44 rfl) rfl rfl ?_
            exact mf_ireturn (mf_dat eX12_qKind 45 rfl) rfl (Or.inl rfl) ⟨rfl, hyp⟩
      · replace hyp := hyp.2 hc
        refine mf_iconst (v := 2) (mf_dat eX12_qKind 19 rfl) (by decide) ?_
        refine mf_goto (tgt := 76) (mf_dat eX12_qKind 20 rfl) (by decide) ?_
        refine mf_istore_n (mf_dat eX12_qKind 36 rfl) rfl (by decide) ?_
        refine mf_iload_n (mf_dat eX12_qKind 37 rfl) rfl rfl ?_
        refine mf_iconst (v := 5) (mf_dat eX12_qKind 38 rfl) (by decide) ?_
        refine mf_icmp_ne (tgt := 90) (mf_dat eX12_qKind 39 rfl) (by decide) (fun hc => ?_) (fun hc => ?_)
        · replace hyp := hyp.1 hc
          refine mf_iload_n (mf_dat eX12_qKind 44 rfl) rfl rfl ?_
          exact mf_ireturn (mf_dat eX12_qKind 45 rfl) rfl (Or.inl rfl) ⟨rfl, hyp⟩
        · replace hyp := hyp.2 hc
          refine mf_aload_n (mf_dat eX12_qKind 40 rfl) rfl rfl ?_
          refine mf_aload_n (mf_dat eX12_qKind 41 rfl) rfl rfl ?_
          refine mf_getf (r := (RX12, TX12, 106)) (ci := 12) (k := 77) (t := 2) (v := 298) (mf_dat eX12_qKind 42 rfl) fl_X12_177 rfl (by decide) rfl (gm_77 hG) is245 ?_
          refine mf_callV (Yc := YX12_asks) (r := (RX12, TX12, 106)) (ci := 12) (mf_dat eX12_qKind 43 rfl) ml_X12_304 okX12_asks im_X12_asks sl_X12_asks rfl rfl rfl rfl (Nat.le_of_ble_eq_true rfl) (mf_rr (Nat.le_trans (by decide) hd) (Nat.le_refl _)) (Nat.le_refl _) is245 (hyp g8 hG) (fun r25 g26 h27 hyp => ?_)
          obtain ⟨hgg, hyp⟩ := hyp
          subst hgg
          refine mf_iload_n (mf_dat eX12_qKind 44 rfl) rfl rfl ?_
          exact mf_ireturn (mf_dat eX12_qKind 45 rfl) rfl (Or.inl rfl) ⟨rfl, hyp⟩
    · replace hyp := hyp.2 hc
      refine mf_iconst (v := 1) (mf_dat eX12_qKind 12 rfl) (by decide) ?_
      refine mf_goto (tgt := 76) (mf_dat eX12_qKind 13 rfl) (by decide) ?_
      refine mf_istore_n (mf_dat eX12_qKind 36 rfl) rfl (by decide) ?_
      refine mf_iload_n (mf_dat eX12_qKind 37 rfl) rfl rfl ?_
      refine mf_iconst (v := 5) (mf_dat eX12_qKind 38 rfl) (by decide) ?_
      refine mf_icmp_ne (tgt := 90) (mf_dat eX12_qKind 39 rfl) (by decide) (fun hc => ?_) (fun hc => ?_)
      · replace hyp := hyp.1 hc
        refine mf_iload_n (mf_dat eX12_qKind 44 rfl) rfl rfl ?_
        exact mf_ireturn (mf_dat eX12_qKind 45 rfl) rfl (Or.inl rfl) ⟨rfl, hyp⟩
      · replace hyp := hyp.2 hc
        refine mf_aload_n (mf_dat eX12_qKind 40 rfl) rfl rfl ?_
        refine mf_aload_n (mf_dat eX12_qKind 41 rfl) rfl rfl ?_
        refine mf_getf (r := (RX12, TX12, 106)) (ci := 12) (k := 77) (t := 2) (v := 298) (mf_dat eX12_qKind 42 rfl) fl_X12_177 rfl (by decide) rfl (gm_77 hG) is245 ?_
        refine mf_callV (Yc := YX12_asks) (r := (RX12, TX12, 106)) (ci := 12) (mf_dat eX12_qKind 43 rfl) ml_X12_304 okX12_asks im_X12_asks sl_X12_asks rfl rfl rfl rfl (Nat.le_of_ble_eq_true rfl) (mf_rr (Nat.le_trans (by decide) hd) (Nat.le_refl _)) (Nat.le_refl _) is245 (hyp g5 hG) (fun r28 g29 h30 hyp => ?_)
        obtain ⟨hgg, hyp⟩ := hyp
        subst hgg
        refine mf_iload_n (mf_dat eX12_qKind 44 rfl) rfl rfl ?_
        exact mf_ireturn (mf_dat eX12_qKind 45 rfl) rfl (Or.inl rfl) ⟨rfl, hyp⟩
  · replace hyp := hyp.2 hc
    refine mf_iconst (v := 0) (mf_dat eX12_qKind 5 rfl) (by decide) ?_
    refine mf_goto (tgt := 76) (mf_dat eX12_qKind 6 rfl) (by decide) ?_
    refine mf_istore_n (mf_dat eX12_qKind 36 rfl) rfl (by decide) ?_
    refine mf_iload_n (mf_dat eX12_qKind 37 rfl) rfl rfl ?_
    refine mf_iconst (v := 5) (mf_dat eX12_qKind 38 rfl) (by decide) ?_
    refine mf_icmp_ne (tgt := 90) (mf_dat eX12_qKind 39 rfl) (by decide) (fun hc => ?_) (fun hc => ?_)
    · replace hyp := hyp.1 hc
      refine mf_iload_n (mf_dat eX12_qKind 44 rfl) rfl rfl ?_
      exact mf_ireturn (mf_dat eX12_qKind 45 rfl) rfl (Or.inl rfl) ⟨rfl, hyp⟩
    · replace hyp := hyp.2 hc
      refine mf_aload_n (mf_dat eX12_qKind 40 rfl) rfl rfl ?_
      refine mf_aload_n (mf_dat eX12_qKind 41 rfl) rfl rfl ?_
      refine mf_getf (r := (RX12, TX12, 106)) (ci := 12) (k := 77) (t := 2) (v := 298) (mf_dat eX12_qKind 42 rfl) fl_X12_177 rfl (by decide) rfl (gm_77 hG) is245 ?_
      refine mf_callV (Yc := YX12_asks) (r := (RX12, TX12, 106)) (ci := 12) (mf_dat eX12_qKind 43 rfl) ml_X12_304 okX12_asks im_X12_asks sl_X12_asks rfl rfl rfl rfl (Nat.le_of_ble_eq_true rfl) (mf_rr (Nat.le_trans (by decide) hd) (Nat.le_refl _)) (Nat.le_refl _) is245 (hyp g2 hG) (fun r31 g32 h33 hyp => ?_)
      obtain ⟨hgg, hyp⟩ := hyp
      subst hgg
      refine mf_iload_n (mf_dat eX12_qKind 44 rfl) rfl rfl ?_
      exact mf_ireturn (mf_dat eX12_qKind 45 rfl) rfl (Or.inl rfl) ⟨rfl, hyp⟩
abbrev BX12_qTakes_16 (C : mf_G) (l : Launch) (d : Nat) (K : Int → mf_M → Prop) (x1 x2 x4 s0 : Int) (h : mf_M) : Prop := jM C l d YX12_qTakes K 16 [(0, (2, 245)), (1, (0, x1)), (2, (1, x2)), (4, (0, x4))] [(0, s0)] h
abbrev BX12_qTakes_55 (C : mf_G) (l : Launch) (d : Nat) (K : Int → mf_M → Prop) (x1 x2 x5 : Int) (h : mf_M) : Prop := jM C l d YX12_qTakes K 55 [(0, (2, 245)), (1, (0, x1)), (2, (1, x2)), (5, (0, x5))] [] h
abbrev BX12_qTakes_90 (C : mf_G) (l : Launch) (d : Nat) (K : Int → mf_M → Prop) (x1 x2 : Int) (h : mf_M) : Prop := jM C l d YX12_qTakes K 90 [(0, (2, 245)), (1, (0, x1)), (2, (1, x2))] [] h
set_option maxRecDepth 100000 in
set_option maxHeartbeats 4000000 in
theorem vX12_qTakes_16 {C : mf_G} {l : Launch} {d : Nat} {K : Int → mf_M → Prop} {x1 x2 x4 s0 : Int} {h : mf_M} (hyp : ((¬ x1 = 0 → ((¬ x1 = 1 → BX12_qTakes_55 C l d K x1 x2 s0 h) ∧ (x1 = 1 → ((s0 = 0 → BX12_qTakes_55 C l d K x1 x2 s0 h) ∧ (¬ s0 = 0 → (∀ h1 : mf_M, h1 = mf_up h 245 102 x4 → BX12_qTakes_55 C l d K x1 x2 s0 h1)))))) ∧ (x1 = 0 → ((s0 = 0 → ((¬ x1 = 1 → BX12_qTakes_55 C l d K x1 x2 s0 h) ∧ (x1 = 1 → ((s0 = 0 → BX12_qTakes_55 C l d K x1 x2 s0 h) ∧ (¬ s0 = 0 → (∀ h2 : mf_M, h2 = mf_up h 245 102 x4 → BX12_qTakes_55 C l d K x1 x2 s0 h2)))))) ∧ (¬ s0 = 0 → ((h 245 102 = (-1) → (∀ h3 : mf_M, h3 = mf_up h 245 102 x4 → BX12_qTakes_55 C l d K x1 x2 s0 h3)) ∧ (¬ h 245 102 = (-1) → ((¬ x1 = 1 → BX12_qTakes_55 C l d K x1 x2 s0 h) ∧ (x1 = 1 → ((s0 = 0 → BX12_qTakes_55 C l d K x1 x2 s0 h) ∧ (¬ s0 = 0 → (∀ h4 : mf_M, h4 = mf_up h 245 102 x4 → BX12_qTakes_55 C l d K x1 x2 s0 h4)))))))))))) : BX12_qTakes_16 C l d K x1 x2 x4 s0 h := by
  intro g hG
  refine mf_istore (mf_dat eX12_qTakes_p0 10 rfl) (by decide) ?_
  refine mf_iload_n (mf_dat eX12_qTakes_p0 11 rfl) rfl rfl ?_
  refine mf_if_ne (tgt := 38) (mf_dat eX12_qTakes_p0 12 rfl) (by decide) (fun hc => ?_) (fun hc => ?_)
  · replace hyp := hyp.1 hc
    refine mf_iload_n (mf_dat eX12_qTakes_p0 20 rfl) rfl rfl ?_
    refine mf_iconst (v := 1) (mf_dat eX12_qTakes_p0 21 rfl) (by decide) ?_
    refine mf_icmp_ne (tgt := 55) (mf_dat eX12_qTakes_p0 22 rfl) (by decide) (fun hc => ?_) (fun hc => ?_)
    · replace hyp := hyp.1 hc
      exact mf_sub [1, 2, 3, 0] rfl (hyp g hG)
    · replace hyp := hyp.2 hc
      refine mf_iload (mf_dat eX12_qTakes_p0 23 rfl) rfl ?_
      refine mf_if_eq (tgt := 55) (mf_dat eX12_qTakes_p0 24 rfl) (by decide) (fun hc => ?_) (fun hc => ?_)
      · replace hyp := hyp.1 hc
        exact mf_sub [1, 2, 3, 0] rfl (hyp g hG)
      · replace hyp := hyp.2 hc
        refine mf_aload_n (mf_dat eX12_qTakes_p0 25 rfl) rfl rfl ?_
        refine mf_iload (mf_dat eX12_qTakes_p0 26 rfl) rfl ?_
        refine mf_i2l (mf_dat eX12_qTakes_p0 27 rfl) ?_
        refine mf_putI (r := (RX12, TX12, 106)) (ci := 12) (k := 102) (kI := 102) (t := 1) (mf_dat eX12_qTakes_p0 28 rfl) fl_X12_648 rfl rfl (by decide) rfl (by decide) rfl (by decide) (fun h9 => absurd h9 (by decide)) is245 ?_
        generalize qh1 : mf_up h 245 102 x4 = h1
        replace hyp := hyp _ qh1.symm
        exact mf_sub [1, 2, 3, 0] rfl (hyp g hG)
  · replace hyp := hyp.2 hc
    refine mf_iload (mf_dat eX12_qTakes_p0 13 rfl) rfl ?_
    refine mf_if_eq (tgt := 38) (mf_dat eX12_qTakes_p0 14 rfl) (by decide) (fun hc => ?_) (fun hc => ?_)
    · replace hyp := hyp.1 hc
      refine mf_iload_n (mf_dat eX12_qTakes_p0 20 rfl) rfl rfl ?_
      refine mf_iconst (v := 1) (mf_dat eX12_qTakes_p0 21 rfl) (by decide) ?_
      refine mf_icmp_ne (tgt := 55) (mf_dat eX12_qTakes_p0 22 rfl) (by decide) (fun hc => ?_) (fun hc => ?_)
      · replace hyp := hyp.1 hc
        exact mf_sub [1, 2, 3, 0] rfl (hyp g hG)
      · replace hyp := hyp.2 hc
        refine mf_iload (mf_dat eX12_qTakes_p0 23 rfl) rfl ?_
        refine mf_if_eq (tgt := 55) (mf_dat eX12_qTakes_p0 24 rfl) (by decide) (fun hc => ?_) (fun hc => ?_)
        · replace hyp := hyp.1 hc
          exact mf_sub [1, 2, 3, 0] rfl (hyp g hG)
        · replace hyp := hyp.2 hc
          refine mf_aload_n (mf_dat eX12_qTakes_p0 25 rfl) rfl rfl ?_
          refine mf_iload (mf_dat eX12_qTakes_p0 26 rfl) rfl ?_
          refine mf_i2l (mf_dat eX12_qTakes_p0 27 rfl) ?_
          refine mf_putI (r := (RX12, TX12, 106)) (ci := 12) (k := 102) (kI := 102) (t := 1) (mf_dat eX12_qTakes_p0 28 rfl) fl_X12_648 rfl rfl (by decide) rfl (by decide) rfl (by decide) (fun h9 => absurd h9 (by decide)) is245 ?_
          generalize qh2 : mf_up h 245 102 x4 = h2
          replace hyp := hyp _ qh2.symm
          exact mf_sub [1, 2, 3, 0] rfl (hyp g hG)
    · replace hyp := hyp.2 hc
      refine mf_aload_n (mf_dat eX12_qTakes_p0 15 rfl) rfl rfl ?_
      refine mf_getf (r := (RX12, TX12, 106)) (ci := 12) (k := 102) (t := 1) (v := h 245 102) (mf_dat eX12_qTakes_p0 16 rfl) fl_X12_648 rfl (by decide) rfl rfl is245 ?_
      refine mf_ldc2 (v := (-1)) cl_X12_512 (mf_dat eX12_qTakes_p0 17 rfl) (by decide) ?_
      refine mf_lcmp_eq (tgt := 48) (mf_dat eX12_qTakes_p0 18 rfl) (mf_dat eX12_qTakes_p0 19 rfl) (by decide) (fun hc => ?_) (fun hc => ?_)
      · replace hyp := hyp.1 hc
        refine mf_aload_n (mf_dat eX12_qTakes_p0 25 rfl) rfl rfl ?_
        refine mf_iload (mf_dat eX12_qTakes_p0 26 rfl) rfl ?_
        refine mf_i2l (mf_dat eX12_qTakes_p0 27 rfl) ?_
        refine mf_putI (r := (RX12, TX12, 106)) (ci := 12) (k := 102) (kI := 102) (t := 1) (mf_dat eX12_qTakes_p0 28 rfl) fl_X12_648 rfl rfl (by decide) rfl (by decide) rfl (by decide) (fun h9 => absurd h9 (by decide)) is245 ?_
        generalize qh3 : mf_up h 245 102 x4 = h3
        replace hyp := hyp _ qh3.symm
        exact mf_sub [1, 2, 3, 0] rfl (hyp g hG)
      · replace hyp := hyp.2 hc
        refine mf_iload_n (mf_dat eX12_qTakes_p0 20 rfl) rfl rfl ?_
        refine mf_iconst (v := 1) (mf_dat eX12_qTakes_p0 21 rfl) (by decide) ?_
        refine mf_icmp_ne (tgt := 55) (mf_dat eX12_qTakes_p0 22 rfl) (by decide) (fun hc => ?_) (fun hc => ?_)
        · replace hyp := hyp.1 hc
          exact mf_sub [1, 2, 3, 0] rfl (hyp g hG)
        · replace hyp := hyp.2 hc
          refine mf_iload (mf_dat eX12_qTakes_p0 23 rfl) rfl ?_
          refine mf_if_eq (tgt := 55) (mf_dat eX12_qTakes_p0 24 rfl) (by decide) (fun hc => ?_) (fun hc => ?_)
          · replace hyp := hyp.1 hc
            exact mf_sub [1, 2, 3, 0] rfl (hyp g hG)
          · replace hyp := hyp.2 hc
            refine mf_aload_n (mf_dat eX12_qTakes_p0 25 rfl) rfl rfl ?_
            refine mf_iload (mf_dat eX12_qTakes_p0 26 rfl) rfl ?_
            refine mf_i2l (mf_dat eX12_qTakes_p0 27 rfl) ?_
            refine mf_putI (r := (RX12, TX12, 106)) (ci := 12) (k := 102) (kI := 102) (t := 1) (mf_dat eX12_qTakes_p0 28 rfl) fl_X12_648 rfl rfl (by decide) rfl (by decide) rfl (by decide) (fun h9 => absurd h9 (by decide)) is245 ?_
            generalize qh4 : mf_up h 245 102 x4 = h4
            replace hyp := hyp _ qh4.symm
            exact mf_sub [1, 2, 3, 0] rfl (hyp g hG)
set_option maxRecDepth 100000 in
set_option maxHeartbeats 4000000 in
theorem vX12_qTakes_55 {C : mf_G} {l : Launch} {d : Nat} {K : Int → mf_M → Prop} {x1 x2 x5 : Int} {h : mf_M} (hyp : ((¬ x1 = 2 → ((¬ x1 = 3 → BX12_qTakes_90 C l d K x1 x2 h) ∧ (x1 = 3 → (∀ h1 : mf_M, h1 = mf_up h 245 102 (mf_w64 ((h 245 102) + x2)) → BX12_qTakes_90 C l d K x1 x2 h1)))) ∧ (x1 = 2 → ((x5 = 0 → ((¬ x1 = 3 → BX12_qTakes_90 C l d K x1 x2 h) ∧ (x1 = 3 → (∀ h2 : mf_M, h2 = mf_up h 245 102 (mf_w64 ((h 245 102) + x2)) → BX12_qTakes_90 C l d K x1 x2 h2)))) ∧ (¬ x5 = 0 → (∀ h3 : mf_M, h3 = mf_up h 245 102 (mf_w64 ((h 245 102) + 1)) → ((¬ x1 = 3 → BX12_qTakes_90 C l d K x1 x2 h3) ∧ (x1 = 3 → (∀ h4 : mf_M, h4 = mf_up h3 245 102 (mf_w64 ((h3 245 102) + x2)) → BX12_qTakes_90 C l d K x1 x2 h4))))))))) : BX12_qTakes_55 C l d K x1 x2 x5 h := by
  intro g hG
  refine mf_iload_n (mf_dat eX12_qTakes_p0 29 rfl) rfl rfl ?_
  refine mf_iconst (v := 2) (mf_dat eX12_qTakes_p0 30 rfl) (by decide) ?_
  refine mf_icmp_ne (tgt := 75) (mf_dat eX12_qTakes_p0 31 rfl) (by decide) (fun hc => ?_) (fun hc => ?_)
  · replace hyp := hyp.1 hc
    refine mf_iload_n (mf_dat eX12_qTakes_p0 40 rfl) rfl rfl ?_
    refine mf_iconst (v := 3) (mf_dat eX12_qTakes_p0 41 rfl) (by decide) ?_
    refine mf_icmp_ne (tgt := 90) (mf_dat eX12_qTakes_p0 42 rfl) (by decide) (fun hc => ?_) (fun hc => ?_)
    · replace hyp := hyp.1 hc
      exact mf_sub [0, 1, 2] rfl (hyp g hG)
    · replace hyp := hyp.2 hc
      refine mf_aload_n (mf_dat eX12_qTakes_p0 43 rfl) rfl rfl ?_
      refine mf_dup (mf_dat eX12_qTakes_p0 44 rfl) (by decide) ?_
      refine mf_getf (r := (RX12, TX12, 106)) (ci := 12) (k := 102) (t := 1) (v := h 245 102) (mf_dat eX12_qTakes_p0 45 rfl) fl_X12_648 rfl (by decide) rfl rfl is245 ?_
      refine mf_lload_n (mf_dat eX12_qTakes_p0 46 rfl) rfl rfl ?_
      refine mf_ladd (mf_dat eX12_qTakes_p0 47 rfl) ?_
      refine mf_putI (r := (RX12, TX12, 106)) (ci := 12) (k := 102) (kI := 102) (t := 1) (mf_dat eX12_qTakes_p0 48 rfl) fl_X12_648 rfl rfl (by decide) rfl (by decide) rfl (by decide) (fun h9 => absurd h9 (by decide)) is245 ?_
      generalize qh1 : mf_up h 245 102 (mf_w64 ((h 245 102) + x2)) = h1
      replace hyp := hyp _ qh1.symm
      exact mf_sub [0, 1, 2] rfl (hyp g hG)
  · replace hyp := hyp.2 hc
    refine mf_iload (mf_dat eX12_qTakes_p0 32 rfl) rfl ?_
    refine mf_if_eq (tgt := 75) (mf_dat eX12_qTakes_p0 33 rfl) (by decide) (fun hc => ?_) (fun hc => ?_)
    · replace hyp := hyp.1 hc
      refine mf_iload_n (mf_dat eX12_qTakes_p0 40 rfl) rfl rfl ?_
      refine mf_iconst (v := 3) (mf_dat eX12_qTakes_p0 41 rfl) (by decide) ?_
      refine mf_icmp_ne (tgt := 90) (mf_dat eX12_qTakes_p0 42 rfl) (by decide) (fun hc => ?_) (fun hc => ?_)
      · replace hyp := hyp.1 hc
        exact mf_sub [0, 1, 2] rfl (hyp g hG)
      · replace hyp := hyp.2 hc
        refine mf_aload_n (mf_dat eX12_qTakes_p0 43 rfl) rfl rfl ?_
        refine mf_dup (mf_dat eX12_qTakes_p0 44 rfl) (by decide) ?_
        refine mf_getf (r := (RX12, TX12, 106)) (ci := 12) (k := 102) (t := 1) (v := h 245 102) (mf_dat eX12_qTakes_p0 45 rfl) fl_X12_648 rfl (by decide) rfl rfl is245 ?_
        refine mf_lload_n (mf_dat eX12_qTakes_p0 46 rfl) rfl rfl ?_
        refine mf_ladd (mf_dat eX12_qTakes_p0 47 rfl) ?_
        refine mf_putI (r := (RX12, TX12, 106)) (ci := 12) (k := 102) (kI := 102) (t := 1) (mf_dat eX12_qTakes_p0 48 rfl) fl_X12_648 rfl rfl (by decide) rfl (by decide) rfl (by decide) (fun h9 => absurd h9 (by decide)) is245 ?_
        generalize qh2 : mf_up h 245 102 (mf_w64 ((h 245 102) + x2)) = h2
        replace hyp := hyp _ qh2.symm
        exact mf_sub [0, 1, 2] rfl (hyp g hG)
    · replace hyp := hyp.2 hc
      refine mf_aload_n (mf_dat eX12_qTakes_p0 34 rfl) rfl rfl ?_
      refine mf_dup (mf_dat eX12_qTakes_p0 35 rfl) (by decide) ?_
      refine mf_getf (r := (RX12, TX12, 106)) (ci := 12) (k := 102) (t := 1) (v := h 245 102) (mf_dat eX12_qTakes_p0 36 rfl) fl_X12_648 rfl (by decide) rfl rfl is245 ?_
      refine mf_lconst (v := 1) (mf_dat eX12_qTakes_p0 37 rfl) (by decide) ?_
      refine mf_ladd (mf_dat eX12_qTakes_p0 38 rfl) ?_
      refine mf_putI (r := (RX12, TX12, 106)) (ci := 12) (k := 102) (kI := 102) (t := 1) (mf_dat eX12_qTakes_p0 39 rfl) fl_X12_648 rfl rfl (by decide) rfl (by decide) rfl (by decide) (fun h9 => absurd h9 (by decide)) is245 ?_
      generalize qh3 : mf_up h 245 102 (mf_w64 ((h 245 102) + 1)) = h3
      replace hyp := hyp _ qh3.symm
      refine mf_iload_n (mf_dat eX12_qTakes_p0 40 rfl) rfl rfl ?_
      refine mf_iconst (v := 3) (mf_dat eX12_qTakes_p0 41 rfl) (by decide) ?_
      refine mf_icmp_ne (tgt := 90) (mf_dat eX12_qTakes_p0 42 rfl) (by decide) (fun hc => ?_) (fun hc => ?_)
      · replace hyp := hyp.1 hc
        exact mf_sub [0, 1, 2] rfl (hyp g hG)
      · replace hyp := hyp.2 hc
        refine mf_aload_n (mf_dat eX12_qTakes_p0 43 rfl) rfl rfl ?_
        refine mf_dup (mf_dat eX12_qTakes_p0 44 rfl) (by decide) ?_
        refine mf_getf (r := (RX12, TX12, 106)) (ci := 12) (k := 102) (t := 1) (v := h3 245 102) (mf_dat eX12_qTakes_p0 45 rfl) fl_X12_648 rfl (by decide) rfl rfl is245 ?_
        refine mf_lload_n (mf_dat eX12_qTakes_p0 46 rfl) rfl rfl ?_
        refine mf_ladd (mf_dat eX12_qTakes_p0 47 rfl) ?_
        refine mf_putI (r := (RX12, TX12, 106)) (ci := 12) (k := 102) (kI := 102) (t := 1) (mf_dat eX12_qTakes_p0 48 rfl) fl_X12_648 rfl rfl (by decide) rfl (by decide) rfl (by decide) (fun h9 => absurd h9 (by decide)) is245 ?_
        generalize qh4 : mf_up h3 245 102 (mf_w64 ((h3 245 102) + x2)) = h4
        replace hyp := hyp _ qh4.symm
        exact mf_sub [0, 1, 2] rfl (hyp g hG)
set_option maxRecDepth 100000 in
set_option maxHeartbeats 4000000 in
theorem vX12_qTakes_90 {C : mf_G} {l : Launch} {d : Nat} {K : Int → mf_M → Prop} {x1 x2 : Int} {h : mf_M} (hyp : ((x1 ≤ 3 → (∀ h1 : mf_M, h1 = mf_up h 245 103 0 → K 0 h1)) ∧ (¬ x1 ≤ 3 → ((¬ h 245 103 = 0 → (∀ h2 : mf_M, h2 = mf_up h 245 102 x2 → (∀ h3 : mf_M, h3 = mf_up h2 245 103 0 → K 0 h3))) ∧ (h 245 103 = 0 → ((¬ x1 = 4 → ((h 245 102 ≤ x2 → (∀ h4 : mf_M, h4 = mf_up h 245 103 0 → K 0 h4)) ∧ (¬ h 245 102 ≤ x2 → (∀ h5 : mf_M, h5 = mf_up h 245 102 x2 → (∀ h6 : mf_M, h6 = mf_up h5 245 103 0 → K 0 h6))))) ∧ (x1 = 4 → ((x2 ≤ h 245 102 → (∀ h7 : mf_M, h7 = mf_up h 245 103 0 → K 0 h7)) ∧ (¬ x2 ≤ h 245 102 → (∀ h8 : mf_M, h8 = mf_up h 245 102 x2 → (∀ h9 : mf_M, h9 = mf_up h8 245 103 0 → K 0 h9))))))))))) : BX12_qTakes_90 C l d K x1 x2 h := by
  intro g hG
  refine mf_iload_n (mf_dat eX12_qTakes_p0 49 rfl) rfl rfl ?_
  refine mf_iconst (v := 3) (mf_dat eX12_qTakes_p0 50 rfl) (by decide) ?_
  refine mf_icmp_le (tgt := 133) (mf_dat eX12_qTakes_p0 51 rfl) (by decide) (fun hc => ?_) (fun hc => ?_)
  · replace hyp := hyp.1 hc
    refine mf_aload_n (mf_dat eX12_qTakes_p1 12 rfl) rfl rfl ?_
    refine mf_iconst (v := 0) (mf_dat eX12_qTakes_p1 13 rfl) (by decide) ?_
    refine mf_putI (r := (RX12, TX12, 106)) (ci := 12) (k := 103) (kI := 103) (t := 0) (mf_dat eX12_qTakes_p1 14 rfl) fl_X12_651 rfl rfl (by decide) rfl (by decide) rfl (by decide) (fun _ => by decide) is245 ?_
    generalize qh1 : mf_up h 245 103 0 = h1
    replace hyp := hyp _ qh1.symm
    exact mf_return (mf_dat eX12_qTakes_p1 15 rfl) rfl ⟨rfl, hyp⟩
  · replace hyp := hyp.2 hc
    refine mf_aload_n (mf_dat eX12_qTakes_p0 52 rfl) rfl rfl ?_
    refine mf_getf (r := (RX12, TX12, 106)) (ci := 12) (k := 103) (t := 0) (v := h 245 103) (mf_dat eX12_qTakes_p0 53 rfl) fl_X12_651 rfl (by decide) rfl rfl is245 ?_
    refine mf_if_ne (tgt := 128) (mf_dat eX12_qTakes_p0 54 rfl) (by decide) (fun hc => ?_) (fun hc => ?_)
    · replace hyp := hyp.1 hc
      refine mf_aload_n (mf_dat eX12_qTakes_p1 9 rfl) rfl rfl ?_
      refine mf_lload_n (mf_dat eX12_qTakes_p1 10 rfl) rfl rfl ?_
      refine mf_putI (r := (RX12, TX12, 106)) (ci := 12) (k := 102) (kI := 102) (t := 1) (mf_dat eX12_qTakes_p1 11 rfl) fl_X12_648 rfl rfl (by decide) rfl (by decide) rfl (by decide) (fun h9 => absurd h9 (by decide)) is245 ?_
      generalize qh2 : mf_up h 245 102 x2 = h2
      replace hyp := hyp _ qh2.symm
      refine mf_aload_n (mf_dat eX12_qTakes_p1 12 rfl) rfl rfl ?_
      refine mf_iconst (v := 0) (mf_dat eX12_qTakes_p1 13 rfl) (by decide) ?_
      refine mf_putI (r := (RX12, TX12, 106)) (ci := 12) (k := 103) (kI := 103) (t := 0) (mf_dat eX12_qTakes_p1 14 rfl) fl_X12_651 rfl rfl (by decide) rfl (by decide) rfl (by decide) (fun _ => by decide) is245 ?_
      generalize qh3 : mf_up h2 245 103 0 = h3
      replace hyp := hyp _ qh3.symm
      exact mf_return (mf_dat eX12_qTakes_p1 15 rfl) rfl ⟨rfl, hyp⟩
    · replace hyp := hyp.2 hc
      refine mf_iload_n (mf_dat eX12_qTakes_p0 55 rfl) rfl rfl ?_
      refine mf_iconst (v := 4) (mf_dat eX12_qTakes_p0 56 rfl) (by decide) ?_
      refine mf_icmp_ne (tgt := 119) (mf_dat eX12_qTakes_p0 57 rfl) (by decide) (fun hc => ?_) (fun hc => ?_)
      · replace hyp := hyp.1 hc
        refine mf_lload_n (mf_dat eX12_qTakes_p1 4 rfl) rfl rfl ?_
        refine mf_aload_n (mf_dat eX12_qTakes_p1 5 rfl) rfl rfl ?_
        refine mf_getf (r := (RX12, TX12, 106)) (ci := 12) (k := 102) (t := 1) (v := h 245 102) (mf_dat eX12_qTakes_p1 6 rfl) fl_X12_648 rfl (by decide) rfl rfl is245 ?_
        refine mf_lcmp_ge (tgt := 133) (mf_dat eX12_qTakes_p1 7 rfl) (mf_dat eX12_qTakes_p1 8 rfl) (by decide) (fun hc => ?_) (fun hc => ?_)
        · replace hyp := hyp.1 hc
          refine mf_aload_n (mf_dat eX12_qTakes_p1 12 rfl) rfl rfl ?_
          refine mf_iconst (v := 0) (mf_dat eX12_qTakes_p1 13 rfl) (by decide) ?_
          refine mf_putI (r := (RX12, TX12, 106)) (ci := 12) (k := 103) (kI := 103) (t := 0) (mf_dat eX12_qTakes_p1 14 rfl) fl_X12_651 rfl rfl (by decide) rfl (by decide) rfl (by decide) (fun _ => by decide) is245 ?_
          generalize qh4 : mf_up h 245 103 0 = h4
          replace hyp := hyp _ qh4.symm
          exact mf_return (mf_dat eX12_qTakes_p1 15 rfl) rfl ⟨rfl, hyp⟩
        · replace hyp := hyp.2 hc
          refine mf_aload_n (mf_dat eX12_qTakes_p1 9 rfl) rfl rfl ?_
          refine mf_lload_n (mf_dat eX12_qTakes_p1 10 rfl) rfl rfl ?_
          refine mf_putI (r := (RX12, TX12, 106)) (ci := 12) (k := 102) (kI := 102) (t := 1) (mf_dat eX12_qTakes_p1 11 rfl) fl_X12_648 rfl rfl (by decide) rfl (by decide) rfl (by decide) (fun h9 => absurd h9 (by decide)) is245 ?_
          generalize qh5 : mf_up h 245 102 x2 = h5
          replace hyp := hyp _ qh5.symm
          refine mf_aload_n (mf_dat eX12_qTakes_p1 12 rfl) rfl rfl ?_
          refine mf_iconst (v := 0) (mf_dat eX12_qTakes_p1 13 rfl) (by decide) ?_
          refine mf_putI (r := (RX12, TX12, 106)) (ci := 12) (k := 103) (kI := 103) (t := 0) (mf_dat eX12_qTakes_p1 14 rfl) fl_X12_651 rfl rfl (by decide) rfl (by decide) rfl (by decide) (fun _ => by decide) is245 ?_
          generalize qh6 : mf_up h5 245 103 0 = h6
          replace hyp := hyp _ qh6.symm
          exact mf_return (mf_dat eX12_qTakes_p1 15 rfl) rfl ⟨rfl, hyp⟩
      · replace hyp := hyp.2 hc
        refine mf_lload_n (mf_dat eX12_qTakes_p0 58 rfl) rfl rfl ?_
        refine mf_aload_n (mf_dat eX12_qTakes_p0 59 rfl) rfl rfl ?_
        refine mf_getf (r := (RX12, TX12, 106)) (ci := 12) (k := 102) (t := 1) (v := h 245 102) (mf_dat eX12_qTakes_p1 0 rfl) fl_X12_648 rfl (by decide) rfl rfl is245 ?_
        refine mf_lcmp_le (tgt := 133) (mf_dat eX12_qTakes_p1 1 rfl) (mf_dat eX12_qTakes_p1 2 rfl) (by decide) (fun hc => ?_) (fun hc => ?_)
        · replace hyp := hyp.1 hc
          refine mf_aload_n (mf_dat eX12_qTakes_p1 12 rfl) rfl rfl ?_
          refine mf_iconst (v := 0) (mf_dat eX12_qTakes_p1 13 rfl) (by decide) ?_
          refine mf_putI (r := (RX12, TX12, 106)) (ci := 12) (k := 103) (kI := 103) (t := 0) (mf_dat eX12_qTakes_p1 14 rfl) fl_X12_651 rfl rfl (by decide) rfl (by decide) rfl (by decide) (fun _ => by decide) is245 ?_
          generalize qh7 : mf_up h 245 103 0 = h7
          replace hyp := hyp _ qh7.symm
          exact mf_return (mf_dat eX12_qTakes_p1 15 rfl) rfl ⟨rfl, hyp⟩
        · replace hyp := hyp.2 hc
          refine mf_goto (tgt := 128) (mf_dat eX12_qTakes_p1 3 rfl) (by decide) ?_
          refine mf_aload_n (mf_dat eX12_qTakes_p1 9 rfl) rfl rfl ?_
          refine mf_lload_n (mf_dat eX12_qTakes_p1 10 rfl) rfl rfl ?_
          refine mf_putI (r := (RX12, TX12, 106)) (ci := 12) (k := 102) (kI := 102) (t := 1) (mf_dat eX12_qTakes_p1 11 rfl) fl_X12_648 rfl rfl (by decide) rfl (by decide) rfl (by decide) (fun h9 => absurd h9 (by decide)) is245 ?_
          generalize qh8 : mf_up h 245 102 x2 = h8
          replace hyp := hyp _ qh8.symm
          refine mf_aload_n (mf_dat eX12_qTakes_p1 12 rfl) rfl rfl ?_
          refine mf_iconst (v := 0) (mf_dat eX12_qTakes_p1 13 rfl) (by decide) ?_
          refine mf_putI (r := (RX12, TX12, 106)) (ci := 12) (k := 103) (kI := 103) (t := 0) (mf_dat eX12_qTakes_p1 14 rfl) fl_X12_651 rfl rfl (by decide) rfl (by decide) rfl (by decide) (fun _ => by decide) is245 ?_
          generalize qh9 : mf_up h8 245 103 0 = h9
          replace hyp := hyp _ qh9.symm
          exact mf_return (mf_dat eX12_qTakes_p1 15 rfl) rfl ⟨rfl, hyp⟩
set_option maxRecDepth 100000 in
set_option maxHeartbeats 4000000 in
theorem wX12_qTakes {C : mf_G} {l : Launch} {d : Nat} {K : Int → mf_M → Prop} {x1 x2 x4 : Int} {h : mf_M} (hyp : ((3 ≤ x1 → BX12_qTakes_16 C l d K x1 x2 x4 0 h) ∧ (¬ 3 ≤ x1 → ((¬ x2 = 1 → BX12_qTakes_16 C l d K x1 x2 x4 0 h) ∧ (x2 = 1 → BX12_qTakes_16 C l d K x1 x2 x4 1 h))))) : mM C l d YX12_qTakes [(2, 245), (0, x1), (1, x2), (0, x4)] h K := by
  intro g hG
  refine mf_entry (by decide) (Nat.le_of_ble_eq_true rfl) ?_
  refine mf_iload_n (mf_dat eX12_qTakes_p0 0 rfl) rfl rfl ?_
  refine mf_iconst (v := 3) (mf_dat eX12_qTakes_p0 1 rfl) (by decide) ?_
  refine mf_icmp_ge (tgt := 15) (mf_dat eX12_qTakes_p0 2 rfl) (by decide) (fun hc => ?_) (fun hc => ?_)
  · replace hyp := hyp.1 hc
    refine mf_iconst (v := 0) (mf_dat eX12_qTakes_p0 9 rfl) (by decide) ?_
    exact mf_sub [0, 1, 2, 3] rfl (hyp g hG)
  · replace hyp := hyp.2 hc
    refine mf_lload_n (mf_dat eX12_qTakes_p0 3 rfl) rfl rfl ?_
    refine mf_lconst (v := 1) (mf_dat eX12_qTakes_p0 4 rfl) (by decide) ?_
    refine mf_lcmp_ne (tgt := 15) (mf_dat eX12_qTakes_p0 5 rfl) (mf_dat eX12_qTakes_p0 6 rfl) (by decide) (fun hc => ?_) (fun hc => ?_)
    · replace hyp := hyp.1 hc
      refine mf_iconst (v := 0) (mf_dat eX12_qTakes_p0 9 rfl) (by decide) ?_
      exact mf_sub [0, 1, 2, 3] rfl (hyp g hG)
    · replace hyp := hyp.2 hc
      refine mf_iconst (v := 1) (mf_dat eX12_qTakes_p0 7 rfl) (by decide) ?_
      refine mf_goto (tgt := 16) (mf_dat eX12_qTakes_p0 8 rfl) (by decide) ?_
      exact mf_sub [0, 1, 2, 3] rfl (hyp g hG)
abbrev BX12_ask_109 (C : mf_G) (l : Launch) (d : Nat) (K : Int → mf_M → Prop) (x1 : Int) (h : mf_M) : Prop := jM C l d YX12_ask K 109 [(0, (2, 245)), (1, (0, x1))] [] h
abbrev BX12_ask_133 (C : mf_G) (l : Launch) (d : Nat) (K : Int → mf_M → Prop) (x1 : Int) (h : mf_M) : Prop := jM C l d YX12_ask K 133 [(0, (2, 245)), (1, (0, x1))] [] h
abbrev BX12_ask_173 (C : mf_G) (l : Launch) (d : Nat) (K : Int → mf_M → Prop) (x1 s0 s1 : Int) (h : mf_M) : Prop := jM C l d YX12_ask K 173 [(0, (2, 245)), (1, (0, x1))] [(1, s1), (2, s0)] h
abbrev BX12_ask_212 (C : mf_G) (l : Launch) (d : Nat) (K : Int → mf_M → Prop) (x1 x2 : Int) (h : mf_M) : Prop := jM C l d YX12_ask K 212 [(0, (2, 245)), (1, (0, x1)), (2, (0, x2))] [] h
set_option maxRecDepth 100000 in
set_option maxHeartbeats 4000000 in
theorem vX12_ask_109 {C : mf_G} {l : Launch} {d : Nat} {K : Int → mf_M → Prop} {x1 : Int} {h : mf_M} (hd : 1 ≤ d) (hyp : ((¬ h 245 5 = 0 → BX12_ask_133 C l d K x1 h) ∧ (h 245 5 = 0 → mM C l 0 YX12_look [(2, 245)] h (fun r1 h3 => ((r1 = (-1) → BX12_ask_133 C l d K x1 h3) ∧ (¬ r1 = (-1) → mM C l 0 YX12_fail [(2, 245), (0, 1), (0, h3 245 2)] h3 (fun r4 h6 => BX12_ask_133 C l d K x1 h6))))))) : BX12_ask_109 C l d K x1 h := by
  intro g hG
  refine mf_aload_n (mf_dat eX12_ask_p0 59 rfl) rfl rfl ?_
  refine mf_getf (r := (RX12, TX12, 106)) (ci := 12) (k := 5) (t := 0) (v := h 245 5) (mf_dat eX12_ask_p1 0 rfl) fl_X12_243 rfl (by decide) rfl rfl is245 ?_
  refine mf_if_ne (tgt := 133) (mf_dat eX12_ask_p1 1 rfl) (by decide) (fun hc => ?_) (fun hc => ?_)
  · replace hyp := hyp.1 hc
    exact mf_sub [0, 1] rfl (hyp g hG)
  · replace hyp := hyp.2 hc
    refine mf_aload_n (mf_dat eX12_ask_p1 2 rfl) rfl rfl ?_
    refine mf_callV (Yc := YX12_look) (r := (RX12, TX12, 106)) (ci := 12) (mf_dat eX12_ask_p1 3 rfl) ml_X12_255 okX12_look im_X12_look sl_X12_look rfl rfl rfl rfl (Nat.le_of_ble_eq_true rfl) (mf_rr (Nat.le_trans (by decide) hd) (Nat.le_refl _)) (Nat.le_refl _) is245 (hyp g hG) (fun r1 g2 h3 hyp => ?_)
    obtain ⟨hgg, hyp⟩ := hyp
    subst hgg
    refine mf_iconst (v := (-1)) (mf_dat eX12_ask_p1 4 rfl) (by decide) ?_
    refine mf_icmp_eq (tgt := 133) (mf_dat eX12_ask_p1 5 rfl) (by decide) (fun hc => ?_) (fun hc => ?_)
    · replace hyp := hyp.1 hc
      exact mf_sub [0, 1] rfl (hyp g2 hG)
    · replace hyp := hyp.2 hc
      refine mf_aload_n (mf_dat eX12_ask_p1 6 rfl) rfl rfl ?_
      refine mf_iconst (v := 1) (mf_dat eX12_ask_p1 7 rfl) (by decide) ?_
      refine mf_aload_n (mf_dat eX12_ask_p1 8 rfl) rfl rfl ?_
      refine mf_getf (r := (RX12, TX12, 106)) (ci := 12) (k := 2) (t := 0) (v := h3 245 2) (mf_dat eX12_ask_p1 9 rfl) fl_X12_249 rfl (by decide) rfl rfl is245 ?_
      refine mf_callV (Yc := YX12_fail) (r := (RX12, TX12, 106)) (ci := 12) (mf_dat eX12_ask_p1 10 rfl) ml_X12_273 okX12_fail im_X12_fail sl_X12_fail rfl rfl rfl rfl (Nat.le_of_ble_eq_true rfl) (mf_rr (Nat.le_trans (by decide) hd) (Nat.le_refl _)) (Nat.le_refl _) is245 (hyp g2 hG) (fun r4 g5 h6 hyp => ?_)
      obtain ⟨hgg, hyp⟩ := hyp
      subst hgg
      exact mf_sub [0, 1] rfl (hyp g5 hG)
set_option maxRecDepth 100000 in
set_option maxHeartbeats 4000000 in
theorem vX12_ask_133 {C : mf_G} {l : Launch} {d : Nat} {K : Int → mf_M → Prop} {x1 : Int} {h : mf_M} (hyp : (∀ h1 : mf_M, h1 = mf_up h 245 7 (h 245 5) → (∀ h2 : mf_M, h2 = mf_up h1 245 8 (h1 245 6) → ((h2 245 5 = 0 → ((2 ≤ x1 → BX12_ask_173 C l d K x1 245 0 h2) ∧ (¬ 2 ≤ x1 → BX12_ask_173 C l d K x1 245 (-1) h2))) ∧ (¬ h2 245 5 = 0 → K (-1000000000000000) h2))))) : BX12_ask_133 C l d K x1 h := by
  intro g hG
  refine mf_aload_n (mf_dat eX12_ask_p1 11 rfl) rfl rfl ?_
  refine mf_aload_n (mf_dat eX12_ask_p1 12 rfl) rfl rfl ?_
  refine mf_getf (r := (RX12, TX12, 106)) (ci := 12) (k := 5) (t := 0) (v := h 245 5) (mf_dat eX12_ask_p1 13 rfl) fl_X12_243 rfl (by decide) rfl rfl is245 ?_
  refine mf_putI (r := (RX12, TX12, 106)) (ci := 12) (k := 7) (kI := 7) (t := 0) (mf_dat eX12_ask_p1 14 rfl) fl_X12_383 rfl rfl (by decide) rfl (by decide) rfl (by decide) (fun h9 => absurd h9 (by decide)) is245 ?_
  generalize qh1 : mf_up h 245 7 (h 245 5) = h1
  replace hyp := hyp _ qh1.symm
  refine mf_aload_n (mf_dat eX12_ask_p1 15 rfl) rfl rfl ?_
  refine mf_aload_n (mf_dat eX12_ask_p1 16 rfl) rfl rfl ?_
  refine mf_getf (r := (RX12, TX12, 106)) (ci := 12) (k := 6) (t := 0) (v := h1 245 6) (mf_dat eX12_ask_p1 17 rfl) fl_X12_246 rfl (by decide) rfl rfl is245 ?_
  refine mf_putI (r := (RX12, TX12, 106)) (ci := 12) (k := 8) (kI := 8) (t := 0) (mf_dat eX12_ask_p1 18 rfl) fl_X12_13 rfl rfl (by decide) rfl (by decide) rfl (by decide) (fun h9 => absurd h9 (by decide)) is245 ?_
  generalize qh2 : mf_up h1 245 8 (h1 245 6) = h2
  replace hyp := hyp _ qh2.symm
  refine mf_aload_n (mf_dat eX12_ask_p1 19 rfl) rfl rfl ?_
  refine mf_getf (r := (RX12, TX12, 106)) (ci := 12) (k := 5) (t := 0) (v := h2 245 5) (mf_dat eX12_ask_p1 20 rfl) fl_X12_243 rfl (by decide) rfl rfl is245 ?_
  refine mf_if_eq (tgt := 160) (mf_dat eX12_ask_p1 21 rfl) (by decide) (fun hc => ?_) (fun hc => ?_)
  · replace hyp := hyp.1 hc
    refine mf_aload_n (mf_dat eX12_ask_p1 24 rfl) rfl rfl ?_
    refine mf_iload_n (mf_dat eX12_ask_p1 25 rfl) rfl rfl ?_
    refine mf_iconst (v := 2) (mf_dat eX12_ask_p1 26 rfl) (by decide) ?_
    refine mf_icmp_ge (tgt := 172) (mf_dat eX12_ask_p1 27 rfl) (by decide) (fun hc => ?_) (fun hc => ?_)
    · replace hyp := hyp.1 hc
      refine mf_lconst (v := 0) (mf_dat eX12_ask_p1 30 rfl) (by decide) ?_
      exact mf_sub [0, 1] rfl (hyp g hG)
    · replace hyp := hyp.2 hc
      refine mf_ldc2 (v := (-1)) cl_X12_512 (mf_dat eX12_ask_p1 28 rfl) (by decide) ?_
      refine mf_goto (tgt := 173) (mf_dat eX12_ask_p1 29 rfl) (by decide) ?_
      exact mf_sub [0, 1] rfl (hyp g hG)
  · replace hyp := hyp.2 hc
    refine mf_ldc2 (v := (-1000000000000000)) cl_X12_654 (mf_dat eX12_ask_p1 22 rfl) (by decide) ?_
    exact mf_lreturn (mf_dat eX12_ask_p1 23 rfl) rfl ⟨rfl, hyp⟩
set_option maxRecDepth 100000 in
set_option maxHeartbeats 4000000 in
theorem vX12_ask_173 {C : mf_G} {l : Launch} {d : Nat} {K : Int → mf_M → Prop} {x1 s0 s1 : Int} {h : mf_M} (hd : 4 ≤ d) (hyp : mf_is 319 s0 12 ∧ (∀ h2 : mf_M, h2 = mf_up h s0 102 s1 → (∀ h3 : mf_M, h3 = mf_up h2 245 103 1 → mM C l 3 YX12_openingOn [(2, 245), (0, h3 286 0)] h3 (fun r4 h6 => (∀ h7 : mf_M, h7 = mf_up h6 245 59 r4 → (∀ h8 : mf_M, h8 = mf_up h7 245 58 (h7 286 0) → (∀ h9 : mf_M, h9 = mf_up h8 245 55 3 → BX12_ask_212 C l d K x1 0 h9))))))) : BX12_ask_173 C l d K x1 s0 s1 h := by
  intro g hG
  obtain ⟨ck1, hyp⟩ := hyp
  refine mf_putI (r := (RX12, TX12, 106)) (ci := 12) (k := 102) (kI := 102) (t := 1) (mf_dat eX12_ask_p1 31 rfl) fl_X12_648 rfl rfl (by decide) rfl (by decide) rfl (by decide) (fun h9 => absurd h9 (by decide)) ck1 ?_
  generalize qh2 : mf_up h s0 102 s1 = h2
  replace hyp := hyp _ qh2.symm
  refine mf_aload_n (mf_dat eX12_ask_p1 32 rfl) rfl rfl ?_
  refine mf_iconst (v := 1) (mf_dat eX12_ask_p1 33 rfl) (by decide) ?_
  refine mf_putI (r := (RX12, TX12, 106)) (ci := 12) (k := 103) (kI := 103) (t := 0) (mf_dat eX12_ask_p1 34 rfl) fl_X12_651 rfl rfl (by decide) rfl (by decide) rfl (by decide) (fun _ => by decide) is245 ?_
  generalize qh3 : mf_up h2 245 103 1 = h3
  replace hyp := hyp _ qh3.symm
  refine mf_aload_n (mf_dat eX12_ask_p1 35 rfl) rfl rfl ?_
  refine mf_aload_n (mf_dat eX12_ask_p1 36 rfl) rfl rfl ?_
  refine mf_aload_n (mf_dat eX12_ask_p1 37 rfl) rfl rfl ?_
  refine mf_getf (r := (RX12, TX12, 106)) (ci := 12) (k := 56) (t := 2) (v := 286) (mf_dat eX12_ask_p1 38 rfl) fl_X12_136 rfl (by decide) rfl (gm_56 hG) is245 ?_
  refine mf_iconst (v := 0) (mf_dat eX12_ask_p1 39 rfl) (by decide) ?_
  refine mf_iald (mf_dat eX12_ask_p1 40 rfl) is286 len286 (by decide) (by decide) ?_
  refine mf_callV (Yc := YX12_openingOn) (r := (RX12, TX12, 106)) (ci := 12) (mf_dat eX12_ask_p1 41 rfl) ml_X12_487 okX12_openingOn im_X12_openingOn sl_X12_openingOn rfl rfl rfl rfl (Nat.le_of_ble_eq_true rfl) (mf_rr (Nat.le_trans (by decide) hd) (Nat.le_refl _)) (Nat.le_refl _) is245 (hyp g hG) (fun r4 g5 h6 hyp => ?_)
  obtain ⟨hgg, hyp⟩ := hyp
  subst hgg
  refine mf_putI (r := (RX12, TX12, 106)) (ci := 12) (k := 59) (kI := 59) (t := 0) (mf_dat eX12_ask_p1 42 rfl) fl_X12_468 rfl rfl (by decide) rfl (by decide) rfl (by decide) (fun h9 => absurd h9 (by decide)) is245 ?_
  generalize qh7 : mf_up h6 245 59 r4 = h7
  replace hyp := hyp _ qh7.symm
  refine mf_aload_n (mf_dat eX12_ask_p1 43 rfl) rfl rfl ?_
  refine mf_aload_n (mf_dat eX12_ask_p1 44 rfl) rfl rfl ?_
  refine mf_getf (r := (RX12, TX12, 106)) (ci := 12) (k := 56) (t := 2) (v := 286) (mf_dat eX12_ask_p1 45 rfl) fl_X12_136 rfl (by decide) rfl (gm_56 hG) is245 ?_
  refine mf_iconst (v := 0) (mf_dat eX12_ask_p1 46 rfl) (by decide) ?_
  refine mf_iald (mf_dat eX12_ask_p1 47 rfl) is286 len286 (by decide) (by decide) ?_
  refine mf_putI (r := (RX12, TX12, 106)) (ci := 12) (k := 58) (kI := 58) (t := 0) (mf_dat eX12_ask_p1 48 rfl) fl_X12_436 rfl rfl (by decide) rfl (by decide) rfl (by decide) (fun h9 => absurd h9 (by decide)) is245 ?_
  generalize qh8 : mf_up h7 245 58 (h7 286 0) = h8
  replace hyp := hyp _ qh8.symm
  refine mf_aload_n (mf_dat eX12_ask_p1 49 rfl) rfl rfl ?_
  refine mf_iconst (v := 3) (mf_dat eX12_ask_p1 50 rfl) (by decide) ?_
  refine mf_putI (r := (RX12, TX12, 106)) (ci := 12) (k := 55) (kI := 55) (t := 0) (mf_dat eX12_ask_p1 51 rfl) fl_X12_301 rfl rfl (by decide) rfl (by decide) rfl (by decide) (fun h9 => absurd h9 (by decide)) is245 ?_
  generalize qh9 : mf_up h8 245 55 3 = h9
  replace hyp := hyp _ qh9.symm
  refine mf_iconst (v := 0) (mf_dat eX12_ask_p1 52 rfl) (by decide) ?_
  refine mf_istore_n (mf_dat eX12_ask_p1 53 rfl) rfl (by decide) ?_
  exact mf_sub [1, 2, 0] rfl (hyp g5 hG)
set_option maxRecDepth 100000 in
set_option maxHeartbeats 4000000 in
theorem vX12_ask_212 {C : mf_G} {l : Launch} {d : Nat} {K : Int → mf_M → Prop} {x1 x2 : Int} {h : mf_M} (hd : 5 ≤ d) (hyp : mM C l 0 YX12_beingMany [(2, 245)] h (fun r1 h3 => ((r1 ≤ x2 → K (h3 245 102) h3) ∧ (¬ r1 ≤ x2 → mM C l 4 YX12_qTold [(2, 245), (0, x2)] h3 (fun r4 h6 => mM C l 0 YX12_qTakes [(2, 245), (0, x1), (1, r4), (0, x2)] h6 (fun r7 h9 => (∀ v10 : Int, v10 = mf_w32 (x2 + 1) → BX12_ask_212 C l d K x1 v10 h9))))))) : BX12_ask_212 C l d K x1 x2 h := by
  intro g hG
  refine mf_iload_n (mf_dat eX12_ask_p1 54 rfl) rfl rfl ?_
  refine mf_aload_n (mf_dat eX12_ask_p1 55 rfl) rfl rfl ?_
  refine mf_callV (Yc := YX12_beingMany) (r := (RX12, TX12, 106)) (ci := 12) (mf_dat eX12_ask_p1 56 rfl) ml_X12_402 okX12_beingMany im_X12_beingMany sl_X12_beingMany rfl rfl rfl rfl (Nat.le_of_ble_eq_true rfl) (mf_rr (Nat.le_trans (by decide) hd) (Nat.le_refl _)) (Nat.le_refl _) is245 (hyp g hG) (fun r1 g2 h3 hyp => ?_)
  obtain ⟨hgg, hyp⟩ := hyp
  subst hgg
  refine mf_icmp_ge (tgt := 237) (mf_dat eX12_ask_p1 57 rfl) (by decide) (fun hc => ?_) (fun hc => ?_)
  · replace hyp := hyp.1 hc
    refine mf_aload_n (mf_dat eX12_ask_p2 7 rfl) rfl rfl ?_
    refine mf_getf (r := (RX12, TX12, 106)) (ci := 12) (k := 102) (t := 1) (v := h3 245 102) (mf_dat eX12_ask_p2 8 rfl) fl_X12_648 rfl (by decide) rfl rfl is245 ?_
    exact mf_lreturn (mf_dat eX12_ask_p2 9 rfl) rfl ⟨rfl, hyp⟩
  · replace hyp := hyp.2 hc
    refine mf_aload_n (mf_dat eX12_ask_p1 58 rfl) rfl rfl ?_
    refine mf_iload_n (mf_dat eX12_ask_p1 59 rfl) rfl rfl ?_
    refine mf_aload_n (mf_dat eX12_ask_p2 0 rfl) rfl rfl ?_
    refine mf_iload_n (mf_dat eX12_ask_p2 1 rfl) rfl rfl ?_
    refine mf_callV (Yc := YX12_qTold) (r := (RX12, TX12, 106)) (ci := 12) (mf_dat eX12_ask_p2 2 rfl) ml_X12_659 okX12_qTold im_X12_qTold sl_X12_qTold rfl rfl rfl rfl (Nat.le_of_ble_eq_true rfl) (mf_rr (Nat.le_trans (by decide) hd) (Nat.le_refl _)) (Nat.le_refl _) is245 (hyp g2 hG) (fun r4 g5 h6 hyp => ?_)
    obtain ⟨hgg, hyp⟩ := hyp
    subst hgg
    refine mf_iload_n (mf_dat eX12_ask_p2 3 rfl) rfl rfl ?_
    refine mf_callV (Yc := YX12_qTakes) (r := (RX12, TX12, 106)) (ci := 12) (mf_dat eX12_ask_p2 4 rfl) ml_X12_663 okX12_qTakes im_X12_qTakes sl_X12_qTakes rfl rfl rfl rfl (Nat.le_of_ble_eq_true rfl) (mf_rr (Nat.le_trans (by decide) hd) (Nat.le_refl _)) (Nat.le_refl _) is245 (hyp g5 hG) (fun r7 g8 h9 hyp => ?_)
    obtain ⟨hgg, hyp⟩ := hyp
    subst hgg
    refine mf_iinc (mf_dat eX12_ask_p2 5 rfl) rfl (by decide) (by decide) ?_
    generalize qv10 : mf_w32 (x2 + 1) = v10
    replace hyp := hyp _ qv10.symm
    refine mf_goto (tgt := 212) (mf_dat eX12_ask_p2 6 rfl) (by decide) ?_
    exact mf_sub [1, 2, 0] rfl (hyp g8 hG)
set_option maxRecDepth 100000 in
set_option maxHeartbeats 4000000 in
theorem wX12_ask {C : mf_G} {l : Launch} {d : Nat} {K : Int → mf_M → Prop} {h : mf_M} (hd : 9 ≤ d) (hyp : ((¬ h 245 54 = 0 → (∀ h1 : mf_M, h1 = mf_up h 245 3 (h 245 1) → (∀ h2 : mf_M, h2 = mf_up h1 245 1 0 → (∀ h3 : mf_M, h3 = mf_up h2 245 2 0 → (∀ h4 : mf_M, h4 = mf_up h3 245 4 (-1) → (∀ h5 : mf_M, h5 = mf_up h4 245 5 0 → (∀ h6 : mf_M, h6 = mf_up h5 245 6 (-1) → (∀ h7 : mf_M, h7 = mf_up h6 245 55 3 → (∀ h8 : mf_M, h8 = mf_up h7 245 95 0 → (∀ h9 : mf_M, h9 = mf_up h8 245 97 0 → (∀ h10 : mf_M, h10 = mf_up h9 245 98 0 → (∀ h11 : mf_M, h11 = mf_up h10 245 99 0 → mM C l 4 YX12_qKind [(2, 245)] h11 (fun r12 h14 => ((¬ h14 245 5 = 0 → ((¬ h14 245 5 = 0 → BX12_ask_109 C l d K r12 h14) ∧ (h14 245 5 = 0 → mM C l 6 YX12_qSums [(2, 245)] h14 (fun r15 h17 => BX12_ask_109 C l d K r12 h17)))) ∧ (h14 245 5 = 0 → ((3 ≤ r12 → ((¬ h14 245 5 = 0 → BX12_ask_109 C l d K r12 h14) ∧ (h14 245 5 = 0 → mM C l 6 YX12_qSums [(2, 245)] h14 (fun r18 h20 => BX12_ask_109 C l d K r12 h20)))) ∧ (¬ 3 ≤ r12 → mM C l 8 YX12_qTest [(2, 245)] h14 (fun r21 h23 => BX12_ask_109 C l d K r12 h23)))))))))))))))))) ∧ (h 245 54 = 0 → (∀ h24 : mf_M, h24 = mf_up h 245 1 0 → K (-1000000000000000) h24)))) : mM C l d YX12_ask [(2, 245)] h K := by
  intro g hG
  refine mf_entry (by decide) (Nat.le_of_ble_eq_true rfl) ?_
  refine mf_aload_n (mf_dat eX12_ask_p0 0 rfl) rfl rfl ?_
  refine mf_getf (r := (RX12, TX12, 106)) (ci := 12) (k := 54) (t := 0) (v := h 245 54) (mf_dat eX12_ask_p0 1 rfl) fl_X12_389 rfl (by decide) rfl rfl is245 ?_
  refine mf_if_ne (tgt := 16) (mf_dat eX12_ask_p0 2 rfl) (by decide) (fun hc => ?_) (fun hc => ?_)
  · replace hyp := hyp.1 hc
    refine mf_aload_n (mf_dat eX12_ask_p0 8 rfl) rfl rfl ?_
    refine mf_aload_n (mf_dat eX12_ask_p0 9 rfl) rfl rfl ?_
    refine mf_getf (r := (RX12, TX12, 106)) (ci := 12) (k := 1) (t := 0) (v := h 245 1) (mf_dat eX12_ask_p0 10 rfl) fl_X12_240 rfl (by decide) rfl rfl is245 ?_
    refine mf_putI (r := (RX12, TX12, 106)) (ci := 12) (k := 3) (kI := 3) (t := 0) (mf_dat eX12_ask_p0 11 rfl) fl_X12_252 rfl rfl (by decide) rfl (by decide) rfl (by decide) (fun h9 => absurd h9 (by decide)) is245 ?_
    generalize qh1 : mf_up h 245 3 (h 245 1) = h1
    replace hyp := hyp _ qh1.symm
    refine mf_aload_n (mf_dat eX12_ask_p0 12 rfl) rfl rfl ?_
    refine mf_iconst (v := 0) (mf_dat eX12_ask_p0 13 rfl) (by decide) ?_
    refine mf_putI (r := (RX12, TX12, 106)) (ci := 12) (k := 1) (kI := 1) (t := 0) (mf_dat eX12_ask_p0 14 rfl) fl_X12_240 rfl rfl (by decide) rfl (by decide) rfl (by decide) (fun h9 => absurd h9 (by decide)) is245 ?_
    generalize qh2 : mf_up h1 245 1 0 = h2
    replace hyp := hyp _ qh2.symm
    refine mf_aload_n (mf_dat eX12_ask_p0 15 rfl) rfl rfl ?_
    refine mf_iconst (v := 0) (mf_dat eX12_ask_p0 16 rfl) (by decide) ?_
    refine mf_putI (r := (RX12, TX12, 106)) (ci := 12) (k := 2) (kI := 2) (t := 0) (mf_dat eX12_ask_p0 17 rfl) fl_X12_249 rfl rfl (by decide) rfl (by decide) rfl (by decide) (fun h9 => absurd h9 (by decide)) is245 ?_
    generalize qh3 : mf_up h2 245 2 0 = h3
    replace hyp := hyp _ qh3.symm
    refine mf_aload_n (mf_dat eX12_ask_p0 18 rfl) rfl rfl ?_
    refine mf_iconst (v := (-1)) (mf_dat eX12_ask_p0 19 rfl) (by decide) ?_
    refine mf_putI (r := (RX12, TX12, 106)) (ci := 12) (k := 4) (kI := 4) (t := 0) (mf_dat eX12_ask_p0 20 rfl) fl_X12_263 rfl rfl (by decide) rfl (by decide) rfl (by decide) (fun h9 => absurd h9 (by decide)) is245 ?_
    generalize qh4 : mf_up h3 245 4 (-1) = h4
    replace hyp := hyp _ qh4.symm
    refine mf_aload_n (mf_dat eX12_ask_p0 21 rfl) rfl rfl ?_
    refine mf_iconst (v := 0) (mf_dat eX12_ask_p0 22 rfl) (by decide) ?_
    refine mf_putI (r := (RX12, TX12, 106)) (ci := 12) (k := 5) (kI := 5) (t := 0) (mf_dat eX12_ask_p0 23 rfl) fl_X12_243 rfl rfl (by decide) rfl (by decide) rfl (by decide) (fun h9 => absurd h9 (by decide)) is245 ?_
    generalize qh5 : mf_up h4 245 5 0 = h5
    replace hyp := hyp _ qh5.symm
    refine mf_aload_n (mf_dat eX12_ask_p0 24 rfl) rfl rfl ?_
    refine mf_iconst (v := (-1)) (mf_dat eX12_ask_p0 25 rfl) (by decide) ?_
    refine mf_putI (r := (RX12, TX12, 106)) (ci := 12) (k := 6) (kI := 6) (t := 0) (mf_dat eX12_ask_p0 26 rfl) fl_X12_246 rfl rfl (by decide) rfl (by decide) rfl (by decide) (fun h9 => absurd h9 (by decide)) is245 ?_
    generalize qh6 : mf_up h5 245 6 (-1) = h6
    replace hyp := hyp _ qh6.symm
    refine mf_aload_n (mf_dat eX12_ask_p0 27 rfl) rfl rfl ?_
    refine mf_iconst (v := 3) (mf_dat eX12_ask_p0 28 rfl) (by decide) ?_
    refine mf_putI (r := (RX12, TX12, 106)) (ci := 12) (k := 55) (kI := 55) (t := 0) (mf_dat eX12_ask_p0 29 rfl) fl_X12_301 rfl rfl (by decide) rfl (by decide) rfl (by decide) (fun h9 => absurd h9 (by decide)) is245 ?_
    generalize qh7 : mf_up h6 245 55 3 = h7
    replace hyp := hyp _ qh7.symm
    refine mf_aload_n (mf_dat eX12_ask_p0 30 rfl) rfl rfl ?_
    refine mf_iconst (v := 0) (mf_dat eX12_ask_p0 31 rfl) (by decide) ?_
    refine mf_putI (r := (RX12, TX12, 106)) (ci := 12) (k := 95) (kI := 95) (t := 0) (mf_dat eX12_ask_p0 32 rfl) fl_X12_338 rfl rfl (by decide) rfl (by decide) rfl (by decide) (fun h9 => absurd h9 (by decide)) is245 ?_
    generalize qh8 : mf_up h7 245 95 0 = h8
    replace hyp := hyp _ qh8.symm
    refine mf_aload_n (mf_dat eX12_ask_p0 33 rfl) rfl rfl ?_
    refine mf_iconst (v := 0) (mf_dat eX12_ask_p0 34 rfl) (by decide) ?_
    refine mf_putI (r := (RX12, TX12, 106)) (ci := 12) (k := 97) (kI := 97) (t := 0) (mf_dat eX12_ask_p0 35 rfl) fl_X12_341 rfl rfl (by decide) rfl (by decide) rfl (by decide) (fun h9 => absurd h9 (by decide)) is245 ?_
    generalize qh9 : mf_up h8 245 97 0 = h9
    replace hyp := hyp _ qh9.symm
    refine mf_aload_n (mf_dat eX12_ask_p0 36 rfl) rfl rfl ?_
    refine mf_iconst (v := 0) (mf_dat eX12_ask_p0 37 rfl) (by decide) ?_
    refine mf_putI (r := (RX12, TX12, 106)) (ci := 12) (k := 98) (kI := 98) (t := 0) (mf_dat eX12_ask_p0 38 rfl) fl_X12_344 rfl rfl (by decide) rfl (by decide) rfl (by decide) (fun h9 => absurd h9 (by decide)) is245 ?_
    generalize qh10 : mf_up h9 245 98 0 = h10
    replace hyp := hyp _ qh10.symm
    refine mf_aload_n (mf_dat eX12_ask_p0 39 rfl) rfl rfl ?_
    refine mf_iconst (v := 0) (mf_dat eX12_ask_p0 40 rfl) (by decide) ?_
    refine mf_putI (r := (RX12, TX12, 106)) (ci := 12) (k := 99) (kI := 99) (t := 0) (mf_dat eX12_ask_p0 41 rfl) fl_X12_347 rfl rfl (by decide) rfl (by decide) rfl (by decide) (fun h9 => absurd h9 (by decide)) is245 ?_
    generalize qh11 : mf_up h10 245 99 0 = h11
    replace hyp := hyp _ qh11.symm
    refine mf_aload_n (mf_dat eX12_ask_p0 42 rfl) rfl rfl ?_
    refine mf_callV (Yc := YX12_qKind) (r := (RX12, TX12, 106)) (ci := 12) (mf_dat eX12_ask_p0 43 rfl) ml_X12_656 okX12_qKind im_X12_qKind sl_X12_qKind rfl rfl rfl rfl (Nat.le_of_ble_eq_true rfl) (mf_rr (Nat.le_trans (by decide) hd) (Nat.le_refl _)) (Nat.le_refl _) is245 (hyp g hG) (fun r12 g13 h14 hyp => ?_)
    obtain ⟨hgg, hyp⟩ := hyp
    subst hgg
    refine mf_istore_n (mf_dat eX12_ask_p0 44 rfl) rfl (by decide) ?_
    refine mf_aload_n (mf_dat eX12_ask_p0 45 rfl) rfl rfl ?_
    refine mf_getf (r := (RX12, TX12, 106)) (ci := 12) (k := 5) (t := 0) (v := h14 245 5) (mf_dat eX12_ask_p0 46 rfl) fl_X12_243 rfl (by decide) rfl rfl is245 ?_
    refine mf_if_ne (tgt := 98) (mf_dat eX12_ask_p0 47 rfl) (by decide) (fun hc => ?_) (fun hc => ?_)
    · replace hyp := hyp.1 hc
      refine mf_aload_n (mf_dat eX12_ask_p0 54 rfl) rfl rfl ?_
      refine mf_getf (r := (RX12, TX12, 106)) (ci := 12) (k := 5) (t := 0) (v := h14 245 5) (mf_dat eX12_ask_p0 55 rfl) fl_X12_243 rfl (by decide) rfl rfl is245 ?_
      refine mf_if_ne (tgt := 109) (mf_dat eX12_ask_p0 56 rfl) (by decide) (fun hc => ?_) (fun hc => ?_)
      · replace hyp := hyp.1 hc
        exact mf_sub [1, 0] rfl (hyp g13 hG)
      · replace hyp := hyp.2 hc
        refine mf_aload_n (mf_dat eX12_ask_p0 57 rfl) rfl rfl ?_
        refine mf_callV (Yc := YX12_qSums) (r := (RX12, TX12, 106)) (ci := 12) (mf_dat eX12_ask_p0 58 rfl) ml_X12_353 okX12_qSums im_X12_qSums sl_X12_qSums rfl rfl rfl rfl (Nat.le_of_ble_eq_true rfl) (mf_rr (Nat.le_trans (by decide) hd) (Nat.le_refl _)) (Nat.le_refl _) is245 (hyp g13 hG) (fun r15 g16 h17 hyp => ?_)
        obtain ⟨hgg, hyp⟩ := hyp
        subst hgg
        exact mf_sub [1, 0] rfl (hyp g16 hG)
    · replace hyp := hyp.2 hc
      refine mf_iload_n (mf_dat eX12_ask_p0 48 rfl) rfl rfl ?_
      refine mf_iconst (v := 3) (mf_dat eX12_ask_p0 49 rfl) (by decide) ?_
      refine mf_icmp_ge (tgt := 98) (mf_dat eX12_ask_p0 50 rfl) (by decide) (fun hc => ?_) (fun hc => ?_)
      · replace hyp := hyp.1 hc
        refine mf_aload_n (mf_dat eX12_ask_p0 54 rfl) rfl rfl ?_
        refine mf_getf (r := (RX12, TX12, 106)) (ci := 12) (k := 5) (t := 0) (v := h14 245 5) (mf_dat eX12_ask_p0 55 rfl) fl_X12_243 rfl (by decide) rfl rfl is245 ?_
        refine mf_if_ne (tgt := 109) (mf_dat eX12_ask_p0 56 rfl) (by decide) (fun hc => ?_) (fun hc => ?_)
        · replace hyp := hyp.1 hc
          exact mf_sub [1, 0] rfl (hyp g13 hG)
        · replace hyp := hyp.2 hc
          refine mf_aload_n (mf_dat eX12_ask_p0 57 rfl) rfl rfl ?_
          refine mf_callV (Yc := YX12_qSums) (r := (RX12, TX12, 106)) (ci := 12) (mf_dat eX12_ask_p0 58 rfl) ml_X12_353 okX12_qSums im_X12_qSums sl_X12_qSums rfl rfl rfl rfl (Nat.le_of_ble_eq_true rfl) (mf_rr (Nat.le_trans (by decide) hd) (Nat.le_refl _)) (Nat.le_refl _) is245 (hyp g13 hG) (fun r18 g19 h20 hyp => ?_)
          obtain ⟨hgg, hyp⟩ := hyp
          subst hgg
          exact mf_sub [1, 0] rfl (hyp g19 hG)
      · replace hyp := hyp.2 hc
        refine mf_aload_n (mf_dat eX12_ask_p0 51 rfl) rfl rfl ?_
        refine mf_callV (Yc := YX12_qTest) (r := (RX12, TX12, 106)) (ci := 12) (mf_dat eX12_ask_p0 52 rfl) ml_X12_350 okX12_qTest im_X12_qTest sl_X12_qTest rfl rfl rfl rfl (Nat.le_of_ble_eq_true rfl) (mf_rr (Nat.le_trans (by decide) hd) (Nat.le_refl _)) (Nat.le_refl _) is245 (hyp g13 hG) (fun r21 g22 h23 hyp => ?_)
        obtain ⟨hgg, hyp⟩ := hyp
        subst hgg
        refine mf_goto (tgt := 109) (mf_dat eX12_ask_p0 53 rfl) (by decide) ?_
        exact mf_sub [1, 0] rfl (hyp g22 hG)
  · replace hyp := hyp.2 hc
    refine mf_aload_n (mf_dat eX12_ask_p0 3 rfl) rfl rfl ?_
    refine mf_iconst (v := 0) (mf_dat eX12_ask_p0 4 rfl) (by decide) ?_
    refine mf_putI (r := (RX12, TX12, 106)) (ci := 12) (k := 1) (kI := 1) (t := 0) (mf_dat eX12_ask_p0 5 rfl) fl_X12_240 rfl rfl (by decide) rfl (by decide) rfl (by decide) (fun h9 => absurd h9 (by decide)) is245 ?_
    generalize qh24 : mf_up h 245 1 0 = h24
    replace hyp := hyp _ qh24.symm
    refine mf_ldc2 (v := (-1000000000000000)) cl_X12_654 (mf_dat eX12_ask_p0 6 rfl) (by decide) ?_
    exact mf_lreturn (mf_dat eX12_ask_p0 7 rfl) rfl ⟨rfl, hyp⟩
abbrev BX12_checked_5 (C : mf_G) (l : Launch) (d : Nat) (K : Int → mf_M → Prop) (x0 x1 x2 x3 : Int) (h : mf_M) : Prop := jM C l d YX12_checked K 5 [(0, (2, x0)), (1, (0, x1)), (2, (0, x2)), (3, (0, x3))] [] h
set_option maxRecDepth 100000 in
set_option maxHeartbeats 4000000 in
theorem vX12_checked_5 {C : mf_G} {l : Launch} {d : Nat} {K : Int → mf_M → Prop} {x0 x1 x2 x3 : Int} {h : mf_M} (hyp : ((x1 ≤ x3 → K x2 h) ∧ (¬ x1 ≤ x3 → mf_is 319 x0 20 ∧ 0 ≤ x3 ∧ x3 < mf_len x0 ∧ (∀ v4 : Int, v4 = (mf_w32 ((mf_w32 (3 * x2)) + (h x0 x3))).tmod 251 → (∀ v5 : Int, v5 = mf_w32 (x3 + 1) → BX12_checked_5 C l d K x0 x1 v4 v5 h))))) : BX12_checked_5 C l d K x0 x1 x2 x3 h := by
  intro g hG
  refine mf_iload_n (mf_dat eX12_checked 4 rfl) rfl rfl ?_
  refine mf_iload_n (mf_dat eX12_checked 5 rfl) rfl rfl ?_
  refine mf_icmp_ge (tgt := 28) (mf_dat eX12_checked 6 rfl) (by decide) (fun hc => ?_) (fun hc => ?_)
  · replace hyp := hyp.1 hc
    refine mf_iload_n (mf_dat eX12_checked 19 rfl) rfl rfl ?_
    exact mf_ireturn (mf_dat eX12_checked 20 rfl) rfl (Or.inl rfl) ⟨rfl, hyp⟩
  · replace hyp := hyp.2 hc
    refine mf_iconst (v := 3) (mf_dat eX12_checked 7 rfl) (by decide) ?_
    refine mf_iload_n (mf_dat eX12_checked 8 rfl) rfl rfl ?_
    refine mf_imul (mf_dat eX12_checked 9 rfl) ?_
    refine mf_aload_n (mf_dat eX12_checked 10 rfl) rfl rfl ?_
    refine mf_iload_n (mf_dat eX12_checked 11 rfl) rfl rfl ?_
    obtain ⟨ck1, hyp⟩ := hyp
    obtain ⟨ck2, hyp⟩ := hyp
    obtain ⟨ck3, hyp⟩ := hyp
    refine mf_iald (mf_dat eX12_checked 12 rfl) ck1 rfl ck2 ck3 ?_
    refine mf_iadd (mf_dat eX12_checked 13 rfl) ?_
    refine mf_sipush (v := 251) (mf_dat eX12_checked 14 rfl) (by decide) ?_
    refine mf_irem (mf_dat eX12_checked 15 rfl) (by decide) ?_
    generalize qv4 : (mf_w32 ((mf_w32 (3 * x2)) + (h x0 x3))).tmod 251 = v4
    replace hyp := hyp _ qv4.symm
    refine mf_istore_n (mf_dat eX12_checked 16 rfl) rfl (by decide) ?_
    refine mf_iinc (mf_dat eX12_checked 17 rfl) rfl (by decide) (by decide) ?_
    generalize qv5 : mf_w32 (x3 + 1) = v5
    replace hyp := hyp _ qv5.symm
    refine mf_goto (tgt := 5) (mf_dat eX12_checked 18 rfl) (by decide) ?_
    exact mf_sub [2, 3, 1, 0] rfl (hyp g hG)
set_option maxRecDepth 100000 in
set_option maxHeartbeats 4000000 in
theorem wX12_checked {C : mf_G} {l : Launch} {d : Nat} {K : Int → mf_M → Prop} {x0 x1 : Int} {h : mf_M} (hyp : BX12_checked_5 C l d K x0 x1 83 0 h) : mM C l d YX12_checked [(2, x0), (0, x1)] h K := by
  intro g hG
  refine mf_entry (by decide) (Nat.le_of_ble_eq_true rfl) ?_
  refine mf_bipush (v := 83) (mf_dat eX12_checked 0 rfl) (by decide) ?_
  refine mf_istore_n (mf_dat eX12_checked 1 rfl) rfl (by decide) ?_
  refine mf_iconst (v := 0) (mf_dat eX12_checked 2 rfl) (by decide) ?_
  refine mf_istore_n (mf_dat eX12_checked 3 rfl) rfl (by decide) ?_
  exact mf_sub [2, 3, 1, 0] rfl (hyp g hG)
set_option maxRecDepth 100000 in
set_option maxHeartbeats 4000000 in
theorem wX12_writes {C : mf_G} {l : Launch} {d : Nat} {K : Int → mf_M → Prop} {x1 : Int} {h : mf_M} (hyp : 0 ≤ h 245 105 ∧ h 245 105 < 57 ∧ (∀ h3 : mf_M, h3 = mf_up h 318 (h 245 105) x1 → (∀ h4 : mf_M, h4 = mf_up h3 245 105 (mf_w32 ((h3 245 105) + 1)) → K 0 h4))) : mM C l d YX12_writes [(2, 245), (0, x1)] h K := by
  intro g hG
  refine mf_entry (by decide) (Nat.le_of_ble_eq_true rfl) ?_
  refine mf_aload_n (mf_dat eX12_writes 0 rfl) rfl rfl ?_
  refine mf_getf (r := (RX12, TX12, 106)) (ci := 12) (k := 104) (t := 2) (v := 318) (mf_dat eX12_writes 1 rfl) fl_X12_237 rfl (by decide) rfl (gm_104 hG) is245 ?_
  refine mf_aload_n (mf_dat eX12_writes 2 rfl) rfl rfl ?_
  refine mf_getf (r := (RX12, TX12, 106)) (ci := 12) (k := 105) (t := 0) (v := h 245 105) (mf_dat eX12_writes 3 rfl) fl_X12_667 rfl (by decide) rfl rfl is245 ?_
  refine mf_iload_n (mf_dat eX12_writes 4 rfl) rfl rfl ?_
  obtain ⟨ck1, hyp⟩ := hyp
  obtain ⟨ck2, hyp⟩ := hyp
  refine mf_iast (mf_dat eX12_writes 5 rfl) is318 len318 ck1 ck2 ?_
  generalize qh3 : mf_up h 318 (h 245 105) x1 = h3
  replace hyp := hyp _ qh3.symm
  refine mf_aload_n (mf_dat eX12_writes 6 rfl) rfl rfl ?_
  refine mf_dup (mf_dat eX12_writes 7 rfl) (by decide) ?_
  refine mf_getf (r := (RX12, TX12, 106)) (ci := 12) (k := 105) (t := 0) (v := h3 245 105) (mf_dat eX12_writes 8 rfl) fl_X12_667 rfl (by decide) rfl rfl is245 ?_
  refine mf_iconst (v := 1) (mf_dat eX12_writes 9 rfl) (by decide) ?_
  refine mf_iadd (mf_dat eX12_writes 10 rfl) ?_
  refine mf_putI (r := (RX12, TX12, 106)) (ci := 12) (k := 105) (kI := 105) (t := 0) (mf_dat eX12_writes 11 rfl) fl_X12_667 rfl rfl (by decide) rfl (by decide) rfl (by decide) (fun h9 => absurd h9 (by decide)) is245 ?_
  generalize qh4 : mf_up h3 245 105 (mf_w32 ((h3 245 105) + 1)) = h4
  replace hyp := hyp _ qh4.symm
  exact mf_return (mf_dat eX12_writes 12 rfl) rfl ⟨rfl, hyp⟩
set_option maxRecDepth 100000 in
set_option maxHeartbeats 4000000 in
theorem wX12_writesTwo {C : mf_G} {l : Launch} {d : Nat} {K : Int → mf_M → Prop} {x1 : Int} {h : mf_M} (hd : 1 ≤ d) (hyp : mM C l 0 YX12_writes [(2, 245), (0, mf_w32 (x1.tdiv 256))] h (fun r1 h3 => mM C l 0 YX12_writes [(2, 245), (0, x1.tmod 256)] h3 (fun r4 h6 => K 0 h6))) : mM C l d YX12_writesTwo [(2, 245), (0, x1)] h K := by
  intro g hG
  refine mf_entry (by decide) (Nat.le_of_ble_eq_true rfl) ?_
  refine mf_aload_n (mf_dat eX12_writesTwo 0 rfl) rfl rfl ?_
  refine mf_iload_n (mf_dat eX12_writesTwo 1 rfl) rfl rfl ?_
  refine mf_sipush (v := 256) (mf_dat eX12_writesTwo 2 rfl) (by decide) ?_
  refine mf_idiv (mf_dat eX12_writesTwo 3 rfl) (by decide) ?_
  refine mf_callV (Yc := YX12_writes) (r := (RX12, TX12, 106)) (ci := 12) (mf_dat eX12_writesTwo 4 rfl) ml_X12_670 okX12_writes im_X12_writes sl_X12_writes rfl rfl rfl rfl (Nat.le_of_ble_eq_true rfl) (mf_rr (Nat.le_trans (by decide) hd) (Nat.le_refl _)) (Nat.le_refl _) is245 (hyp g hG) (fun r1 g2 h3 hyp => ?_)
  obtain ⟨hgg, hyp⟩ := hyp
  subst hgg
  refine mf_aload_n (mf_dat eX12_writesTwo 5 rfl) rfl rfl ?_
  refine mf_iload_n (mf_dat eX12_writesTwo 6 rfl) rfl rfl ?_
  refine mf_sipush (v := 256) (mf_dat eX12_writesTwo 7 rfl) (by decide) ?_
  refine mf_irem (mf_dat eX12_writesTwo 8 rfl) (by decide) ?_
  refine mf_callV (Yc := YX12_writes) (r := (RX12, TX12, 106)) (ci := 12) (mf_dat eX12_writesTwo 9 rfl) ml_X12_670 okX12_writes im_X12_writes sl_X12_writes rfl rfl rfl rfl (Nat.le_of_ble_eq_true rfl) (mf_rr (Nat.le_trans (by decide) hd) (Nat.le_refl _)) (Nat.le_refl _) is245 (hyp g2 hG) (fun r4 g5 h6 hyp => ?_)
  obtain ⟨hgg, hyp⟩ := hyp
  subst hgg
  exact mf_return (mf_dat eX12_writesTwo 10 rfl) rfl ⟨rfl, hyp⟩
abbrev BX12_image_17 (C : mf_G) (l : Launch) (d : Nat) (K : Int → mf_M → Prop) (x1 : Int) (h : mf_M) : Prop := jM C l d YX12_image K 17 [(0, (2, 245)), (1, (0, x1))] [] h
abbrev BX12_image_45 (C : mf_G) (l : Launch) (d : Nat) (K : Int → mf_M → Prop) (x1 : Int) (h : mf_M) : Prop := jM C l d YX12_image K 45 [(0, (2, 245)), (1, (0, x1))] [] h
set_option maxRecDepth 100000 in
set_option maxHeartbeats 4000000 in
theorem vX12_image_17 {C : mf_G} {l : Launch} {d : Nat} {K : Int → mf_M → Prop} {x1 : Int} {h : mf_M} (hd : 1 ≤ d) (hyp : mM C l 0 YX12_leaves [(2, 245)] h (fun r1 h3 => ((r1 ≤ x1 → BX12_image_45 C l d K 0 h3) ∧ (¬ r1 ≤ x1 → 0 ≤ mf_w32 (1 + x1) ∧ mf_w32 (1 + x1) < 160 ∧ mM C l 0 YX12_writes [(2, 245), (0, h3 286 (mf_w32 (1 + x1)))] h3 (fun r6 h8 => (∀ v9 : Int, v9 = mf_w32 (x1 + 1) → BX12_image_17 C l d K v9 h8)))))) : BX12_image_17 C l d K x1 h := by
  intro g hG
  refine mf_iload_n (mf_dat eX12_image_p0 11 rfl) rfl rfl ?_
  refine mf_aload_n (mf_dat eX12_image_p0 12 rfl) rfl rfl ?_
  refine mf_callV (Yc := YX12_leaves) (r := (RX12, TX12, 106)) (ci := 12) (mf_dat eX12_image_p0 13 rfl) ml_X12_405 okX12_leaves im_X12_leaves sl_X12_leaves rfl rfl rfl rfl (Nat.le_of_ble_eq_true rfl) (mf_rr (Nat.le_trans (by decide) hd) (Nat.le_refl _)) (Nat.le_refl _) is245 (hyp g hG) (fun r1 g2 h3 hyp => ?_)
  obtain ⟨hgg, hyp⟩ := hyp
  subst hgg
  refine mf_icmp_ge (tgt := 43) (mf_dat eX12_image_p0 14 rfl) (by decide) (fun hc => ?_) (fun hc => ?_)
  · replace hyp := hyp.1 hc
    refine mf_iconst (v := 0) (mf_dat eX12_image_p0 25 rfl) (by decide) ?_
    refine mf_istore_n (mf_dat eX12_image_p0 26 rfl) rfl (by decide) ?_
    exact mf_sub [1, 0] rfl (hyp g2 hG)
  · replace hyp := hyp.2 hc
    refine mf_aload_n (mf_dat eX12_image_p0 15 rfl) rfl rfl ?_
    refine mf_aload_n (mf_dat eX12_image_p0 16 rfl) rfl rfl ?_
    refine mf_getf (r := (RX12, TX12, 106)) (ci := 12) (k := 56) (t := 2) (v := 286) (mf_dat eX12_image_p0 17 rfl) fl_X12_136 rfl (by decide) rfl (gm_56 hG) is245 ?_
    refine mf_iconst (v := 1) (mf_dat eX12_image_p0 18 rfl) (by decide) ?_
    refine mf_iload_n (mf_dat eX12_image_p0 19 rfl) rfl rfl ?_
    refine mf_iadd (mf_dat eX12_image_p0 20 rfl) ?_
    obtain ⟨ck4, hyp⟩ := hyp
    obtain ⟨ck5, hyp⟩ := hyp
    refine mf_iald (mf_dat eX12_image_p0 21 rfl) is286 len286 ck4 ck5 ?_
    refine mf_callV (Yc := YX12_writes) (r := (RX12, TX12, 106)) (ci := 12) (mf_dat eX12_image_p0 22 rfl) ml_X12_670 okX12_writes im_X12_writes sl_X12_writes rfl rfl rfl rfl (Nat.le_of_ble_eq_true rfl) (mf_rr (Nat.le_trans (by decide) hd) (Nat.le_refl _)) (Nat.le_refl _) is245 (hyp g2 hG) (fun r6 g7 h8 hyp => ?_)
    obtain ⟨hgg, hyp⟩ := hyp
    subst hgg
    refine mf_iinc (mf_dat eX12_image_p0 23 rfl) rfl (by decide) (by decide) ?_
    generalize qv9 : mf_w32 (x1 + 1) = v9
    replace hyp := hyp _ qv9.symm
    refine mf_goto (tgt := 17) (mf_dat eX12_image_p0 24 rfl) (by decide) ?_
    exact mf_sub [1, 0] rfl (hyp g7 hG)
set_option maxRecDepth 100000 in
set_option maxHeartbeats 4000000 in
theorem vX12_image_45 {C : mf_G} {l : Launch} {d : Nat} {K : Int → mf_M → Prop} {x1 : Int} {h : mf_M} (hd : 2 ≤ d) (hyp : mM C l 0 YX12_beingMany [(2, 245)] h (fun r1 h3 => ((r1 ≤ x1 → mM C l 0 YX12_checked [(2, 318), (0, h3 245 105)] h3 (fun r4 h6 => mM C l 0 YX12_writes [(2, 245), (0, r4)] h6 (fun r7 h9 => K (h9 245 105) h9))) ∧ (¬ r1 ≤ x1 → mM C l 0 YX12_leafOf [(2, 245), (0, x1)] h3 (fun r10 h12 => mM C l 0 YX12_writes [(2, 245), (0, r10)] h12 (fun r13 h15 => mM C l 0 YX12_cellOf [(2, 245), (0, x1)] h15 (fun r16 h18 => mM C l 0 YX12_writes [(2, 245), (0, r16)] h18 (fun r19 h21 => mM C l 0 YX12_purseOf [(2, 245), (0, x1)] h21 (fun r22 h24 => mM C l 1 YX12_writesTwo [(2, 245), (0, r22)] h24 (fun r25 h27 => 0 ≤ mf_w32 ((mf_w32 (7 + (mf_w32 (4 * x1)))) + 3) ∧ mf_w32 ((mf_w32 (7 + (mf_w32 (4 * x1)))) + 3) < 160 ∧ mM C l 1 YX12_writesTwo [(2, 245), (0, h27 286 (mf_w32 ((mf_w32 (7 + (mf_w32 (4 * x1)))) + 3)))] h27 (fun r30 h32 => (∀ v33 : Int, v33 = mf_w32 (x1 + 1) → BX12_image_45 C l d K v33 h32)))))))))))) : BX12_image_45 C l d K x1 h := by
  intro g hG
  refine mf_iload_n (mf_dat eX12_image_p0 27 rfl) rfl rfl ?_
  refine mf_aload_n (mf_dat eX12_image_p0 28 rfl) rfl rfl ?_
  refine mf_callV (Yc := YX12_beingMany) (r := (RX12, TX12, 106)) (ci := 12) (mf_dat eX12_image_p0 29 rfl) ml_X12_402 okX12_beingMany im_X12_beingMany sl_X12_beingMany rfl rfl rfl rfl (Nat.le_of_ble_eq_true rfl) (mf_rr (Nat.le_trans (by decide) hd) (Nat.le_refl _)) (Nat.le_refl _) is245 (hyp g hG) (fun r1 g2 h3 hyp => ?_)
  obtain ⟨hgg, hyp⟩ := hyp
  subst hgg
  refine mf_icmp_ge (tgt := 103) (mf_dat eX12_image_p0 30 rfl) (by decide) (fun hc => ?_) (fun hc => ?_)
  · replace hyp := hyp.1 hc
    refine mf_aload_n (mf_dat eX12_image_p1 0 rfl) rfl rfl ?_
    refine mf_aload_n (mf_dat eX12_image_p1 1 rfl) rfl rfl ?_
    refine mf_getf (r := (RX12, TX12, 106)) (ci := 12) (k := 104) (t := 2) (v := 318) (mf_dat eX12_image_p1 2 rfl) fl_X12_237 rfl (by decide) rfl (gm_104 hG) is245 ?_
    refine mf_aload_n (mf_dat eX12_image_p1 3 rfl) rfl rfl ?_
    refine mf_getf (r := (RX12, TX12, 106)) (ci := 12) (k := 105) (t := 0) (v := h3 245 105) (mf_dat eX12_image_p1 4 rfl) fl_X12_667 rfl (by decide) rfl rfl is245 ?_
    refine mf_callS (Yc := YX12_checked) (mf_dat eX12_image_p1 5 rfl) ml_X12_676 okX12_checked sm_X12_checked rfl rfl (Nat.le_of_ble_eq_true rfl) (mf_rr (Nat.le_trans (by decide) hd) (Nat.le_refl _)) (Nat.le_refl _) (hyp g2 hG) (fun r4 g5 h6 hyp => ?_)
    obtain ⟨hgg, hyp⟩ := hyp
    subst hgg
    refine mf_callV (Yc := YX12_writes) (r := (RX12, TX12, 106)) (ci := 12) (mf_dat eX12_image_p1 6 rfl) ml_X12_670 okX12_writes im_X12_writes sl_X12_writes rfl rfl rfl rfl (Nat.le_of_ble_eq_true rfl) (mf_rr (Nat.le_trans (by decide) hd) (Nat.le_refl _)) (Nat.le_refl _) is245 (hyp g5 hG) (fun r7 g8 h9 hyp => ?_)
    obtain ⟨hgg, hyp⟩ := hyp
    subst hgg
    refine mf_aload_n (mf_dat eX12_image_p1 7 rfl) rfl rfl ?_
    refine mf_getf (r := (RX12, TX12, 106)) (ci := 12) (k := 105) (t := 0) (v := h9 245 105) (mf_dat eX12_image_p1 8 rfl) fl_X12_667 rfl (by decide) rfl rfl is245 ?_
    exact mf_ireturn (mf_dat eX12_image_p1 9 rfl) rfl (Or.inl rfl) ⟨rfl, hyp⟩
  · replace hyp := hyp.2 hc
    refine mf_aload_n (mf_dat eX12_image_p0 31 rfl) rfl rfl ?_
    refine mf_aload_n (mf_dat eX12_image_p0 32 rfl) rfl rfl ?_
    refine mf_iload_n (mf_dat eX12_image_p0 33 rfl) rfl rfl ?_
    refine mf_callV (Yc := YX12_leafOf) (r := (RX12, TX12, 106)) (ci := 12) (mf_dat eX12_image_p0 34 rfl) ml_X12_410 okX12_leafOf im_X12_leafOf sl_X12_leafOf rfl rfl rfl rfl (Nat.le_of_ble_eq_true rfl) (mf_rr (Nat.le_trans (by decide) hd) (Nat.le_refl _)) (Nat.le_refl _) is245 (hyp g2 hG) (fun r10 g11 h12 hyp => ?_)
    obtain ⟨hgg, hyp⟩ := hyp
    subst hgg
    refine mf_callV (Yc := YX12_writes) (r := (RX12, TX12, 106)) (ci := 12) (mf_dat eX12_image_p0 35 rfl) ml_X12_670 okX12_writes im_X12_writes sl_X12_writes rfl rfl rfl rfl (Nat.le_of_ble_eq_true rfl) (mf_rr (Nat.le_trans (by decide) hd) (Nat.le_refl _)) (Nat.le_refl _) is245 (hyp g11 hG) (fun r13 g14 h15 hyp => ?_)
    obtain ⟨hgg, hyp⟩ := hyp
    subst hgg
    refine mf_aload_n (mf_dat eX12_image_p0 36 rfl) rfl rfl ?_
    refine mf_aload_n (mf_dat eX12_image_p0 37 rfl) rfl rfl ?_
    refine mf_iload_n (mf_dat eX12_image_p0 38 rfl) rfl rfl ?_
    refine mf_callV (Yc := YX12_cellOf) (r := (RX12, TX12, 106)) (ci := 12) (mf_dat eX12_image_p0 39 rfl) ml_X12_413 okX12_cellOf im_X12_cellOf sl_X12_cellOf rfl rfl rfl rfl (Nat.le_of_ble_eq_true rfl) (mf_rr (Nat.le_trans (by decide) hd) (Nat.le_refl _)) (Nat.le_refl _) is245 (hyp g14 hG) (fun r16 g17 h18 hyp => ?_)
    obtain ⟨hgg, hyp⟩ := hyp
    subst hgg
    refine mf_callV (Yc := YX12_writes) (r := (RX12, TX12, 106)) (ci := 12) (mf_dat eX12_image_p0 40 rfl) ml_X12_670 okX12_writes im_X12_writes sl_X12_writes rfl rfl rfl rfl (Nat.le_of_ble_eq_true rfl) (mf_rr (Nat.le_trans (by decide) hd) (Nat.le_refl _)) (Nat.le_refl _) is245 (hyp g17 hG) (fun r19 g20 h21 hyp => ?_)
    obtain ⟨hgg, hyp⟩ := hyp
    subst hgg
    refine mf_aload_n (mf_dat eX12_image_p0 41 rfl) rfl rfl ?_
    refine mf_aload_n (mf_dat eX12_image_p0 42 rfl) rfl rfl ?_
    refine mf_iload_n (mf_dat eX12_image_p0 43 rfl) rfl rfl ?_
    refine mf_callV (Yc := YX12_purseOf) (r := (RX12, TX12, 106)) (ci := 12) (mf_dat eX12_image_p0 44 rfl) ml_X12_445 okX12_purseOf im_X12_purseOf sl_X12_purseOf rfl rfl rfl rfl (Nat.le_of_ble_eq_true rfl) (mf_rr (Nat.le_trans (by decide) hd) (Nat.le_refl _)) (Nat.le_refl _) is245 (hyp g20 hG) (fun r22 g23 h24 hyp => ?_)
    obtain ⟨hgg, hyp⟩ := hyp
    subst hgg
    refine mf_callV (Yc := YX12_writesTwo) (r := (RX12, TX12, 106)) (ci := 12) (mf_dat eX12_image_p0 45 rfl) ml_X12_673 okX12_writesTwo im_X12_writesTwo sl_X12_writesTwo rfl rfl rfl rfl (Nat.le_of_ble_eq_true rfl) (mf_rr (Nat.le_trans (by decide) hd) (Nat.le_refl _)) (Nat.le_refl _) is245 (hyp g23 hG) (fun r25 g26 h27 hyp => ?_)
    obtain ⟨hgg, hyp⟩ := hyp
    subst hgg
    refine mf_aload_n (mf_dat eX12_image_p0 46 rfl) rfl rfl ?_
    refine mf_aload_n (mf_dat eX12_image_p0 47 rfl) rfl rfl ?_
    refine mf_getf (r := (RX12, TX12, 106)) (ci := 12) (k := 56) (t := 2) (v := 286) (mf_dat eX12_image_p0 48 rfl) fl_X12_136 rfl (by decide) rfl (gm_56 hG) is245 ?_
    refine mf_bipush (v := 7) (mf_dat eX12_image_p0 49 rfl) (by decide) ?_
    refine mf_iconst (v := 4) (mf_dat eX12_image_p0 50 rfl) (by decide) ?_
    refine mf_iload_n (mf_dat eX12_image_p0 51 rfl) rfl rfl ?_
    refine mf_imul (mf_dat eX12_image_p0 52 rfl) ?_
    refine mf_iadd (mf_dat eX12_image_p0 53 rfl) ?_
    refine mf_iconst (v := 3) (mf_dat eX12_image_p0 54 rfl) (by decide) ?_
    refine mf_iadd (mf_dat eX12_image_p0 55 rfl) ?_
    obtain ⟨ck28, hyp⟩ := hyp
    obtain ⟨ck29, hyp⟩ := hyp
    refine mf_iald (mf_dat eX12_image_p0 56 rfl) is286 len286 ck28 ck29 ?_
    refine mf_callV (Yc := YX12_writesTwo) (r := (RX12, TX12, 106)) (ci := 12) (mf_dat eX12_image_p0 57 rfl) ml_X12_673 okX12_writesTwo im_X12_writesTwo sl_X12_writesTwo rfl rfl rfl rfl (Nat.le_of_ble_eq_true rfl) (mf_rr (Nat.le_trans (by decide) hd) (Nat.le_refl _)) (Nat.le_refl _) is245 (hyp g26 hG) (fun r30 g31 h32 hyp => ?_)
    obtain ⟨hgg, hyp⟩ := hyp
    subst hgg
    refine mf_iinc (mf_dat eX12_image_p0 58 rfl) rfl (by decide) (by decide) ?_
    generalize qv33 : mf_w32 (x1 + 1) = v33
    replace hyp := hyp _ qv33.symm
    refine mf_goto (tgt := 45) (mf_dat eX12_image_p0 59 rfl) (by decide) ?_
    exact mf_sub [1, 0] rfl (hyp g31 hG)
set_option maxRecDepth 100000 in
set_option maxHeartbeats 4000000 in
theorem wX12_image {C : mf_G} {l : Launch} {d : Nat} {K : Int → mf_M → Prop} {h : mf_M} (hd : 2 ≤ d) (hyp : (∀ h1 : mf_M, h1 = mf_up h 245 105 0 → mM C l 1 YX12_writesTwo [(2, 245), (0, h1 286 0)] h1 (fun r2 h4 => BX12_image_17 C l d K 0 h4))) : mM C l d YX12_image [(2, 245)] h K := by
  intro g hG
  refine mf_entry (by decide) (Nat.le_of_ble_eq_true rfl) ?_
  refine mf_aload_n (mf_dat eX12_image_p0 0 rfl) rfl rfl ?_
  refine mf_iconst (v := 0) (mf_dat eX12_image_p0 1 rfl) (by decide) ?_
  refine mf_putI (r := (RX12, TX12, 106)) (ci := 12) (k := 105) (kI := 105) (t := 0) (mf_dat eX12_image_p0 2 rfl) fl_X12_667 rfl rfl (by decide) rfl (by decide) rfl (by decide) (fun h9 => absurd h9 (by decide)) is245 ?_
  generalize qh1 : mf_up h 245 105 0 = h1
  replace hyp := hyp _ qh1.symm
  refine mf_aload_n (mf_dat eX12_image_p0 3 rfl) rfl rfl ?_
  refine mf_aload_n (mf_dat eX12_image_p0 4 rfl) rfl rfl ?_
  refine mf_getf (r := (RX12, TX12, 106)) (ci := 12) (k := 56) (t := 2) (v := 286) (mf_dat eX12_image_p0 5 rfl) fl_X12_136 rfl (by decide) rfl (gm_56 hG) is245 ?_
  refine mf_iconst (v := 0) (mf_dat eX12_image_p0 6 rfl) (by decide) ?_
  refine mf_iald (mf_dat eX12_image_p0 7 rfl) is286 len286 (by decide) (by decide) ?_
  refine mf_callV (Yc := YX12_writesTwo) (r := (RX12, TX12, 106)) (ci := 12) (mf_dat eX12_image_p0 8 rfl) ml_X12_673 okX12_writesTwo im_X12_writesTwo sl_X12_writesTwo rfl rfl rfl rfl (Nat.le_of_ble_eq_true rfl) (mf_rr (Nat.le_trans (by decide) hd) (Nat.le_refl _)) (Nat.le_refl _) is245 (hyp g hG) (fun r2 g3 h4 hyp => ?_)
  obtain ⟨hgg, hyp⟩ := hyp
  subst hgg
  refine mf_iconst (v := 0) (mf_dat eX12_image_p0 9 rfl) (by decide) ?_
  refine mf_istore_n (mf_dat eX12_image_p0 10 rfl) rfl (by decide) ?_
  exact mf_sub [1, 0] rfl (hyp g3 hG)
set_option maxRecDepth 100000 in
set_option maxHeartbeats 4000000 in
theorem wX12_octet {C : mf_G} {l : Launch} {d : Nat} {K : Int → mf_M → Prop} {x1 : Int} {h : mf_M} (hyp : ((x1 < 0 → K (-1) h) ∧ (¬ x1 < 0 → ((h 245 105 ≤ x1 → K (-1) h) ∧ (¬ h 245 105 ≤ x1 → 0 ≤ x1 ∧ x1 < 57 ∧ K (h 318 x1) h))))) : mM C l d YX12_octet [(2, 245), (0, x1)] h K := by
  intro g hG
  refine mf_entry (by decide) (Nat.le_of_ble_eq_true rfl) ?_
  refine mf_iload_n (mf_dat eX12_octet 0 rfl) rfl rfl ?_
  refine mf_if_lt (tgt := 21) (mf_dat eX12_octet 1 rfl) (by decide) (fun hc => ?_) (fun hc => ?_)
  · replace hyp := hyp.1 hc
    refine mf_iconst (v := (-1)) (mf_dat eX12_octet 11 rfl) (by decide) ?_
    exact mf_ireturn (mf_dat eX12_octet 12 rfl) rfl (Or.inl rfl) ⟨rfl, hyp⟩
  · replace hyp := hyp.2 hc
    refine mf_iload_n (mf_dat eX12_octet 2 rfl) rfl rfl ?_
    refine mf_aload_n (mf_dat eX12_octet 3 rfl) rfl rfl ?_
    refine mf_getf (r := (RX12, TX12, 106)) (ci := 12) (k := 105) (t := 0) (v := h 245 105) (mf_dat eX12_octet 4 rfl) fl_X12_667 rfl (by decide) rfl rfl is245 ?_
    refine mf_icmp_ge (tgt := 21) (mf_dat eX12_octet 5 rfl) (by decide) (fun hc => ?_) (fun hc => ?_)
    · replace hyp := hyp.1 hc
      refine mf_iconst (v := (-1)) (mf_dat eX12_octet 11 rfl) (by decide) ?_
      exact mf_ireturn (mf_dat eX12_octet 12 rfl) rfl (Or.inl rfl) ⟨rfl, hyp⟩
    · replace hyp := hyp.2 hc
      refine mf_aload_n (mf_dat eX12_octet 6 rfl) rfl rfl ?_
      refine mf_getf (r := (RX12, TX12, 106)) (ci := 12) (k := 104) (t := 2) (v := 318) (mf_dat eX12_octet 7 rfl) fl_X12_237 rfl (by decide) rfl (gm_104 hG) is245 ?_
      refine mf_iload_n (mf_dat eX12_octet 8 rfl) rfl rfl ?_
      obtain ⟨ck1, hyp⟩ := hyp
      obtain ⟨ck2, hyp⟩ := hyp
      refine mf_iald (mf_dat eX12_octet 9 rfl) is318 len318 ck1 ck2 ?_
      refine mf_goto (tgt := 22) (mf_dat eX12_octet 10 rfl) (by decide) ?_
      exact mf_ireturn (mf_dat eX12_octet 12 rfl) rfl (Or.inl rfl) ⟨rfl, hyp⟩
set_option maxRecDepth 100000 in
set_option maxHeartbeats 4000000 in
theorem wX12_twoAt {C : mf_G} {l : Launch} {d : Nat} {K : Int → mf_M → Prop} {x1 : Int} {h : mf_M} (hyp : 0 ≤ x1 ∧ x1 < 1600 ∧ 0 ≤ mf_w32 (x1 + 1) ∧ mf_w32 (x1 + 1) < 1600 ∧ K (mf_w32 ((mf_w32 (256 * (h 246 x1))) + (h 246 (mf_w32 (x1 + 1))))) h) : mM C l d YX12_twoAt [(2, 245), (0, x1)] h K := by
  intro g hG
  refine mf_entry (by decide) (Nat.le_of_ble_eq_true rfl) ?_
  refine mf_sipush (v := 256) (mf_dat eX12_twoAt 0 rfl) (by decide) ?_
  refine mf_aload_n (mf_dat eX12_twoAt 1 rfl) rfl rfl ?_
  refine mf_getf (r := (RX12, TX12, 106)) (ci := 12) (k := 0) (t := 2) (v := 246) (mf_dat eX12_twoAt 2 rfl) fl_X12_7 rfl (by decide) rfl (gm_0 hG) is245 ?_
  refine mf_iload_n (mf_dat eX12_twoAt 3 rfl) rfl rfl ?_
  obtain ⟨ck1, hyp⟩ := hyp
  obtain ⟨ck2, hyp⟩ := hyp
  refine mf_iald (mf_dat eX12_twoAt 4 rfl) is246 len246 ck1 ck2 ?_
  refine mf_imul (mf_dat eX12_twoAt 5 rfl) ?_
  refine mf_aload_n (mf_dat eX12_twoAt 6 rfl) rfl rfl ?_
  refine mf_getf (r := (RX12, TX12, 106)) (ci := 12) (k := 0) (t := 2) (v := 246) (mf_dat eX12_twoAt 7 rfl) fl_X12_7 rfl (by decide) rfl (gm_0 hG) is245 ?_
  refine mf_iload_n (mf_dat eX12_twoAt 8 rfl) rfl rfl ?_
  refine mf_iconst (v := 1) (mf_dat eX12_twoAt 9 rfl) (by decide) ?_
  refine mf_iadd (mf_dat eX12_twoAt 10 rfl) ?_
  obtain ⟨ck3, hyp⟩ := hyp
  obtain ⟨ck4, hyp⟩ := hyp
  refine mf_iald (mf_dat eX12_twoAt 11 rfl) is246 len246 ck3 ck4 ?_
  refine mf_iadd (mf_dat eX12_twoAt 12 rfl) ?_
  exact mf_ireturn (mf_dat eX12_twoAt 13 rfl) rfl (Or.inl rfl) ⟨rfl, hyp⟩
abbrev BX12_isBeingTold_87 (C : mf_G) (l : Launch) (d : Nat) (K : Int → mf_M → Prop) (x3 x4 : Int) (h : mf_M) : Prop := jM C l d YX12_isBeingTold K 87 [(0, (2, 245)), (3, (0, x3)), (4, (0, x4))] [] h
set_option maxRecDepth 100000 in
set_option maxHeartbeats 4000000 in
theorem vX12_isBeingTold_87 {C : mf_G} {l : Launch} {d : Nat} {K : Int → mf_M → Prop} {x3 x4 : Int} {h : mf_M} (hyp : ((x3 ≤ x4 → K 1 h) ∧ (¬ x3 ≤ x4 → 0 ≤ x4 ∧ x4 < 1600 ∧ 0 ≤ x3 ∧ x3 < 1600 ∧ ((¬ h 246 x4 = h 246 x3 → (∀ v5 : Int, v5 = mf_w32 (x4 + 6) → BX12_isBeingTold_87 C l d K x3 v5 h)) ∧ (h 246 x4 = h 246 x3 → 0 ≤ mf_w32 (x4 + 1) ∧ mf_w32 (x4 + 1) < 1600 ∧ 0 ≤ mf_w32 (x3 + 1) ∧ mf_w32 (x3 + 1) < 1600 ∧ ((¬ h 246 (mf_w32 (x4 + 1)) = h 246 (mf_w32 (x3 + 1)) → (∀ v10 : Int, v10 = mf_w32 (x4 + 6) → BX12_isBeingTold_87 C l d K x3 v10 h)) ∧ (h 246 (mf_w32 (x4 + 1)) = h 246 (mf_w32 (x3 + 1)) → K 0 h))))))) : BX12_isBeingTold_87 C l d K x3 x4 h := by
  intro g hG
  refine mf_iload (mf_dat eX12_isBeingTold_p0 57 rfl) rfl ?_
  refine mf_iload_n (mf_dat eX12_isBeingTold_p0 58 rfl) rfl rfl ?_
  refine mf_icmp_ge (tgt := 137) (mf_dat eX12_isBeingTold_p0 59 rfl) (by decide) (fun hc => ?_) (fun hc => ?_)
  · replace hyp := hyp.1 hc
    refine mf_iconst (v := 1) (mf_dat eX12_isBeingTold_p1 26 rfl) (by decide) ?_
    exact mf_ireturn (mf_dat eX12_isBeingTold_p1 27 rfl) rfl (Or.inr ⟨rfl, by decide⟩) ⟨rfl, hyp⟩
  · replace hyp := hyp.2 hc
    refine mf_aload_n (mf_dat eX12_isBeingTold_p1 0 rfl) rfl rfl ?_
    refine mf_getf (r := (RX12, TX12, 106)) (ci := 12) (k := 0) (t := 2) (v := 246) (mf_dat eX12_isBeingTold_p1 1 rfl) fl_X12_7 rfl (by decide) rfl (gm_0 hG) is245 ?_
    refine mf_iload (mf_dat eX12_isBeingTold_p1 2 rfl) rfl ?_
    obtain ⟨ck1, hyp⟩ := hyp
    obtain ⟨ck2, hyp⟩ := hyp
    refine mf_iald (mf_dat eX12_isBeingTold_p1 3 rfl) is246 len246 ck1 ck2 ?_
    refine mf_aload_n (mf_dat eX12_isBeingTold_p1 4 rfl) rfl rfl ?_
    refine mf_getf (r := (RX12, TX12, 106)) (ci := 12) (k := 0) (t := 2) (v := 246) (mf_dat eX12_isBeingTold_p1 5 rfl) fl_X12_7 rfl (by decide) rfl (gm_0 hG) is245 ?_
    refine mf_iload_n (mf_dat eX12_isBeingTold_p1 6 rfl) rfl rfl ?_
    obtain ⟨ck3, hyp⟩ := hyp
    obtain ⟨ck4, hyp⟩ := hyp
    refine mf_iald (mf_dat eX12_isBeingTold_p1 7 rfl) is246 len246 ck3 ck4 ?_
    refine mf_icmp_ne (tgt := 131) (mf_dat eX12_isBeingTold_p1 8 rfl) (by decide) (fun hc => ?_) (fun hc => ?_)
    · replace hyp := hyp.1 hc
      refine mf_iinc (mf_dat eX12_isBeingTold_p1 24 rfl) rfl (by decide) (by decide) ?_
      generalize qv5 : mf_w32 (x4 + 6) = v5
      replace hyp := hyp _ qv5.symm
      refine mf_goto (tgt := 87) (mf_dat eX12_isBeingTold_p1 25 rfl) (by decide) ?_
      exact mf_sub [1, 2, 0] rfl (hyp g hG)
    · replace hyp := hyp.2 hc
      refine mf_aload_n (mf_dat eX12_isBeingTold_p1 9 rfl) rfl rfl ?_
      refine mf_getf (r := (RX12, TX12, 106)) (ci := 12) (k := 0) (t := 2) (v := 246) (mf_dat eX12_isBeingTold_p1 10 rfl) fl_X12_7 rfl (by decide) rfl (gm_0 hG) is245 ?_
      refine mf_iload (mf_dat eX12_isBeingTold_p1 11 rfl) rfl ?_
      refine mf_iconst (v := 1) (mf_dat eX12_isBeingTold_p1 12 rfl) (by decide) ?_
      refine mf_iadd (mf_dat eX12_isBeingTold_p1 13 rfl) ?_
      obtain ⟨ck6, hyp⟩ := hyp
      obtain ⟨ck7, hyp⟩ := hyp
      refine mf_iald (mf_dat eX12_isBeingTold_p1 14 rfl) is246 len246 ck6 ck7 ?_
      refine mf_aload_n (mf_dat eX12_isBeingTold_p1 15 rfl) rfl rfl ?_
      refine mf_getf (r := (RX12, TX12, 106)) (ci := 12) (k := 0) (t := 2) (v := 246) (mf_dat eX12_isBeingTold_p1 16 rfl) fl_X12_7 rfl (by decide) rfl (gm_0 hG) is245 ?_
      refine mf_iload_n (mf_dat eX12_isBeingTold_p1 17 rfl) rfl rfl ?_
      refine mf_iconst (v := 1) (mf_dat eX12_isBeingTold_p1 18 rfl) (by decide) ?_
      refine mf_iadd (mf_dat eX12_isBeingTold_p1 19 rfl) ?_
      obtain ⟨ck8, hyp⟩ := hyp
      obtain ⟨ck9, hyp⟩ := hyp
      refine mf_iald (mf_dat eX12_isBeingTold_p1 20 rfl) is246 len246 ck8 ck9 ?_
      refine mf_icmp_ne (tgt := 131) (mf_dat eX12_isBeingTold_p1 21 rfl) (by decide) (fun hc => ?_) (fun hc => ?_)
      · replace hyp := hyp.1 hc
        refine mf_iinc (mf_dat eX12_isBeingTold_p1 24 rfl) rfl (by decide) (by decide) ?_
        generalize qv10 : mf_w32 (x4 + 6) = v10
        replace hyp := hyp _ qv10.symm
        refine mf_goto (tgt := 87) (mf_dat eX12_isBeingTold_p1 25 rfl) (by decide) ?_
        exact mf_sub [1, 2, 0] rfl (hyp g hG)
      · replace hyp := hyp.2 hc
        refine mf_iconst (v := 0) (mf_dat eX12_isBeingTold_p1 22 rfl) (by decide) ?_
        exact mf_ireturn (mf_dat eX12_isBeingTold_p1 23 rfl) rfl (Or.inr ⟨rfl, by decide⟩) ⟨rfl, hyp⟩
set_option maxRecDepth 100000 in
set_option maxHeartbeats 4000000 in
theorem wX12_isBeingTold {C : mf_G} {l : Launch} {d : Nat} {K : Int → mf_M → Prop} {x1 x2 : Int} {h : mf_M} (hd : 2 ≤ d) (hyp : (∀ v1 : Int, v1 = mf_w32 (x1 + (mf_w32 (6 * x2))) → 0 ≤ v1 ∧ v1 < 1600 ∧ 0 ≤ mf_w32 (v1 + 1) ∧ mf_w32 (v1 + 1) < 1600 ∧ mM C l 1 YX12_isCell [(2, 245), (0, h 246 v1), (0, h 246 (mf_w32 (v1 + 1)))] h (fun r6 h8 => ((r6 = 0 → K 0 h8) ∧ (¬ r6 = 0 → 0 ≤ mf_w32 (2 + (h8 246 v1)) ∧ mf_w32 (2 + (h8 246 v1)) < 1600 ∧ ((mf_and (mf_shr (h8 246 (mf_w32 (2 + (h8 246 v1)))) (h8 246 (mf_w32 (v1 + 1)))) 1 = 1 → K 0 h8) ∧ (¬ mf_and (mf_shr (h8 246 (mf_w32 (2 + (h8 246 v1)))) (h8 246 (mf_w32 (v1 + 1)))) 1 = 1 → mM C l 0 YX12_twoAt [(2, 245), (0, mf_w32 (v1 + 2))] h8 (fun r11 h13 => ((9999 < r11 → K 0 h13) ∧ (¬ 9999 < r11 → mM C l 0 YX12_twoAt [(2, 245), (0, mf_w32 (v1 + 4))] h13 (fun r14 h16 => ((r14 ≤ 9999 → BX12_isBeingTold_87 C l d K v1 x1 h16) ∧ (¬ r14 ≤ 9999 → K 0 h16))))))))))))) : mM C l d YX12_isBeingTold [(2, 245), (0, x1), (0, x2)] h K := by
  intro g hG
  refine mf_entry (by decide) (Nat.le_of_ble_eq_true rfl) ?_
  refine mf_iload_n (mf_dat eX12_isBeingTold_p0 0 rfl) rfl rfl ?_
  refine mf_bipush (v := 6) (mf_dat eX12_isBeingTold_p0 1 rfl) (by decide) ?_
  refine mf_iload_n (mf_dat eX12_isBeingTold_p0 2 rfl) rfl rfl ?_
  refine mf_imul (mf_dat eX12_isBeingTold_p0 3 rfl) ?_
  refine mf_iadd (mf_dat eX12_isBeingTold_p0 4 rfl) ?_
  generalize qv1 : mf_w32 (x1 + (mf_w32 (6 * x2))) = v1
  replace hyp := hyp _ qv1.symm
  refine mf_istore_n (mf_dat eX12_isBeingTold_p0 5 rfl) rfl (by decide) ?_
  refine mf_aload_n (mf_dat eX12_isBeingTold_p0 6 rfl) rfl rfl ?_
  refine mf_aload_n (mf_dat eX12_isBeingTold_p0 7 rfl) rfl rfl ?_
  refine mf_getf (r := (RX12, TX12, 106)) (ci := 12) (k := 0) (t := 2) (v := 246) (mf_dat eX12_isBeingTold_p0 8 rfl) fl_X12_7 rfl (by decide) rfl (gm_0 hG) is245 ?_
  refine mf_iload_n (mf_dat eX12_isBeingTold_p0 9 rfl) rfl rfl ?_
  obtain ⟨ck2, hyp⟩ := hyp
  obtain ⟨ck3, hyp⟩ := hyp
  refine mf_iald (mf_dat eX12_isBeingTold_p0 10 rfl) is246 len246 ck2 ck3 ?_
  refine mf_aload_n (mf_dat eX12_isBeingTold_p0 11 rfl) rfl rfl ?_
  refine mf_getf (r := (RX12, TX12, 106)) (ci := 12) (k := 0) (t := 2) (v := 246) (mf_dat eX12_isBeingTold_p0 12 rfl) fl_X12_7 rfl (by decide) rfl (gm_0 hG) is245 ?_
  refine mf_iload_n (mf_dat eX12_isBeingTold_p0 13 rfl) rfl rfl ?_
  refine mf_iconst (v := 1) (mf_dat eX12_isBeingTold_p0 14 rfl) (by decide) ?_
  refine mf_iadd (mf_dat eX12_isBeingTold_p0 15 rfl) ?_
  obtain ⟨ck4, hyp⟩ := hyp
  obtain ⟨ck5, hyp⟩ := hyp
  refine mf_iald (mf_dat eX12_isBeingTold_p0 16 rfl) is246 len246 ck4 ck5 ?_
  refine mf_callV (Yc := YX12_isCell) (r := (RX12, TX12, 106)) (ci := 12) (mf_dat eX12_isBeingTold_p0 17 rfl) ml_X12_507 okX12_isCell im_X12_isCell sl_X12_isCell rfl rfl rfl rfl (Nat.le_of_ble_eq_true rfl) (mf_rr (Nat.le_trans (by decide) hd) (Nat.le_refl _)) (Nat.le_refl _) is245 (hyp g hG) (fun r6 g7 h8 hyp => ?_)
  obtain ⟨hgg, hyp⟩ := hyp
  subst hgg
  refine mf_if_eq (tgt := 82) (mf_dat eX12_isBeingTold_p0 18 rfl) (by decide) (fun hc => ?_) (fun hc => ?_)
  · replace hyp := hyp.1 hc
    refine mf_iconst (v := 0) (mf_dat eX12_isBeingTold_p0 53 rfl) (by decide) ?_
    exact mf_ireturn (mf_dat eX12_isBeingTold_p0 54 rfl) rfl (Or.inr ⟨rfl, by decide⟩) ⟨rfl, hyp⟩
  · replace hyp := hyp.2 hc
    refine mf_aload_n (mf_dat eX12_isBeingTold_p0 19 rfl) rfl rfl ?_
    refine mf_getf (r := (RX12, TX12, 106)) (ci := 12) (k := 0) (t := 2) (v := 246) (mf_dat eX12_isBeingTold_p0 20 rfl) fl_X12_7 rfl (by decide) rfl (gm_0 hG) is245 ?_
    refine mf_iconst (v := 2) (mf_dat eX12_isBeingTold_p0 21 rfl) (by decide) ?_
    refine mf_aload_n (mf_dat eX12_isBeingTold_p0 22 rfl) rfl rfl ?_
    refine mf_getf (r := (RX12, TX12, 106)) (ci := 12) (k := 0) (t := 2) (v := 246) (mf_dat eX12_isBeingTold_p0 23 rfl) fl_X12_7 rfl (by decide) rfl (gm_0 hG) is245 ?_
    refine mf_iload_n (mf_dat eX12_isBeingTold_p0 24 rfl) rfl rfl ?_
    refine mf_iald (mf_dat eX12_isBeingTold_p0 25 rfl) is246 len246 ck2 ck3 ?_
    refine mf_iadd (mf_dat eX12_isBeingTold_p0 26 rfl) ?_
    obtain ⟨ck9, hyp⟩ := hyp
    obtain ⟨ck10, hyp⟩ := hyp
    refine mf_iald (mf_dat eX12_isBeingTold_p0 27 rfl) is246 len246 ck9 ck10 ?_
    refine mf_aload_n (mf_dat eX12_isBeingTold_p0 28 rfl) rfl rfl ?_
    refine mf_getf (r := (RX12, TX12, 106)) (ci := 12) (k := 0) (t := 2) (v := 246) (mf_dat eX12_isBeingTold_p0 29 rfl) fl_X12_7 rfl (by decide) rfl (gm_0 hG) is245 ?_
    refine mf_iload_n (mf_dat eX12_isBeingTold_p0 30 rfl) rfl rfl ?_
    refine mf_iconst (v := 1) (mf_dat eX12_isBeingTold_p0 31 rfl) (by decide) ?_
    refine mf_iadd (mf_dat eX12_isBeingTold_p0 32 rfl) ?_
    refine mf_iald (mf_dat eX12_isBeingTold_p0 33 rfl) is246 len246 ck4 ck5 ?_
    refine mf_ishr (mf_dat eX12_isBeingTold_p0 34 rfl) ?_
    refine mf_iconst (v := 1) (mf_dat eX12_isBeingTold_p0 35 rfl) (by decide) ?_
    refine mf_iand (mf_dat eX12_isBeingTold_p0 36 rfl) ?_
    refine mf_iconst (v := 1) (mf_dat eX12_isBeingTold_p0 37 rfl) (by decide) ?_
    refine mf_icmp_eq (tgt := 82) (mf_dat eX12_isBeingTold_p0 38 rfl) (by decide) (fun hc => ?_) (fun hc => ?_)
    · replace hyp := hyp.1 hc
      refine mf_iconst (v := 0) (mf_dat eX12_isBeingTold_p0 53 rfl) (by decide) ?_
      exact mf_ireturn (mf_dat eX12_isBeingTold_p0 54 rfl) rfl (Or.inr ⟨rfl, by decide⟩) ⟨rfl, hyp⟩
    · replace hyp := hyp.2 hc
      refine mf_aload_n (mf_dat eX12_isBeingTold_p0 39 rfl) rfl rfl ?_
      refine mf_iload_n (mf_dat eX12_isBeingTold_p0 40 rfl) rfl rfl ?_
      refine mf_iconst (v := 2) (mf_dat eX12_isBeingTold_p0 41 rfl) (by decide) ?_
      refine mf_iadd (mf_dat eX12_isBeingTold_p0 42 rfl) ?_
      refine mf_callV (Yc := YX12_twoAt) (r := (RX12, TX12, 106)) (ci := 12) (mf_dat eX12_isBeingTold_p0 43 rfl) ml_X12_680 okX12_twoAt im_X12_twoAt sl_X12_twoAt rfl rfl rfl rfl (Nat.le_of_ble_eq_true rfl) (mf_rr (Nat.le_trans (by decide) hd) (Nat.le_refl _)) (Nat.le_refl _) is245 (hyp g7 hG) (fun r11 g12 h13 hyp => ?_)
      obtain ⟨hgg, hyp⟩ := hyp
      subst hgg
      refine mf_sipush (v := 9999) (mf_dat eX12_isBeingTold_p0 44 rfl) (by decide) ?_
      refine mf_icmp_gt (tgt := 82) (mf_dat eX12_isBeingTold_p0 45 rfl) (by decide) (fun hc => ?_) (fun hc => ?_)
      · replace hyp := hyp.1 hc
        refine mf_iconst (v := 0) (mf_dat eX12_isBeingTold_p0 53 rfl) (by decide) ?_
        exact mf_ireturn (mf_dat eX12_isBeingTold_p0 54 rfl) rfl (Or.inr ⟨rfl, by decide⟩) ⟨rfl, hyp⟩
      · replace hyp := hyp.2 hc
        refine mf_aload_n (mf_dat eX12_isBeingTold_p0 46 rfl) rfl rfl ?_
        refine mf_iload_n (mf_dat eX12_isBeingTold_p0 47 rfl) rfl rfl ?_
        refine mf_iconst (v := 4) (mf_dat eX12_isBeingTold_p0 48 rfl) (by decide) ?_
        refine mf_iadd (mf_dat eX12_isBeingTold_p0 49 rfl) ?_
        refine mf_callV (Yc := YX12_twoAt) (r := (RX12, TX12, 106)) (ci := 12) (mf_dat eX12_isBeingTold_p0 50 rfl) ml_X12_680 okX12_twoAt im_X12_twoAt sl_X12_twoAt rfl rfl rfl rfl (Nat.le_of_ble_eq_true rfl) (mf_rr (Nat.le_trans (by decide) hd) (Nat.le_refl _)) (Nat.le_refl _) is245 (hyp g12 hG) (fun r14 g15 h16 hyp => ?_)
        obtain ⟨hgg, hyp⟩ := hyp
        subst hgg
        refine mf_sipush (v := 9999) (mf_dat eX12_isBeingTold_p0 51 rfl) (by decide) ?_
        refine mf_icmp_le (tgt := 84) (mf_dat eX12_isBeingTold_p0 52 rfl) (by decide) (fun hc => ?_) (fun hc => ?_)
        · replace hyp := hyp.1 hc
          refine mf_iload_n (mf_dat eX12_isBeingTold_p0 55 rfl) rfl rfl ?_
          refine mf_istore (mf_dat eX12_isBeingTold_p0 56 rfl) (by decide) ?_
          exact mf_sub [2, 1, 0] rfl (hyp g15 hG)
        · replace hyp := hyp.2 hc
          refine mf_iconst (v := 0) (mf_dat eX12_isBeingTold_p0 53 rfl) (by decide) ?_
          exact mf_ireturn (mf_dat eX12_isBeingTold_p0 54 rfl) rfl (Or.inr ⟨rfl, by decide⟩) ⟨rfl, hyp⟩
abbrev BX12_isImage_65 (C : mf_G) (l : Launch) (d : Nat) (K : Int → mf_M → Prop) (x2 x3 : Int) (h : mf_M) : Prop := jM C l d YX12_isImage K 65 [(0, (2, 245)), (2, (0, x2)), (3, (0, x3))] [] h
abbrev BX12_isImage_97 (C : mf_G) (l : Launch) (d : Nat) (K : Int → mf_M → Prop) (x2 x3 : Int) (h : mf_M) : Prop := jM C l d YX12_isImage K 97 [(0, (2, 245)), (2, (0, x2)), (3, (0, x3))] [] h
set_option maxRecDepth 100000 in
set_option maxHeartbeats 4000000 in
theorem vX12_isImage_65 {C : mf_G} {l : Launch} {d : Nat} {K : Int → mf_M → Prop} {x2 x3 : Int} {h : mf_M} (hyp : ((x2 ≤ x3 → BX12_isImage_97 C l d K x2 0 h) ∧ (¬ x2 ≤ x3 → 0 ≤ x3 ∧ x3 < 1600 ∧ ((h 246 x3 < mf_shl 1 (h 276 3) → (∀ v3 : Int, v3 = mf_w32 (x3 + 1) → BX12_isImage_65 C l d K x2 v3 h)) ∧ (¬ h 246 x3 < mf_shl 1 (h 276 3) → K 0 h))))) : BX12_isImage_65 C l d K x2 x3 h := by
  intro g hG
  refine mf_iload_n (mf_dat eX12_isImage_p0 40 rfl) rfl rfl ?_
  refine mf_iload_n (mf_dat eX12_isImage_p0 41 rfl) rfl rfl ?_
  refine mf_icmp_ge (tgt := 95) (mf_dat eX12_isImage_p0 42 rfl) (by decide) (fun hc => ?_) (fun hc => ?_)
  · replace hyp := hyp.1 hc
    refine mf_iconst (v := 0) (mf_dat eX12_isImage_p0 58 rfl) (by decide) ?_
    refine mf_istore_n (mf_dat eX12_isImage_p0 59 rfl) rfl (by decide) ?_
    exact mf_sub [1, 2, 0] rfl (hyp g hG)
  · replace hyp := hyp.2 hc
    refine mf_aload_n (mf_dat eX12_isImage_p0 43 rfl) rfl rfl ?_
    refine mf_getf (r := (RX12, TX12, 106)) (ci := 12) (k := 0) (t := 2) (v := 246) (mf_dat eX12_isImage_p0 44 rfl) fl_X12_7 rfl (by decide) rfl (gm_0 hG) is245 ?_
    refine mf_iload_n (mf_dat eX12_isImage_p0 45 rfl) rfl rfl ?_
    obtain ⟨ck1, hyp⟩ := hyp
    obtain ⟨ck2, hyp⟩ := hyp
    refine mf_iald (mf_dat eX12_isImage_p0 46 rfl) is246 len246 ck1 ck2 ?_
    refine mf_iconst (v := 1) (mf_dat eX12_isImage_p0 47 rfl) (by decide) ?_
    refine mf_aload_n (mf_dat eX12_isImage_p0 48 rfl) rfl rfl ?_
    refine mf_getf (r := (RX12, TX12, 106)) (ci := 12) (k := 40) (t := 2) (v := 276) (mf_dat eX12_isImage_p0 49 rfl) fl_X12_105 rfl (by decide) rfl (gm_40 hG) is245 ?_
    refine mf_iconst (v := 3) (mf_dat eX12_isImage_p0 50 rfl) (by decide) ?_
    refine mf_iald (mf_dat eX12_isImage_p0 51 rfl) is276 len276 (by decide) (by decide) ?_
    refine mf_ishl (mf_dat eX12_isImage_p0 52 rfl) ?_
    refine mf_icmp_lt (tgt := 89) (mf_dat eX12_isImage_p0 53 rfl) (by decide) (fun hc => ?_) (fun hc => ?_)
    · replace hyp := hyp.1 hc
      refine mf_iinc (mf_dat eX12_isImage_p0 56 rfl) rfl (by decide) (by decide) ?_
      generalize qv3 : mf_w32 (x3 + 1) = v3
      replace hyp := hyp _ qv3.symm
      refine mf_goto (tgt := 65) (mf_dat eX12_isImage_p0 57 rfl) (by decide) ?_
      exact mf_sub [1, 2, 0] rfl (hyp g hG)
    · replace hyp := hyp.2 hc
      refine mf_iconst (v := 0) (mf_dat eX12_isImage_p0 54 rfl) (by decide) ?_
      exact mf_ireturn (mf_dat eX12_isImage_p0 55 rfl) rfl (Or.inr ⟨rfl, by decide⟩) ⟨rfl, hyp⟩
set_option maxRecDepth 100000 in
set_option maxHeartbeats 4000000 in
theorem vX12_isImage_97 {C : mf_G} {l : Launch} {d : Nat} {K : Int → mf_M → Prop} {x2 x3 : Int} {h : mf_M} (hd : 3 ≤ d) (hyp : mM C l 0 YX12_beingMany [(2, 245)] h (fun r1 h3 => ((r1 ≤ x3 → K 1 h3) ∧ (¬ r1 ≤ x3 → mM C l 2 YX12_isBeingTold [(2, 245), (0, x2), (0, x3)] h3 (fun r4 h6 => ((¬ r4 = 0 → (∀ v7 : Int, v7 = mf_w32 (x3 + 1) → BX12_isImage_97 C l d K x2 v7 h6)) ∧ (r4 = 0 → K 0 h6))))))) : BX12_isImage_97 C l d K x2 x3 h := by
  intro g hG
  refine mf_iload_n (mf_dat eX12_isImage_p1 0 rfl) rfl rfl ?_
  refine mf_aload_n (mf_dat eX12_isImage_p1 1 rfl) rfl rfl ?_
  refine mf_callV (Yc := YX12_beingMany) (r := (RX12, TX12, 106)) (ci := 12) (mf_dat eX12_isImage_p1 2 rfl) ml_X12_402 okX12_beingMany im_X12_beingMany sl_X12_beingMany rfl rfl rfl rfl (Nat.le_of_ble_eq_true rfl) (mf_rr (Nat.le_trans (by decide) hd) (Nat.le_refl _)) (Nat.le_refl _) is245 (hyp g hG) (fun r1 g2 h3 hyp => ?_)
  obtain ⟨hgg, hyp⟩ := hyp
  subst hgg
  refine mf_icmp_ge (tgt := 122) (mf_dat eX12_isImage_p1 3 rfl) (by decide) (fun hc => ?_) (fun hc => ?_)
  · replace hyp := hyp.1 hc
    refine mf_iconst (v := 1) (mf_dat eX12_isImage_p1 13 rfl) (by decide) ?_
    exact mf_ireturn (mf_dat eX12_isImage_p1 14 rfl) rfl (Or.inr ⟨rfl, by decide⟩) ⟨rfl, hyp⟩
  · replace hyp := hyp.2 hc
    refine mf_aload_n (mf_dat eX12_isImage_p1 4 rfl) rfl rfl ?_
    refine mf_iload_n (mf_dat eX12_isImage_p1 5 rfl) rfl rfl ?_
    refine mf_iload_n (mf_dat eX12_isImage_p1 6 rfl) rfl rfl ?_
    refine mf_callV (Yc := YX12_isBeingTold) (r := (RX12, TX12, 106)) (ci := 12) (mf_dat eX12_isImage_p1 7 rfl) ml_X12_683 okX12_isBeingTold im_X12_isBeingTold sl_X12_isBeingTold rfl rfl rfl rfl (Nat.le_of_ble_eq_true rfl) (mf_rr (Nat.le_trans (by decide) hd) (Nat.le_refl _)) (Nat.le_refl _) is245 (hyp g2 hG) (fun r4 g5 h6 hyp => ?_)
    obtain ⟨hgg, hyp⟩ := hyp
    subst hgg
    refine mf_if_ne (tgt := 116) (mf_dat eX12_isImage_p1 8 rfl) (by decide) (fun hc => ?_) (fun hc => ?_)
    · replace hyp := hyp.1 hc
      refine mf_iinc (mf_dat eX12_isImage_p1 11 rfl) rfl (by decide) (by decide) ?_
      generalize qv7 : mf_w32 (x3 + 1) = v7
      replace hyp := hyp _ qv7.symm
      refine mf_goto (tgt := 97) (mf_dat eX12_isImage_p1 12 rfl) (by decide) ?_
      exact mf_sub [1, 2, 0] rfl (hyp g5 hG)
    · replace hyp := hyp.2 hc
      refine mf_iconst (v := 0) (mf_dat eX12_isImage_p1 9 rfl) (by decide) ?_
      exact mf_ireturn (mf_dat eX12_isImage_p1 10 rfl) rfl (Or.inr ⟨rfl, by decide⟩) ⟨rfl, hyp⟩
set_option maxRecDepth 100000 in
set_option maxHeartbeats 4000000 in
theorem wX12_isImage {C : mf_G} {l : Launch} {d : Nat} {K : Int → mf_M → Prop} {x1 : Int} {h : mf_M} (hd : 1 ≤ d) (hyp : mM C l 0 YX12_leaves [(2, 245)] h (fun r1 h3 => (∀ v4 : Int, v4 = mf_w32 (2 + r1) → ((h3 245 54 = 0 → K 0 h3) ∧ (¬ h3 245 54 = 0 → mM C l 0 YX12_beingMany [(2, 245)] h3 (fun r5 h7 => ((¬ x1 = mf_w32 ((mf_w32 (v4 + (mf_w32 (6 * r5)))) + 1) → K 0 h7) ∧ (x1 = mf_w32 ((mf_w32 (v4 + (mf_w32 (6 * r5)))) + 1) → 0 ≤ mf_w32 (x1 - 1) ∧ mf_w32 (x1 - 1) < 1600 ∧ mM C l 0 YX12_checked [(2, 246), (0, mf_w32 (x1 - 1))] h7 (fun r10 h12 => ((¬ h7 246 (mf_w32 (x1 - 1)) = r10 → K 0 h12) ∧ (h7 246 (mf_w32 (x1 - 1)) = r10 → mM C l 0 YX12_twoAt [(2, 245), (0, 0)] h12 (fun r13 h15 => ((r13 ≤ 999 → BX12_isImage_65 C l d K v4 2 h15) ∧ (¬ r13 ≤ 999 → K 0 h15)))))))))))))) : mM C l d YX12_isImage [(2, 245), (0, x1)] h K := by
  intro g hG
  refine mf_entry (by decide) (Nat.le_of_ble_eq_true rfl) ?_
  refine mf_iconst (v := 2) (mf_dat eX12_isImage_p0 0 rfl) (by decide) ?_
  refine mf_aload_n (mf_dat eX12_isImage_p0 1 rfl) rfl rfl ?_
  refine mf_callV (Yc := YX12_leaves) (r := (RX12, TX12, 106)) (ci := 12) (mf_dat eX12_isImage_p0 2 rfl) ml_X12_405 okX12_leaves im_X12_leaves sl_X12_leaves rfl rfl rfl rfl (Nat.le_of_ble_eq_true rfl) (mf_rr (Nat.le_trans (by decide) hd) (Nat.le_refl _)) (Nat.le_refl _) is245 (hyp g hG) (fun r1 g2 h3 hyp => ?_)
  obtain ⟨hgg, hyp⟩ := hyp
  subst hgg
  refine mf_iadd (mf_dat eX12_isImage_p0 3 rfl) ?_
  generalize qv4 : mf_w32 (2 + r1) = v4
  replace hyp := hyp _ qv4.symm
  refine mf_istore_n (mf_dat eX12_isImage_p0 4 rfl) rfl (by decide) ?_
  refine mf_aload_n (mf_dat eX12_isImage_p0 5 rfl) rfl rfl ?_
  refine mf_getf (r := (RX12, TX12, 106)) (ci := 12) (k := 54) (t := 0) (v := h3 245 54) (mf_dat eX12_isImage_p0 6 rfl) fl_X12_389 rfl (by decide) rfl rfl is245 ?_
  refine mf_if_eq (tgt := 61) (mf_dat eX12_isImage_p0 7 rfl) (by decide) (fun hc => ?_) (fun hc => ?_)
  · replace hyp := hyp.1 hc
    refine mf_iconst (v := 0) (mf_dat eX12_isImage_p0 36 rfl) (by decide) ?_
    exact mf_ireturn (mf_dat eX12_isImage_p0 37 rfl) rfl (Or.inr ⟨rfl, by decide⟩) ⟨rfl, hyp⟩
  · replace hyp := hyp.2 hc
    refine mf_iload_n (mf_dat eX12_isImage_p0 8 rfl) rfl rfl ?_
    refine mf_iload_n (mf_dat eX12_isImage_p0 9 rfl) rfl rfl ?_
    refine mf_bipush (v := 6) (mf_dat eX12_isImage_p0 10 rfl) (by decide) ?_
    refine mf_aload_n (mf_dat eX12_isImage_p0 11 rfl) rfl rfl ?_
    refine mf_callV (Yc := YX12_beingMany) (r := (RX12, TX12, 106)) (ci := 12) (mf_dat eX12_isImage_p0 12 rfl) ml_X12_402 okX12_beingMany im_X12_beingMany sl_X12_beingMany rfl rfl rfl rfl (Nat.le_of_ble_eq_true rfl) (mf_rr (Nat.le_trans (by decide) hd) (Nat.le_refl _)) (Nat.le_refl _) is245 (hyp g2 hG) (fun r5 g6 h7 hyp => ?_)
    obtain ⟨hgg, hyp⟩ := hyp
    subst hgg
    refine mf_imul (mf_dat eX12_isImage_p0 13 rfl) ?_
    refine mf_iadd (mf_dat eX12_isImage_p0 14 rfl) ?_
    refine mf_iconst (v := 1) (mf_dat eX12_isImage_p0 15 rfl) (by decide) ?_
    refine mf_iadd (mf_dat eX12_isImage_p0 16 rfl) ?_
    refine mf_icmp_ne (tgt := 61) (mf_dat eX12_isImage_p0 17 rfl) (by decide) (fun hc => ?_) (fun hc => ?_)
    · replace hyp := hyp.1 hc
      refine mf_iconst (v := 0) (mf_dat eX12_isImage_p0 36 rfl) (by decide) ?_
      exact mf_ireturn (mf_dat eX12_isImage_p0 37 rfl) rfl (Or.inr ⟨rfl, by decide⟩) ⟨rfl, hyp⟩
    · replace hyp := hyp.2 hc
      refine mf_aload_n (mf_dat eX12_isImage_p0 18 rfl) rfl rfl ?_
      refine mf_getf (r := (RX12, TX12, 106)) (ci := 12) (k := 0) (t := 2) (v := 246) (mf_dat eX12_isImage_p0 19 rfl) fl_X12_7 rfl (by decide) rfl (gm_0 hG) is245 ?_
      refine mf_iload_n (mf_dat eX12_isImage_p0 20 rfl) rfl rfl ?_
      refine mf_iconst (v := 1) (mf_dat eX12_isImage_p0 21 rfl) (by decide) ?_
      refine mf_isub (mf_dat eX12_isImage_p0 22 rfl) ?_
      obtain ⟨ck8, hyp⟩ := hyp
      obtain ⟨ck9, hyp⟩ := hyp
      refine mf_iald (mf_dat eX12_isImage_p0 23 rfl) is246 len246 ck8 ck9 ?_
      refine mf_aload_n (mf_dat eX12_isImage_p0 24 rfl) rfl rfl ?_
      refine mf_getf (r := (RX12, TX12, 106)) (ci := 12) (k := 0) (t := 2) (v := 246) (mf_dat eX12_isImage_p0 25 rfl) fl_X12_7 rfl (by decide) rfl (gm_0 hG) is245 ?_
      refine mf_iload_n (mf_dat eX12_isImage_p0 26 rfl) rfl rfl ?_
      refine mf_iconst (v := 1) (mf_dat eX12_isImage_p0 27 rfl) (by decide) ?_
      refine mf_isub (mf_dat eX12_isImage_p0 28 rfl) ?_
      refine mf_callS (Yc := YX12_checked) (mf_dat eX12_isImage_p0 29 rfl) ml_X12_676 okX12_checked sm_X12_checked rfl rfl (Nat.le_of_ble_eq_true rfl) (mf_rr (Nat.le_trans (by decide) hd) (Nat.le_refl _)) (Nat.le_refl _) (hyp g6 hG) (fun r10 g11 h12 hyp => ?_)
      obtain ⟨hgg, hyp⟩ := hyp
      subst hgg
      refine mf_icmp_ne (tgt := 61) (mf_dat eX12_isImage_p0 30 rfl) (by decide) (fun hc => ?_) (fun hc => ?_)
      · replace hyp := hyp.1 hc
        refine mf_iconst (v := 0) (mf_dat eX12_isImage_p0 36 rfl) (by decide) ?_
        exact mf_ireturn (mf_dat eX12_isImage_p0 37 rfl) rfl (Or.inr ⟨rfl, by decide⟩) ⟨rfl, hyp⟩
      · replace hyp := hyp.2 hc
        refine mf_aload_n (mf_dat eX12_isImage_p0 31 rfl) rfl rfl ?_
        refine mf_iconst (v := 0) (mf_dat eX12_isImage_p0 32 rfl) (by decide) ?_
        refine mf_callV (Yc := YX12_twoAt) (r := (RX12, TX12, 106)) (ci := 12) (mf_dat eX12_isImage_p0 33 rfl) ml_X12_680 okX12_twoAt im_X12_twoAt sl_X12_twoAt rfl rfl rfl rfl (Nat.le_of_ble_eq_true rfl) (mf_rr (Nat.le_trans (by decide) hd) (Nat.le_refl _)) (Nat.le_refl _) is245 (hyp g11 hG) (fun r13 g14 h15 hyp => ?_)
        obtain ⟨hgg, hyp⟩ := hyp
        subst hgg
        refine mf_sipush (v := 999) (mf_dat eX12_isImage_p0 34 rfl) (by decide) ?_
        refine mf_icmp_le (tgt := 63) (mf_dat eX12_isImage_p0 35 rfl) (by decide) (fun hc => ?_) (fun hc => ?_)
        · replace hyp := hyp.1 hc
          refine mf_iconst (v := 2) (mf_dat eX12_isImage_p0 38 rfl) (by decide) ?_
          refine mf_istore_n (mf_dat eX12_isImage_p0 39 rfl) rfl (by decide) ?_
          exact mf_sub [2, 1, 0] rfl (hyp g14 hG)
        · replace hyp := hyp.2 hc
          refine mf_iconst (v := 0) (mf_dat eX12_isImage_p0 36 rfl) (by decide) ?_
          exact mf_ireturn (mf_dat eX12_isImage_p0 37 rfl) rfl (Or.inr ⟨rfl, by decide⟩) ⟨rfl, hyp⟩
abbrev BX12_on_43 (C : mf_G) (l : Launch) (d : Nat) (K : Int → mf_M → Prop) (x2 : Int) (h : mf_M) : Prop := jM C l d YX12_on K 43 [(0, (2, 245)), (2, (0, x2))] [] h
abbrev BX12_on_75 (C : mf_G) (l : Launch) (d : Nat) (K : Int → mf_M → Prop) (x2 : Int) (h : mf_M) : Prop := jM C l d YX12_on K 75 [(0, (2, 245)), (2, (0, x2))] [] h
set_option maxRecDepth 100000 in
set_option maxHeartbeats 4000000 in
theorem vX12_on_43 {C : mf_G} {l : Launch} {d : Nat} {K : Int → mf_M → Prop} {x2 : Int} {h : mf_M} (hd : 1 ≤ d) (hyp : mM C l 0 YX12_leaves [(2, 245)] h (fun r1 h3 => ((r1 ≤ x2 → BX12_on_75 C l d K 0 h3) ∧ (¬ r1 ≤ x2 → 0 ≤ mf_w32 (2 + x2) ∧ mf_w32 (2 + x2) < 1600 ∧ 0 ≤ mf_w32 (1 + x2) ∧ mf_w32 (1 + x2) < 160 ∧ (∀ h8 : mf_M, h8 = mf_up h3 286 (mf_w32 (1 + x2)) (h3 246 (mf_w32 (2 + x2))) → (∀ v9 : Int, v9 = mf_w32 (x2 + 1) → BX12_on_43 C l d K v9 h8)))))) : BX12_on_43 C l d K x2 h := by
  intro g hG
  refine mf_iload_n (mf_dat eX12_on_p0 29 rfl) rfl rfl ?_
  refine mf_aload_n (mf_dat eX12_on_p0 30 rfl) rfl rfl ?_
  refine mf_callV (Yc := YX12_leaves) (r := (RX12, TX12, 106)) (ci := 12) (mf_dat eX12_on_p0 31 rfl) ml_X12_405 okX12_leaves im_X12_leaves sl_X12_leaves rfl rfl rfl rfl (Nat.le_of_ble_eq_true rfl) (mf_rr (Nat.le_trans (by decide) hd) (Nat.le_refl _)) (Nat.le_refl _) is245 (hyp g hG) (fun r1 g2 h3 hyp => ?_)
  obtain ⟨hgg, hyp⟩ := hyp
  subst hgg
  refine mf_icmp_ge (tgt := 73) (mf_dat eX12_on_p0 32 rfl) (by decide) (fun hc => ?_) (fun hc => ?_)
  · replace hyp := hyp.1 hc
    refine mf_iconst (v := 0) (mf_dat eX12_on_p0 47 rfl) (by decide) ?_
    refine mf_istore_n (mf_dat eX12_on_p0 48 rfl) rfl (by decide) ?_
    exact mf_sub [1, 0] rfl (hyp g2 hG)
  · replace hyp := hyp.2 hc
    refine mf_aload_n (mf_dat eX12_on_p0 33 rfl) rfl rfl ?_
    refine mf_getf (r := (RX12, TX12, 106)) (ci := 12) (k := 56) (t := 2) (v := 286) (mf_dat eX12_on_p0 34 rfl) fl_X12_136 rfl (by decide) rfl (gm_56 hG) is245 ?_
    refine mf_iconst (v := 1) (mf_dat eX12_on_p0 35 rfl) (by decide) ?_
    refine mf_iload_n (mf_dat eX12_on_p0 36 rfl) rfl rfl ?_
    refine mf_iadd (mf_dat eX12_on_p0 37 rfl) ?_
    refine mf_aload_n (mf_dat eX12_on_p0 38 rfl) rfl rfl ?_
    refine mf_getf (r := (RX12, TX12, 106)) (ci := 12) (k := 0) (t := 2) (v := 246) (mf_dat eX12_on_p0 39 rfl) fl_X12_7 rfl (by decide) rfl (gm_0 hG) is245 ?_
    refine mf_iconst (v := 2) (mf_dat eX12_on_p0 40 rfl) (by decide) ?_
    refine mf_iload_n (mf_dat eX12_on_p0 41 rfl) rfl rfl ?_
    refine mf_iadd (mf_dat eX12_on_p0 42 rfl) ?_
    obtain ⟨ck4, hyp⟩ := hyp
    obtain ⟨ck5, hyp⟩ := hyp
    refine mf_iald (mf_dat eX12_on_p0 43 rfl) is246 len246 ck4 ck5 ?_
    obtain ⟨ck6, hyp⟩ := hyp
    obtain ⟨ck7, hyp⟩ := hyp
    refine mf_iast (mf_dat eX12_on_p0 44 rfl) is286 len286 ck6 ck7 ?_
    generalize qh8 : mf_up h3 286 (mf_w32 (1 + x2)) (h3 246 (mf_w32 (2 + x2))) = h8
    replace hyp := hyp _ qh8.symm
    refine mf_iinc (mf_dat eX12_on_p0 45 rfl) rfl (by decide) (by decide) ?_
    generalize qv9 : mf_w32 (x2 + 1) = v9
    replace hyp := hyp _ qv9.symm
    refine mf_goto (tgt := 43) (mf_dat eX12_on_p0 46 rfl) (by decide) ?_
    exact mf_sub [1, 0] rfl (hyp g2 hG)
set_option maxRecDepth 100000 in
set_option maxHeartbeats 4000000 in
theorem vX12_on_75 {C : mf_G} {l : Launch} {d : Nat} {K : Int → mf_M → Prop} {x2 : Int} {h : mf_M} (hd : 1 ≤ d) (hyp : mM C l 0 YX12_beingMany [(2, 245)] h (fun r1 h3 => ((r1 ≤ x2 → (∀ h4 : mf_M, h4 = mf_up h3 286 39 0 → (∀ h5 : mf_M, h5 = mf_up h4 245 69 0 → K 1 h5))) ∧ (¬ r1 ≤ x2 → mM C l 0 YX12_leaves [(2, 245)] h3 (fun r6 h8 => (∀ v9 : Int, v9 = mf_w32 ((mf_w32 (2 + r6)) + (mf_w32 (6 * x2))) → 0 ≤ v9 ∧ v9 < 1600 ∧ 0 ≤ mf_w32 (7 + (mf_w32 (4 * x2))) ∧ mf_w32 (7 + (mf_w32 (4 * x2))) < 160 ∧ (∀ h14 : mf_M, h14 = mf_up h8 286 (mf_w32 (7 + (mf_w32 (4 * x2)))) (h8 246 v9) → 0 ≤ mf_w32 (v9 + 1) ∧ mf_w32 (v9 + 1) < 1600 ∧ 0 ≤ mf_w32 ((mf_w32 (7 + (mf_w32 (4 * x2)))) + 1) ∧ mf_w32 ((mf_w32 (7 + (mf_w32 (4 * x2)))) + 1) < 160 ∧ (∀ h19 : mf_M, h19 = mf_up h14 286 (mf_w32 ((mf_w32 (7 + (mf_w32 (4 * x2)))) + 1)) (h14 246 (mf_w32 (v9 + 1))) → mM C l 0 YX12_twoAt [(2, 245), (0, mf_w32 (v9 + 2))] h19 (fun r20 h22 => 0 ≤ mf_w32 ((mf_w32 (7 + (mf_w32 (4 * x2)))) + 2) ∧ mf_w32 ((mf_w32 (7 + (mf_w32 (4 * x2)))) + 2) < 160 ∧ (∀ h25 : mf_M, h25 = mf_up h22 286 (mf_w32 ((mf_w32 (7 + (mf_w32 (4 * x2)))) + 2)) r20 → mM C l 0 YX12_twoAt [(2, 245), (0, mf_w32 (v9 + 4))] h25 (fun r26 h28 => 0 ≤ mf_w32 ((mf_w32 (7 + (mf_w32 (4 * x2)))) + 3) ∧ mf_w32 ((mf_w32 (7 + (mf_w32 (4 * x2)))) + 3) < 160 ∧ (∀ h31 : mf_M, h31 = mf_up h28 286 (mf_w32 ((mf_w32 (7 + (mf_w32 (4 * x2)))) + 3)) r26 → (∀ v32 : Int, v32 = mf_w32 (x2 + 1) → BX12_on_75 C l d K v32 h31))))))))))))) : BX12_on_75 C l d K x2 h := by
  intro g hG
  refine mf_iload_n (mf_dat eX12_on_p0 49 rfl) rfl rfl ?_
  refine mf_aload_n (mf_dat eX12_on_p0 50 rfl) rfl rfl ?_
  refine mf_callV (Yc := YX12_beingMany) (r := (RX12, TX12, 106)) (ci := 12) (mf_dat eX12_on_p0 51 rfl) ml_X12_402 okX12_beingMany im_X12_beingMany sl_X12_beingMany rfl rfl rfl rfl (Nat.le_of_ble_eq_true rfl) (mf_rr (Nat.le_trans (by decide) hd) (Nat.le_refl _)) (Nat.le_refl _) is245 (hyp g hG) (fun r1 g2 h3 hyp => ?_)
  obtain ⟨hgg, hyp⟩ := hyp
  subst hgg
  refine mf_icmp_ge (tgt := 179) (mf_dat eX12_on_p0 52 rfl) (by decide) (fun hc => ?_) (fun hc => ?_)
  · replace hyp := hyp.1 hc
    refine mf_aload_n (mf_dat eX12_on_p2 2 rfl) rfl rfl ?_
    refine mf_getf (r := (RX12, TX12, 106)) (ci := 12) (k := 56) (t := 2) (v := 286) (mf_dat eX12_on_p2 3 rfl) fl_X12_136 rfl (by decide) rfl (gm_56 hG) is245 ?_
    refine mf_bipush (v := 39) (mf_dat eX12_on_p2 4 rfl) (by decide) ?_
    refine mf_iconst (v := 0) (mf_dat eX12_on_p2 5 rfl) (by decide) ?_
    refine mf_iast (mf_dat eX12_on_p2 6 rfl) is286 len286 (by decide) (by decide) ?_
    generalize qh4 : mf_up h3 286 39 0 = h4
    replace hyp := hyp _ qh4.symm
    refine mf_aload_n (mf_dat eX12_on_p2 7 rfl) rfl rfl ?_
    refine mf_iconst (v := 0) (mf_dat eX12_on_p2 8 rfl) (by decide) ?_
    refine mf_putI (r := (RX12, TX12, 106)) (ci := 12) (k := 69) (kI := 69) (t := 0) (mf_dat eX12_on_p2 9 rfl) fl_X12_396 rfl rfl (by decide) rfl (by decide) rfl (by decide) (fun h9 => absurd h9 (by decide)) is245 ?_
    generalize qh5 : mf_up h4 245 69 0 = h5
    replace hyp := hyp _ qh5.symm
    refine mf_iconst (v := 1) (mf_dat eX12_on_p2 10 rfl) (by decide) ?_
    exact mf_ireturn (mf_dat eX12_on_p2 11 rfl) rfl (Or.inr ⟨rfl, by decide⟩) ⟨rfl, hyp⟩
  · replace hyp := hyp.2 hc
    refine mf_iconst (v := 2) (mf_dat eX12_on_p0 53 rfl) (by decide) ?_
    refine mf_aload_n (mf_dat eX12_on_p0 54 rfl) rfl rfl ?_
    refine mf_callV (Yc := YX12_leaves) (r := (RX12, TX12, 106)) (ci := 12) (mf_dat eX12_on_p0 55 rfl) ml_X12_405 okX12_leaves im_X12_leaves sl_X12_leaves rfl rfl rfl rfl (Nat.le_of_ble_eq_true rfl) (mf_rr (Nat.le_trans (by decide) hd) (Nat.le_refl _)) (Nat.le_refl _) is245 (hyp g2 hG) (fun r6 g7 h8 hyp => ?_)
    obtain ⟨hgg, hyp⟩ := hyp
    subst hgg
    refine mf_iadd (mf_dat eX12_on_p0 56 rfl) ?_
    refine mf_bipush (v := 6) (mf_dat eX12_on_p0 57 rfl) (by decide) ?_
    refine mf_iload_n (mf_dat eX12_on_p0 58 rfl) rfl rfl ?_
    refine mf_imul (mf_dat eX12_on_p0 59 rfl) ?_
    refine mf_iadd (mf_dat eX12_on_p1 0 rfl) ?_
    generalize qv9 : mf_w32 ((mf_w32 (2 + r6)) + (mf_w32 (6 * x2))) = v9
    replace hyp := hyp _ qv9.symm
    refine mf_istore_n (mf_dat eX12_on_p1 1 rfl) rfl (by decide) ?_
    refine mf_aload_n (mf_dat eX12_on_p1 2 rfl) rfl rfl ?_
    refine mf_getf (r := (RX12, TX12, 106)) (ci := 12) (k := 56) (t := 2) (v := 286) (mf_dat eX12_on_p1 3 rfl) fl_X12_136 rfl (by decide) rfl (gm_56 hG) is245 ?_
    refine mf_bipush (v := 7) (mf_dat eX12_on_p1 4 rfl) (by decide) ?_
    refine mf_iconst (v := 4) (mf_dat eX12_on_p1 5 rfl) (by decide) ?_
    refine mf_iload_n (mf_dat eX12_on_p1 6 rfl) rfl rfl ?_
    refine mf_imul (mf_dat eX12_on_p1 7 rfl) ?_
    refine mf_iadd (mf_dat eX12_on_p1 8 rfl) ?_
    refine mf_aload_n (mf_dat eX12_on_p1 9 rfl) rfl rfl ?_
    refine mf_getf (r := (RX12, TX12, 106)) (ci := 12) (k := 0) (t := 2) (v := 246) (mf_dat eX12_on_p1 10 rfl) fl_X12_7 rfl (by decide) rfl (gm_0 hG) is245 ?_
    refine mf_iload_n (mf_dat eX12_on_p1 11 rfl) rfl rfl ?_
    obtain ⟨ck10, hyp⟩ := hyp
    obtain ⟨ck11, hyp⟩ := hyp
    refine mf_iald (mf_dat eX12_on_p1 12 rfl) is246 len246 ck10 ck11 ?_
    obtain ⟨ck12, hyp⟩ := hyp
    obtain ⟨ck13, hyp⟩ := hyp
    refine mf_iast (mf_dat eX12_on_p1 13 rfl) is286 len286 ck12 ck13 ?_
    generalize qh14 : mf_up h8 286 (mf_w32 (7 + (mf_w32 (4 * x2)))) (h8 246 v9) = h14
    replace hyp := hyp _ qh14.symm
    refine mf_aload_n (mf_dat eX12_on_p1 14 rfl) rfl rfl ?_
    refine mf_getf (r := (RX12, TX12, 106)) (ci := 12) (k := 56) (t := 2) (v := 286) (mf_dat eX12_on_p1 15 rfl) fl_X12_136 rfl (by decide) rfl (gm_56 hG) is245 ?_
    refine mf_bipush (v := 7) (mf_dat eX12_on_p1 16 rfl) (by decide) ?_
    refine mf_iconst (v := 4) (mf_dat eX12_on_p1 17 rfl) (by decide) ?_
    refine mf_iload_n (mf_dat eX12_on_p1 18 rfl) rfl rfl ?_
    refine mf_imul (mf_dat eX12_on_p1 19 rfl) ?_
    refine mf_iadd (mf_dat eX12_on_p1 20 rfl) ?_
    refine mf_iconst (v := 1) (mf_dat eX12_on_p1 21 rfl) (by decide) ?_
    refine mf_iadd (mf_dat eX12_on_p1 22 rfl) ?_
    refine mf_aload_n (mf_dat eX12_on_p1 23 rfl) rfl rfl ?_
    refine mf_getf (r := (RX12, TX12, 106)) (ci := 12) (k := 0) (t := 2) (v := 246) (mf_dat eX12_on_p1 24 rfl) fl_X12_7 rfl (by decide) rfl (gm_0 hG) is245 ?_
    refine mf_iload_n (mf_dat eX12_on_p1 25 rfl) rfl rfl ?_
    refine mf_iconst (v := 1) (mf_dat eX12_on_p1 26 rfl) (by decide) ?_
    refine mf_iadd (mf_dat eX12_on_p1 27 rfl) ?_
    obtain ⟨ck15, hyp⟩ := hyp
    obtain ⟨ck16, hyp⟩ := hyp
    refine mf_iald (mf_dat eX12_on_p1 28 rfl) is246 len246 ck15 ck16 ?_
    obtain ⟨ck17, hyp⟩ := hyp
    obtain ⟨ck18, hyp⟩ := hyp
    refine mf_iast (mf_dat eX12_on_p1 29 rfl) is286 len286 ck17 ck18 ?_
    generalize qh19 : mf_up h14 286 (mf_w32 ((mf_w32 (7 + (mf_w32 (4 * x2)))) + 1)) (h14 246 (mf_w32 (v9 + 1))) = h19
    replace hyp := hyp _ qh19.symm
    refine mf_aload_n (mf_dat eX12_on_p1 30 rfl) rfl rfl ?_
    refine mf_getf (r := (RX12, TX12, 106)) (ci := 12) (k := 56) (t := 2) (v := 286) (mf_dat eX12_on_p1 31 rfl) fl_X12_136 rfl (by decide) rfl (gm_56 hG) is245 ?_
    refine mf_bipush (v := 7) (mf_dat eX12_on_p1 32 rfl) (by decide) ?_
    refine mf_iconst (v := 4) (mf_dat eX12_on_p1 33 rfl) (by decide) ?_
    refine mf_iload_n (mf_dat eX12_on_p1 34 rfl) rfl rfl ?_
    refine mf_imul (mf_dat eX12_on_p1 35 rfl) ?_
    refine mf_iadd (mf_dat eX12_on_p1 36 rfl) ?_
    refine mf_iconst (v := 2) (mf_dat eX12_on_p1 37 rfl) (by decide) ?_
    refine mf_iadd (mf_dat eX12_on_p1 38 rfl) ?_
    refine mf_aload_n (mf_dat eX12_on_p1 39 rfl) rfl rfl ?_
    refine mf_iload_n (mf_dat eX12_on_p1 40 rfl) rfl rfl ?_
    refine mf_iconst (v := 2) (mf_dat eX12_on_p1 41 rfl) (by decide) ?_
    refine mf_iadd (mf_dat eX12_on_p1 42 rfl) ?_
    refine mf_callV (Yc := YX12_twoAt) (r := (RX12, TX12, 106)) (ci := 12) (mf_dat eX12_on_p1 43 rfl) ml_X12_680 okX12_twoAt im_X12_twoAt sl_X12_twoAt rfl rfl rfl rfl (Nat.le_of_ble_eq_true rfl) (mf_rr (Nat.le_trans (by decide) hd) (Nat.le_refl _)) (Nat.le_refl _) is245 (hyp g7 hG) (fun r20 g21 h22 hyp => ?_)
    obtain ⟨hgg, hyp⟩ := hyp
    subst hgg
    obtain ⟨ck23, hyp⟩ := hyp
    obtain ⟨ck24, hyp⟩ := hyp
    refine mf_iast (mf_dat eX12_on_p1 44 rfl) is286 len286 ck23 ck24 ?_
    generalize qh25 : mf_up h22 286 (mf_w32 ((mf_w32 (7 + (mf_w32 (4 * x2)))) + 2)) r20 = h25
    replace hyp := hyp _ qh25.symm
    refine mf_aload_n (mf_dat eX12_on_p1 45 rfl) rfl rfl ?_
    refine mf_getf (r := (RX12, TX12, 106)) (ci := 12) (k := 56) (t := 2) (v := 286) (mf_dat eX12_on_p1 46 rfl) fl_X12_136 rfl (by decide) rfl (gm_56 hG) is245 ?_
    refine mf_bipush (v := 7) (mf_dat eX12_on_p1 47 rfl) (by decide) ?_
    refine mf_iconst (v := 4) (mf_dat eX12_on_p1 48 rfl) (by decide) ?_
    refine mf_iload_n (mf_dat eX12_on_p1 49 rfl) rfl rfl ?_
    refine mf_imul (mf_dat eX12_on_p1 50 rfl) ?_
    refine mf_iadd (mf_dat eX12_on_p1 51 rfl) ?_
    refine mf_iconst (v := 3) (mf_dat eX12_on_p1 52 rfl) (by decide) ?_
    refine mf_iadd (mf_dat eX12_on_p1 53 rfl) ?_
    refine mf_aload_n (mf_dat eX12_on_p1 54 rfl) rfl rfl ?_
    refine mf_iload_n (mf_dat eX12_on_p1 55 rfl) rfl rfl ?_
    refine mf_iconst (v := 4) (mf_dat eX12_on_p1 56 rfl) (by decide) ?_
    refine mf_iadd (mf_dat eX12_on_p1 57 rfl) ?_
    refine mf_callV (Yc := YX12_twoAt) (r := (RX12, TX12, 106)) (ci := 12) (mf_dat eX12_on_p1 58 rfl) ml_X12_680 okX12_twoAt im_X12_twoAt sl_X12_twoAt rfl rfl rfl rfl (Nat.le_of_ble_eq_true rfl) (mf_rr (Nat.le_trans (by decide) hd) (Nat.le_refl _)) (Nat.le_refl _) is245 (hyp g21 hG) (fun r26 g27 h28 hyp => ?_)
    obtain ⟨hgg, hyp⟩ := hyp
    subst hgg
    obtain ⟨ck29, hyp⟩ := hyp
    obtain ⟨ck30, hyp⟩ := hyp
    refine mf_iast (mf_dat eX12_on_p1 59 rfl) is286 len286 ck29 ck30 ?_
    generalize qh31 : mf_up h28 286 (mf_w32 ((mf_w32 (7 + (mf_w32 (4 * x2)))) + 3)) r26 = h31
    replace hyp := hyp _ qh31.symm
    refine mf_iinc (mf_dat eX12_on_p2 0 rfl) rfl (by decide) (by decide) ?_
    generalize qv32 : mf_w32 (x2 + 1) = v32
    replace hyp := hyp _ qv32.symm
    refine mf_goto (tgt := 75) (mf_dat eX12_on_p2 1 rfl) (by decide) ?_
    exact mf_sub [2, 0] rfl (hyp g27 hG)
set_option maxRecDepth 100000 in
set_option maxHeartbeats 4000000 in
theorem wX12_on {C : mf_G} {l : Launch} {d : Nat} {K : Int → mf_M → Prop} {h : mf_M} (hd : 4 ≤ d) (hyp : (∀ v1 : Int, v1 = h 245 1 → (∀ h2 : mf_M, h2 = mf_up h 245 1 0 → mM C l 3 YX12_isImage [(2, 245), (0, v1)] h2 (fun r3 h5 => ((¬ r3 = 0 → mM C l 0 YX12_twoAt [(2, 245), (0, 0)] h5 (fun r6 h8 => (∀ h9 : mf_M, h9 = mf_up h8 286 0 r6 → BX12_on_43 C l d K 0 h9))) ∧ (r3 = 0 → (∀ h10 : mf_M, h10 = mf_up h5 247 5 (mf_w32 ((h5 247 5) + 1)) → K 0 h10))))))) : mM C l d YX12_on [(2, 245)] h K := by
  intro g hG
  refine mf_entry (by decide) (Nat.le_of_ble_eq_true rfl) ?_
  refine mf_aload_n (mf_dat eX12_on_p0 0 rfl) rfl rfl ?_
  refine mf_getf (r := (RX12, TX12, 106)) (ci := 12) (k := 1) (t := 0) (v := h 245 1) (mf_dat eX12_on_p0 1 rfl) fl_X12_240 rfl (by decide) rfl rfl is245 ?_
  generalize qv1 : h 245 1 = v1
  replace hyp := hyp _ qv1.symm
  refine mf_istore_n (mf_dat eX12_on_p0 2 rfl) rfl (by decide) ?_
  refine mf_aload_n (mf_dat eX12_on_p0 3 rfl) rfl rfl ?_
  refine mf_iconst (v := 0) (mf_dat eX12_on_p0 4 rfl) (by decide) ?_
  refine mf_putI (r := (RX12, TX12, 106)) (ci := 12) (k := 1) (kI := 1) (t := 0) (mf_dat eX12_on_p0 5 rfl) fl_X12_240 rfl rfl (by decide) rfl (by decide) rfl (by decide) (fun h9 => absurd h9 (by decide)) is245 ?_
  generalize qh2 : mf_up h 245 1 0 = h2
  replace hyp := hyp _ qh2.symm
  refine mf_aload_n (mf_dat eX12_on_p0 6 rfl) rfl rfl ?_
  refine mf_iload_n (mf_dat eX12_on_p0 7 rfl) rfl rfl ?_
  refine mf_callV (Yc := YX12_isImage) (r := (RX12, TX12, 106)) (ci := 12) (mf_dat eX12_on_p0 8 rfl) ml_X12_686 okX12_isImage im_X12_isImage sl_X12_isImage rfl rfl rfl rfl (Nat.le_of_ble_eq_true rfl) (mf_rr (Nat.le_trans (by decide) hd) (Nat.le_refl _)) (Nat.le_refl _) is245 (hyp g hG) (fun r3 g4 h5 hyp => ?_)
  obtain ⟨hgg, hyp⟩ := hyp
  subst hgg
  refine mf_if_ne (tgt := 30) (mf_dat eX12_on_p0 9 rfl) (by decide) (fun hc => ?_) (fun hc => ?_)
  · replace hyp := hyp.1 hc
    refine mf_aload_n (mf_dat eX12_on_p0 20 rfl) rfl rfl ?_
    refine mf_getf (r := (RX12, TX12, 106)) (ci := 12) (k := 56) (t := 2) (v := 286) (mf_dat eX12_on_p0 21 rfl) fl_X12_136 rfl (by decide) rfl (gm_56 hG) is245 ?_
    refine mf_iconst (v := 0) (mf_dat eX12_on_p0 22 rfl) (by decide) ?_
    refine mf_aload_n (mf_dat eX12_on_p0 23 rfl) rfl rfl ?_
    refine mf_iconst (v := 0) (mf_dat eX12_on_p0 24 rfl) (by decide) ?_
    refine mf_callV (Yc := YX12_twoAt) (r := (RX12, TX12, 106)) (ci := 12) (mf_dat eX12_on_p0 25 rfl) ml_X12_680 okX12_twoAt im_X12_twoAt sl_X12_twoAt rfl rfl rfl rfl (Nat.le_of_ble_eq_true rfl) (mf_rr (Nat.le_trans (by decide) hd) (Nat.le_refl _)) (Nat.le_refl _) is245 (hyp g4 hG) (fun r6 g7 h8 hyp => ?_)
    obtain ⟨hgg, hyp⟩ := hyp
    subst hgg
    refine mf_iast (mf_dat eX12_on_p0 26 rfl) is286 len286 (by decide) (by decide) ?_
    generalize qh9 : mf_up h8 286 0 r6 = h9
    replace hyp := hyp _ qh9.symm
    refine mf_iconst (v := 0) (mf_dat eX12_on_p0 27 rfl) (by decide) ?_
    refine mf_istore_n (mf_dat eX12_on_p0 28 rfl) rfl (by decide) ?_
    exact mf_sub [2, 0] rfl (hyp g7 hG)
  · replace hyp := hyp.2 hc
    refine mf_aload_n (mf_dat eX12_on_p0 10 rfl) rfl rfl ?_
    refine mf_getf (r := (RX12, TX12, 106)) (ci := 12) (k := 9) (t := 2) (v := 247) (mf_dat eX12_on_p0 11 rfl) fl_X12_17 rfl (by decide) rfl (gm_9 hG) is245 ?_
    refine mf_iconst (v := 5) (mf_dat eX12_on_p0 12 rfl) (by decide) ?_
    refine mf_dup2 (mf_dat eX12_on_p0 13 rfl) (by decide) (by decide) ?_
    refine mf_iald (mf_dat eX12_on_p0 14 rfl) is247 len247 (by decide) (by decide) ?_
    refine mf_iconst (v := 1) (mf_dat eX12_on_p0 15 rfl) (by decide) ?_
    refine mf_iadd (mf_dat eX12_on_p0 16 rfl) ?_
    refine mf_iast (mf_dat eX12_on_p0 17 rfl) is247 len247 (by decide) (by decide) ?_
    generalize qh10 : mf_up h5 247 5 (mf_w32 ((h5 247 5) + 1)) = h10
    replace hyp := hyp _ qh10.symm
    refine mf_iconst (v := 0) (mf_dat eX12_on_p0 18 rfl) (by decide) ?_
    exact mf_ireturn (mf_dat eX12_on_p0 19 rfl) rfl (Or.inr ⟨rfl, by decide⟩) ⟨rfl, hyp⟩
set_option maxRecDepth 100000 in
set_option maxHeartbeats 4000000 in
theorem wX12_status {C : mf_G} {l : Launch} {d : Nat} {K : Int → mf_M → Prop} {x1 : Int} {h : mf_M} (hd : 1 ≤ d) (hyp : mM C l 0 YX12_isIn [(1, x1), (1, 0), (1, 5)] h (fun r1 h3 => ((r1 = 0 → K (-1) h3) ∧ (¬ r1 = 0 → 0 ≤ x1 ∧ x1 < 6 ∧ K (h3 247 x1) h3)))) : mM C l d YX12_status [(2, 245), (0, x1)] h K := by
  intro g hG
  refine mf_entry (by decide) (Nat.le_of_ble_eq_true rfl) ?_
  refine mf_iload_n (mf_dat eX12_status 0 rfl) rfl rfl ?_
  refine mf_i2l (mf_dat eX12_status 1 rfl) ?_
  refine mf_lconst (v := 0) (mf_dat eX12_status 2 rfl) (by decide) ?_
  refine mf_ldc2 (v := 5) cl_X12_505 (mf_dat eX12_status 3 rfl) (by decide) ?_
  refine mf_callS (Yc := YX12_isIn) (mf_dat eX12_status 4 rfl) ml_X12_286 okX12_isIn sm_X12_isIn rfl rfl (Nat.le_of_ble_eq_true rfl) (mf_rr (Nat.le_trans (by decide) hd) (Nat.le_refl _)) (Nat.le_refl _) (hyp g hG) (fun r1 g2 h3 hyp => ?_)
  obtain ⟨hgg, hyp⟩ := hyp
  subst hgg
  refine mf_if_eq (tgt := 21) (mf_dat eX12_status 5 rfl) (by decide) (fun hc => ?_) (fun hc => ?_)
  · replace hyp := hyp.1 hc
    refine mf_iconst (v := (-1)) (mf_dat eX12_status 11 rfl) (by decide) ?_
    exact mf_ireturn (mf_dat eX12_status 12 rfl) rfl (Or.inl rfl) ⟨rfl, hyp⟩
  · replace hyp := hyp.2 hc
    refine mf_aload_n (mf_dat eX12_status 6 rfl) rfl rfl ?_
    refine mf_getf (r := (RX12, TX12, 106)) (ci := 12) (k := 9) (t := 2) (v := 247) (mf_dat eX12_status 7 rfl) fl_X12_17 rfl (by decide) rfl (gm_9 hG) is245 ?_
    refine mf_iload_n (mf_dat eX12_status 8 rfl) rfl rfl ?_
    obtain ⟨ck4, hyp⟩ := hyp
    obtain ⟨ck5, hyp⟩ := hyp
    refine mf_iald (mf_dat eX12_status 9 rfl) is247 len247 ck4 ck5 ?_
    refine mf_goto (tgt := 22) (mf_dat eX12_status 10 rfl) (by decide) ?_
    exact mf_ireturn (mf_dat eX12_status 12 rfl) rfl (Or.inl rfl) ⟨rfl, hyp⟩
