set_option maxRecDepth 100000 in
set_option maxHeartbeats 4000000 in
theorem wX6_takeBeing {C : mf_G} {l : Launch} {d : Nat} {K : mf_Kt} {x0 x1 x2 x3 : Int} {g h : mf_M} (hd : 2 ≤ d) (hyp : mf_is 319 x1 1 ∧ (∀ v2 : Int, v2 = mf_w32 ((mf_w32 (2 + (h x1 8))) + (mf_w32 (6 * x3))) → mf_is 319 x0 6 ∧ mf_is 319 x2 8 ∧ xM C l 0 YX8_byteAt [(2, x2), (0, v2)] g h (fun r4 g5 h6 => 0 ≤ x3 ∧ x3 < 8 ∧ (∀ h10 : mf_M, h10 = mf_up h6 (x0 + 2) x3 r4 → xM C l 0 YX8_byteAt [(2, x2), (0, mf_w32 (v2 + 1))] g5 h10 (fun r11 g12 h13 => (∀ h14 : mf_M, h14 = mf_up h13 (x0 + 3) x3 r11 → xM C l 1 YX8_pairAt [(2, x2), (0, mf_w32 (v2 + 2))] g12 h14 (fun r15 g16 h17 => (∀ h18 : mf_M, h18 = mf_up h17 (x0 + 4) x3 r15 → xM C l 1 YX8_pairAt [(2, x2), (0, mf_w32 (v2 + 4))] g16 h18 (fun r19 g20 h21 => (∀ h22 : mf_M, h22 = mf_up h21 (x0 + 5) x3 r19 → ((h22 x1 8 ≤ h22 (x0 + 2) x3 → K 0 g20 h22) ∧ (¬ h22 x1 8 ≤ h22 (x0 + 2) x3 → ((h22 x1 9 ≤ h22 (x0 + 3) x3 → K 0 g20 h22) ∧ (¬ h22 x1 9 ≤ h22 (x0 + 3) x3 → ((9999 < h22 (x0 + 4) x3 → K 0 g20 h22) ∧ (¬ 9999 < h22 (x0 + 4) x3 → ((9999 < h22 (x0 + 5) x3 → K 0 g20 h22) ∧ (¬ 9999 < h22 (x0 + 5) x3 → xM C l 1 YX6_isFree [(2, x0), (0, h22 (x0 + 2) x3), (0, h22 (x0 + 3) x3), (0, x3)] g20 h22 (fun r23 g24 h25 => ((r23 = 0 → K 0 g24 h25) ∧ (¬ r23 = 0 → K 1 g24 h25))))))))))))))))))))) : xM C l d YX6_takeBeing [(2, x0), (2, x1), (2, x2), (0, x3)] g h K := by
  intro hG
  refine mf_entry (by decide) (Nat.le_of_ble_eq_true rfl) ?_
  refine mf_iconst (v := 2) (mf_dat eX6_takeBeing_p0 0 rfl) (by decide) ?_
  refine mf_aload_n (mf_dat eX6_takeBeing_p0 1 rfl) rfl rfl ?_
  obtain ⟨ck1, hyp⟩ := hyp
  refine mf_getf (r := (RX1, TX1, 14)) (ci := 1) (k := 8) (t := 0) (v := h x1 8) (mf_dat eX6_takeBeing_p0 2 rfl) fl_X6_77 rfl (by decide) rfl rfl ck1 ?_
  refine mf_iadd (mf_dat eX6_takeBeing_p0 3 rfl) ?_
  refine mf_bipush (v := 6) (mf_dat eX6_takeBeing_p0 4 rfl) (by decide) ?_
  refine mf_iload_n (mf_dat eX6_takeBeing_p0 5 rfl) rfl rfl ?_
  refine mf_imul (mf_dat eX6_takeBeing_p0 6 rfl) ?_
  refine mf_iadd (mf_dat eX6_takeBeing_p0 7 rfl) ?_
  generalize qv2 : mf_w32 ((mf_w32 (2 + (h x1 8))) + (mf_w32 (6 * x3))) = v2
  replace hyp := hyp _ qv2.symm
  refine mf_istore (mf_dat eX6_takeBeing_p0 8 rfl) (by decide) ?_
  refine mf_aload_n (mf_dat eX6_takeBeing_p0 9 rfl) rfl rfl ?_
  obtain ⟨ck3, hyp⟩ := hyp
  refine mf_getf (r := (RX6, TX6, 8)) (ci := 6) (k := 1) (t := 2) (v := x0 + 2) (mf_dat eX6_takeBeing_p0 10 rfl) fl_X6_15 rfl (by decide) rfl (gs_1 hG ck3) ck3 ?_
  refine mf_iload_n (mf_dat eX6_takeBeing_p0 11 rfl) rfl rfl ?_
  refine mf_aload_n (mf_dat eX6_takeBeing_p0 12 rfl) rfl rfl ?_
  refine mf_iload (mf_dat eX6_takeBeing_p0 13 rfl) rfl ?_
  obtain ⟨ck7, hyp⟩ := hyp
  refine mf_callV (Yc := YX8_byteAt) (r := (RX8, TX8, 2)) (ci := 8) (mf_dat eX6_takeBeing_p0 14 rfl) ml_X6_90 okX8_byteAt im_X8_byteAt sl_X8_byteAt rfl rfl rfl rfl (Nat.le_of_ble_eq_true rfl) (mf_rr (Nat.le_trans (by decide) hd) (Nat.le_refl _)) (Nat.le_refl _) ck7 (hyp hG) (fun r4 g5 h6 hyp => ?_)
  obtain ⟨hG, hyp⟩ := hyp
  obtain ⟨ck8, hyp⟩ := hyp
  obtain ⟨ck9, hyp⟩ := hyp
  refine mf_iast (mf_dat eX6_takeBeing_p0 15 rfl) (st_is1 ck3) (st_len1 ck3) ck8 ck9 ?_
  generalize qh10 : mf_up h6 (x0 + 2) x3 r4 = h10
  replace hyp := hyp _ qh10.symm
  refine mf_aload_n (mf_dat eX6_takeBeing_p0 16 rfl) rfl rfl ?_
  refine mf_getf (r := (RX6, TX6, 8)) (ci := 6) (k := 2) (t := 2) (v := x0 + 3) (mf_dat eX6_takeBeing_p0 17 rfl) fl_X6_18 rfl (by decide) rfl (gs_2 hG ck3) ck3 ?_
  refine mf_iload_n (mf_dat eX6_takeBeing_p0 18 rfl) rfl rfl ?_
  refine mf_aload_n (mf_dat eX6_takeBeing_p0 19 rfl) rfl rfl ?_
  refine mf_iload (mf_dat eX6_takeBeing_p0 20 rfl) rfl ?_
  refine mf_iconst (v := 1) (mf_dat eX6_takeBeing_p0 21 rfl) (by decide) ?_
  refine mf_iadd (mf_dat eX6_takeBeing_p0 22 rfl) ?_
  refine mf_callV (Yc := YX8_byteAt) (r := (RX8, TX8, 2)) (ci := 8) (mf_dat eX6_takeBeing_p0 23 rfl) ml_X6_90 okX8_byteAt im_X8_byteAt sl_X8_byteAt rfl rfl rfl rfl (Nat.le_of_ble_eq_true rfl) (mf_rr (Nat.le_trans (by decide) hd) (Nat.le_refl _)) (Nat.le_refl _) ck7 (hyp hG) (fun r11 g12 h13 hyp => ?_)
  obtain ⟨hG, hyp⟩ := hyp
  refine mf_iast (mf_dat eX6_takeBeing_p0 24 rfl) (st_is2 ck3) (st_len2 ck3) ck8 ck9 ?_
  generalize qh14 : mf_up h13 (x0 + 3) x3 r11 = h14
  replace hyp := hyp _ qh14.symm
  refine mf_aload_n (mf_dat eX6_takeBeing_p0 25 rfl) rfl rfl ?_
  refine mf_getf (r := (RX6, TX6, 8)) (ci := 6) (k := 3) (t := 2) (v := x0 + 4) (mf_dat eX6_takeBeing_p0 26 rfl) fl_X6_21 rfl (by decide) rfl (gs_3 hG ck3) ck3 ?_
  refine mf_iload_n (mf_dat eX6_takeBeing_p0 27 rfl) rfl rfl ?_
  refine mf_aload_n (mf_dat eX6_takeBeing_p0 28 rfl) rfl rfl ?_
  refine mf_iload (mf_dat eX6_takeBeing_p0 29 rfl) rfl ?_
  refine mf_iconst (v := 2) (mf_dat eX6_takeBeing_p0 30 rfl) (by decide) ?_
  refine mf_iadd (mf_dat eX6_takeBeing_p0 31 rfl) ?_
  refine mf_callV (Yc := YX8_pairAt) (r := (RX8, TX8, 2)) (ci := 8) (mf_dat eX6_takeBeing_p0 32 rfl) ml_X6_99 okX8_pairAt im_X8_pairAt sl_X8_pairAt rfl rfl rfl rfl (Nat.le_of_ble_eq_true rfl) (mf_rr (Nat.le_trans (by decide) hd) (Nat.le_refl _)) (Nat.le_refl _) ck7 (hyp hG) (fun r15 g16 h17 hyp => ?_)
  obtain ⟨hG, hyp⟩ := hyp
  refine mf_iast (mf_dat eX6_takeBeing_p0 33 rfl) (st_is3 ck3) (st_len3 ck3) ck8 ck9 ?_
  generalize qh18 : mf_up h17 (x0 + 4) x3 r15 = h18
  replace hyp := hyp _ qh18.symm
  refine mf_aload_n (mf_dat eX6_takeBeing_p0 34 rfl) rfl rfl ?_
  refine mf_getf (r := (RX6, TX6, 8)) (ci := 6) (k := 4) (t := 2) (v := x0 + 5) (mf_dat eX6_takeBeing_p0 35 rfl) fl_X6_24 rfl (by decide) rfl (gs_4 hG ck3) ck3 ?_
  refine mf_iload_n (mf_dat eX6_takeBeing_p0 36 rfl) rfl rfl ?_
  refine mf_aload_n (mf_dat eX6_takeBeing_p0 37 rfl) rfl rfl ?_
  refine mf_iload (mf_dat eX6_takeBeing_p0 38 rfl) rfl ?_
  refine mf_iconst (v := 4) (mf_dat eX6_takeBeing_p0 39 rfl) (by decide) ?_
  refine mf_iadd (mf_dat eX6_takeBeing_p0 40 rfl) ?_
  refine mf_callV (Yc := YX8_pairAt) (r := (RX8, TX8, 2)) (ci := 8) (mf_dat eX6_takeBeing_p0 41 rfl) ml_X6_99 okX8_pairAt im_X8_pairAt sl_X8_pairAt rfl rfl rfl rfl (Nat.le_of_ble_eq_true rfl) (mf_rr (Nat.le_trans (by decide) hd) (Nat.le_refl _)) (Nat.le_refl _) ck7 (hyp hG) (fun r19 g20 h21 hyp => ?_)
  obtain ⟨hG, hyp⟩ := hyp
  refine mf_iast (mf_dat eX6_takeBeing_p0 42 rfl) (st_is4 ck3) (st_len4 ck3) ck8 ck9 ?_
  generalize qh22 : mf_up h21 (x0 + 5) x3 r19 = h22
  replace hyp := hyp _ qh22.symm
  refine mf_aload_n (mf_dat eX6_takeBeing_p0 43 rfl) rfl rfl ?_
  refine mf_getf (r := (RX6, TX6, 8)) (ci := 6) (k := 1) (t := 2) (v := x0 + 2) (mf_dat eX6_takeBeing_p0 44 rfl) fl_X6_15 rfl (by decide) rfl (gs_1 hG ck3) ck3 ?_
  refine mf_iload_n (mf_dat eX6_takeBeing_p0 45 rfl) rfl rfl ?_
  refine mf_iald (mf_dat eX6_takeBeing_p0 46 rfl) (st_is1 ck3) (st_len1 ck3) ck8 ck9 ?_
  refine mf_aload_n (mf_dat eX6_takeBeing_p0 47 rfl) rfl rfl ?_
  refine mf_getf (r := (RX1, TX1, 14)) (ci := 1) (k := 8) (t := 0) (v := h22 x1 8) (mf_dat eX6_takeBeing_p0 48 rfl) fl_X6_77 rfl (by decide) rfl rfl ck1 ?_
  refine mf_icmp_ge (tgt := 141) (mf_dat eX6_takeBeing_p0 49 rfl) (by decide) (fun hc => ?_) (fun hc => ?_)
  · replace hyp := hyp.1 hc
    refine mf_iconst (v := 0) (mf_dat eX6_takeBeing_p1 23 rfl) (by decide) ?_
    exact mf_ireturn (mf_dat eX6_takeBeing_p1 24 rfl) rfl (Or.inr ⟨rfl, by decide⟩) ⟨hG, hyp⟩
  · replace hyp := hyp.2 hc
    refine mf_aload_n (mf_dat eX6_takeBeing_p0 50 rfl) rfl rfl ?_
    refine mf_getf (r := (RX6, TX6, 8)) (ci := 6) (k := 2) (t := 2) (v := x0 + 3) (mf_dat eX6_takeBeing_p0 51 rfl) fl_X6_18 rfl (by decide) rfl (gs_2 hG ck3) ck3 ?_
    refine mf_iload_n (mf_dat eX6_takeBeing_p0 52 rfl) rfl rfl ?_
    refine mf_iald (mf_dat eX6_takeBeing_p0 53 rfl) (st_is2 ck3) (st_len2 ck3) ck8 ck9 ?_
    refine mf_aload_n (mf_dat eX6_takeBeing_p0 54 rfl) rfl rfl ?_
    refine mf_getf (r := (RX1, TX1, 14)) (ci := 1) (k := 9) (t := 0) (v := h22 x1 9) (mf_dat eX6_takeBeing_p0 55 rfl) fl_X6_102 rfl (by decide) rfl rfl ck1 ?_
    refine mf_icmp_ge (tgt := 141) (mf_dat eX6_takeBeing_p0 56 rfl) (by decide) (fun hc => ?_) (fun hc => ?_)
    · replace hyp := hyp.1 hc
      refine mf_iconst (v := 0) (mf_dat eX6_takeBeing_p1 23 rfl) (by decide) ?_
      exact mf_ireturn (mf_dat eX6_takeBeing_p1 24 rfl) rfl (Or.inr ⟨rfl, by decide⟩) ⟨hG, hyp⟩
    · replace hyp := hyp.2 hc
      refine mf_aload_n (mf_dat eX6_takeBeing_p0 57 rfl) rfl rfl ?_
      refine mf_getf (r := (RX6, TX6, 8)) (ci := 6) (k := 3) (t := 2) (v := x0 + 4) (mf_dat eX6_takeBeing_p0 58 rfl) fl_X6_21 rfl (by decide) rfl (gs_3 hG ck3) ck3 ?_
      refine mf_iload_n (mf_dat eX6_takeBeing_p0 59 rfl) rfl rfl ?_
      refine mf_iald (mf_dat eX6_takeBeing_p1 0 rfl) (st_is3 ck3) (st_len3 ck3) ck8 ck9 ?_
      refine mf_sipush (v := 9999) (mf_dat eX6_takeBeing_p1 1 rfl) (by decide) ?_
      refine mf_icmp_gt (tgt := 141) (mf_dat eX6_takeBeing_p1 2 rfl) (by decide) (fun hc => ?_) (fun hc => ?_)
      · replace hyp := hyp.1 hc
        refine mf_iconst (v := 0) (mf_dat eX6_takeBeing_p1 23 rfl) (by decide) ?_
        exact mf_ireturn (mf_dat eX6_takeBeing_p1 24 rfl) rfl (Or.inr ⟨rfl, by decide⟩) ⟨hG, hyp⟩
      · replace hyp := hyp.2 hc
        refine mf_aload_n (mf_dat eX6_takeBeing_p1 3 rfl) rfl rfl ?_
        refine mf_getf (r := (RX6, TX6, 8)) (ci := 6) (k := 4) (t := 2) (v := x0 + 5) (mf_dat eX6_takeBeing_p1 4 rfl) fl_X6_24 rfl (by decide) rfl (gs_4 hG ck3) ck3 ?_
        refine mf_iload_n (mf_dat eX6_takeBeing_p1 5 rfl) rfl rfl ?_
        refine mf_iald (mf_dat eX6_takeBeing_p1 6 rfl) (st_is4 ck3) (st_len4 ck3) ck8 ck9 ?_
        refine mf_sipush (v := 9999) (mf_dat eX6_takeBeing_p1 7 rfl) (by decide) ?_
        refine mf_icmp_gt (tgt := 141) (mf_dat eX6_takeBeing_p1 8 rfl) (by decide) (fun hc => ?_) (fun hc => ?_)
        · replace hyp := hyp.1 hc
          refine mf_iconst (v := 0) (mf_dat eX6_takeBeing_p1 23 rfl) (by decide) ?_
          exact mf_ireturn (mf_dat eX6_takeBeing_p1 24 rfl) rfl (Or.inr ⟨rfl, by decide⟩) ⟨hG, hyp⟩
        · replace hyp := hyp.2 hc
          refine mf_aload_n (mf_dat eX6_takeBeing_p1 9 rfl) rfl rfl ?_
          refine mf_aload_n (mf_dat eX6_takeBeing_p1 10 rfl) rfl rfl ?_
          refine mf_getf (r := (RX6, TX6, 8)) (ci := 6) (k := 1) (t := 2) (v := x0 + 2) (mf_dat eX6_takeBeing_p1 11 rfl) fl_X6_15 rfl (by decide) rfl (gs_1 hG ck3) ck3 ?_
          refine mf_iload_n (mf_dat eX6_takeBeing_p1 12 rfl) rfl rfl ?_
          refine mf_iald (mf_dat eX6_takeBeing_p1 13 rfl) (st_is1 ck3) (st_len1 ck3) ck8 ck9 ?_
          refine mf_aload_n (mf_dat eX6_takeBeing_p1 14 rfl) rfl rfl ?_
          refine mf_getf (r := (RX6, TX6, 8)) (ci := 6) (k := 2) (t := 2) (v := x0 + 3) (mf_dat eX6_takeBeing_p1 15 rfl) fl_X6_18 rfl (by decide) rfl (gs_2 hG ck3) ck3 ?_
          refine mf_iload_n (mf_dat eX6_takeBeing_p1 16 rfl) rfl rfl ?_
          refine mf_iald (mf_dat eX6_takeBeing_p1 17 rfl) (st_is2 ck3) (st_len2 ck3) ck8 ck9 ?_
          refine mf_iload_n (mf_dat eX6_takeBeing_p1 18 rfl) rfl rfl ?_
          refine mf_callV (Yc := YX6_isFree) (r := (RX6, TX6, 8)) (ci := 6) (mf_dat eX6_takeBeing_p1 19 rfl) ml_X6_109 okX6_isFree im_X6_isFree sl_X6_isFree rfl rfl rfl rfl (Nat.le_of_ble_eq_true rfl) (mf_rr (Nat.le_trans (by decide) hd) (Nat.le_refl _)) (Nat.le_refl _) ck3 (hyp hG) (fun r23 g24 h25 hyp => ?_)
          obtain ⟨hG, hyp⟩ := hyp
          refine mf_if_eq (tgt := 141) (mf_dat eX6_takeBeing_p1 20 rfl) (by decide) (fun hc => ?_) (fun hc => ?_)
          · replace hyp := hyp.1 hc
            refine mf_iconst (v := 0) (mf_dat eX6_takeBeing_p1 23 rfl) (by decide) ?_
            exact mf_ireturn (mf_dat eX6_takeBeing_p1 24 rfl) rfl (Or.inr ⟨rfl, by decide⟩) ⟨hG, hyp⟩
          · replace hyp := hyp.2 hc
            refine mf_iconst (v := 1) (mf_dat eX6_takeBeing_p1 21 rfl) (by decide) ?_
            refine mf_goto (tgt := 142) (mf_dat eX6_takeBeing_p1 22 rfl) (by decide) ?_
            exact mf_ireturn (mf_dat eX6_takeBeing_p1 24 rfl) rfl (Or.inr ⟨rfl, by decide⟩) ⟨hG, hyp⟩
set_option maxRecDepth 100000 in
set_option maxHeartbeats 4000000 in
theorem wX7_writeTo {C : mf_G} {l : Launch} {d : Nat} {K : mf_Kt} {x1 x2 : Int} {g h : mf_M} (hyp : (∀ g1 : mf_M, g1 = mf_up g 10 2 x1 → (∀ h2 : mf_M, h2 = mf_up h 10 3 x2 → K 0 g1 h2))) : xM C l d YX7_writeTo [(2, 10), (2, x1), (0, x2)] g h K := by
  intro hG
  refine mf_entry (by decide) (Nat.le_of_ble_eq_true rfl) ?_
  refine mf_aload_n (mf_dat eX7_writeTo 0 rfl) rfl rfl ?_
  refine mf_aload_n (mf_dat eX7_writeTo 1 rfl) rfl rfl ?_
  refine mf_putR (r := (RX7, TX7, 4)) (ci := 7) (k := 2) (kI := 2) (t := 2) (mf_dat eX7_writeTo 2 rfl) fl_X7_21 rfl rfl (by decide) rfl (by decide) rfl (by decide) (fun h9 => absurd h9 (by decide)) is10 ?_
  replace hG := hG.up (a := 10) (k := 2) (v := x1) (by decide)
  generalize qg1 : mf_up g 10 2 x1 = g1 at hG ⊢
  replace hyp := hyp _ qg1.symm
  refine mf_aload_n (mf_dat eX7_writeTo 3 rfl) rfl rfl ?_
  refine mf_iload_n (mf_dat eX7_writeTo 4 rfl) rfl rfl ?_
  refine mf_putI (r := (RX7, TX7, 4)) (ci := 7) (k := 3) (kI := 3) (t := 0) (mf_dat eX7_writeTo 5 rfl) fl_X7_25 rfl rfl (by decide) rfl (by decide) rfl (by decide) (fun h9 => absurd h9 (by decide)) is10 ?_
  generalize qh2 : mf_up h 10 3 x2 = h2
  replace hyp := hyp _ qh2.symm
  exact mf_return (mf_dat eX7_writeTo 6 rfl) rfl ⟨hG, hyp⟩
abbrev BX7_readQuestion_48 (C : mf_G) (l : Launch) (d : Nat) (K : mf_Kt) (x1 s0 : Int) (g h : mf_M) : Prop := jX C l d YX7_readQuestion K 48 [(0, (2, 10)), (1, (2, x1))] [(0, s0)] g h
abbrev BX7_readQuestion_115 (C : mf_G) (l : Launch) (d : Nat) (K : mf_Kt) (x1 x2 : Int) (g h : mf_M) : Prop := jX C l d YX7_readQuestion K 115 [(0, (2, 10)), (1, (2, x1)), (2, (0, x2))] [] g h
set_option maxRecDepth 100000 in
set_option maxHeartbeats 4000000 in
theorem vX7_readQuestion_48 {C : mf_G} {l : Launch} {d : Nat} {K : mf_Kt} {x1 s0 : Int} {g h : mf_M} (hd : 126 ≤ d) (hyp : ((28 ≤ s0 → xM C l 2 YX9_step [(2, 5)] g h (fun r1 g2 h3 => mf_is 319 x1 4 ∧ xM C l 0 YX4_begin [(2, x1), (0, 0)] g2 h3 (fun r4 g5 h6 => ((s0 = 28 → xM C l 125 YX7_readTest [(2, 10), (0, 0)] g5 h6 (fun r8 g9 h10 => BX7_readQuestion_115 C l d K x1 s0 g9 h10)) ∧ (¬ s0 = 28 → ((s0 = 29 → xM C l 125 YX7_readTest [(2, 10), (0, 0)] g5 h6 (fun r11 g12 h13 => BX7_readQuestion_115 C l d K x1 s0 g12 h13)) ∧ (¬ s0 = 29 → ((¬ s0 = 30 → xM C l 64 YX7_readSum [(2, 10), (0, 0)] g5 h6 (fun r14 g15 h16 => BX7_readQuestion_115 C l d K x1 s0 g15 h16)) ∧ (s0 = 30 → xM C l 125 YX7_readTest [(2, 10), (0, 0)] g5 h6 (fun r17 g18 h19 => BX7_readQuestion_115 C l d K x1 s0 g18 h19)))))))))) ∧ (¬ 28 ≤ s0 → xM C l 0 YX9_fail [(2, 5), (0, 1), (0, h 5 3)] g h (fun r20 g21 h22 => K (-1) g21 h22)))) : BX7_readQuestion_48 C l d K x1 s0 g h := by
  intro hG
  refine mf_istore_n (mf_dat eX7_readQuestion_p0 22 rfl) rfl (by decide) ?_
  refine mf_iload_n (mf_dat eX7_readQuestion_p0 23 rfl) rfl rfl ?_
  refine mf_bipush (v := 28) (mf_dat eX7_readQuestion_p0 24 rfl) (by decide) ?_
  refine mf_icmp_ge (tgt := 72) (mf_dat eX7_readQuestion_p0 25 rfl) (by decide) (fun hc => ?_) (fun hc => ?_)
  · replace hyp := hyp.1 hc
    refine mf_aload_n (mf_dat eX7_readQuestion_p0 35 rfl) rfl rfl ?_
    refine mf_getf (r := (RX7, TX7, 4)) (ci := 7) (k := 0) (t := 2) (v := 5) (mf_dat eX7_readQuestion_p0 36 rfl) fl_X7_13 rfl (by decide) rfl (gx_10_0 hG) is10 ?_
    refine mf_callV (Yc := YX9_step) (r := (RX9, TX9, 10)) (ci := 9) (mf_dat eX7_readQuestion_p0 37 rfl) ml_X7_60 okX9_step im_X9_step sl_X9_step rfl rfl rfl rfl (Nat.le_of_ble_eq_true rfl) (mf_rr (Nat.le_trans (by decide) hd) (Nat.le_refl _)) (Nat.le_refl _) is5 (hyp hG) (fun r1 g2 h3 hyp => ?_)
    obtain ⟨hG, hyp⟩ := hyp
    refine mf_aload_n (mf_dat eX7_readQuestion_p0 38 rfl) rfl rfl ?_
    refine mf_iconst (v := 0) (mf_dat eX7_readQuestion_p0 39 rfl) (by decide) ?_
    obtain ⟨ck7, hyp⟩ := hyp
    refine mf_callV (Yc := YX4_begin) (r := (RX4, TX4, 5)) (ci := 4) (mf_dat eX7_readQuestion_p0 40 rfl) ml_X7_63 okX4_begin im_X4_begin sl_X4_begin rfl rfl rfl rfl (Nat.le_of_ble_eq_true rfl) (mf_rr (Nat.le_trans (by decide) hd) (Nat.le_refl _)) (Nat.le_refl _) ck7 (hyp hG) (fun r4 g5 h6 hyp => ?_)
    obtain ⟨hG, hyp⟩ := hyp
    refine mf_iload_n (mf_dat eX7_readQuestion_p0 41 rfl) rfl rfl ?_
    refine mf_bipush (v := 28) (mf_dat eX7_readQuestion_p0 42 rfl) (by decide) ?_
    refine mf_icmp_eq (tgt := 102) (mf_dat eX7_readQuestion_p0 43 rfl) (by decide) (fun hc => ?_) (fun hc => ?_)
    · replace hyp := hyp.1 hc
      refine mf_aload_n (mf_dat eX7_readQuestion_p0 50 rfl) rfl rfl ?_
      refine mf_iconst (v := 0) (mf_dat eX7_readQuestion_p0 51 rfl) (by decide) ?_
      refine mf_callV (Yc := YX7_readTest) (r := (RX7, TX7, 4)) (ci := 7) (mf_dat eX7_readQuestion_p0 52 rfl) ml_X7_67 okX7_readTest im_X7_readTest sl_X7_readTest rfl rfl rfl rfl (Nat.le_of_ble_eq_true rfl) (mf_rr (Nat.le_trans (by decide) hd) (Nat.le_refl _)) (Nat.le_refl _) is10 (hyp hG) (fun r8 g9 h10 hyp => ?_)
      obtain ⟨hG, hyp⟩ := hyp
      refine mf_goto (tgt := 115) (mf_dat eX7_readQuestion_p0 53 rfl) (by decide) ?_
      exact mf_sub [1, 2, 0] rfl (hyp hG)
    · replace hyp := hyp.2 hc
      refine mf_iload_n (mf_dat eX7_readQuestion_p0 44 rfl) rfl rfl ?_
      refine mf_bipush (v := 29) (mf_dat eX7_readQuestion_p0 45 rfl) (by decide) ?_
      refine mf_icmp_eq (tgt := 102) (mf_dat eX7_readQuestion_p0 46 rfl) (by decide) (fun hc => ?_) (fun hc => ?_)
      · replace hyp := hyp.1 hc
        refine mf_aload_n (mf_dat eX7_readQuestion_p0 50 rfl) rfl rfl ?_
        refine mf_iconst (v := 0) (mf_dat eX7_readQuestion_p0 51 rfl) (by decide) ?_
        refine mf_callV (Yc := YX7_readTest) (r := (RX7, TX7, 4)) (ci := 7) (mf_dat eX7_readQuestion_p0 52 rfl) ml_X7_67 okX7_readTest im_X7_readTest sl_X7_readTest rfl rfl rfl rfl (Nat.le_of_ble_eq_true rfl) (mf_rr (Nat.le_trans (by decide) hd) (Nat.le_refl _)) (Nat.le_refl _) is10 (hyp hG) (fun r11 g12 h13 hyp => ?_)
        obtain ⟨hG, hyp⟩ := hyp
        refine mf_goto (tgt := 115) (mf_dat eX7_readQuestion_p0 53 rfl) (by decide) ?_
        exact mf_sub [1, 2, 0] rfl (hyp hG)
      · replace hyp := hyp.2 hc
        refine mf_iload_n (mf_dat eX7_readQuestion_p0 47 rfl) rfl rfl ?_
        refine mf_bipush (v := 30) (mf_dat eX7_readQuestion_p0 48 rfl) (by decide) ?_
        refine mf_icmp_ne (tgt := 110) (mf_dat eX7_readQuestion_p0 49 rfl) (by decide) (fun hc => ?_) (fun hc => ?_)
        · replace hyp := hyp.1 hc
          refine mf_aload_n (mf_dat eX7_readQuestion_p0 54 rfl) rfl rfl ?_
          refine mf_iconst (v := 0) (mf_dat eX7_readQuestion_p0 55 rfl) (by decide) ?_
          refine mf_callV (Yc := YX7_readSum) (r := (RX7, TX7, 4)) (ci := 7) (mf_dat eX7_readQuestion_p0 56 rfl) ml_X7_70 okX7_readSum im_X7_readSum sl_X7_readSum rfl rfl rfl rfl (Nat.le_of_ble_eq_true rfl) (mf_rr (Nat.le_trans (by decide) hd) (Nat.le_refl _)) (Nat.le_refl _) is10 (hyp hG) (fun r14 g15 h16 hyp => ?_)
          obtain ⟨hG, hyp⟩ := hyp
          exact mf_sub [1, 2, 0] rfl (hyp hG)
        · replace hyp := hyp.2 hc
          refine mf_aload_n (mf_dat eX7_readQuestion_p0 50 rfl) rfl rfl ?_
          refine mf_iconst (v := 0) (mf_dat eX7_readQuestion_p0 51 rfl) (by decide) ?_
          refine mf_callV (Yc := YX7_readTest) (r := (RX7, TX7, 4)) (ci := 7) (mf_dat eX7_readQuestion_p0 52 rfl) ml_X7_67 okX7_readTest im_X7_readTest sl_X7_readTest rfl rfl rfl rfl (Nat.le_of_ble_eq_true rfl) (mf_rr (Nat.le_trans (by decide) hd) (Nat.le_refl _)) (Nat.le_refl _) is10 (hyp hG) (fun r17 g18 h19 hyp => ?_)
          obtain ⟨hG, hyp⟩ := hyp
          refine mf_goto (tgt := 115) (mf_dat eX7_readQuestion_p0 53 rfl) (by decide) ?_
          exact mf_sub [1, 2, 0] rfl (hyp hG)
  · replace hyp := hyp.2 hc
    refine mf_aload_n (mf_dat eX7_readQuestion_p0 26 rfl) rfl rfl ?_
    refine mf_getf (r := (RX7, TX7, 4)) (ci := 7) (k := 0) (t := 2) (v := 5) (mf_dat eX7_readQuestion_p0 27 rfl) fl_X7_13 rfl (by decide) rfl (gx_10_0 hG) is10 ?_
    refine mf_iconst (v := 1) (mf_dat eX7_readQuestion_p0 28 rfl) (by decide) ?_
    refine mf_aload_n (mf_dat eX7_readQuestion_p0 29 rfl) rfl rfl ?_
    refine mf_getf (r := (RX7, TX7, 4)) (ci := 7) (k := 0) (t := 2) (v := 5) (mf_dat eX7_readQuestion_p0 30 rfl) fl_X7_13 rfl (by decide) rfl (gx_10_0 hG) is10 ?_
    refine mf_getf (r := (RX9, TX9, 10)) (ci := 9) (k := 3) (t := 0) (v := h 5 3) (mf_dat eX7_readQuestion_p0 31 rfl) fl_X7_53 rfl (by decide) rfl rfl is5 ?_
    refine mf_callV (Yc := YX9_fail) (r := (RX9, TX9, 10)) (ci := 9) (mf_dat eX7_readQuestion_p0 32 rfl) ml_X7_56 okX9_fail im_X9_fail sl_X9_fail rfl rfl rfl rfl (Nat.le_of_ble_eq_true rfl) (mf_rr (Nat.le_trans (by decide) hd) (Nat.le_refl _)) (Nat.le_refl _) is5 (hyp hG) (fun r20 g21 h22 hyp => ?_)
    obtain ⟨hG, hyp⟩ := hyp
    refine mf_iconst (v := (-1)) (mf_dat eX7_readQuestion_p0 33 rfl) (by decide) ?_
    exact mf_ireturn (mf_dat eX7_readQuestion_p0 34 rfl) rfl (Or.inl rfl) ⟨hG, hyp⟩
set_option maxRecDepth 100000 in
set_option maxHeartbeats 4000000 in
theorem vX7_readQuestion_115 {C : mf_G} {l : Launch} {d : Nat} {K : mf_Kt} {x1 x2 : Int} {g h : mf_M} (hd : 1 ≤ d) (hyp : mf_is 319 x1 4 ∧ xM C l 0 YX4_finish [(2, x1)] g h (fun r1 g2 h3 => ((h3 5 2 = 0 → K x2 g2 h3) ∧ (¬ h3 5 2 = 0 → xM C l 0 YX9_fail [(2, 5), (0, 1), (0, h3 5 3)] g2 h3 (fun r5 g6 h7 => K x2 g6 h7))))) : BX7_readQuestion_115 C l d K x1 x2 g h := by
  intro hG
  refine mf_aload_n (mf_dat eX7_readQuestion_p0 57 rfl) rfl rfl ?_
  obtain ⟨ck4, hyp⟩ := hyp
  refine mf_callV (Yc := YX4_finish) (r := (RX4, TX4, 5)) (ci := 4) (mf_dat eX7_readQuestion_p0 58 rfl) ml_X7_73 okX4_finish im_X4_finish sl_X4_finish rfl rfl rfl rfl (Nat.le_of_ble_eq_true rfl) (mf_rr (Nat.le_trans (by decide) hd) (Nat.le_refl _)) (Nat.le_refl _) ck4 (hyp hG) (fun r1 g2 h3 hyp => ?_)
  obtain ⟨hG, hyp⟩ := hyp
  refine mf_aload_n (mf_dat eX7_readQuestion_p0 59 rfl) rfl rfl ?_
  refine mf_getf (r := (RX7, TX7, 4)) (ci := 7) (k := 0) (t := 2) (v := 5) (mf_dat eX7_readQuestion_p1 0 rfl) fl_X7_13 rfl (by decide) rfl (gx_10_0 hG) is10 ?_
  refine mf_getf (r := (RX9, TX9, 10)) (ci := 9) (k := 2) (t := 0) (v := h3 5 2) (mf_dat eX7_readQuestion_p1 1 rfl) fl_X7_43 rfl (by decide) rfl rfl is5 ?_
  refine mf_if_eq (tgt := 144) (mf_dat eX7_readQuestion_p1 2 rfl) (by decide) (fun hc => ?_) (fun hc => ?_)
  · replace hyp := hyp.1 hc
    refine mf_iload_n (mf_dat eX7_readQuestion_p1 10 rfl) rfl rfl ?_
    exact mf_ireturn (mf_dat eX7_readQuestion_p1 11 rfl) rfl (Or.inl rfl) ⟨hG, hyp⟩
  · replace hyp := hyp.2 hc
    refine mf_aload_n (mf_dat eX7_readQuestion_p1 3 rfl) rfl rfl ?_
    refine mf_getf (r := (RX7, TX7, 4)) (ci := 7) (k := 0) (t := 2) (v := 5) (mf_dat eX7_readQuestion_p1 4 rfl) fl_X7_13 rfl (by decide) rfl (gx_10_0 hG) is10 ?_
    refine mf_iconst (v := 1) (mf_dat eX7_readQuestion_p1 5 rfl) (by decide) ?_
    refine mf_aload_n (mf_dat eX7_readQuestion_p1 6 rfl) rfl rfl ?_
    refine mf_getf (r := (RX7, TX7, 4)) (ci := 7) (k := 0) (t := 2) (v := 5) (mf_dat eX7_readQuestion_p1 7 rfl) fl_X7_13 rfl (by decide) rfl (gx_10_0 hG) is10 ?_
    refine mf_getf (r := (RX9, TX9, 10)) (ci := 9) (k := 3) (t := 0) (v := h3 5 3) (mf_dat eX7_readQuestion_p1 8 rfl) fl_X7_53 rfl (by decide) rfl rfl is5 ?_
    refine mf_callV (Yc := YX9_fail) (r := (RX9, TX9, 10)) (ci := 9) (mf_dat eX7_readQuestion_p1 9 rfl) ml_X7_56 okX9_fail im_X9_fail sl_X9_fail rfl rfl rfl rfl (Nat.le_of_ble_eq_true rfl) (mf_rr (Nat.le_trans (by decide) hd) (Nat.le_refl _)) (Nat.le_refl _) is5 (hyp hG) (fun r5 g6 h7 hyp => ?_)
    obtain ⟨hG, hyp⟩ := hyp
    refine mf_iload_n (mf_dat eX7_readQuestion_p1 10 rfl) rfl rfl ?_
    exact mf_ireturn (mf_dat eX7_readQuestion_p1 11 rfl) rfl (Or.inl rfl) ⟨hG, hyp⟩
set_option maxRecDepth 100000 in
set_option maxHeartbeats 4000000 in
theorem wX7_readQuestion {C : mf_G} {l : Launch} {d : Nat} {K : mf_Kt} {x1 : Int} {g h : mf_M} (hd : 4 ≤ d) (hyp : mf_is 319 x1 4 ∧ xM C l 0 YX4_forget [(2, x1)] g h (fun r1 g2 h3 => xM C l 0 YX7_writeTo [(2, 10), (2, x1), (0, 959)] g2 h3 (fun r5 g6 h7 => xM C l 3 YX9_start [(2, 5)] g6 h7 (fun r8 g9 h10 => ((¬ h10 5 2 = 1 → BX7_readQuestion_48 C l d K x1 (-1) g9 h10) ∧ (h10 5 2 = 1 → xM C l 0 YX10_find [(2, 1), (0, h10 5 5)] g9 h10 (fun r11 g12 h13 => BX7_readQuestion_48 C l d K x1 r11 g12 h13))))))) : xM C l d YX7_readQuestion [(2, 10), (2, x1)] g h K := by
  intro hG
  refine mf_entry (by decide) (Nat.le_of_ble_eq_true rfl) ?_
  refine mf_aload_n (mf_dat eX7_readQuestion_p0 0 rfl) rfl rfl ?_
  obtain ⟨ck4, hyp⟩ := hyp
  refine mf_callV (Yc := YX4_forget) (r := (RX4, TX4, 5)) (ci := 4) (mf_dat eX7_readQuestion_p0 1 rfl) ml_X7_29 okX4_forget im_X4_forget sl_X4_forget rfl rfl rfl rfl (Nat.le_of_ble_eq_true rfl) (mf_rr (Nat.le_trans (by decide) hd) (Nat.le_refl _)) (Nat.le_refl _) ck4 (hyp hG) (fun r1 g2 h3 hyp => ?_)
  obtain ⟨hG, hyp⟩ := hyp
  refine mf_aload_n (mf_dat eX7_readQuestion_p0 2 rfl) rfl rfl ?_
  refine mf_aload_n (mf_dat eX7_readQuestion_p0 3 rfl) rfl rfl ?_
  refine mf_sipush (v := 959) (mf_dat eX7_readQuestion_p0 4 rfl) (by decide) ?_
  refine mf_callV (Yc := YX7_writeTo) (r := (RX7, TX7, 4)) (ci := 7) (mf_dat eX7_readQuestion_p0 5 rfl) ml_X7_34 okX7_writeTo im_X7_writeTo sl_X7_writeTo rfl rfl rfl rfl (Nat.le_of_ble_eq_true rfl) (mf_rr (Nat.le_trans (by decide) hd) (Nat.le_refl _)) (Nat.le_refl _) is10 (hyp hG) (fun r5 g6 h7 hyp => ?_)
  obtain ⟨hG, hyp⟩ := hyp
  refine mf_aload_n (mf_dat eX7_readQuestion_p0 6 rfl) rfl rfl ?_
  refine mf_getf (r := (RX7, TX7, 4)) (ci := 7) (k := 0) (t := 2) (v := 5) (mf_dat eX7_readQuestion_p0 7 rfl) fl_X7_13 rfl (by decide) rfl (gx_10_0 hG) is10 ?_
  refine mf_callV (Yc := YX9_start) (r := (RX9, TX9, 10)) (ci := 9) (mf_dat eX7_readQuestion_p0 8 rfl) ml_X7_38 okX9_start im_X9_start sl_X9_start rfl rfl rfl rfl (Nat.le_of_ble_eq_true rfl) (mf_rr (Nat.le_trans (by decide) hd) (Nat.le_refl _)) (Nat.le_refl _) is5 (hyp hG) (fun r8 g9 h10 hyp => ?_)
  obtain ⟨hG, hyp⟩ := hyp
  refine mf_aload_n (mf_dat eX7_readQuestion_p0 9 rfl) rfl rfl ?_
  refine mf_getf (r := (RX7, TX7, 4)) (ci := 7) (k := 0) (t := 2) (v := 5) (mf_dat eX7_readQuestion_p0 10 rfl) fl_X7_13 rfl (by decide) rfl (gx_10_0 hG) is10 ?_
  refine mf_getf (r := (RX9, TX9, 10)) (ci := 9) (k := 2) (t := 0) (v := h10 5 2) (mf_dat eX7_readQuestion_p0 11 rfl) fl_X7_43 rfl (by decide) rfl rfl is5 ?_
  refine mf_iconst (v := 1) (mf_dat eX7_readQuestion_p0 12 rfl) (by decide) ?_
  refine mf_icmp_ne (tgt := 47) (mf_dat eX7_readQuestion_p0 13 rfl) (by decide) (fun hc => ?_) (fun hc => ?_)
  · replace hyp := hyp.1 hc
    refine mf_iconst (v := (-1)) (mf_dat eX7_readQuestion_p0 21 rfl) (by decide) ?_
    exact mf_sub [0, 1] rfl (hyp hG)
  · replace hyp := hyp.2 hc
    refine mf_aload_n (mf_dat eX7_readQuestion_p0 14 rfl) rfl rfl ?_
    refine mf_getf (r := (RX7, TX7, 4)) (ci := 7) (k := 1) (t := 2) (v := 1) (mf_dat eX7_readQuestion_p0 15 rfl) fl_X7_17 rfl (by decide) rfl (gx_10_1 hG) is10 ?_
    refine mf_aload_n (mf_dat eX7_readQuestion_p0 16 rfl) rfl rfl ?_
    refine mf_getf (r := (RX7, TX7, 4)) (ci := 7) (k := 0) (t := 2) (v := 5) (mf_dat eX7_readQuestion_p0 17 rfl) fl_X7_13 rfl (by decide) rfl (gx_10_0 hG) is10 ?_
    refine mf_getf (r := (RX9, TX9, 10)) (ci := 9) (k := 5) (t := 0) (v := h10 5 5) (mf_dat eX7_readQuestion_p0 18 rfl) fl_X7_46 rfl (by decide) rfl rfl is5 ?_
    refine mf_callV (Yc := YX10_find) (r := (RX10, TX10, 1)) (ci := 10) (mf_dat eX7_readQuestion_p0 19 rfl) ml_X7_49 okX10_find im_X10_find sl_X10_find rfl rfl rfl rfl (Nat.le_of_ble_eq_true rfl) (mf_rr (Nat.le_trans (by decide) hd) (Nat.le_refl _)) (Nat.le_refl _) is1 (hyp hG) (fun r11 g12 h13 hyp => ?_)
    obtain ⟨hG, hyp⟩ := hyp
    refine mf_goto (tgt := 48) (mf_dat eX7_readQuestion_p0 20 rfl) (by decide) ?_
    exact mf_sub [0, 1] rfl (hyp hG)
abbrev BX7_readTest_7 (C : mf_G) (l : Launch) (d : Nat) (K : mf_Kt) (x1 x2 x3 x4 : Int) (g h : mf_M) : Prop := jX C l d YX7_readTest K 7 [(0, (2, 10)), (1, (0, x1)), (2, (0, x2)), (3, (0, x3)), (4, (0, x4))] [] g h
abbrev BX7_readTest_44 (C : mf_G) (l : Launch) (d : Nat) (K : mf_Kt) (x1 x3 x4 : Int) (g h : mf_M) : Prop := jX C l d YX7_readTest K 44 [(0, (2, 10)), (1, (0, x1)), (3, (0, x3)), (4, (0, x4))] [] g h
set_option maxRecDepth 100000 in
set_option maxHeartbeats 4000000 in
theorem vX7_readTest_7 {C : mf_G} {l : Launch} {e : Nat} {K : mf_Kt} {x1 x2 x3 x4 : Int} {g h : mf_M} (hd : 1 ≤ e + 1) (hyp : ((1600 < x4 → K 0 g h) ∧ (¬ 1600 < x4 → xM C l e YX7_readFact [(2, 10), (0, x1)] g h (fun r1 g2 h3 => ((h3 5 8 = 0 → ((x2 = 0 → BX7_readTest_44 C l (e + 1) K x1 x3 x4 g2 h3) ∧ (¬ x2 = 0 → mf_is 319 (g2 10 2) 4 ∧ xM C l 0 YX4_add [(2, g2 10 2), (0, 10)] g2 h3 (fun r4 g5 h6 => BX7_readTest_44 C l (e + 1) K x1 x3 x4 g5 h6)))) ∧ (¬ h3 5 8 = 0 → K 0 g2 h3)))))) : BX7_readTest_7 C l (e + 1) K x1 x2 x3 x4 g h := by
  intro hG
  refine mf_iload (mf_dat eX7_readTest 6 rfl) rfl ?_
  refine mf_sipush (v := 1600) (mf_dat eX7_readTest 7 rfl) (by decide) ?_
  refine mf_icmp_gt (tgt := 99) (mf_dat eX7_readTest 8 rfl) (by decide) (fun hc => ?_) (fun hc => ?_)
  · replace hyp := hyp.1 hc
    exact mf_return (mf_dat eX7_readTest 49 rfl) rfl ⟨hG, hyp⟩
  · replace hyp := hyp.2 hc
    refine mf_aload_n (mf_dat eX7_readTest 9 rfl) rfl rfl ?_
    refine mf_iload_n (mf_dat eX7_readTest 10 rfl) rfl rfl ?_
    refine mf_callV (Yc := YX7_readFact) (r := (RX7, TX7, 4)) (ci := 7) (mf_dat eX7_readTest 11 rfl) ml_X7_76 okX7_readFact im_X7_readFact sl_X7_readFact rfl rfl rfl rfl (Nat.le_of_ble_eq_true rfl) (mf_rr (Nat.le_refl _) (Nat.le_refl _)) (Nat.le_refl _) is10 (hyp hG) (fun r1 g2 h3 hyp => ?_)
    obtain ⟨hG, hyp⟩ := hyp
    refine mf_aload_n (mf_dat eX7_readTest 12 rfl) rfl rfl ?_
    refine mf_getf (r := (RX7, TX7, 4)) (ci := 7) (k := 0) (t := 2) (v := 5) (mf_dat eX7_readTest 13 rfl) fl_X7_13 rfl (by decide) rfl (gx_10_0 hG) is10 ?_
    refine mf_getf (r := (RX9, TX9, 10)) (ci := 9) (k := 8) (t := 0) (v := h3 5 8) (mf_dat eX7_readTest 14 rfl) fl_X7_79 rfl (by decide) rfl rfl is5 ?_
    refine mf_if_eq (tgt := 31) (mf_dat eX7_readTest 15 rfl) (by decide) (fun hc => ?_) (fun hc => ?_)
    · replace hyp := hyp.1 hc
      refine mf_iload_n (mf_dat eX7_readTest 17 rfl) rfl rfl ?_
      refine mf_if_eq (tgt := 44) (mf_dat eX7_readTest 18 rfl) (by decide) (fun hc => ?_) (fun hc => ?_)
      · replace hyp := hyp.1 hc
        exact mf_sub [0, 1, 3, 4] rfl (hyp hG)
      · replace hyp := hyp.2 hc
        refine mf_aload_n (mf_dat eX7_readTest 19 rfl) rfl rfl ?_
        refine mf_getf (r := (RX7, TX7, 4)) (ci := 7) (k := 2) (t := 2) (v := g2 10 2) (mf_dat eX7_readTest 20 rfl) fl_X7_21 rfl (by decide) rfl rfl is10 ?_
        refine mf_bipush (v := 10) (mf_dat eX7_readTest 21 rfl) (by decide) ?_
        obtain ⟨ck7, hyp⟩ := hyp
        refine mf_callV (Yc := YX4_add) (r := (RX4, TX4, 5)) (ci := 4) (mf_dat eX7_readTest 22 rfl) ml_X7_82 okX4_add im_X4_add sl_X4_add rfl rfl rfl rfl (Nat.le_of_ble_eq_true rfl) (mf_rr (Nat.le_trans (by decide) hd) (Nat.le_refl _)) (Nat.le_refl _) ck7 (hyp hG) (fun r4 g5 h6 hyp => ?_)
        obtain ⟨hG, hyp⟩ := hyp
        exact mf_sub [0, 1, 3, 4] rfl (hyp hG)
    · replace hyp := hyp.2 hc
      exact mf_return (mf_dat eX7_readTest 16 rfl) rfl ⟨hG, hyp⟩
set_option maxRecDepth 100000 in
set_option maxHeartbeats 4000000 in
theorem vX7_readTest_44 {C : mf_G} {l : Launch} {e : Nat} {K : mf_Kt} {x1 x3 x4 : Int} {g h : mf_M} (hd : 3 ≤ e + 1) (hyp : xM C l 1 YX9_isWord [(2, 5), (0, 13)] g h (fun r1 g2 h3 => ((¬ r1 = 0 → xM C l 2 YX9_step [(2, 5)] g2 h3 (fun r4 g5 h6 => (∀ v7 : Int, v7 = mf_w32 (x4 + 1) → BX7_readTest_7 C l (e + 1) K x1 r1 x3 v7 g5 h6))) ∧ (r1 = 0 → ((x3 = 0 → xM C l 1 YX9_isWord [(2, 5), (0, 12)] g2 h3 (fun r8 g9 h10 => ((¬ r8 = 0 → xM C l 2 YX9_step [(2, 5)] g9 h10 (fun r11 g12 h13 => (∀ v14 : Int, v14 = mf_w32 (x4 + 1) → BX7_readTest_7 C l (e + 1) K x1 r1 r8 v14 g12 h13))) ∧ (r8 = 0 → K 0 g9 h10)))) ∧ (¬ x3 = 0 → mf_is 319 (g2 10 2) 4 ∧ xM C l 0 YX4_add [(2, g2 10 2), (0, 11)] g2 h3 (fun r15 g16 h17 => xM C l 1 YX9_isWord [(2, 5), (0, 12)] g16 h17 (fun r19 g20 h21 => ((¬ r19 = 0 → xM C l 2 YX9_step [(2, 5)] g20 h21 (fun r22 g23 h24 => (∀ v25 : Int, v25 = mf_w32 (x4 + 1) → BX7_readTest_7 C l (e + 1) K x1 r1 r19 v25 g23 h24))) ∧ (r19 = 0 → K 0 g20 h21)))))))))) : BX7_readTest_44 C l (e + 1) K x1 x3 x4 g h := by
  intro hG
  refine mf_aload_n (mf_dat eX7_readTest 23 rfl) rfl rfl ?_
  refine mf_getf (r := (RX7, TX7, 4)) (ci := 7) (k := 0) (t := 2) (v := 5) (mf_dat eX7_readTest 24 rfl) fl_X7_13 rfl (by decide) rfl (gx_10_0 hG) is10 ?_
  refine mf_bipush (v := 13) (mf_dat eX7_readTest 25 rfl) (by decide) ?_
  refine mf_callV (Yc := YX9_isWord) (r := (RX9, TX9, 10)) (ci := 9) (mf_dat eX7_readTest 26 rfl) ml_X7_85 okX9_isWord im_X9_isWord sl_X9_isWord rfl rfl rfl rfl (Nat.le_of_ble_eq_true rfl) (mf_rr (Nat.le_trans (by decide) hd) (Nat.le_refl _)) (Nat.le_refl _) is5 (hyp hG) (fun r1 g2 h3 hyp => ?_)
  obtain ⟨hG, hyp⟩ := hyp
  refine mf_istore_n (mf_dat eX7_readTest 27 rfl) rfl (by decide) ?_
  refine mf_iload_n (mf_dat eX7_readTest 28 rfl) rfl rfl ?_
  refine mf_if_ne (tgt := 86) (mf_dat eX7_readTest 29 rfl) (by decide) (fun hc => ?_) (fun hc => ?_)
  · replace hyp := hyp.1 hc
    refine mf_aload_n (mf_dat eX7_readTest 44 rfl) rfl rfl ?_
    refine mf_getf (r := (RX7, TX7, 4)) (ci := 7) (k := 0) (t := 2) (v := 5) (mf_dat eX7_readTest 45 rfl) fl_X7_13 rfl (by decide) rfl (gx_10_0 hG) is10 ?_
    refine mf_callV (Yc := YX9_step) (r := (RX9, TX9, 10)) (ci := 9) (mf_dat eX7_readTest 46 rfl) ml_X7_60 okX9_step im_X9_step sl_X9_step rfl rfl rfl rfl (Nat.le_of_ble_eq_true rfl) (mf_rr (Nat.le_trans (by decide) hd) (Nat.le_refl _)) (Nat.le_refl _) is5 (hyp hG) (fun r4 g5 h6 hyp => ?_)
    obtain ⟨hG, hyp⟩ := hyp
    refine mf_iinc (mf_dat eX7_readTest 47 rfl) rfl (by decide) (by decide) ?_
    generalize qv7 : mf_w32 (x4 + 1) = v7
    replace hyp := hyp _ qv7.symm
    refine mf_goto (tgt := 7) (mf_dat eX7_readTest 48 rfl) (by decide) ?_
    exact mf_sub [2, 3, 1, 4, 0] rfl (hyp hG)
  · replace hyp := hyp.2 hc
    refine mf_iload_n (mf_dat eX7_readTest 30 rfl) rfl rfl ?_
    refine mf_if_eq (tgt := 71) (mf_dat eX7_readTest 31 rfl) (by decide) (fun hc => ?_) (fun hc => ?_)
    · replace hyp := hyp.1 hc
      refine mf_aload_n (mf_dat eX7_readTest 36 rfl) rfl rfl ?_
      refine mf_getf (r := (RX7, TX7, 4)) (ci := 7) (k := 0) (t := 2) (v := 5) (mf_dat eX7_readTest 37 rfl) fl_X7_13 rfl (by decide) rfl (gx_10_0 hG) is10 ?_
      refine mf_bipush (v := 12) (mf_dat eX7_readTest 38 rfl) (by decide) ?_
      refine mf_callV (Yc := YX9_isWord) (r := (RX9, TX9, 10)) (ci := 9) (mf_dat eX7_readTest 39 rfl) ml_X7_85 okX9_isWord im_X9_isWord sl_X9_isWord rfl rfl rfl rfl (Nat.le_of_ble_eq_true rfl) (mf_rr (Nat.le_trans (by decide) hd) (Nat.le_refl _)) (Nat.le_refl _) is5 (hyp hG) (fun r8 g9 h10 hyp => ?_)
      obtain ⟨hG, hyp⟩ := hyp
      refine mf_istore_n (mf_dat eX7_readTest 40 rfl) rfl (by decide) ?_
      refine mf_iload_n (mf_dat eX7_readTest 41 rfl) rfl rfl ?_
      refine mf_if_ne (tgt := 86) (mf_dat eX7_readTest 42 rfl) (by decide) (fun hc => ?_) (fun hc => ?_)
      · replace hyp := hyp.1 hc
        refine mf_aload_n (mf_dat eX7_readTest 44 rfl) rfl rfl ?_
        refine mf_getf (r := (RX7, TX7, 4)) (ci := 7) (k := 0) (t := 2) (v := 5) (mf_dat eX7_readTest 45 rfl) fl_X7_13 rfl (by decide) rfl (gx_10_0 hG) is10 ?_
        refine mf_callV (Yc := YX9_step) (r := (RX9, TX9, 10)) (ci := 9) (mf_dat eX7_readTest 46 rfl) ml_X7_60 okX9_step im_X9_step sl_X9_step rfl rfl rfl rfl (Nat.le_of_ble_eq_true rfl) (mf_rr (Nat.le_trans (by decide) hd) (Nat.le_refl _)) (Nat.le_refl _) is5 (hyp hG) (fun r11 g12 h13 hyp => ?_)
        obtain ⟨hG, hyp⟩ := hyp
        refine mf_iinc (mf_dat eX7_readTest 47 rfl) rfl (by decide) (by decide) ?_
        generalize qv14 : mf_w32 (x4 + 1) = v14
        replace hyp := hyp _ qv14.symm
        refine mf_goto (tgt := 7) (mf_dat eX7_readTest 48 rfl) (by decide) ?_
        exact mf_sub [3, 4, 2, 1, 0] rfl (hyp hG)
      · replace hyp := hyp.2 hc
        exact mf_return (mf_dat eX7_readTest 43 rfl) rfl ⟨hG, hyp⟩
    · replace hyp := hyp.2 hc
      refine mf_aload_n (mf_dat eX7_readTest 32 rfl) rfl rfl ?_
      refine mf_getf (r := (RX7, TX7, 4)) (ci := 7) (k := 2) (t := 2) (v := g2 10 2) (mf_dat eX7_readTest 33 rfl) fl_X7_21 rfl (by decide) rfl rfl is10 ?_
      refine mf_bipush (v := 11) (mf_dat eX7_readTest 34 rfl) (by decide) ?_
      obtain ⟨ck18, hyp⟩ := hyp
      refine mf_callV (Yc := YX4_add) (r := (RX4, TX4, 5)) (ci := 4) (mf_dat eX7_readTest 35 rfl) ml_X7_82 okX4_add im_X4_add sl_X4_add rfl rfl rfl rfl (Nat.le_of_ble_eq_true rfl) (mf_rr (Nat.le_trans (by decide) hd) (Nat.le_refl _)) (Nat.le_refl _) ck18 (hyp hG) (fun r15 g16 h17 hyp => ?_)
      obtain ⟨hG, hyp⟩ := hyp
      refine mf_aload_n (mf_dat eX7_readTest 36 rfl) rfl rfl ?_
      refine mf_getf (r := (RX7, TX7, 4)) (ci := 7) (k := 0) (t := 2) (v := 5) (mf_dat eX7_readTest 37 rfl) fl_X7_13 rfl (by decide) rfl (gx_10_0 hG) is10 ?_
      refine mf_bipush (v := 12) (mf_dat eX7_readTest 38 rfl) (by decide) ?_
      refine mf_callV (Yc := YX9_isWord) (r := (RX9, TX9, 10)) (ci := 9) (mf_dat eX7_readTest 39 rfl) ml_X7_85 okX9_isWord im_X9_isWord sl_X9_isWord rfl rfl rfl rfl (Nat.le_of_ble_eq_true rfl) (mf_rr (Nat.le_trans (by decide) hd) (Nat.le_refl _)) (Nat.le_refl _) is5 (hyp hG) (fun r19 g20 h21 hyp => ?_)
      obtain ⟨hG, hyp⟩ := hyp
      refine mf_istore_n (mf_dat eX7_readTest 40 rfl) rfl (by decide) ?_
      refine mf_iload_n (mf_dat eX7_readTest 41 rfl) rfl rfl ?_
      refine mf_if_ne (tgt := 86) (mf_dat eX7_readTest 42 rfl) (by decide) (fun hc => ?_) (fun hc => ?_)
      · replace hyp := hyp.1 hc
        refine mf_aload_n (mf_dat eX7_readTest 44 rfl) rfl rfl ?_
        refine mf_getf (r := (RX7, TX7, 4)) (ci := 7) (k := 0) (t := 2) (v := 5) (mf_dat eX7_readTest 45 rfl) fl_X7_13 rfl (by decide) rfl (gx_10_0 hG) is10 ?_
        refine mf_callV (Yc := YX9_step) (r := (RX9, TX9, 10)) (ci := 9) (mf_dat eX7_readTest 46 rfl) ml_X7_60 okX9_step im_X9_step sl_X9_step rfl rfl rfl rfl (Nat.le_of_ble_eq_true rfl) (mf_rr (Nat.le_trans (by decide) hd) (Nat.le_refl _)) (Nat.le_refl _) is5 (hyp hG) (fun r22 g23 h24 hyp => ?_)
        obtain ⟨hG, hyp⟩ := hyp
        refine mf_iinc (mf_dat eX7_readTest 47 rfl) rfl (by decide) (by decide) ?_
        generalize qv25 : mf_w32 (x4 + 1) = v25
        replace hyp := hyp _ qv25.symm
        refine mf_goto (tgt := 7) (mf_dat eX7_readTest 48 rfl) (by decide) ?_
        exact mf_sub [3, 4, 2, 1, 0] rfl (hyp hG)
      · replace hyp := hyp.2 hc
        exact mf_return (mf_dat eX7_readTest 43 rfl) rfl ⟨hG, hyp⟩
set_option maxRecDepth 100000 in
set_option maxHeartbeats 4000000 in
theorem wX7_readTest {C : mf_G} {l : Launch} {e : Nat} {K : mf_Kt} {x1 : Int} {g h : mf_M} (hd : 1 ≤ e + 1) (hyp : BX7_readTest_7 C l (e + 1) K x1 0 0 0 g h) : xM C l (e + 1) YX7_readTest [(2, 10), (0, x1)] g h K := by
  intro hG
  refine mf_entry (by decide) (Nat.le_of_ble_eq_true rfl) ?_
  refine mf_iconst (v := 0) (mf_dat eX7_readTest 0 rfl) (by decide) ?_
  refine mf_istore_n (mf_dat eX7_readTest 1 rfl) rfl (by decide) ?_
  refine mf_iconst (v := 0) (mf_dat eX7_readTest 2 rfl) (by decide) ?_
  refine mf_istore_n (mf_dat eX7_readTest 3 rfl) rfl (by decide) ?_
  refine mf_iconst (v := 0) (mf_dat eX7_readTest 4 rfl) (by decide) ?_
  refine mf_istore (mf_dat eX7_readTest 5 rfl) (by decide) ?_
  exact mf_sub [3, 4, 2, 1, 0] rfl (hyp hG)
abbrev BX7_readFact_159 (C : mf_G) (l : Launch) (d : Nat) (K : mf_Kt) (x1 x2 : Int) (g h : mf_M) : Prop := jX C l d YX7_readFact K 159 [(0, (2, 10)), (1, (0, x1)), (2, (0, x2))] [] g h
set_option maxRecDepth 100000 in
set_option maxHeartbeats 4000000 in
theorem vX7_readFact_159 {C : mf_G} {l : Launch} {e : Nat} {K : mf_Kt} {x1 x2 : Int} {g h : mf_M} (hd : 65 ≤ e + 1) (hyp : ((¬ h 5 8 = 0 → K 0 g h) ∧ (h 5 8 = 0 → xM C l 2 YX9_step [(2, 5)] g h (fun r1 g2 h3 => xM C l 64 YX7_readSum [(2, 10), (0, x1)] g2 h3 (fun r4 g5 h6 => mf_is 319 (g5 10 2) 4 ∧ xM C l 0 YX4_add [(2, g5 10 2), (0, x2)] g5 h6 (fun r7 g8 h9 => K 0 g8 h9)))))) : BX7_readFact_159 C l (e + 1) K x1 x2 g h := by
  intro hG
  refine mf_aload_n (mf_dat eX7_readFact_p1 15 rfl) rfl rfl ?_
  refine mf_getf (r := (RX7, TX7, 4)) (ci := 7) (k := 0) (t := 2) (v := 5) (mf_dat eX7_readFact_p1 16 rfl) fl_X7_13 rfl (by decide) rfl (gx_10_0 hG) is10 ?_
  refine mf_getf (r := (RX9, TX9, 10)) (ci := 9) (k := 8) (t := 0) (v := h 5 8) (mf_dat eX7_readFact_p1 17 rfl) fl_X7_79 rfl (by decide) rfl rfl is5 ?_
  refine mf_if_ne (tgt := 189) (mf_dat eX7_readFact_p1 18 rfl) (by decide) (fun hc => ?_) (fun hc => ?_)
  · replace hyp := hyp.1 hc
    exact mf_return (mf_dat eX7_readFact_p1 29 rfl) rfl ⟨hG, hyp⟩
  · replace hyp := hyp.2 hc
    refine mf_aload_n (mf_dat eX7_readFact_p1 19 rfl) rfl rfl ?_
    refine mf_getf (r := (RX7, TX7, 4)) (ci := 7) (k := 0) (t := 2) (v := 5) (mf_dat eX7_readFact_p1 20 rfl) fl_X7_13 rfl (by decide) rfl (gx_10_0 hG) is10 ?_
    refine mf_callV (Yc := YX9_step) (r := (RX9, TX9, 10)) (ci := 9) (mf_dat eX7_readFact_p1 21 rfl) ml_X7_60 okX9_step im_X9_step sl_X9_step rfl rfl rfl rfl (Nat.le_of_ble_eq_true rfl) (mf_rr (Nat.le_trans (by decide) hd) (Nat.le_refl _)) (Nat.le_refl _) is5 (hyp hG) (fun r1 g2 h3 hyp => ?_)
    obtain ⟨hG, hyp⟩ := hyp
    refine mf_aload_n (mf_dat eX7_readFact_p1 22 rfl) rfl rfl ?_
    refine mf_iload_n (mf_dat eX7_readFact_p1 23 rfl) rfl rfl ?_
    refine mf_callV (Yc := YX7_readSum) (r := (RX7, TX7, 4)) (ci := 7) (mf_dat eX7_readFact_p1 24 rfl) ml_X7_70 okX7_readSum im_X7_readSum sl_X7_readSum rfl rfl rfl rfl (Nat.le_of_ble_eq_true rfl) (mf_rr (Nat.le_trans (by decide) hd) (Nat.le_refl _)) (Nat.le_refl _) is10 (hyp hG) (fun r4 g5 h6 hyp => ?_)
    obtain ⟨hG, hyp⟩ := hyp
    refine mf_aload_n (mf_dat eX7_readFact_p1 25 rfl) rfl rfl ?_
    refine mf_getf (r := (RX7, TX7, 4)) (ci := 7) (k := 2) (t := 2) (v := g5 10 2) (mf_dat eX7_readFact_p1 26 rfl) fl_X7_21 rfl (by decide) rfl rfl is10 ?_
    refine mf_iload_n (mf_dat eX7_readFact_p1 27 rfl) rfl rfl ?_
    obtain ⟨ck10, hyp⟩ := hyp
    refine mf_callV (Yc := YX4_add) (r := (RX4, TX4, 5)) (ci := 4) (mf_dat eX7_readFact_p1 28 rfl) ml_X7_82 okX4_add im_X4_add sl_X4_add rfl rfl rfl rfl (Nat.le_of_ble_eq_true rfl) (mf_rr (Nat.le_trans (by decide) hd) (Nat.le_refl _)) (Nat.le_refl _) ck10 (hyp hG) (fun r7 g8 h9 hyp => ?_)
    obtain ⟨hG, hyp⟩ := hyp
    exact mf_return (mf_dat eX7_readFact_p1 29 rfl) rfl ⟨hG, hyp⟩
set_option maxRecDepth 100000 in
set_option maxHeartbeats 4000000 in
theorem wX7_readFact {C : mf_G} {l : Launch} {e : Nat} {K : mf_Kt} {x1 : Int} {g h : mf_M} (hd : 65 ≤ e + 1) (hyp : xM C l 1 YX9_isWord [(2, 5), (0, 15)] g h (fun r1 g2 h3 => ((r1 = 0 → xM C l 1 YX9_isWord [(2, 5), (0, 14)] g2 h3 (fun r4 g5 h6 => ((r4 = 0 → xM C l 0 YX9_isSign [(2, 5), (0, 91)] g5 h6 (fun r7 g8 h9 => ((r7 = 0 → xM C l 64 YX7_readSum [(2, 10), (0, x1)] g8 h9 (fun r10 g11 h12 => xM C l 0 YX7_compareSign [(2, 10)] g11 h12 (fun r13 g14 h15 => ((¬ r13 = (-1) → BX7_readFact_159 C l (e + 1) K x1 r13 g14 h15) ∧ (r13 = (-1) → xM C l 0 YX9_fail [(2, 5), (0, 1), (0, h15 5 3)] g14 h15 (fun r16 g17 h18 => BX7_readFact_159 C l (e + 1) K x1 r13 g17 h18)))))) ∧ (¬ r7 = 0 → xM C l 1 YX9_mayOpen [(2, 5), (0, x1)] g8 h9 (fun r19 g20 h21 => ((r19 = 0 → K 0 g20 h21) ∧ (¬ r19 = 0 → xM C l 2 YX9_step [(2, 5)] g20 h21 (fun r22 g23 h24 => xM C l e YX7_readTest [(2, 10), (0, mf_w32 (x1 + 1))] g23 h24 (fun r25 g26 h27 => xM C l 3 YX9_passSign [(2, 5), (0, 93)] g26 h27 (fun r28 g29 h30 => K 0 g29 h30)))))))))) ∧ (¬ r4 = 0 → xM C l 1 YX9_mayOpen [(2, 5), (0, x1)] g5 h6 (fun r31 g32 h33 => ((r31 = 0 → K 0 g32 h33) ∧ (¬ r31 = 0 → xM C l 2 YX9_step [(2, 5)] g32 h33 (fun r34 g35 h36 => xM C l e YX7_readFact [(2, 10), (0, mf_w32 (x1 + 1))] g35 h36 (fun r37 g38 h39 => mf_is 319 (g38 10 2) 4 ∧ xM C l 0 YX4_add [(2, g38 10 2), (0, 12)] g38 h39 (fun r40 g41 h42 => K 0 g41 h42)))))))))) ∧ (¬ r1 = 0 → mf_is 319 (g2 10 2) 4 ∧ xM C l 0 YX4_add [(2, g2 10 2), (0, 41)] g2 h3 (fun r44 g45 h46 => xM C l 2 YX9_step [(2, 5)] g45 h46 (fun r48 g49 h50 => K 0 g49 h50)))))) : xM C l (e + 1) YX7_readFact [(2, 10), (0, x1)] g h K := by
  intro hG
  refine mf_entry (by decide) (Nat.le_of_ble_eq_true rfl) ?_
  refine mf_aload_n (mf_dat eX7_readFact_p0 0 rfl) rfl rfl ?_
  refine mf_getf (r := (RX7, TX7, 4)) (ci := 7) (k := 0) (t := 2) (v := 5) (mf_dat eX7_readFact_p0 1 rfl) fl_X7_13 rfl (by decide) rfl (gx_10_0 hG) is10 ?_
  refine mf_bipush (v := 15) (mf_dat eX7_readFact_p0 2 rfl) (by decide) ?_
  refine mf_callV (Yc := YX9_isWord) (r := (RX9, TX9, 10)) (ci := 9) (mf_dat eX7_readFact_p0 3 rfl) ml_X7_85 okX9_isWord im_X9_isWord sl_X9_isWord rfl rfl rfl rfl (Nat.le_of_ble_eq_true rfl) (mf_rr (Nat.le_trans (by decide) hd) (Nat.le_refl _)) (Nat.le_refl _) is5 (hyp hG) (fun r1 g2 h3 hyp => ?_)
  obtain ⟨hG, hyp⟩ := hyp
  refine mf_if_eq (tgt := 31) (mf_dat eX7_readFact_p0 4 rfl) (by decide) (fun hc => ?_) (fun hc => ?_)
  · replace hyp := hyp.1 hc
    refine mf_aload_n (mf_dat eX7_readFact_p0 13 rfl) rfl rfl ?_
    refine mf_getf (r := (RX7, TX7, 4)) (ci := 7) (k := 0) (t := 2) (v := 5) (mf_dat eX7_readFact_p0 14 rfl) fl_X7_13 rfl (by decide) rfl (gx_10_0 hG) is10 ?_
    refine mf_bipush (v := 14) (mf_dat eX7_readFact_p0 15 rfl) (by decide) ?_
    refine mf_callV (Yc := YX9_isWord) (r := (RX9, TX9, 10)) (ci := 9) (mf_dat eX7_readFact_p0 16 rfl) ml_X7_85 okX9_isWord im_X9_isWord sl_X9_isWord rfl rfl rfl rfl (Nat.le_of_ble_eq_true rfl) (mf_rr (Nat.le_trans (by decide) hd) (Nat.le_refl _)) (Nat.le_refl _) is5 (hyp hG) (fun r4 g5 h6 hyp => ?_)
    obtain ⟨hG, hyp⟩ := hyp
    refine mf_if_eq (tgt := 80) (mf_dat eX7_readFact_p0 17 rfl) (by decide) (fun hc => ?_) (fun hc => ?_)
    · replace hyp := hyp.1 hc
      refine mf_aload_n (mf_dat eX7_readFact_p0 36 rfl) rfl rfl ?_
      refine mf_getf (r := (RX7, TX7, 4)) (ci := 7) (k := 0) (t := 2) (v := 5) (mf_dat eX7_readFact_p0 37 rfl) fl_X7_13 rfl (by decide) rfl (gx_10_0 hG) is10 ?_
      refine mf_bipush (v := 91) (mf_dat eX7_readFact_p0 38 rfl) (by decide) ?_
      refine mf_callV (Yc := YX9_isSign) (r := (RX9, TX9, 10)) (ci := 9) (mf_dat eX7_readFact_p0 39 rfl) ml_X7_92 okX9_isSign im_X9_isSign sl_X9_isSign rfl rfl rfl rfl (Nat.le_of_ble_eq_true rfl) (mf_rr (Nat.le_trans (by decide) hd) (Nat.le_refl _)) (Nat.le_refl _) is5 (hyp hG) (fun r7 g8 h9 hyp => ?_)
      obtain ⟨hG, hyp⟩ := hyp
      refine mf_if_eq (tgt := 129) (mf_dat eX7_readFact_p0 40 rfl) (by decide) (fun hc => ?_) (fun hc => ?_)
      · replace hyp := hyp.1 hc
        refine mf_aload_n (mf_dat eX7_readFact_p0 59 rfl) rfl rfl ?_
        refine mf_iload_n (mf_dat eX7_readFact_p1 0 rfl) rfl rfl ?_
        refine mf_callV (Yc := YX7_readSum) (r := (RX7, TX7, 4)) (ci := 7) (mf_dat eX7_readFact_p1 1 rfl) ml_X7_70 okX7_readSum im_X7_readSum sl_X7_readSum rfl rfl rfl rfl (Nat.le_of_ble_eq_true rfl) (mf_rr (Nat.le_trans (by decide) hd) (Nat.le_refl _)) (Nat.le_refl _) is10 (hyp hG) (fun r10 g11 h12 hyp => ?_)
        obtain ⟨hG, hyp⟩ := hyp
        refine mf_aload_n (mf_dat eX7_readFact_p1 2 rfl) rfl rfl ?_
        refine mf_callV (Yc := YX7_compareSign) (r := (RX7, TX7, 4)) (ci := 7) (mf_dat eX7_readFact_p1 3 rfl) ml_X7_100 okX7_compareSign im_X7_compareSign sl_X7_compareSign rfl rfl rfl rfl (Nat.le_of_ble_eq_true rfl) (mf_rr (Nat.le_trans (by decide) hd) (Nat.le_refl _)) (Nat.le_refl _) is10 (hyp hG) (fun r13 g14 h15 hyp => ?_)
        obtain ⟨hG, hyp⟩ := hyp
        refine mf_istore_n (mf_dat eX7_readFact_p1 4 rfl) rfl (by decide) ?_
        refine mf_iload_n (mf_dat eX7_readFact_p1 5 rfl) rfl rfl ?_
        refine mf_iconst (v := (-1)) (mf_dat eX7_readFact_p1 6 rfl) (by decide) ?_
        refine mf_icmp_ne (tgt := 159) (mf_dat eX7_readFact_p1 7 rfl) (by decide) (fun hc => ?_) (fun hc => ?_)
        · replace hyp := hyp.1 hc
          exact mf_sub [1, 2, 0] rfl (hyp hG)
        · replace hyp := hyp.2 hc
          refine mf_aload_n (mf_dat eX7_readFact_p1 8 rfl) rfl rfl ?_
          refine mf_getf (r := (RX7, TX7, 4)) (ci := 7) (k := 0) (t := 2) (v := 5) (mf_dat eX7_readFact_p1 9 rfl) fl_X7_13 rfl (by decide) rfl (gx_10_0 hG) is10 ?_
          refine mf_iconst (v := 1) (mf_dat eX7_readFact_p1 10 rfl) (by decide) ?_
          refine mf_aload_n (mf_dat eX7_readFact_p1 11 rfl) rfl rfl ?_
          refine mf_getf (r := (RX7, TX7, 4)) (ci := 7) (k := 0) (t := 2) (v := 5) (mf_dat eX7_readFact_p1 12 rfl) fl_X7_13 rfl (by decide) rfl (gx_10_0 hG) is10 ?_
          refine mf_getf (r := (RX9, TX9, 10)) (ci := 9) (k := 3) (t := 0) (v := h15 5 3) (mf_dat eX7_readFact_p1 13 rfl) fl_X7_53 rfl (by decide) rfl rfl is5 ?_
          refine mf_callV (Yc := YX9_fail) (r := (RX9, TX9, 10)) (ci := 9) (mf_dat eX7_readFact_p1 14 rfl) ml_X7_56 okX9_fail im_X9_fail sl_X9_fail rfl rfl rfl rfl (Nat.le_of_ble_eq_true rfl) (mf_rr (Nat.le_trans (by decide) hd) (Nat.le_refl _)) (Nat.le_refl _) is5 (hyp hG) (fun r16 g17 h18 hyp => ?_)
          obtain ⟨hG, hyp⟩ := hyp
          exact mf_sub [1, 2, 0] rfl (hyp hG)
      · replace hyp := hyp.2 hc
        refine mf_aload_n (mf_dat eX7_readFact_p0 41 rfl) rfl rfl ?_
        refine mf_getf (r := (RX7, TX7, 4)) (ci := 7) (k := 0) (t := 2) (v := 5) (mf_dat eX7_readFact_p0 42 rfl) fl_X7_13 rfl (by decide) rfl (gx_10_0 hG) is10 ?_
        refine mf_iload_n (mf_dat eX7_readFact_p0 43 rfl) rfl rfl ?_
        refine mf_callV (Yc := YX9_mayOpen) (r := (RX9, TX9, 10)) (ci := 9) (mf_dat eX7_readFact_p0 44 rfl) ml_X7_89 okX9_mayOpen im_X9_mayOpen sl_X9_mayOpen rfl rfl rfl rfl (Nat.le_of_ble_eq_true rfl) (mf_rr (Nat.le_trans (by decide) hd) (Nat.le_refl _)) (Nat.le_refl _) is5 (hyp hG) (fun r19 g20 h21 hyp => ?_)
        obtain ⟨hG, hyp⟩ := hyp
        refine mf_if_eq (tgt := 189) (mf_dat eX7_readFact_p0 45 rfl) (by decide) (fun hc => ?_) (fun hc => ?_)
        · replace hyp := hyp.1 hc
          exact mf_return (mf_dat eX7_readFact_p1 29 rfl) rfl ⟨hG, hyp⟩
        · replace hyp := hyp.2 hc
          refine mf_aload_n (mf_dat eX7_readFact_p0 46 rfl) rfl rfl ?_
          refine mf_getf (r := (RX7, TX7, 4)) (ci := 7) (k := 0) (t := 2) (v := 5) (mf_dat eX7_readFact_p0 47 rfl) fl_X7_13 rfl (by decide) rfl (gx_10_0 hG) is10 ?_
          refine mf_callV (Yc := YX9_step) (r := (RX9, TX9, 10)) (ci := 9) (mf_dat eX7_readFact_p0 48 rfl) ml_X7_60 okX9_step im_X9_step sl_X9_step rfl rfl rfl rfl (Nat.le_of_ble_eq_true rfl) (mf_rr (Nat.le_trans (by decide) hd) (Nat.le_refl _)) (Nat.le_refl _) is5 (hyp hG) (fun r22 g23 h24 hyp => ?_)
          obtain ⟨hG, hyp⟩ := hyp
          refine mf_aload_n (mf_dat eX7_readFact_p0 49 rfl) rfl rfl ?_
          refine mf_iload_n (mf_dat eX7_readFact_p0 50 rfl) rfl rfl ?_
          refine mf_iconst (v := 1) (mf_dat eX7_readFact_p0 51 rfl) (by decide) ?_
          refine mf_iadd (mf_dat eX7_readFact_p0 52 rfl) ?_
          refine mf_callV (Yc := YX7_readTest) (r := (RX7, TX7, 4)) (ci := 7) (mf_dat eX7_readFact_p0 53 rfl) ml_X7_67 okX7_readTest im_X7_readTest sl_X7_readTest rfl rfl rfl rfl (Nat.le_of_ble_eq_true rfl) (mf_rr (Nat.le_refl _) (Nat.le_refl _)) (Nat.le_refl _) is10 (hyp hG) (fun r25 g26 h27 hyp => ?_)
          obtain ⟨hG, hyp⟩ := hyp
          refine mf_aload_n (mf_dat eX7_readFact_p0 54 rfl) rfl rfl ?_
          refine mf_getf (r := (RX7, TX7, 4)) (ci := 7) (k := 0) (t := 2) (v := 5) (mf_dat eX7_readFact_p0 55 rfl) fl_X7_13 rfl (by decide) rfl (gx_10_0 hG) is10 ?_
          refine mf_bipush (v := 93) (mf_dat eX7_readFact_p0 56 rfl) (by decide) ?_
          refine mf_callV (Yc := YX9_passSign) (r := (RX9, TX9, 10)) (ci := 9) (mf_dat eX7_readFact_p0 57 rfl) ml_X7_96 okX9_passSign im_X9_passSign sl_X9_passSign rfl rfl rfl rfl (Nat.le_of_ble_eq_true rfl) (mf_rr (Nat.le_trans (by decide) hd) (Nat.le_refl _)) (Nat.le_refl _) is5 (hyp hG) (fun r28 g29 h30 hyp => ?_)
          obtain ⟨hG, hyp⟩ := hyp
          refine mf_goto (tgt := 189) (mf_dat eX7_readFact_p0 58 rfl) (by decide) ?_
          exact mf_return (mf_dat eX7_readFact_p1 29 rfl) rfl ⟨hG, hyp⟩
    · replace hyp := hyp.2 hc
      refine mf_aload_n (mf_dat eX7_readFact_p0 18 rfl) rfl rfl ?_
      refine mf_getf (r := (RX7, TX7, 4)) (ci := 7) (k := 0) (t := 2) (v := 5) (mf_dat eX7_readFact_p0 19 rfl) fl_X7_13 rfl (by decide) rfl (gx_10_0 hG) is10 ?_
      refine mf_iload_n (mf_dat eX7_readFact_p0 20 rfl) rfl rfl ?_
      refine mf_callV (Yc := YX9_mayOpen) (r := (RX9, TX9, 10)) (ci := 9) (mf_dat eX7_readFact_p0 21 rfl) ml_X7_89 okX9_mayOpen im_X9_mayOpen sl_X9_mayOpen rfl rfl rfl rfl (Nat.le_of_ble_eq_true rfl) (mf_rr (Nat.le_trans (by decide) hd) (Nat.le_refl _)) (Nat.le_refl _) is5 (hyp hG) (fun r31 g32 h33 hyp => ?_)
      obtain ⟨hG, hyp⟩ := hyp
      refine mf_if_eq (tgt := 189) (mf_dat eX7_readFact_p0 22 rfl) (by decide) (fun hc => ?_) (fun hc => ?_)
      · replace hyp := hyp.1 hc
        exact mf_return (mf_dat eX7_readFact_p1 29 rfl) rfl ⟨hG, hyp⟩
      · replace hyp := hyp.2 hc
        refine mf_aload_n (mf_dat eX7_readFact_p0 23 rfl) rfl rfl ?_
        refine mf_getf (r := (RX7, TX7, 4)) (ci := 7) (k := 0) (t := 2) (v := 5) (mf_dat eX7_readFact_p0 24 rfl) fl_X7_13 rfl (by decide) rfl (gx_10_0 hG) is10 ?_
        refine mf_callV (Yc := YX9_step) (r := (RX9, TX9, 10)) (ci := 9) (mf_dat eX7_readFact_p0 25 rfl) ml_X7_60 okX9_step im_X9_step sl_X9_step rfl rfl rfl rfl (Nat.le_of_ble_eq_true rfl) (mf_rr (Nat.le_trans (by decide) hd) (Nat.le_refl _)) (Nat.le_refl _) is5 (hyp hG) (fun r34 g35 h36 hyp => ?_)
        obtain ⟨hG, hyp⟩ := hyp
        refine mf_aload_n (mf_dat eX7_readFact_p0 26 rfl) rfl rfl ?_
        refine mf_iload_n (mf_dat eX7_readFact_p0 27 rfl) rfl rfl ?_
        refine mf_iconst (v := 1) (mf_dat eX7_readFact_p0 28 rfl) (by decide) ?_
        refine mf_iadd (mf_dat eX7_readFact_p0 29 rfl) ?_
        refine mf_callV (Yc := YX7_readFact) (r := (RX7, TX7, 4)) (ci := 7) (mf_dat eX7_readFact_p0 30 rfl) ml_X7_76 okX7_readFact im_X7_readFact sl_X7_readFact rfl rfl rfl rfl (Nat.le_of_ble_eq_true rfl) (mf_rr (Nat.le_refl _) (Nat.le_refl _)) (Nat.le_refl _) is10 (hyp hG) (fun r37 g38 h39 hyp => ?_)
        obtain ⟨hG, hyp⟩ := hyp
        refine mf_aload_n (mf_dat eX7_readFact_p0 31 rfl) rfl rfl ?_
        refine mf_getf (r := (RX7, TX7, 4)) (ci := 7) (k := 2) (t := 2) (v := g38 10 2) (mf_dat eX7_readFact_p0 32 rfl) fl_X7_21 rfl (by decide) rfl rfl is10 ?_
        refine mf_bipush (v := 12) (mf_dat eX7_readFact_p0 33 rfl) (by decide) ?_
        obtain ⟨ck43, hyp⟩ := hyp
        refine mf_callV (Yc := YX4_add) (r := (RX4, TX4, 5)) (ci := 4) (mf_dat eX7_readFact_p0 34 rfl) ml_X7_82 okX4_add im_X4_add sl_X4_add rfl rfl rfl rfl (Nat.le_of_ble_eq_true rfl) (mf_rr (Nat.le_trans (by decide) hd) (Nat.le_refl _)) (Nat.le_refl _) ck43 (hyp hG) (fun r40 g41 h42 hyp => ?_)
        obtain ⟨hG, hyp⟩ := hyp
        refine mf_goto (tgt := 189) (mf_dat eX7_readFact_p0 35 rfl) (by decide) ?_
        exact mf_return (mf_dat eX7_readFact_p1 29 rfl) rfl ⟨hG, hyp⟩
  · replace hyp := hyp.2 hc
    refine mf_aload_n (mf_dat eX7_readFact_p0 5 rfl) rfl rfl ?_
    refine mf_getf (r := (RX7, TX7, 4)) (ci := 7) (k := 2) (t := 2) (v := g2 10 2) (mf_dat eX7_readFact_p0 6 rfl) fl_X7_21 rfl (by decide) rfl rfl is10 ?_
    refine mf_bipush (v := 41) (mf_dat eX7_readFact_p0 7 rfl) (by decide) ?_
    obtain ⟨ck47, hyp⟩ := hyp
    refine mf_callV (Yc := YX4_add) (r := (RX4, TX4, 5)) (ci := 4) (mf_dat eX7_readFact_p0 8 rfl) ml_X7_82 okX4_add im_X4_add sl_X4_add rfl rfl rfl rfl (Nat.le_of_ble_eq_true rfl) (mf_rr (Nat.le_trans (by decide) hd) (Nat.le_refl _)) (Nat.le_refl _) ck47 (hyp hG) (fun r44 g45 h46 hyp => ?_)
    obtain ⟨hG, hyp⟩ := hyp
    refine mf_aload_n (mf_dat eX7_readFact_p0 9 rfl) rfl rfl ?_
    refine mf_getf (r := (RX7, TX7, 4)) (ci := 7) (k := 0) (t := 2) (v := 5) (mf_dat eX7_readFact_p0 10 rfl) fl_X7_13 rfl (by decide) rfl (gx_10_0 hG) is10 ?_
    refine mf_callV (Yc := YX9_step) (r := (RX9, TX9, 10)) (ci := 9) (mf_dat eX7_readFact_p0 11 rfl) ml_X7_60 okX9_step im_X9_step sl_X9_step rfl rfl rfl rfl (Nat.le_of_ble_eq_true rfl) (mf_rr (Nat.le_trans (by decide) hd) (Nat.le_refl _)) (Nat.le_refl _) is5 (hyp hG) (fun r48 g49 h50 hyp => ?_)
    obtain ⟨hG, hyp⟩ := hyp
    refine mf_goto (tgt := 189) (mf_dat eX7_readFact_p0 12 rfl) (by decide) ?_
    exact mf_return (mf_dat eX7_readFact_p1 29 rfl) rfl ⟨hG, hyp⟩
abbrev BX7_readSum_7 (C : mf_G) (l : Launch) (d : Nat) (K : mf_Kt) (x1 x2 x3 x4 : Int) (g h : mf_M) : Prop := jX C l d YX7_readSum K 7 [(0, (2, 10)), (1, (0, x1)), (2, (0, x2)), (3, (0, x3)), (4, (0, x4))] [] g h
abbrev BX7_readSum_54 (C : mf_G) (l : Launch) (d : Nat) (K : mf_Kt) (x1 x2 x4 : Int) (g h : mf_M) : Prop := jX C l d YX7_readSum K 54 [(0, (2, 10)), (1, (0, x1)), (2, (0, x2)), (4, (0, x4))] [] g h
set_option maxRecDepth 100000 in
set_option maxHeartbeats 4000000 in
theorem vX7_readSum_7 {C : mf_G} {l : Launch} {e : Nat} {K : mf_Kt} {x1 x2 x3 x4 : Int} {g h : mf_M} (hd : 1 ≤ e + 1) (hyp : ((1600 < x4 → K 0 g h) ∧ (¬ 1600 < x4 → ((¬ h 5 8 = 0 → K 0 g h) ∧ (h 5 8 = 0 → xM C l e YX7_readPart [(2, 10), (0, x1)] g h (fun r1 g2 h3 => ((h3 5 8 = 0 → ((x3 = (-1) → BX7_readSum_54 C l (e + 1) K x1 x2 x4 g2 h3) ∧ (¬ x3 = (-1) → mf_is 319 (g2 10 2) 4 ∧ xM C l 0 YX4_add [(2, g2 10 2), (0, x3)] g2 h3 (fun r4 g5 h6 => BX7_readSum_54 C l (e + 1) K x1 x2 x4 g5 h6)))) ∧ (¬ h3 5 8 = 0 → K 0 g2 h3)))))))) : BX7_readSum_7 C l (e + 1) K x1 x2 x3 x4 g h := by
  intro hG
  refine mf_iload (mf_dat eX7_readSum 6 rfl) rfl ?_
  refine mf_sipush (v := 1600) (mf_dat eX7_readSum 7 rfl) (by decide) ?_
  refine mf_icmp_gt (tgt := 101) (mf_dat eX7_readSum 8 rfl) (by decide) (fun hc => ?_) (fun hc => ?_)
  · replace hyp := hyp.1 hc
    exact mf_return (mf_dat eX7_readSum 53 rfl) rfl ⟨hG, hyp⟩
  · replace hyp := hyp.2 hc
    refine mf_aload_n (mf_dat eX7_readSum 9 rfl) rfl rfl ?_
    refine mf_getf (r := (RX7, TX7, 4)) (ci := 7) (k := 0) (t := 2) (v := 5) (mf_dat eX7_readSum 10 rfl) fl_X7_13 rfl (by decide) rfl (gx_10_0 hG) is10 ?_
    refine mf_getf (r := (RX9, TX9, 10)) (ci := 9) (k := 8) (t := 0) (v := h 5 8) (mf_dat eX7_readSum 11 rfl) fl_X7_79 rfl (by decide) rfl rfl is5 ?_
    refine mf_if_ne (tgt := 101) (mf_dat eX7_readSum 12 rfl) (by decide) (fun hc => ?_) (fun hc => ?_)
    · replace hyp := hyp.1 hc
      exact mf_return (mf_dat eX7_readSum 53 rfl) rfl ⟨hG, hyp⟩
    · replace hyp := hyp.2 hc
      refine mf_aload_n (mf_dat eX7_readSum 13 rfl) rfl rfl ?_
      refine mf_iload_n (mf_dat eX7_readSum 14 rfl) rfl rfl ?_
      refine mf_callV (Yc := YX7_readPart) (r := (RX7, TX7, 4)) (ci := 7) (mf_dat eX7_readSum 15 rfl) ml_X7_104 okX7_readPart im_X7_readPart sl_X7_readPart rfl rfl rfl rfl (Nat.le_of_ble_eq_true rfl) (mf_rr (Nat.le_refl _) (Nat.le_refl _)) (Nat.le_refl _) is10 (hyp hG) (fun r1 g2 h3 hyp => ?_)
      obtain ⟨hG, hyp⟩ := hyp
      refine mf_aload_n (mf_dat eX7_readSum 16 rfl) rfl rfl ?_
      refine mf_getf (r := (RX7, TX7, 4)) (ci := 7) (k := 0) (t := 2) (v := 5) (mf_dat eX7_readSum 17 rfl) fl_X7_13 rfl (by decide) rfl (gx_10_0 hG) is10 ?_
      refine mf_getf (r := (RX9, TX9, 10)) (ci := 9) (k := 8) (t := 0) (v := h3 5 8) (mf_dat eX7_readSum 18 rfl) fl_X7_79 rfl (by decide) rfl rfl is5 ?_
      refine mf_if_eq (tgt := 41) (mf_dat eX7_readSum 19 rfl) (by decide) (fun hc => ?_) (fun hc => ?_)
      · replace hyp := hyp.1 hc
        refine mf_iload_n (mf_dat eX7_readSum 21 rfl) rfl rfl ?_
        refine mf_iconst (v := (-1)) (mf_dat eX7_readSum 22 rfl) (by decide) ?_
        refine mf_icmp_eq (tgt := 54) (mf_dat eX7_readSum 23 rfl) (by decide) (fun hc => ?_) (fun hc => ?_)
        · replace hyp := hyp.1 hc
          exact mf_sub [0, 1, 2, 4] rfl (hyp hG)
        · replace hyp := hyp.2 hc
          refine mf_aload_n (mf_dat eX7_readSum 24 rfl) rfl rfl ?_
          refine mf_getf (r := (RX7, TX7, 4)) (ci := 7) (k := 2) (t := 2) (v := g2 10 2) (mf_dat eX7_readSum 25 rfl) fl_X7_21 rfl (by decide) rfl rfl is10 ?_
          refine mf_iload_n (mf_dat eX7_readSum 26 rfl) rfl rfl ?_
          obtain ⟨ck7, hyp⟩ := hyp
          refine mf_callV (Yc := YX4_add) (r := (RX4, TX4, 5)) (ci := 4) (mf_dat eX7_readSum 27 rfl) ml_X7_82 okX4_add im_X4_add sl_X4_add rfl rfl rfl rfl (Nat.le_of_ble_eq_true rfl) (mf_rr (Nat.le_trans (by decide) hd) (Nat.le_refl _)) (Nat.le_refl _) ck7 (hyp hG) (fun r4 g5 h6 hyp => ?_)
          obtain ⟨hG, hyp⟩ := hyp
          exact mf_sub [0, 1, 2, 4] rfl (hyp hG)
      · replace hyp := hyp.2 hc
        exact mf_return (mf_dat eX7_readSum 20 rfl) rfl ⟨hG, hyp⟩
set_option maxRecDepth 100000 in
set_option maxHeartbeats 4000000 in
theorem vX7_readSum_54 {C : mf_G} {l : Launch} {e : Nat} {K : mf_Kt} {x1 x2 x4 : Int} {g h : mf_M} (hd : 3 ≤ e + 1) (hyp : xM C l 1 YX7_productSign [(2, 10)] g h (fun r1 g2 h3 => ((¬ r1 = (-1) → xM C l 2 YX9_step [(2, 5)] g2 h3 (fun r4 g5 h6 => (∀ v7 : Int, v7 = mf_w32 (x4 + 1) → BX7_readSum_7 C l (e + 1) K x1 x2 r1 v7 g5 h6))) ∧ (r1 = (-1) → ((x2 = (-1) → xM C l 1 YX7_sumSign [(2, 10)] g2 h3 (fun r8 g9 h10 => ((¬ r8 = (-1) → xM C l 2 YX9_step [(2, 5)] g9 h10 (fun r11 g12 h13 => (∀ v14 : Int, v14 = mf_w32 (x4 + 1) → BX7_readSum_7 C l (e + 1) K x1 r8 r1 v14 g12 h13))) ∧ (r8 = (-1) → K 0 g9 h10)))) ∧ (¬ x2 = (-1) → mf_is 319 (g2 10 2) 4 ∧ xM C l 0 YX4_add [(2, g2 10 2), (0, x2)] g2 h3 (fun r15 g16 h17 => xM C l 1 YX7_sumSign [(2, 10)] g16 h17 (fun r19 g20 h21 => ((¬ r19 = (-1) → xM C l 2 YX9_step [(2, 5)] g20 h21 (fun r22 g23 h24 => (∀ v25 : Int, v25 = mf_w32 (x4 + 1) → BX7_readSum_7 C l (e + 1) K x1 r19 r1 v25 g23 h24))) ∧ (r19 = (-1) → K 0 g20 h21)))))))))) : BX7_readSum_54 C l (e + 1) K x1 x2 x4 g h := by
  intro hG
  refine mf_aload_n (mf_dat eX7_readSum 28 rfl) rfl rfl ?_
  refine mf_callV (Yc := YX7_productSign) (r := (RX7, TX7, 4)) (ci := 7) (mf_dat eX7_readSum 29 rfl) ml_X7_107 okX7_productSign im_X7_productSign sl_X7_productSign rfl rfl rfl rfl (Nat.le_of_ble_eq_true rfl) (mf_rr (Nat.le_trans (by decide) hd) (Nat.le_refl _)) (Nat.le_refl _) is10 (hyp hG) (fun r1 g2 h3 hyp => ?_)
  obtain ⟨hG, hyp⟩ := hyp
  refine mf_istore_n (mf_dat eX7_readSum 30 rfl) rfl (by decide) ?_
  refine mf_iload_n (mf_dat eX7_readSum 31 rfl) rfl rfl ?_
  refine mf_iconst (v := (-1)) (mf_dat eX7_readSum 32 rfl) (by decide) ?_
  refine mf_icmp_ne (tgt := 88) (mf_dat eX7_readSum 33 rfl) (by decide) (fun hc => ?_) (fun hc => ?_)
  · replace hyp := hyp.1 hc
    refine mf_aload_n (mf_dat eX7_readSum 48 rfl) rfl rfl ?_
    refine mf_getf (r := (RX7, TX7, 4)) (ci := 7) (k := 0) (t := 2) (v := 5) (mf_dat eX7_readSum 49 rfl) fl_X7_13 rfl (by decide) rfl (gx_10_0 hG) is10 ?_
    refine mf_callV (Yc := YX9_step) (r := (RX9, TX9, 10)) (ci := 9) (mf_dat eX7_readSum 50 rfl) ml_X7_60 okX9_step im_X9_step sl_X9_step rfl rfl rfl rfl (Nat.le_of_ble_eq_true rfl) (mf_rr (Nat.le_trans (by decide) hd) (Nat.le_refl _)) (Nat.le_refl _) is5 (hyp hG) (fun r4 g5 h6 hyp => ?_)
    obtain ⟨hG, hyp⟩ := hyp
    refine mf_iinc (mf_dat eX7_readSum 51 rfl) rfl (by decide) (by decide) ?_
    generalize qv7 : mf_w32 (x4 + 1) = v7
    replace hyp := hyp _ qv7.symm
    refine mf_goto (tgt := 7) (mf_dat eX7_readSum 52 rfl) (by decide) ?_
    exact mf_sub [2, 3, 4, 1, 0] rfl (hyp hG)
  · replace hyp := hyp.2 hc
    refine mf_iload_n (mf_dat eX7_readSum 34 rfl) rfl rfl ?_
    refine mf_iconst (v := (-1)) (mf_dat eX7_readSum 35 rfl) (by decide) ?_
    refine mf_icmp_eq (tgt := 77) (mf_dat eX7_readSum 36 rfl) (by decide) (fun hc => ?_) (fun hc => ?_)
    · replace hyp := hyp.1 hc
      refine mf_aload_n (mf_dat eX7_readSum 41 rfl) rfl rfl ?_
      refine mf_callV (Yc := YX7_sumSign) (r := (RX7, TX7, 4)) (ci := 7) (mf_dat eX7_readSum 42 rfl) ml_X7_110 okX7_sumSign im_X7_sumSign sl_X7_sumSign rfl rfl rfl rfl (Nat.le_of_ble_eq_true rfl) (mf_rr (Nat.le_trans (by decide) hd) (Nat.le_refl _)) (Nat.le_refl _) is10 (hyp hG) (fun r8 g9 h10 hyp => ?_)
      obtain ⟨hG, hyp⟩ := hyp
      refine mf_istore_n (mf_dat eX7_readSum 43 rfl) rfl (by decide) ?_
      refine mf_iload_n (mf_dat eX7_readSum 44 rfl) rfl rfl ?_
      refine mf_iconst (v := (-1)) (mf_dat eX7_readSum 45 rfl) (by decide) ?_
      refine mf_icmp_ne (tgt := 88) (mf_dat eX7_readSum 46 rfl) (by decide) (fun hc => ?_) (fun hc => ?_)
      · replace hyp := hyp.1 hc
        refine mf_aload_n (mf_dat eX7_readSum 48 rfl) rfl rfl ?_
        refine mf_getf (r := (RX7, TX7, 4)) (ci := 7) (k := 0) (t := 2) (v := 5) (mf_dat eX7_readSum 49 rfl) fl_X7_13 rfl (by decide) rfl (gx_10_0 hG) is10 ?_
        refine mf_callV (Yc := YX9_step) (r := (RX9, TX9, 10)) (ci := 9) (mf_dat eX7_readSum 50 rfl) ml_X7_60 okX9_step im_X9_step sl_X9_step rfl rfl rfl rfl (Nat.le_of_ble_eq_true rfl) (mf_rr (Nat.le_trans (by decide) hd) (Nat.le_refl _)) (Nat.le_refl _) is5 (hyp hG) (fun r11 g12 h13 hyp => ?_)
        obtain ⟨hG, hyp⟩ := hyp
        refine mf_iinc (mf_dat eX7_readSum 51 rfl) rfl (by decide) (by decide) ?_
        generalize qv14 : mf_w32 (x4 + 1) = v14
        replace hyp := hyp _ qv14.symm
        refine mf_goto (tgt := 7) (mf_dat eX7_readSum 52 rfl) (by decide) ?_
        exact mf_sub [3, 4, 1, 2, 0] rfl (hyp hG)
      · replace hyp := hyp.2 hc
        exact mf_return (mf_dat eX7_readSum 47 rfl) rfl ⟨hG, hyp⟩
    · replace hyp := hyp.2 hc
      refine mf_aload_n (mf_dat eX7_readSum 37 rfl) rfl rfl ?_
      refine mf_getf (r := (RX7, TX7, 4)) (ci := 7) (k := 2) (t := 2) (v := g2 10 2) (mf_dat eX7_readSum 38 rfl) fl_X7_21 rfl (by decide) rfl rfl is10 ?_
      refine mf_iload_n (mf_dat eX7_readSum 39 rfl) rfl rfl ?_
      obtain ⟨ck18, hyp⟩ := hyp
      refine mf_callV (Yc := YX4_add) (r := (RX4, TX4, 5)) (ci := 4) (mf_dat eX7_readSum 40 rfl) ml_X7_82 okX4_add im_X4_add sl_X4_add rfl rfl rfl rfl (Nat.le_of_ble_eq_true rfl) (mf_rr (Nat.le_trans (by decide) hd) (Nat.le_refl _)) (Nat.le_refl _) ck18 (hyp hG) (fun r15 g16 h17 hyp => ?_)
      obtain ⟨hG, hyp⟩ := hyp
      refine mf_aload_n (mf_dat eX7_readSum 41 rfl) rfl rfl ?_
      refine mf_callV (Yc := YX7_sumSign) (r := (RX7, TX7, 4)) (ci := 7) (mf_dat eX7_readSum 42 rfl) ml_X7_110 okX7_sumSign im_X7_sumSign sl_X7_sumSign rfl rfl rfl rfl (Nat.le_of_ble_eq_true rfl) (mf_rr (Nat.le_trans (by decide) hd) (Nat.le_refl _)) (Nat.le_refl _) is10 (hyp hG) (fun r19 g20 h21 hyp => ?_)
      obtain ⟨hG, hyp⟩ := hyp
      refine mf_istore_n (mf_dat eX7_readSum 43 rfl) rfl (by decide) ?_
      refine mf_iload_n (mf_dat eX7_readSum 44 rfl) rfl rfl ?_
      refine mf_iconst (v := (-1)) (mf_dat eX7_readSum 45 rfl) (by decide) ?_
      refine mf_icmp_ne (tgt := 88) (mf_dat eX7_readSum 46 rfl) (by decide) (fun hc => ?_) (fun hc => ?_)
      · replace hyp := hyp.1 hc
        refine mf_aload_n (mf_dat eX7_readSum 48 rfl) rfl rfl ?_
        refine mf_getf (r := (RX7, TX7, 4)) (ci := 7) (k := 0) (t := 2) (v := 5) (mf_dat eX7_readSum 49 rfl) fl_X7_13 rfl (by decide) rfl (gx_10_0 hG) is10 ?_
        refine mf_callV (Yc := YX9_step) (r := (RX9, TX9, 10)) (ci := 9) (mf_dat eX7_readSum 50 rfl) ml_X7_60 okX9_step im_X9_step sl_X9_step rfl rfl rfl rfl (Nat.le_of_ble_eq_true rfl) (mf_rr (Nat.le_trans (by decide) hd) (Nat.le_refl _)) (Nat.le_refl _) is5 (hyp hG) (fun r22 g23 h24 hyp => ?_)
        obtain ⟨hG, hyp⟩ := hyp
        refine mf_iinc (mf_dat eX7_readSum 51 rfl) rfl (by decide) (by decide) ?_
        generalize qv25 : mf_w32 (x4 + 1) = v25
        replace hyp := hyp _ qv25.symm
        refine mf_goto (tgt := 7) (mf_dat eX7_readSum 52 rfl) (by decide) ?_
        exact mf_sub [3, 4, 1, 2, 0] rfl (hyp hG)
      · replace hyp := hyp.2 hc
        exact mf_return (mf_dat eX7_readSum 47 rfl) rfl ⟨hG, hyp⟩
set_option maxRecDepth 100000 in
set_option maxHeartbeats 4000000 in
theorem wX7_readSum {C : mf_G} {l : Launch} {e : Nat} {K : mf_Kt} {x1 : Int} {g h : mf_M} (hd : 1 ≤ e + 1) (hyp : BX7_readSum_7 C l (e + 1) K x1 (-1) (-1) 0 g h) : xM C l (e + 1) YX7_readSum [(2, 10), (0, x1)] g h K := by
  intro hG
  refine mf_entry (by decide) (Nat.le_of_ble_eq_true rfl) ?_
  refine mf_iconst (v := (-1)) (mf_dat eX7_readSum 0 rfl) (by decide) ?_
  refine mf_istore_n (mf_dat eX7_readSum 1 rfl) rfl (by decide) ?_
  refine mf_iconst (v := (-1)) (mf_dat eX7_readSum 2 rfl) (by decide) ?_
  refine mf_istore_n (mf_dat eX7_readSum 3 rfl) rfl (by decide) ?_
  refine mf_iconst (v := 0) (mf_dat eX7_readSum 4 rfl) (by decide) ?_
  refine mf_istore (mf_dat eX7_readSum 5 rfl) (by decide) ?_
  exact mf_sub [3, 4, 2, 1, 0] rfl (hyp hG)
abbrev BX7_readPart_68 (C : mf_G) (l : Launch) (d : Nat) (K : mf_Kt) (x1 s0 : Int) (g h : mf_M) : Prop := jX C l d YX7_readPart K 68 [(0, (2, 10)), (1, (0, x1))] [(0, s0)] g h
abbrev BX7_readPart_98 (C : mf_G) (l : Launch) (d : Nat) (K : mf_Kt) (x1 x2 x3 : Int) (g h : mf_M) : Prop := jX C l d YX7_readPart K 98 [(0, (2, 10)), (1, (0, x1)), (2, (0, x2)), (3, (0, x3))] [] g h
set_option maxRecDepth 100000 in
set_option maxHeartbeats 4000000 in
theorem vX7_readPart_68 {C : mf_G} {l : Launch} {e : Nat} {K : mf_Kt} {x1 s0 : Int} {g h : mf_M} (hd : 3 ≤ e + 1) (hyp : ((s0 = 10 → (((1 : Int) = 0 → BX7_readPart_98 C l (e + 1) K x1 s0 1 g h) ∧ (¬ (1 : Int) = 0 → xM C l 2 YX9_step [(2, 5)] g h (fun r1 g2 h3 => BX7_readPart_98 C l (e + 1) K x1 s0 1 g2 h3)))) ∧ (¬ s0 = 10 → ((¬ s0 = 11 → (((0 : Int) = 0 → BX7_readPart_98 C l (e + 1) K x1 s0 0 g h) ∧ (¬ (0 : Int) = 0 → xM C l 2 YX9_step [(2, 5)] g h (fun r4 g5 h6 => BX7_readPart_98 C l (e + 1) K x1 s0 0 g5 h6)))) ∧ (s0 = 11 → (((1 : Int) = 0 → BX7_readPart_98 C l (e + 1) K x1 s0 1 g h) ∧ (¬ (1 : Int) = 0 → xM C l 2 YX9_step [(2, 5)] g h (fun r7 g8 h9 => BX7_readPart_98 C l (e + 1) K x1 s0 1 g8 h9)))))))) : BX7_readPart_68 C l (e + 1) K x1 s0 g h := by
  intro hG
  refine mf_istore_n (mf_dat eX7_readPart_p0 33 rfl) rfl (by decide) ?_
  refine mf_iload_n (mf_dat eX7_readPart_p0 34 rfl) rfl rfl ?_
  refine mf_bipush (v := 10) (mf_dat eX7_readPart_p0 35 rfl) (by decide) ?_
  refine mf_icmp_eq (tgt := 81) (mf_dat eX7_readPart_p0 36 rfl) (by decide) (fun hc => ?_) (fun hc => ?_)
  · replace hyp := hyp.1 hc
    refine mf_iconst (v := 1) (mf_dat eX7_readPart_p0 40 rfl) (by decide) ?_
    refine mf_goto (tgt := 86) (mf_dat eX7_readPart_p0 41 rfl) (by decide) ?_
    refine mf_istore_n (mf_dat eX7_readPart_p0 43 rfl) rfl (by decide) ?_
    refine mf_iload_n (mf_dat eX7_readPart_p0 44 rfl) rfl rfl ?_
    refine mf_if_eq (tgt := 98) (mf_dat eX7_readPart_p0 45 rfl) (by decide) (fun hc => ?_) (fun hc => ?_)
    · replace hyp := hyp.1 hc
      exact mf_sub [2, 3, 1, 0] rfl (hyp hG)
    · replace hyp := hyp.2 hc
      refine mf_aload_n (mf_dat eX7_readPart_p0 46 rfl) rfl rfl ?_
      refine mf_getf (r := (RX7, TX7, 4)) (ci := 7) (k := 0) (t := 2) (v := 5) (mf_dat eX7_readPart_p0 47 rfl) fl_X7_13 rfl (by decide) rfl (gx_10_0 hG) is10 ?_
      refine mf_callV (Yc := YX9_step) (r := (RX9, TX9, 10)) (ci := 9) (mf_dat eX7_readPart_p0 48 rfl) ml_X7_60 okX9_step im_X9_step sl_X9_step rfl rfl rfl rfl (Nat.le_of_ble_eq_true rfl) (mf_rr (Nat.le_trans (by decide) hd) (Nat.le_refl _)) (Nat.le_refl _) is5 (hyp hG) (fun r1 g2 h3 hyp => ?_)
      obtain ⟨hG, hyp⟩ := hyp
      exact mf_sub [2, 3, 1, 0] rfl (hyp hG)
  · replace hyp := hyp.2 hc
    refine mf_iload_n (mf_dat eX7_readPart_p0 37 rfl) rfl rfl ?_
    refine mf_bipush (v := 11) (mf_dat eX7_readPart_p0 38 rfl) (by decide) ?_
    refine mf_icmp_ne (tgt := 85) (mf_dat eX7_readPart_p0 39 rfl) (by decide) (fun hc => ?_) (fun hc => ?_)
    · replace hyp := hyp.1 hc
      refine mf_iconst (v := 0) (mf_dat eX7_readPart_p0 42 rfl) (by decide) ?_
      refine mf_istore_n (mf_dat eX7_readPart_p0 43 rfl) rfl (by decide) ?_
      refine mf_iload_n (mf_dat eX7_readPart_p0 44 rfl) rfl rfl ?_
      refine mf_if_eq (tgt := 98) (mf_dat eX7_readPart_p0 45 rfl) (by decide) (fun hc => ?_) (fun hc => ?_)
      · replace hyp := hyp.1 hc
        exact mf_sub [2, 3, 1, 0] rfl (hyp hG)
      · replace hyp := hyp.2 hc
        refine mf_aload_n (mf_dat eX7_readPart_p0 46 rfl) rfl rfl ?_
        refine mf_getf (r := (RX7, TX7, 4)) (ci := 7) (k := 0) (t := 2) (v := 5) (mf_dat eX7_readPart_p0 47 rfl) fl_X7_13 rfl (by decide) rfl (gx_10_0 hG) is10 ?_
        refine mf_callV (Yc := YX9_step) (r := (RX9, TX9, 10)) (ci := 9) (mf_dat eX7_readPart_p0 48 rfl) ml_X7_60 okX9_step im_X9_step sl_X9_step rfl rfl rfl rfl (Nat.le_of_ble_eq_true rfl) (mf_rr (Nat.le_trans (by decide) hd) (Nat.le_refl _)) (Nat.le_refl _) is5 (hyp hG) (fun r4 g5 h6 hyp => ?_)
        obtain ⟨hG, hyp⟩ := hyp
        exact mf_sub [2, 3, 1, 0] rfl (hyp hG)
    · replace hyp := hyp.2 hc
      refine mf_iconst (v := 1) (mf_dat eX7_readPart_p0 40 rfl) (by decide) ?_
      refine mf_goto (tgt := 86) (mf_dat eX7_readPart_p0 41 rfl) (by decide) ?_
      refine mf_istore_n (mf_dat eX7_readPart_p0 43 rfl) rfl (by decide) ?_
      refine mf_iload_n (mf_dat eX7_readPart_p0 44 rfl) rfl rfl ?_
      refine mf_if_eq (tgt := 98) (mf_dat eX7_readPart_p0 45 rfl) (by decide) (fun hc => ?_) (fun hc => ?_)
      · replace hyp := hyp.1 hc
        exact mf_sub [2, 3, 1, 0] rfl (hyp hG)
      · replace hyp := hyp.2 hc
        refine mf_aload_n (mf_dat eX7_readPart_p0 46 rfl) rfl rfl ?_
        refine mf_getf (r := (RX7, TX7, 4)) (ci := 7) (k := 0) (t := 2) (v := 5) (mf_dat eX7_readPart_p0 47 rfl) fl_X7_13 rfl (by decide) rfl (gx_10_0 hG) is10 ?_
        refine mf_callV (Yc := YX9_step) (r := (RX9, TX9, 10)) (ci := 9) (mf_dat eX7_readPart_p0 48 rfl) ml_X7_60 okX9_step im_X9_step sl_X9_step rfl rfl rfl rfl (Nat.le_of_ble_eq_true rfl) (mf_rr (Nat.le_trans (by decide) hd) (Nat.le_refl _)) (Nat.le_refl _) is5 (hyp hG) (fun r7 g8 h9 hyp => ?_)
        obtain ⟨hG, hyp⟩ := hyp
        exact mf_sub [2, 3, 1, 0] rfl (hyp hG)
set_option maxRecDepth 100000 in
set_option maxHeartbeats 4000000 in
theorem vX7_readPart_98 {C : mf_G} {l : Launch} {e : Nat} {K : mf_Kt} {x1 x2 x3 : Int} {g h : mf_M} (hd : 4 ≤ e + 1) (hyp : xM C l 0 YX9_isSign [(2, 5), (0, 40)] g h (fun r1 g2 h3 => ((r1 = 0 → ((¬ x3 = 0 → xM C l 0 YX9_fail [(2, 5), (0, 1), (0, h3 5 3)] g2 h3 (fun r4 g5 h6 => K 0 g5 h6)) ∧ (x3 = 0 → ((x2 < 0 → xM C l 0 YX9_fail [(2, 5), (0, 1), (0, h3 5 3)] g2 h3 (fun r7 g8 h9 => K 0 g8 h9)) ∧ (¬ x2 < 0 → ((9 < x2 → xM C l 0 YX9_fail [(2, 5), (0, 1), (0, h3 5 3)] g2 h3 (fun r10 g11 h12 => K 0 g11 h12)) ∧ (¬ 9 < x2 → ((¬ mf_and (mf_shr (h3 10 3) x2) 1 = 0 → ((x2 = 9 → xM C l 1 YX9_mayOpen [(2, 5), (0, x1)] g2 h3 (fun r13 g14 h15 => ((r13 = 0 → K 0 g14 h15) ∧ (¬ r13 = 0 → xM C l 2 YX9_step [(2, 5)] g14 h15 (fun r16 g17 h18 => xM C l e YX7_readPart [(2, 10), (0, mf_w32 (x1 + 1))] g17 h18 (fun r19 g20 h21 => mf_is 319 (g20 10 2) 4 ∧ xM C l 0 YX4_add [(2, g20 10 2), (0, 13)] g20 h21 (fun r22 g23 h24 => K 0 g23 h24))))))) ∧ (¬ x2 = 9 → mf_is 319 (g2 10 2) 4 ∧ xM C l 0 YX4_add [(2, g2 10 2), (0, mf_w32 (20 + x2))] g2 h3 (fun r26 g27 h28 => xM C l 2 YX9_step [(2, 5)] g27 h28 (fun r30 g31 h32 => K 0 g31 h32))))) ∧ (mf_and (mf_shr (h3 10 3) x2) 1 = 0 → xM C l 0 YX9_fail [(2, 5), (0, 1), (0, h3 5 3)] g2 h3 (fun r33 g34 h35 => K 0 g34 h35)))))))))) ∧ (¬ r1 = 0 → xM C l 1 YX9_mayOpen [(2, 5), (0, x1)] g2 h3 (fun r36 g37 h38 => ((¬ r36 = 0 → xM C l 2 YX9_step [(2, 5)] g37 h38 (fun r39 g40 h41 => xM C l e YX7_readSum [(2, 10), (0, mf_w32 (x1 + 1))] g40 h41 (fun r42 g43 h44 => ((x3 = 0 → xM C l 3 YX9_passSign [(2, 5), (0, 41)] g43 h44 (fun r45 g46 h47 => K 0 g46 h47)) ∧ (¬ x3 = 0 → xM C l 3 YX9_passSign [(2, 5), (0, 44)] g43 h44 (fun r48 g49 h50 => xM C l e YX7_readSum [(2, 10), (0, mf_w32 (x1 + 1))] g49 h50 (fun r51 g52 h53 => ((¬ x2 = 10 → mf_is 319 (g52 10 2) 4 ∧ xM C l 0 YX4_add [(2, g52 10 2), (0, 6)] g52 h53 (fun r54 g55 h56 => xM C l 3 YX9_passSign [(2, 5), (0, 41)] g55 h56 (fun r58 g59 h60 => K 0 g59 h60))) ∧ (x2 = 10 → mf_is 319 (g52 10 2) 4 ∧ xM C l 0 YX4_add [(2, g52 10 2), (0, 5)] g52 h53 (fun r61 g62 h63 => xM C l 3 YX9_passSign [(2, 5), (0, 41)] g62 h63 (fun r65 g66 h67 => K 0 g66 h67))))))))))) ∧ (r36 = 0 → K 0 g37 h38))))))) : BX7_readPart_98 C l (e + 1) K x1 x2 x3 g h := by
  intro hG
  refine mf_aload_n (mf_dat eX7_readPart_p0 49 rfl) rfl rfl ?_
  refine mf_getf (r := (RX7, TX7, 4)) (ci := 7) (k := 0) (t := 2) (v := 5) (mf_dat eX7_readPart_p0 50 rfl) fl_X7_13 rfl (by decide) rfl (gx_10_0 hG) is10 ?_
  refine mf_bipush (v := 40) (mf_dat eX7_readPart_p0 51 rfl) (by decide) ?_
  refine mf_callV (Yc := YX9_isSign) (r := (RX9, TX9, 10)) (ci := 9) (mf_dat eX7_readPart_p0 52 rfl) ml_X7_92 okX9_isSign im_X9_isSign sl_X9_isSign rfl rfl rfl rfl (Nat.le_of_ble_eq_true rfl) (mf_rr (Nat.le_trans (by decide) hd) (Nat.le_refl _)) (Nat.le_refl _) is5 (hyp hG) (fun r1 g2 h3 hyp => ?_)
  obtain ⟨hG, hyp⟩ := hyp
  refine mf_if_eq (tgt := 187) (mf_dat eX7_readPart_p0 53 rfl) (by decide) (fun hc => ?_) (fun hc => ?_)
  · replace hyp := hyp.1 hc
    refine mf_iload_n (mf_dat eX7_readPart_p1 33 rfl) rfl rfl ?_
    refine mf_if_ne (tgt := 212) (mf_dat eX7_readPart_p1 34 rfl) (by decide) (fun hc => ?_) (fun hc => ?_)
    · replace hyp := hyp.1 hc
      refine mf_aload_n (mf_dat eX7_readPart_p1 47 rfl) rfl rfl ?_
      refine mf_getf (r := (RX7, TX7, 4)) (ci := 7) (k := 0) (t := 2) (v := 5) (mf_dat eX7_readPart_p1 48 rfl) fl_X7_13 rfl (by decide) rfl (gx_10_0 hG) is10 ?_
      refine mf_iconst (v := 1) (mf_dat eX7_readPart_p1 49 rfl) (by decide) ?_
      refine mf_aload_n (mf_dat eX7_readPart_p1 50 rfl) rfl rfl ?_
      refine mf_getf (r := (RX7, TX7, 4)) (ci := 7) (k := 0) (t := 2) (v := 5) (mf_dat eX7_readPart_p1 51 rfl) fl_X7_13 rfl (by decide) rfl (gx_10_0 hG) is10 ?_
      refine mf_getf (r := (RX9, TX9, 10)) (ci := 9) (k := 3) (t := 0) (v := h3 5 3) (mf_dat eX7_readPart_p1 52 rfl) fl_X7_53 rfl (by decide) rfl rfl is5 ?_
      refine mf_callV (Yc := YX9_fail) (r := (RX9, TX9, 10)) (ci := 9) (mf_dat eX7_readPart_p1 53 rfl) ml_X7_56 okX9_fail im_X9_fail sl_X9_fail rfl rfl rfl rfl (Nat.le_of_ble_eq_true rfl) (mf_rr (Nat.le_trans (by decide) hd) (Nat.le_refl _)) (Nat.le_refl _) is5 (hyp hG) (fun r4 g5 h6 hyp => ?_)
      obtain ⟨hG, hyp⟩ := hyp
      refine mf_goto (tgt := 291) (mf_dat eX7_readPart_p1 54 rfl) (by decide) ?_
      exact mf_return (mf_dat eX7_readPart_p2 25 rfl) rfl ⟨hG, hyp⟩
    · replace hyp := hyp.2 hc
      refine mf_iload_n (mf_dat eX7_readPart_p1 35 rfl) rfl rfl ?_
      refine mf_if_lt (tgt := 212) (mf_dat eX7_readPart_p1 36 rfl) (by decide) (fun hc => ?_) (fun hc => ?_)
      · replace hyp := hyp.1 hc
        refine mf_aload_n (mf_dat eX7_readPart_p1 47 rfl) rfl rfl ?_
        refine mf_getf (r := (RX7, TX7, 4)) (ci := 7) (k := 0) (t := 2) (v := 5) (mf_dat eX7_readPart_p1 48 rfl) fl_X7_13 rfl (by decide) rfl (gx_10_0 hG) is10 ?_
        refine mf_iconst (v := 1) (mf_dat eX7_readPart_p1 49 rfl) (by decide) ?_
        refine mf_aload_n (mf_dat eX7_readPart_p1 50 rfl) rfl rfl ?_
        refine mf_getf (r := (RX7, TX7, 4)) (ci := 7) (k := 0) (t := 2) (v := 5) (mf_dat eX7_readPart_p1 51 rfl) fl_X7_13 rfl (by decide) rfl (gx_10_0 hG) is10 ?_
        refine mf_getf (r := (RX9, TX9, 10)) (ci := 9) (k := 3) (t := 0) (v := h3 5 3) (mf_dat eX7_readPart_p1 52 rfl) fl_X7_53 rfl (by decide) rfl rfl is5 ?_
        refine mf_callV (Yc := YX9_fail) (r := (RX9, TX9, 10)) (ci := 9) (mf_dat eX7_readPart_p1 53 rfl) ml_X7_56 okX9_fail im_X9_fail sl_X9_fail rfl rfl rfl rfl (Nat.le_of_ble_eq_true rfl) (mf_rr (Nat.le_trans (by decide) hd) (Nat.le_refl _)) (Nat.le_refl _) is5 (hyp hG) (fun r7 g8 h9 hyp => ?_)
        obtain ⟨hG, hyp⟩ := hyp
        refine mf_goto (tgt := 291) (mf_dat eX7_readPart_p1 54 rfl) (by decide) ?_
        exact mf_return (mf_dat eX7_readPart_p2 25 rfl) rfl ⟨hG, hyp⟩
      · replace hyp := hyp.2 hc
        refine mf_iload_n (mf_dat eX7_readPart_p1 37 rfl) rfl rfl ?_
        refine mf_bipush (v := 9) (mf_dat eX7_readPart_p1 38 rfl) (by decide) ?_
        refine mf_icmp_gt (tgt := 212) (mf_dat eX7_readPart_p1 39 rfl) (by decide) (fun hc => ?_) (fun hc => ?_)
        · replace hyp := hyp.1 hc
          refine mf_aload_n (mf_dat eX7_readPart_p1 47 rfl) rfl rfl ?_
          refine mf_getf (r := (RX7, TX7, 4)) (ci := 7) (k := 0) (t := 2) (v := 5) (mf_dat eX7_readPart_p1 48 rfl) fl_X7_13 rfl (by decide) rfl (gx_10_0 hG) is10 ?_
          refine mf_iconst (v := 1) (mf_dat eX7_readPart_p1 49 rfl) (by decide) ?_
          refine mf_aload_n (mf_dat eX7_readPart_p1 50 rfl) rfl rfl ?_
          refine mf_getf (r := (RX7, TX7, 4)) (ci := 7) (k := 0) (t := 2) (v := 5) (mf_dat eX7_readPart_p1 51 rfl) fl_X7_13 rfl (by decide) rfl (gx_10_0 hG) is10 ?_
          refine mf_getf (r := (RX9, TX9, 10)) (ci := 9) (k := 3) (t := 0) (v := h3 5 3) (mf_dat eX7_readPart_p1 52 rfl) fl_X7_53 rfl (by decide) rfl rfl is5 ?_
          refine mf_callV (Yc := YX9_fail) (r := (RX9, TX9, 10)) (ci := 9) (mf_dat eX7_readPart_p1 53 rfl) ml_X7_56 okX9_fail im_X9_fail sl_X9_fail rfl rfl rfl rfl (Nat.le_of_ble_eq_true rfl) (mf_rr (Nat.le_trans (by decide) hd) (Nat.le_refl _)) (Nat.le_refl _) is5 (hyp hG) (fun r10 g11 h12 hyp => ?_)
          obtain ⟨hG, hyp⟩ := hyp
          refine mf_goto (tgt := 291) (mf_dat eX7_readPart_p1 54 rfl) (by decide) ?_
          exact mf_return (mf_dat eX7_readPart_p2 25 rfl) rfl ⟨hG, hyp⟩
        · replace hyp := hyp.2 hc
          refine mf_aload_n (mf_dat eX7_readPart_p1 40 rfl) rfl rfl ?_
          refine mf_getf (r := (RX7, TX7, 4)) (ci := 7) (k := 3) (t := 0) (v := h3 10 3) (mf_dat eX7_readPart_p1 41 rfl) fl_X7_25 rfl (by decide) rfl rfl is10 ?_
          refine mf_iload_n (mf_dat eX7_readPart_p1 42 rfl) rfl rfl ?_
          refine mf_ishr (mf_dat eX7_readPart_p1 43 rfl) ?_
          refine mf_iconst (v := 1) (mf_dat eX7_readPart_p1 44 rfl) (by decide) ?_
          refine mf_iand (mf_dat eX7_readPart_p1 45 rfl) ?_
          refine mf_if_ne (tgt := 230) (mf_dat eX7_readPart_p1 46 rfl) (by decide) (fun hc => ?_) (fun hc => ?_)
          · replace hyp := hyp.1 hc
            refine mf_iload_n (mf_dat eX7_readPart_p1 55 rfl) rfl rfl ?_
            refine mf_bipush (v := 9) (mf_dat eX7_readPart_p1 56 rfl) (by decide) ?_
            refine mf_icmp_eq (tgt := 257) (mf_dat eX7_readPart_p1 57 rfl) (by decide) (fun hc => ?_) (fun hc => ?_)
            · replace hyp := hyp.1 hc
              refine mf_aload_n (mf_dat eX7_readPart_p2 8 rfl) rfl rfl ?_
              refine mf_getf (r := (RX7, TX7, 4)) (ci := 7) (k := 0) (t := 2) (v := 5) (mf_dat eX7_readPart_p2 9 rfl) fl_X7_13 rfl (by decide) rfl (gx_10_0 hG) is10 ?_
              refine mf_iload_n (mf_dat eX7_readPart_p2 10 rfl) rfl rfl ?_
              refine mf_callV (Yc := YX9_mayOpen) (r := (RX9, TX9, 10)) (ci := 9) (mf_dat eX7_readPart_p2 11 rfl) ml_X7_89 okX9_mayOpen im_X9_mayOpen sl_X9_mayOpen rfl rfl rfl rfl (Nat.le_of_ble_eq_true rfl) (mf_rr (Nat.le_trans (by decide) hd) (Nat.le_refl _)) (Nat.le_refl _) is5 (hyp hG) (fun r13 g14 h15 hyp => ?_)
              obtain ⟨hG, hyp⟩ := hyp
              refine mf_if_eq (tgt := 291) (mf_dat eX7_readPart_p2 12 rfl) (by decide) (fun hc => ?_) (fun hc => ?_)
              · replace hyp := hyp.1 hc
                exact mf_return (mf_dat eX7_readPart_p2 25 rfl) rfl ⟨hG, hyp⟩
              · replace hyp := hyp.2 hc
                refine mf_aload_n (mf_dat eX7_readPart_p2 13 rfl) rfl rfl ?_
                refine mf_getf (r := (RX7, TX7, 4)) (ci := 7) (k := 0) (t := 2) (v := 5) (mf_dat eX7_readPart_p2 14 rfl) fl_X7_13 rfl (by decide) rfl (gx_10_0 hG) is10 ?_
                refine mf_callV (Yc := YX9_step) (r := (RX9, TX9, 10)) (ci := 9) (mf_dat eX7_readPart_p2 15 rfl) ml_X7_60 okX9_step im_X9_step sl_X9_step rfl rfl rfl rfl (Nat.le_of_ble_eq_true rfl) (mf_rr (Nat.le_trans (by decide) hd) (Nat.le_refl _)) (Nat.le_refl _) is5 (hyp hG) (fun r16 g17 h18 hyp => ?_)
                obtain ⟨hG, hyp⟩ := hyp
                refine mf_aload_n (mf_dat eX7_readPart_p2 16 rfl) rfl rfl ?_
                refine mf_iload_n (mf_dat eX7_readPart_p2 17 rfl) rfl rfl ?_
                refine mf_iconst (v := 1) (mf_dat eX7_readPart_p2 18 rfl) (by decide) ?_
                refine mf_iadd (mf_dat eX7_readPart_p2 19 rfl) ?_
                refine mf_callV (Yc := YX7_readPart) (r := (RX7, TX7, 4)) (ci := 7) (mf_dat eX7_readPart_p2 20 rfl) ml_X7_104 okX7_readPart im_X7_readPart sl_X7_readPart rfl rfl rfl rfl (Nat.le_of_ble_eq_true rfl) (mf_rr (Nat.le_refl _) (Nat.le_refl _)) (Nat.le_refl _) is10 (hyp hG) (fun r19 g20 h21 hyp => ?_)
                obtain ⟨hG, hyp⟩ := hyp
                refine mf_aload_n (mf_dat eX7_readPart_p2 21 rfl) rfl rfl ?_
                refine mf_getf (r := (RX7, TX7, 4)) (ci := 7) (k := 2) (t := 2) (v := g20 10 2) (mf_dat eX7_readPart_p2 22 rfl) fl_X7_21 rfl (by decide) rfl rfl is10 ?_
                refine mf_bipush (v := 13) (mf_dat eX7_readPart_p2 23 rfl) (by decide) ?_
                obtain ⟨ck25, hyp⟩ := hyp
                refine mf_callV (Yc := YX4_add) (r := (RX4, TX4, 5)) (ci := 4) (mf_dat eX7_readPart_p2 24 rfl) ml_X7_82 okX4_add im_X4_add sl_X4_add rfl rfl rfl rfl (Nat.le_of_ble_eq_true rfl) (mf_rr (Nat.le_trans (by decide) hd) (Nat.le_refl _)) (Nat.le_refl _) ck25 (hyp hG) (fun r22 g23 h24 hyp => ?_)
                obtain ⟨hG, hyp⟩ := hyp
                exact mf_return (mf_dat eX7_readPart_p2 25 rfl) rfl ⟨hG, hyp⟩
            · replace hyp := hyp.2 hc
              refine mf_aload_n (mf_dat eX7_readPart_p1 58 rfl) rfl rfl ?_
              refine mf_getf (r := (RX7, TX7, 4)) (ci := 7) (k := 2) (t := 2) (v := g2 10 2) (mf_dat eX7_readPart_p1 59 rfl) fl_X7_21 rfl (by decide) rfl rfl is10 ?_
              refine mf_bipush (v := 20) (mf_dat eX7_readPart_p2 0 rfl) (by decide) ?_
              refine mf_iload_n (mf_dat eX7_readPart_p2 1 rfl) rfl rfl ?_
              refine mf_iadd (mf_dat eX7_readPart_p2 2 rfl) ?_
              obtain ⟨ck29, hyp⟩ := hyp
              refine mf_callV (Yc := YX4_add) (r := (RX4, TX4, 5)) (ci := 4) (mf_dat eX7_readPart_p2 3 rfl) ml_X7_82 okX4_add im_X4_add sl_X4_add rfl rfl rfl rfl (Nat.le_of_ble_eq_true rfl) (mf_rr (Nat.le_trans (by decide) hd) (Nat.le_refl _)) (Nat.le_refl _) ck29 (hyp hG) (fun r26 g27 h28 hyp => ?_)
              obtain ⟨hG, hyp⟩ := hyp
              refine mf_aload_n (mf_dat eX7_readPart_p2 4 rfl) rfl rfl ?_
              refine mf_getf (r := (RX7, TX7, 4)) (ci := 7) (k := 0) (t := 2) (v := 5) (mf_dat eX7_readPart_p2 5 rfl) fl_X7_13 rfl (by decide) rfl (gx_10_0 hG) is10 ?_
              refine mf_callV (Yc := YX9_step) (r := (RX9, TX9, 10)) (ci := 9) (mf_dat eX7_readPart_p2 6 rfl) ml_X7_60 okX9_step im_X9_step sl_X9_step rfl rfl rfl rfl (Nat.le_of_ble_eq_true rfl) (mf_rr (Nat.le_trans (by decide) hd) (Nat.le_refl _)) (Nat.le_refl _) is5 (hyp hG) (fun r30 g31 h32 hyp => ?_)
              obtain ⟨hG, hyp⟩ := hyp
              refine mf_goto (tgt := 291) (mf_dat eX7_readPart_p2 7 rfl) (by decide) ?_
              exact mf_return (mf_dat eX7_readPart_p2 25 rfl) rfl ⟨hG, hyp⟩
          · replace hyp := hyp.2 hc
            refine mf_aload_n (mf_dat eX7_readPart_p1 47 rfl) rfl rfl ?_
            refine mf_getf (r := (RX7, TX7, 4)) (ci := 7) (k := 0) (t := 2) (v := 5) (mf_dat eX7_readPart_p1 48 rfl) fl_X7_13 rfl (by decide) rfl (gx_10_0 hG) is10 ?_
            refine mf_iconst (v := 1) (mf_dat eX7_readPart_p1 49 rfl) (by decide) ?_
            refine mf_aload_n (mf_dat eX7_readPart_p1 50 rfl) rfl rfl ?_
            refine mf_getf (r := (RX7, TX7, 4)) (ci := 7) (k := 0) (t := 2) (v := 5) (mf_dat eX7_readPart_p1 51 rfl) fl_X7_13 rfl (by decide) rfl (gx_10_0 hG) is10 ?_
            refine mf_getf (r := (RX9, TX9, 10)) (ci := 9) (k := 3) (t := 0) (v := h3 5 3) (mf_dat eX7_readPart_p1 52 rfl) fl_X7_53 rfl (by decide) rfl rfl is5 ?_
            refine mf_callV (Yc := YX9_fail) (r := (RX9, TX9, 10)) (ci := 9) (mf_dat eX7_readPart_p1 53 rfl) ml_X7_56 okX9_fail im_X9_fail sl_X9_fail rfl rfl rfl rfl (Nat.le_of_ble_eq_true rfl) (mf_rr (Nat.le_trans (by decide) hd) (Nat.le_refl _)) (Nat.le_refl _) is5 (hyp hG) (fun r33 g34 h35 hyp => ?_)
            obtain ⟨hG, hyp⟩ := hyp
            refine mf_goto (tgt := 291) (mf_dat eX7_readPart_p1 54 rfl) (by decide) ?_
            exact mf_return (mf_dat eX7_readPart_p2 25 rfl) rfl ⟨hG, hyp⟩
  · replace hyp := hyp.2 hc
    refine mf_aload_n (mf_dat eX7_readPart_p0 54 rfl) rfl rfl ?_
    refine mf_getf (r := (RX7, TX7, 4)) (ci := 7) (k := 0) (t := 2) (v := 5) (mf_dat eX7_readPart_p0 55 rfl) fl_X7_13 rfl (by decide) rfl (gx_10_0 hG) is10 ?_
    refine mf_iload_n (mf_dat eX7_readPart_p0 56 rfl) rfl rfl ?_
    refine mf_callV (Yc := YX9_mayOpen) (r := (RX9, TX9, 10)) (ci := 9) (mf_dat eX7_readPart_p0 57 rfl) ml_X7_89 okX9_mayOpen im_X9_mayOpen sl_X9_mayOpen rfl rfl rfl rfl (Nat.le_of_ble_eq_true rfl) (mf_rr (Nat.le_trans (by decide) hd) (Nat.le_refl _)) (Nat.le_refl _) is5 (hyp hG) (fun r36 g37 h38 hyp => ?_)
    obtain ⟨hG, hyp⟩ := hyp
    refine mf_if_ne (tgt := 122) (mf_dat eX7_readPart_p0 58 rfl) (by decide) (fun hc => ?_) (fun hc => ?_)
    · replace hyp := hyp.1 hc
      refine mf_aload_n (mf_dat eX7_readPart_p1 0 rfl) rfl rfl ?_
      refine mf_getf (r := (RX7, TX7, 4)) (ci := 7) (k := 0) (t := 2) (v := 5) (mf_dat eX7_readPart_p1 1 rfl) fl_X7_13 rfl (by decide) rfl (gx_10_0 hG) is10 ?_
      refine mf_callV (Yc := YX9_step) (r := (RX9, TX9, 10)) (ci := 9) (mf_dat eX7_readPart_p1 2 rfl) ml_X7_60 okX9_step im_X9_step sl_X9_step rfl rfl rfl rfl (Nat.le_of_ble_eq_true rfl) (mf_rr (Nat.le_trans (by decide) hd) (Nat.le_refl _)) (Nat.le_refl _) is5 (hyp hG) (fun r39 g40 h41 hyp => ?_)
      obtain ⟨hG, hyp⟩ := hyp
      refine mf_aload_n (mf_dat eX7_readPart_p1 3 rfl) rfl rfl ?_
      refine mf_iload_n (mf_dat eX7_readPart_p1 4 rfl) rfl rfl ?_
      refine mf_iconst (v := 1) (mf_dat eX7_readPart_p1 5 rfl) (by decide) ?_
      refine mf_iadd (mf_dat eX7_readPart_p1 6 rfl) ?_
      refine mf_callV (Yc := YX7_readSum) (r := (RX7, TX7, 4)) (ci := 7) (mf_dat eX7_readPart_p1 7 rfl) ml_X7_70 okX7_readSum im_X7_readSum sl_X7_readSum rfl rfl rfl rfl (Nat.le_of_ble_eq_true rfl) (mf_rr (Nat.le_refl _) (Nat.le_refl _)) (Nat.le_refl _) is10 (hyp hG) (fun r42 g43 h44 hyp => ?_)
      obtain ⟨hG, hyp⟩ := hyp
      refine mf_iload_n (mf_dat eX7_readPart_p1 8 rfl) rfl rfl ?_
      refine mf_if_eq (tgt := 175) (mf_dat eX7_readPart_p1 9 rfl) (by decide) (fun hc => ?_) (fun hc => ?_)
      · replace hyp := hyp.1 hc
        refine mf_aload_n (mf_dat eX7_readPart_p1 28 rfl) rfl rfl ?_
        refine mf_getf (r := (RX7, TX7, 4)) (ci := 7) (k := 0) (t := 2) (v := 5) (mf_dat eX7_readPart_p1 29 rfl) fl_X7_13 rfl (by decide) rfl (gx_10_0 hG) is10 ?_
        refine mf_bipush (v := 41) (mf_dat eX7_readPart_p1 30 rfl) (by decide) ?_
        refine mf_callV (Yc := YX9_passSign) (r := (RX9, TX9, 10)) (ci := 9) (mf_dat eX7_readPart_p1 31 rfl) ml_X7_96 okX9_passSign im_X9_passSign sl_X9_passSign rfl rfl rfl rfl (Nat.le_of_ble_eq_true rfl) (mf_rr (Nat.le_trans (by decide) hd) (Nat.le_refl _)) (Nat.le_refl _) is5 (hyp hG) (fun r45 g46 h47 hyp => ?_)
        obtain ⟨hG, hyp⟩ := hyp
        refine mf_goto (tgt := 291) (mf_dat eX7_readPart_p1 32 rfl) (by decide) ?_
        exact mf_return (mf_dat eX7_readPart_p2 25 rfl) rfl ⟨hG, hyp⟩
      · replace hyp := hyp.2 hc
        refine mf_aload_n (mf_dat eX7_readPart_p1 10 rfl) rfl rfl ?_
        refine mf_getf (r := (RX7, TX7, 4)) (ci := 7) (k := 0) (t := 2) (v := 5) (mf_dat eX7_readPart_p1 11 rfl) fl_X7_13 rfl (by decide) rfl (gx_10_0 hG) is10 ?_
        refine mf_bipush (v := 44) (mf_dat eX7_readPart_p1 12 rfl) (by decide) ?_
        refine mf_callV (Yc := YX9_passSign) (r := (RX9, TX9, 10)) (ci := 9) (mf_dat eX7_readPart_p1 13 rfl) ml_X7_96 okX9_passSign im_X9_passSign sl_X9_passSign rfl rfl rfl rfl (Nat.le_of_ble_eq_true rfl) (mf_rr (Nat.le_trans (by decide) hd) (Nat.le_refl _)) (Nat.le_refl _) is5 (hyp hG) (fun r48 g49 h50 hyp => ?_)
        obtain ⟨hG, hyp⟩ := hyp
        refine mf_aload_n (mf_dat eX7_readPart_p1 14 rfl) rfl rfl ?_
        refine mf_iload_n (mf_dat eX7_readPart_p1 15 rfl) rfl rfl ?_
        refine mf_iconst (v := 1) (mf_dat eX7_readPart_p1 16 rfl) (by decide) ?_
        refine mf_iadd (mf_dat eX7_readPart_p1 17 rfl) ?_
        refine mf_callV (Yc := YX7_readSum) (r := (RX7, TX7, 4)) (ci := 7) (mf_dat eX7_readPart_p1 18 rfl) ml_X7_70 okX7_readSum im_X7_readSum sl_X7_readSum rfl rfl rfl rfl (Nat.le_of_ble_eq_true rfl) (mf_rr (Nat.le_refl _) (Nat.le_refl _)) (Nat.le_refl _) is10 (hyp hG) (fun r51 g52 h53 hyp => ?_)
        obtain ⟨hG, hyp⟩ := hyp
        refine mf_aload_n (mf_dat eX7_readPart_p1 19 rfl) rfl rfl ?_
        refine mf_getf (r := (RX7, TX7, 4)) (ci := 7) (k := 2) (t := 2) (v := g52 10 2) (mf_dat eX7_readPart_p1 20 rfl) fl_X7_21 rfl (by decide) rfl rfl is10 ?_
        refine mf_iload_n (mf_dat eX7_readPart_p1 21 rfl) rfl rfl ?_
        refine mf_bipush (v := 10) (mf_dat eX7_readPart_p1 22 rfl) (by decide) ?_
        refine mf_icmp_ne (tgt := 170) (mf_dat eX7_readPart_p1 23 rfl) (by decide) (fun hc => ?_) (fun hc => ?_)
        · replace hyp := hyp.1 hc
          refine mf_bipush (v := 6) (mf_dat eX7_readPart_p1 26 rfl) (by decide) ?_
          obtain ⟨ck57, hyp⟩ := hyp
          refine mf_callV (Yc := YX4_add) (r := (RX4, TX4, 5)) (ci := 4) (mf_dat eX7_readPart_p1 27 rfl) ml_X7_82 okX4_add im_X4_add sl_X4_add rfl rfl rfl rfl (Nat.le_of_ble_eq_true rfl) (mf_rr (Nat.le_trans (by decide) hd) (Nat.le_refl _)) (Nat.le_refl _) ck57 (hyp hG) (fun r54 g55 h56 hyp => ?_)
          obtain ⟨hG, hyp⟩ := hyp
          refine mf_aload_n (mf_dat eX7_readPart_p1 28 rfl) rfl rfl ?_
          refine mf_getf (r := (RX7, TX7, 4)) (ci := 7) (k := 0) (t := 2) (v := 5) (mf_dat eX7_readPart_p1 29 rfl) fl_X7_13 rfl (by decide) rfl (gx_10_0 hG) is10 ?_
          refine mf_bipush (v := 41) (mf_dat eX7_readPart_p1 30 rfl) (by decide) ?_
          refine mf_callV (Yc := YX9_passSign) (r := (RX9, TX9, 10)) (ci := 9) (mf_dat eX7_readPart_p1 31 rfl) ml_X7_96 okX9_passSign im_X9_passSign sl_X9_passSign rfl rfl rfl rfl (Nat.le_of_ble_eq_true rfl) (mf_rr (Nat.le_trans (by decide) hd) (Nat.le_refl _)) (Nat.le_refl _) is5 (hyp hG) (fun r58 g59 h60 hyp => ?_)
          obtain ⟨hG, hyp⟩ := hyp
          refine mf_goto (tgt := 291) (mf_dat eX7_readPart_p1 32 rfl) (by decide) ?_
          exact mf_return (mf_dat eX7_readPart_p2 25 rfl) rfl ⟨hG, hyp⟩
        · replace hyp := hyp.2 hc
          refine mf_iconst (v := 5) (mf_dat eX7_readPart_p1 24 rfl) (by decide) ?_
          refine mf_goto (tgt := 172) (mf_dat eX7_readPart_p1 25 rfl) (by decide) ?_
          obtain ⟨ck64, hyp⟩ := hyp
          refine mf_callV (Yc := YX4_add) (r := (RX4, TX4, 5)) (ci := 4) (mf_dat eX7_readPart_p1 27 rfl) ml_X7_82 okX4_add im_X4_add sl_X4_add rfl rfl rfl rfl (Nat.le_of_ble_eq_true rfl) (mf_rr (Nat.le_trans (by decide) hd) (Nat.le_refl _)) (Nat.le_refl _) ck64 (hyp hG) (fun r61 g62 h63 hyp => ?_)
          obtain ⟨hG, hyp⟩ := hyp
          refine mf_aload_n (mf_dat eX7_readPart_p1 28 rfl) rfl rfl ?_
          refine mf_getf (r := (RX7, TX7, 4)) (ci := 7) (k := 0) (t := 2) (v := 5) (mf_dat eX7_readPart_p1 29 rfl) fl_X7_13 rfl (by decide) rfl (gx_10_0 hG) is10 ?_
          refine mf_bipush (v := 41) (mf_dat eX7_readPart_p1 30 rfl) (by decide) ?_
          refine mf_callV (Yc := YX9_passSign) (r := (RX9, TX9, 10)) (ci := 9) (mf_dat eX7_readPart_p1 31 rfl) ml_X7_96 okX9_passSign im_X9_passSign sl_X9_passSign rfl rfl rfl rfl (Nat.le_of_ble_eq_true rfl) (mf_rr (Nat.le_trans (by decide) hd) (Nat.le_refl _)) (Nat.le_refl _) is5 (hyp hG) (fun r65 g66 h67 hyp => ?_)
          obtain ⟨hG, hyp⟩ := hyp
          refine mf_goto (tgt := 291) (mf_dat eX7_readPart_p1 32 rfl) (by decide) ?_
          exact mf_return (mf_dat eX7_readPart_p2 25 rfl) rfl ⟨hG, hyp⟩
    · replace hyp := hyp.2 hc
      exact mf_return (mf_dat eX7_readPart_p0 59 rfl) rfl ⟨hG, hyp⟩
set_option maxRecDepth 100000 in
set_option maxHeartbeats 4000000 in
theorem wX7_readPart {C : mf_G} {l : Launch} {e : Nat} {K : mf_Kt} {x1 : Int} {g h : mf_M} (hd : 4 ≤ e + 1) (hyp : ((¬ h 5 2 = 2 → ((¬ h 5 2 = 1 → BX7_readPart_68 C l (e + 1) K x1 (-1) g h) ∧ (h 5 2 = 1 → xM C l 0 YX10_find [(2, 1), (0, h 5 5)] g h (fun r1 g2 h3 => BX7_readPart_68 C l (e + 1) K x1 r1 g2 h3)))) ∧ (h 5 2 = 2 → xM C l 3 YX9_passNumber [(2, 5), (0, 0), (0, 9999)] g h (fun r4 g5 h6 => xM C l 0 YJ9_max_7cf53 [(0, 0), (0, r4)] g5 h6 (fun r7 g8 h9 => mf_is 319 (g5 10 2) 4 ∧ xM C l 0 YX4_add [(2, g5 10 2), (0, mf_w32 (40 + r7))] g8 h9 (fun r10 g11 h12 => K 0 g11 h12)))))) : xM C l (e + 1) YX7_readPart [(2, 10), (0, x1)] g h K := by
  intro hG
  refine mf_entry (by decide) (Nat.le_of_ble_eq_true rfl) ?_
  refine mf_aload_n (mf_dat eX7_readPart_p0 0 rfl) rfl rfl ?_
  refine mf_getf (r := (RX7, TX7, 4)) (ci := 7) (k := 0) (t := 2) (v := 5) (mf_dat eX7_readPart_p0 1 rfl) fl_X7_13 rfl (by decide) rfl (gx_10_0 hG) is10 ?_
  refine mf_getf (r := (RX9, TX9, 10)) (ci := 9) (k := 2) (t := 0) (v := h 5 2) (mf_dat eX7_readPart_p0 2 rfl) fl_X7_43 rfl (by decide) rfl rfl is5 ?_
  refine mf_iconst (v := 2) (mf_dat eX7_readPart_p0 3 rfl) (by decide) ?_
  refine mf_icmp_ne (tgt := 39) (mf_dat eX7_readPart_p0 4 rfl) (by decide) (fun hc => ?_) (fun hc => ?_)
  · replace hyp := hyp.1 hc
    refine mf_aload_n (mf_dat eX7_readPart_p0 20 rfl) rfl rfl ?_
    refine mf_getf (r := (RX7, TX7, 4)) (ci := 7) (k := 0) (t := 2) (v := 5) (mf_dat eX7_readPart_p0 21 rfl) fl_X7_13 rfl (by decide) rfl (gx_10_0 hG) is10 ?_
    refine mf_getf (r := (RX9, TX9, 10)) (ci := 9) (k := 2) (t := 0) (v := h 5 2) (mf_dat eX7_readPart_p0 22 rfl) fl_X7_43 rfl (by decide) rfl rfl is5 ?_
    refine mf_iconst (v := 1) (mf_dat eX7_readPart_p0 23 rfl) (by decide) ?_
    refine mf_icmp_ne (tgt := 67) (mf_dat eX7_readPart_p0 24 rfl) (by decide) (fun hc => ?_) (fun hc => ?_)
    · replace hyp := hyp.1 hc
      refine mf_iconst (v := (-1)) (mf_dat eX7_readPart_p0 32 rfl) (by decide) ?_
      exact mf_sub [0, 1] rfl (hyp hG)
    · replace hyp := hyp.2 hc
      refine mf_aload_n (mf_dat eX7_readPart_p0 25 rfl) rfl rfl ?_
      refine mf_getf (r := (RX7, TX7, 4)) (ci := 7) (k := 1) (t := 2) (v := 1) (mf_dat eX7_readPart_p0 26 rfl) fl_X7_17 rfl (by decide) rfl (gx_10_1 hG) is10 ?_
      refine mf_aload_n (mf_dat eX7_readPart_p0 27 rfl) rfl rfl ?_
      refine mf_getf (r := (RX7, TX7, 4)) (ci := 7) (k := 0) (t := 2) (v := 5) (mf_dat eX7_readPart_p0 28 rfl) fl_X7_13 rfl (by decide) rfl (gx_10_0 hG) is10 ?_
      refine mf_getf (r := (RX9, TX9, 10)) (ci := 9) (k := 5) (t := 0) (v := h 5 5) (mf_dat eX7_readPart_p0 29 rfl) fl_X7_46 rfl (by decide) rfl rfl is5 ?_
      refine mf_callV (Yc := YX10_find) (r := (RX10, TX10, 1)) (ci := 10) (mf_dat eX7_readPart_p0 30 rfl) ml_X7_49 okX10_find im_X10_find sl_X10_find rfl rfl rfl rfl (Nat.le_of_ble_eq_true rfl) (mf_rr (Nat.le_trans (by decide) hd) (Nat.le_refl _)) (Nat.le_refl _) is1 (hyp hG) (fun r1 g2 h3 hyp => ?_)
      obtain ⟨hG, hyp⟩ := hyp
      refine mf_goto (tgt := 68) (mf_dat eX7_readPart_p0 31 rfl) (by decide) ?_
      exact mf_sub [0, 1] rfl (hyp hG)
  · replace hyp := hyp.2 hc
    refine mf_aload_n (mf_dat eX7_readPart_p0 5 rfl) rfl rfl ?_
    refine mf_getf (r := (RX7, TX7, 4)) (ci := 7) (k := 0) (t := 2) (v := 5) (mf_dat eX7_readPart_p0 6 rfl) fl_X7_13 rfl (by decide) rfl (gx_10_0 hG) is10 ?_
    refine mf_iconst (v := 0) (mf_dat eX7_readPart_p0 7 rfl) (by decide) ?_
    refine mf_sipush (v := 9999) (mf_dat eX7_readPart_p0 8 rfl) (by decide) ?_
    refine mf_callV (Yc := YX9_passNumber) (r := (RX9, TX9, 10)) (ci := 9) (mf_dat eX7_readPart_p0 9 rfl) ml_X7_113 okX9_passNumber im_X9_passNumber sl_X9_passNumber rfl rfl rfl rfl (Nat.le_of_ble_eq_true rfl) (mf_rr (Nat.le_trans (by decide) hd) (Nat.le_refl _)) (Nat.le_refl _) is5 (hyp hG) (fun r4 g5 h6 hyp => ?_)
    obtain ⟨hG, hyp⟩ := hyp
    refine mf_istore_n (mf_dat eX7_readPart_p0 10 rfl) rfl (by decide) ?_
    refine mf_aload_n (mf_dat eX7_readPart_p0 11 rfl) rfl rfl ?_
    refine mf_getf (r := (RX7, TX7, 4)) (ci := 7) (k := 2) (t := 2) (v := g5 10 2) (mf_dat eX7_readPart_p0 12 rfl) fl_X7_21 rfl (by decide) rfl rfl is10 ?_
    refine mf_bipush (v := 40) (mf_dat eX7_readPart_p0 13 rfl) (by decide) ?_
    refine mf_iconst (v := 0) (mf_dat eX7_readPart_p0 14 rfl) (by decide) ?_
    refine mf_iload_n (mf_dat eX7_readPart_p0 15 rfl) rfl rfl ?_
    refine mf_callS (Yc := YJ9_max_7cf53) (mf_dat eX7_readPart_p0 16 rfl) ml_X7_117 okJ9_max_7cf53 sm_J9_max_7cf53 rfl rfl (Nat.le_of_ble_eq_true rfl) (mf_rr (Nat.le_trans (by decide) hd) (Nat.le_refl _)) (Nat.le_refl _) (hyp hG) (fun r7 g8 h9 hyp => ?_)
    obtain ⟨hG, hyp⟩ := hyp
    refine mf_iadd (mf_dat eX7_readPart_p0 17 rfl) ?_
    obtain ⟨ck13, hyp⟩ := hyp
    refine mf_callV (Yc := YX4_add) (r := (RX4, TX4, 5)) (ci := 4) (mf_dat eX7_readPart_p0 18 rfl) ml_X7_82 okX4_add im_X4_add sl_X4_add rfl rfl rfl rfl (Nat.le_of_ble_eq_true rfl) (mf_rr (Nat.le_trans (by decide) hd) (Nat.le_refl _)) (Nat.le_refl _) ck13 (hyp hG) (fun r10 g11 h12 hyp => ?_)
    obtain ⟨hG, hyp⟩ := hyp
    exact mf_return (mf_dat eX7_readPart_p0 19 rfl) rfl ⟨hG, hyp⟩
set_option maxRecDepth 100000 in
set_option maxHeartbeats 4000000 in
theorem wX7_compareSign {C : mf_G} {l : Launch} {d : Nat} {K : mf_Kt} {g h : mf_M} (hyp : ((h 5 2 = 3 → ((h 5 5 = 60 → K 7 g h) ∧ (h 5 5 = 61 → K 9 g h) ∧ (h 5 5 = 62 → K 8 g h) ∧ ((h 5 5 < 60 ∨ 62 < h 5 5) → K (-1) g h))) ∧ (¬ h 5 2 = 3 → K (-1) g h))) : xM C l d YX7_compareSign [(2, 10)] g h K := by
  intro hG
  refine mf_entry (by decide) (Nat.le_of_ble_eq_true rfl) ?_
  refine mf_aload_n (mf_dat eX7_compareSign 0 rfl) rfl rfl ?_
  refine mf_getf (r := (RX7, TX7, 4)) (ci := 7) (k := 0) (t := 2) (v := 5) (mf_dat eX7_compareSign 1 rfl) fl_X7_13 rfl (by decide) rfl (gx_10_0 hG) is10 ?_
  refine mf_getf (r := (RX9, TX9, 10)) (ci := 9) (k := 2) (t := 0) (v := h 5 2) (mf_dat eX7_compareSign 2 rfl) fl_X7_43 rfl (by decide) rfl rfl is5 ?_
  refine mf_iconst (v := 3) (mf_dat eX7_compareSign 3 rfl) (by decide) ?_
  refine mf_icmp_eq (tgt := 13) (mf_dat eX7_compareSign 4 rfl) (by decide) (fun hc => ?_) (fun hc => ?_)
  · replace hyp := hyp.1 hc
    refine mf_aload_n (mf_dat eX7_compareSign 7 rfl) rfl rfl ?_
    refine mf_getf (r := (RX7, TX7, 4)) (ci := 7) (k := 0) (t := 2) (v := 5) (mf_dat eX7_compareSign 8 rfl) fl_X7_13 rfl (by decide) rfl (gx_10_0 hG) is10 ?_
    refine mf_getf (r := (RX9, TX9, 10)) (ci := 9) (k := 5) (t := 0) (v := h 5 5) (mf_dat eX7_compareSign 9 rfl) fl_X7_46 rfl (by decide) rfl rfl is5 ?_
    refine mf_tsw1 (v := 60) (tgt := 48) (mf_dat eX7_compareSign 10 rfl) (by decide) (by decide) (off := 28) (by decide) (by decide) (fun hc => ?_) (fun hc0 => ?_)
    · replace hyp := hyp.1 hc
      refine mf_bipush (v := 7) (mf_dat eX7_compareSign 11 rfl) (by decide) ?_
      exact mf_ireturn (mf_dat eX7_compareSign 12 rfl) rfl (Or.inl rfl) ⟨hG, hyp⟩
    replace hyp := hyp.2
    refine mf_tsw1 (v := 61) (tgt := 54) (mf_dat eX7_compareSign 10 rfl) (by decide) (by decide) (off := 34) (by decide) (by decide) (fun hc => ?_) (fun hc1 => ?_)
    · replace hyp := hyp.1 hc
      refine mf_bipush (v := 9) (mf_dat eX7_compareSign 15 rfl) (by decide) ?_
      exact mf_ireturn (mf_dat eX7_compareSign 16 rfl) rfl (Or.inl rfl) ⟨hG, hyp⟩
    replace hyp := hyp.2
    refine mf_tsw1 (v := 62) (tgt := 51) (mf_dat eX7_compareSign 10 rfl) (by decide) (by decide) (off := 31) (by decide) (by decide) (fun hc => ?_) (fun hc2 => ?_)
    · replace hyp := hyp.1 hc
      refine mf_bipush (v := 8) (mf_dat eX7_compareSign 13 rfl) (by decide) ?_
      exact mf_ireturn (mf_dat eX7_compareSign 14 rfl) rfl (Or.inl rfl) ⟨hG, hyp⟩
    replace hyp := hyp.2
    refine mf_tswO (tgt := 57) (mf_dat eX7_compareSign 10 rfl) (by omega) (by decide) ?_
    replace hyp := hyp (by omega)
    refine mf_iconst (v := (-1)) (mf_dat eX7_compareSign 17 rfl) (by decide) ?_
    exact mf_ireturn (mf_dat eX7_compareSign 18 rfl) rfl (Or.inl rfl) ⟨hG, hyp⟩
  · replace hyp := hyp.2 hc
    refine mf_iconst (v := (-1)) (mf_dat eX7_compareSign 5 rfl) (by decide) ?_
    exact mf_ireturn (mf_dat eX7_compareSign 6 rfl) rfl (Or.inl rfl) ⟨hG, hyp⟩
set_option maxRecDepth 100000 in
set_option maxHeartbeats 4000000 in
theorem wX7_sumSign {C : mf_G} {l : Launch} {d : Nat} {K : mf_Kt} {g h : mf_M} (hd : 1 ≤ d) (hyp : xM C l 0 YX9_isSign [(2, 5), (0, 43)] g h (fun r1 g2 h3 => ((r1 = 0 → xM C l 0 YX9_isSign [(2, 5), (0, 45)] g2 h3 (fun r4 g5 h6 => ((r4 = 0 → K (-1) g5 h6) ∧ (¬ r4 = 0 → K 2 g5 h6)))) ∧ (¬ r1 = 0 → K 1 g2 h3)))) : xM C l d YX7_sumSign [(2, 10)] g h K := by
  intro hG
  refine mf_entry (by decide) (Nat.le_of_ble_eq_true rfl) ?_
  refine mf_aload_n (mf_dat eX7_sumSign 0 rfl) rfl rfl ?_
  refine mf_getf (r := (RX7, TX7, 4)) (ci := 7) (k := 0) (t := 2) (v := 5) (mf_dat eX7_sumSign 1 rfl) fl_X7_13 rfl (by decide) rfl (gx_10_0 hG) is10 ?_
  refine mf_bipush (v := 43) (mf_dat eX7_sumSign 2 rfl) (by decide) ?_
  refine mf_callV (Yc := YX9_isSign) (r := (RX9, TX9, 10)) (ci := 9) (mf_dat eX7_sumSign 3 rfl) ml_X7_92 okX9_isSign im_X9_isSign sl_X9_isSign rfl rfl rfl rfl (Nat.le_of_ble_eq_true rfl) (mf_rr (Nat.le_trans (by decide) hd) (Nat.le_refl _)) (Nat.le_refl _) is5 (hyp hG) (fun r1 g2 h3 hyp => ?_)
  obtain ⟨hG, hyp⟩ := hyp
  refine mf_if_eq (tgt := 14) (mf_dat eX7_sumSign 4 rfl) (by decide) (fun hc => ?_) (fun hc => ?_)
  · replace hyp := hyp.1 hc
    refine mf_aload_n (mf_dat eX7_sumSign 7 rfl) rfl rfl ?_
    refine mf_getf (r := (RX7, TX7, 4)) (ci := 7) (k := 0) (t := 2) (v := 5) (mf_dat eX7_sumSign 8 rfl) fl_X7_13 rfl (by decide) rfl (gx_10_0 hG) is10 ?_
    refine mf_bipush (v := 45) (mf_dat eX7_sumSign 9 rfl) (by decide) ?_
    refine mf_callV (Yc := YX9_isSign) (r := (RX9, TX9, 10)) (ci := 9) (mf_dat eX7_sumSign 10 rfl) ml_X7_92 okX9_isSign im_X9_isSign sl_X9_isSign rfl rfl rfl rfl (Nat.le_of_ble_eq_true rfl) (mf_rr (Nat.le_trans (by decide) hd) (Nat.le_refl _)) (Nat.le_refl _) is5 (hyp hG) (fun r4 g5 h6 hyp => ?_)
    obtain ⟨hG, hyp⟩ := hyp
    refine mf_if_eq (tgt := 30) (mf_dat eX7_sumSign 11 rfl) (by decide) (fun hc => ?_) (fun hc => ?_)
    · replace hyp := hyp.1 hc
      refine mf_iconst (v := (-1)) (mf_dat eX7_sumSign 14 rfl) (by decide) ?_
      exact mf_ireturn (mf_dat eX7_sumSign 15 rfl) rfl (Or.inl rfl) ⟨hG, hyp⟩
    · replace hyp := hyp.2 hc
      refine mf_iconst (v := 2) (mf_dat eX7_sumSign 12 rfl) (by decide) ?_
      refine mf_goto (tgt := 31) (mf_dat eX7_sumSign 13 rfl) (by decide) ?_
      exact mf_ireturn (mf_dat eX7_sumSign 15 rfl) rfl (Or.inl rfl) ⟨hG, hyp⟩
  · replace hyp := hyp.2 hc
    refine mf_iconst (v := 1) (mf_dat eX7_sumSign 5 rfl) (by decide) ?_
    exact mf_ireturn (mf_dat eX7_sumSign 6 rfl) rfl (Or.inl rfl) ⟨hG, hyp⟩
set_option maxRecDepth 100000 in
set_option maxHeartbeats 4000000 in
theorem wX7_productSign {C : mf_G} {l : Launch} {d : Nat} {K : mf_Kt} {g h : mf_M} (hd : 1 ≤ d) (hyp : xM C l 0 YX9_isSign [(2, 5), (0, 42)] g h (fun r1 g2 h3 => ((r1 = 0 → xM C l 0 YX9_isSign [(2, 5), (0, 47)] g2 h3 (fun r4 g5 h6 => ((r4 = 0 → K (-1) g5 h6) ∧ (¬ r4 = 0 → K 4 g5 h6)))) ∧ (¬ r1 = 0 → K 3 g2 h3)))) : xM C l d YX7_productSign [(2, 10)] g h K := by
  intro hG
  refine mf_entry (by decide) (Nat.le_of_ble_eq_true rfl) ?_
  refine mf_aload_n (mf_dat eX7_productSign 0 rfl) rfl rfl ?_
  refine mf_getf (r := (RX7, TX7, 4)) (ci := 7) (k := 0) (t := 2) (v := 5) (mf_dat eX7_productSign 1 rfl) fl_X7_13 rfl (by decide) rfl (gx_10_0 hG) is10 ?_
  refine mf_bipush (v := 42) (mf_dat eX7_productSign 2 rfl) (by decide) ?_
  refine mf_callV (Yc := YX9_isSign) (r := (RX9, TX9, 10)) (ci := 9) (mf_dat eX7_productSign 3 rfl) ml_X7_92 okX9_isSign im_X9_isSign sl_X9_isSign rfl rfl rfl rfl (Nat.le_of_ble_eq_true rfl) (mf_rr (Nat.le_trans (by decide) hd) (Nat.le_refl _)) (Nat.le_refl _) is5 (hyp hG) (fun r1 g2 h3 hyp => ?_)
  obtain ⟨hG, hyp⟩ := hyp
  refine mf_if_eq (tgt := 14) (mf_dat eX7_productSign 4 rfl) (by decide) (fun hc => ?_) (fun hc => ?_)
  · replace hyp := hyp.1 hc
    refine mf_aload_n (mf_dat eX7_productSign 7 rfl) rfl rfl ?_
    refine mf_getf (r := (RX7, TX7, 4)) (ci := 7) (k := 0) (t := 2) (v := 5) (mf_dat eX7_productSign 8 rfl) fl_X7_13 rfl (by decide) rfl (gx_10_0 hG) is10 ?_
    refine mf_bipush (v := 47) (mf_dat eX7_productSign 9 rfl) (by decide) ?_
    refine mf_callV (Yc := YX9_isSign) (r := (RX9, TX9, 10)) (ci := 9) (mf_dat eX7_productSign 10 rfl) ml_X7_92 okX9_isSign im_X9_isSign sl_X9_isSign rfl rfl rfl rfl (Nat.le_of_ble_eq_true rfl) (mf_rr (Nat.le_trans (by decide) hd) (Nat.le_refl _)) (Nat.le_refl _) is5 (hyp hG) (fun r4 g5 h6 hyp => ?_)
    obtain ⟨hG, hyp⟩ := hyp
    refine mf_if_eq (tgt := 30) (mf_dat eX7_productSign 11 rfl) (by decide) (fun hc => ?_) (fun hc => ?_)
    · replace hyp := hyp.1 hc
      refine mf_iconst (v := (-1)) (mf_dat eX7_productSign 14 rfl) (by decide) ?_
      exact mf_ireturn (mf_dat eX7_productSign 15 rfl) rfl (Or.inl rfl) ⟨hG, hyp⟩
    · replace hyp := hyp.2 hc
      refine mf_iconst (v := 4) (mf_dat eX7_productSign 12 rfl) (by decide) ?_
      refine mf_goto (tgt := 31) (mf_dat eX7_productSign 13 rfl) (by decide) ?_
      exact mf_ireturn (mf_dat eX7_productSign 15 rfl) rfl (Or.inl rfl) ⟨hG, hyp⟩
  · replace hyp := hyp.2 hc
    refine mf_iconst (v := 3) (mf_dat eX7_productSign 5 rfl) (by decide) ?_
    exact mf_ireturn (mf_dat eX7_productSign 6 rfl) rfl (Or.inl rfl) ⟨hG, hyp⟩
set_option maxRecDepth 100000 in
set_option maxHeartbeats 4000000 in
theorem wX8_nextCheck {C : mf_G} {l : Launch} {d : Nat} {K : mf_Kt} {x0 x1 : Int} {g h : mf_M} (hyp : K ((mf_w32 ((mf_w32 (3 * x0)) + x1)).tmod 251) g h) : xM C l d YX8_nextCheck [(0, x0), (0, x1)] g h K := by
  intro hG
  refine mf_entry (by decide) (Nat.le_of_ble_eq_true rfl) ?_
  refine mf_iconst (v := 3) (mf_dat eX8_nextCheck 0 rfl) (by decide) ?_
  refine mf_iload_n (mf_dat eX8_nextCheck 1 rfl) rfl rfl ?_
  refine mf_imul (mf_dat eX8_nextCheck 2 rfl) ?_
  refine mf_iload_n (mf_dat eX8_nextCheck 3 rfl) rfl rfl ?_
  refine mf_iadd (mf_dat eX8_nextCheck 4 rfl) ?_
  refine mf_sipush (v := 251) (mf_dat eX8_nextCheck 5 rfl) (by decide) ?_
  refine mf_irem (mf_dat eX8_nextCheck 6 rfl) (by decide) ?_
  exact mf_ireturn (mf_dat eX8_nextCheck 7 rfl) rfl (Or.inl rfl) ⟨hG, hyp⟩
abbrev BX8_add_3 (C : mf_G) (l : Launch) (d : Nat) (K : mf_Kt) (x1 x2 : Int) (g h : mf_M) : Prop := jX C l d YX8_add K 3 [(0, (2, 3)), (1, (0, x1)), (2, (0, x2))] [] g h
set_option maxRecDepth 100000 in
set_option maxHeartbeats 4000000 in
theorem vX8_add_3 {C : mf_G} {l : Launch} {d : Nat} {K : mf_Kt} {x1 x2 : Int} {g h : mf_M} (hyp : ((x2 < 0 → K 0 g h) ∧ (¬ x2 < 0 → ((1600 ≤ h 3 1 → (∀ v1 : Int, v1 = mf_w32 (x2 + (-8)) → BX8_add_3 C l d K x1 v1 g h)) ∧ (¬ 1600 ≤ h 3 1 → 0 ≤ h 3 1 ∧ h 3 1 < 1600 ∧ (∀ h4 : mf_M, h4 = mf_up h 4 (h 3 1) (mf_b8 (mf_b8 (mf_shr x1 x2))) → (∀ h5 : mf_M, h5 = mf_up h4 3 1 (mf_w32 ((h4 3 1) + 1)) → (∀ v6 : Int, v6 = mf_w32 (x2 + (-8)) → BX8_add_3 C l d K x1 v6 g h5)))))))) : BX8_add_3 C l d K x1 x2 g h := by
  intro hG
  refine mf_iload_n (mf_dat eX8_add 2 rfl) rfl rfl ?_
  refine mf_if_lt (tgt := 48) (mf_dat eX8_add 3 rfl) (by decide) (fun hc => ?_) (fun hc => ?_)
  · replace hyp := hyp.1 hc
    exact mf_return (mf_dat eX8_add 27 rfl) rfl ⟨hG, hyp⟩
  · replace hyp := hyp.2 hc
    refine mf_aload_n (mf_dat eX8_add 4 rfl) rfl rfl ?_
    refine mf_getf (r := (RX8, TX8, 2)) (ci := 8) (k := 1) (t := 0) (v := h 3 1) (mf_dat eX8_add 5 rfl) fl_X8_15 rfl (by decide) rfl rfl is3 ?_
    refine mf_aload_n (mf_dat eX8_add 6 rfl) rfl rfl ?_
    refine mf_getf (r := (RX8, TX8, 2)) (ci := 8) (k := 0) (t := 2) (v := 4) (mf_dat eX8_add 7 rfl) fl_X8_9 rfl (by decide) rfl (gx_3_0 hG) is3 ?_
    refine mf_alen (c := 21) (i := 1) (ty := .byte) (v := 1600) (mf_dat eX8_add 8 rfl) (by decide) rfl is4 len4 (mf_len_small _) ?_
    refine mf_icmp_ge (tgt := 42) (mf_dat eX8_add 9 rfl) (by decide) (fun hc => ?_) (fun hc => ?_)
    · replace hyp := hyp.1 hc
      refine mf_iinc (mf_dat eX8_add 25 rfl) rfl (by decide) (by decide) ?_
      generalize qv1 : mf_w32 (x2 + (-8)) = v1
      replace hyp := hyp _ qv1.symm
      refine mf_goto (tgt := 3) (mf_dat eX8_add 26 rfl) (by decide) ?_
      exact mf_sub [1, 2, 0] rfl (hyp hG)
    · replace hyp := hyp.2 hc
      refine mf_aload_n (mf_dat eX8_add 10 rfl) rfl rfl ?_
      refine mf_getf (r := (RX8, TX8, 2)) (ci := 8) (k := 0) (t := 2) (v := 4) (mf_dat eX8_add 11 rfl) fl_X8_9 rfl (by decide) rfl (gx_3_0 hG) is3 ?_
      refine mf_aload_n (mf_dat eX8_add 12 rfl) rfl rfl ?_
      refine mf_getf (r := (RX8, TX8, 2)) (ci := 8) (k := 1) (t := 0) (v := h 3 1) (mf_dat eX8_add 13 rfl) fl_X8_15 rfl (by decide) rfl rfl is3 ?_
      refine mf_iload_n (mf_dat eX8_add 14 rfl) rfl rfl ?_
      refine mf_iload_n (mf_dat eX8_add 15 rfl) rfl rfl ?_
      refine mf_ishr (mf_dat eX8_add 16 rfl) ?_
      refine mf_i2b (mf_dat eX8_add 17 rfl) ?_
      obtain ⟨ck2, hyp⟩ := hyp
      obtain ⟨ck3, hyp⟩ := hyp
      refine mf_bast (mf_dat eX8_add 18 rfl) is4 len4 ck2 ck3 ?_
      generalize qh4 : mf_up h 4 (h 3 1) (mf_b8 (mf_b8 (mf_shr x1 x2))) = h4
      replace hyp := hyp _ qh4.symm
      refine mf_aload_n (mf_dat eX8_add 19 rfl) rfl rfl ?_
      refine mf_dup (mf_dat eX8_add 20 rfl) (by decide) ?_
      refine mf_getf (r := (RX8, TX8, 2)) (ci := 8) (k := 1) (t := 0) (v := h4 3 1) (mf_dat eX8_add 21 rfl) fl_X8_15 rfl (by decide) rfl rfl is3 ?_
      refine mf_iconst (v := 1) (mf_dat eX8_add 22 rfl) (by decide) ?_
      refine mf_iadd (mf_dat eX8_add 23 rfl) ?_
      refine mf_putI (r := (RX8, TX8, 2)) (ci := 8) (k := 1) (kI := 1) (t := 0) (mf_dat eX8_add 24 rfl) fl_X8_15 rfl rfl (by decide) rfl (by decide) rfl (by decide) (fun h9 => absurd h9 (by decide)) is3 ?_
      generalize qh5 : mf_up h4 3 1 (mf_w32 ((h4 3 1) + 1)) = h5
      replace hyp := hyp _ qh5.symm
      refine mf_iinc (mf_dat eX8_add 25 rfl) rfl (by decide) (by decide) ?_
      generalize qv6 : mf_w32 (x2 + (-8)) = v6
      replace hyp := hyp _ qv6.symm
      refine mf_goto (tgt := 3) (mf_dat eX8_add 26 rfl) (by decide) ?_
      exact mf_sub [1, 2, 0] rfl (hyp hG)
set_option maxRecDepth 100000 in
set_option maxHeartbeats 4000000 in
theorem wX8_add {C : mf_G} {l : Launch} {d : Nat} {K : mf_Kt} {x1 : Int} {g h : mf_M} (hyp : BX8_add_3 C l d K x1 24 g h) : xM C l d YX8_add [(2, 3), (0, x1)] g h K := by
  intro hG
  refine mf_entry (by decide) (Nat.le_of_ble_eq_true rfl) ?_
  refine mf_bipush (v := 24) (mf_dat eX8_add 0 rfl) (by decide) ?_
  refine mf_istore_n (mf_dat eX8_add 1 rfl) rfl (by decide) ?_
  exact mf_sub [1, 2, 0] rfl (hyp hG)
set_option maxRecDepth 100000 in
set_option maxHeartbeats 4000000 in
theorem wX8_byteAt {C : mf_G} {l : Launch} {d : Nat} {K : mf_Kt} {x1 : Int} {g h : mf_M} (hyp : ((x1 < 0 → K 0 g h) ∧ (¬ x1 < 0 → ((h 3 1 ≤ x1 → K 0 g h) ∧ (¬ h 3 1 ≤ x1 → ((x1 < 1600 → 0 ≤ x1 ∧ x1 < 1600 ∧ K (mf_and (h 4 x1) 255) g h) ∧ (¬ x1 < 1600 → K 0 g h))))))) : xM C l d YX8_byteAt [(2, 3), (0, x1)] g h K := by
  intro hG
  refine mf_entry (by decide) (Nat.le_of_ble_eq_true rfl) ?_
  refine mf_iload_n (mf_dat eX8_byteAt 0 rfl) rfl rfl ?_
  refine mf_if_lt (tgt := 21) (mf_dat eX8_byteAt 1 rfl) (by decide) (fun hc => ?_) (fun hc => ?_)
  · replace hyp := hyp.1 hc
    refine mf_iconst (v := 0) (mf_dat eX8_byteAt 11 rfl) (by decide) ?_
    refine mf_goto (tgt := 35) (mf_dat eX8_byteAt 12 rfl) (by decide) ?_
    exact mf_ireturn (mf_dat eX8_byteAt 19 rfl) rfl (Or.inl rfl) ⟨hG, hyp⟩
  · replace hyp := hyp.2 hc
    refine mf_iload_n (mf_dat eX8_byteAt 2 rfl) rfl rfl ?_
    refine mf_aload_n (mf_dat eX8_byteAt 3 rfl) rfl rfl ?_
    refine mf_getf (r := (RX8, TX8, 2)) (ci := 8) (k := 1) (t := 0) (v := h 3 1) (mf_dat eX8_byteAt 4 rfl) fl_X8_15 rfl (by decide) rfl rfl is3 ?_
    refine mf_icmp_ge (tgt := 21) (mf_dat eX8_byteAt 5 rfl) (by decide) (fun hc => ?_) (fun hc => ?_)
    · replace hyp := hyp.1 hc
      refine mf_iconst (v := 0) (mf_dat eX8_byteAt 11 rfl) (by decide) ?_
      refine mf_goto (tgt := 35) (mf_dat eX8_byteAt 12 rfl) (by decide) ?_
      exact mf_ireturn (mf_dat eX8_byteAt 19 rfl) rfl (Or.inl rfl) ⟨hG, hyp⟩
    · replace hyp := hyp.2 hc
      refine mf_iload_n (mf_dat eX8_byteAt 6 rfl) rfl rfl ?_
      refine mf_aload_n (mf_dat eX8_byteAt 7 rfl) rfl rfl ?_
      refine mf_getf (r := (RX8, TX8, 2)) (ci := 8) (k := 0) (t := 2) (v := 4) (mf_dat eX8_byteAt 8 rfl) fl_X8_9 rfl (by decide) rfl (gx_3_0 hG) is3 ?_
      refine mf_alen (c := 21) (i := 1) (ty := .byte) (v := 1600) (mf_dat eX8_byteAt 9 rfl) (by decide) rfl is4 len4 (mf_len_small _) ?_
      refine mf_icmp_lt (tgt := 25) (mf_dat eX8_byteAt 10 rfl) (by decide) (fun hc => ?_) (fun hc => ?_)
      · replace hyp := hyp.1 hc
        refine mf_aload_n (mf_dat eX8_byteAt 13 rfl) rfl rfl ?_
        refine mf_getf (r := (RX8, TX8, 2)) (ci := 8) (k := 0) (t := 2) (v := 4) (mf_dat eX8_byteAt 14 rfl) fl_X8_9 rfl (by decide) rfl (gx_3_0 hG) is3 ?_
        refine mf_iload_n (mf_dat eX8_byteAt 15 rfl) rfl rfl ?_
        obtain ⟨ck1, hyp⟩ := hyp
        obtain ⟨ck2, hyp⟩ := hyp
        refine mf_bald (mf_dat eX8_byteAt 16 rfl) is4 len4 ck1 ck2 ?_
        refine mf_sipush (v := 255) (mf_dat eX8_byteAt 17 rfl) (by decide) ?_
        refine mf_iand (mf_dat eX8_byteAt 18 rfl) ?_
        exact mf_ireturn (mf_dat eX8_byteAt 19 rfl) rfl (Or.inl rfl) ⟨hG, hyp⟩
      · replace hyp := hyp.2 hc
        refine mf_iconst (v := 0) (mf_dat eX8_byteAt 11 rfl) (by decide) ?_
        refine mf_goto (tgt := 35) (mf_dat eX8_byteAt 12 rfl) (by decide) ?_
        exact mf_ireturn (mf_dat eX8_byteAt 19 rfl) rfl (Or.inl rfl) ⟨hG, hyp⟩
set_option maxRecDepth 100000 in
set_option maxHeartbeats 4000000 in
theorem wX8_pairAt {C : mf_G} {l : Launch} {d : Nat} {K : mf_Kt} {x1 : Int} {g h : mf_M} (hd : 1 ≤ d) (hyp : xM C l 0 YX8_byteAt [(2, 3), (0, x1)] g h (fun r1 g2 h3 => xM C l 0 YX8_byteAt [(2, 3), (0, mf_w32 (x1 + 1))] g2 h3 (fun r4 g5 h6 => K (mf_w32 ((mf_w32 (r1 * 256)) + r4)) g5 h6))) : xM C l d YX8_pairAt [(2, 3), (0, x1)] g h K := by
  intro hG
  refine mf_entry (by decide) (Nat.le_of_ble_eq_true rfl) ?_
  refine mf_aload_n (mf_dat eX8_pairAt 0 rfl) rfl rfl ?_
  refine mf_iload_n (mf_dat eX8_pairAt 1 rfl) rfl rfl ?_
  refine mf_callV (Yc := YX8_byteAt) (r := (RX8, TX8, 2)) (ci := 8) (mf_dat eX8_pairAt 2 rfl) ml_X8_19 okX8_byteAt im_X8_byteAt sl_X8_byteAt rfl rfl rfl rfl (Nat.le_of_ble_eq_true rfl) (mf_rr (Nat.le_trans (by decide) hd) (Nat.le_refl _)) (Nat.le_refl _) is3 (hyp hG) (fun r1 g2 h3 hyp => ?_)
  obtain ⟨hG, hyp⟩ := hyp
  refine mf_sipush (v := 256) (mf_dat eX8_pairAt 3 rfl) (by decide) ?_
  refine mf_imul (mf_dat eX8_pairAt 4 rfl) ?_
  refine mf_aload_n (mf_dat eX8_pairAt 5 rfl) rfl rfl ?_
  refine mf_iload_n (mf_dat eX8_pairAt 6 rfl) rfl rfl ?_
  refine mf_iconst (v := 1) (mf_dat eX8_pairAt 7 rfl) (by decide) ?_
  refine mf_iadd (mf_dat eX8_pairAt 8 rfl) ?_
  refine mf_callV (Yc := YX8_byteAt) (r := (RX8, TX8, 2)) (ci := 8) (mf_dat eX8_pairAt 9 rfl) ml_X8_19 okX8_byteAt im_X8_byteAt sl_X8_byteAt rfl rfl rfl rfl (Nat.le_of_ble_eq_true rfl) (mf_rr (Nat.le_trans (by decide) hd) (Nat.le_refl _)) (Nat.le_refl _) is3 (hyp hG) (fun r4 g5 h6 hyp => ?_)
  obtain ⟨hG, hyp⟩ := hyp
  refine mf_iadd (mf_dat eX8_pairAt 10 rfl) ?_
  exact mf_ireturn (mf_dat eX8_pairAt 11 rfl) rfl (Or.inl rfl) ⟨hG, hyp⟩
set_option maxRecDepth 100000 in
set_option maxHeartbeats 4000000 in
theorem wX9_start {C : mf_G} {l : Launch} {d : Nat} {K : mf_Kt} {g h : mf_M} (hd : 3 ≤ d) (hyp : (∀ h1 : mf_M, h1 = mf_up h 5 8 0 → (∀ h2 : mf_M, h2 = mf_up h1 5 9 (-1) → (∀ h3 : mf_M, h3 = mf_up h2 5 6 0 → (∀ h4 : mf_M, h4 = mf_up h3 5 2 3 → xM C l 2 YX9_step [(2, 5)] g h4 (fun r5 g6 h7 => K 0 g6 h7)))))) : xM C l d YX9_start [(2, 5)] g h K := by
  intro hG
  refine mf_entry (by decide) (Nat.le_of_ble_eq_true rfl) ?_
  refine mf_aload_n (mf_dat eX9_start 0 rfl) rfl rfl ?_
  refine mf_iconst (v := 0) (mf_dat eX9_start 1 rfl) (by decide) ?_
  refine mf_putI (r := (RX9, TX9, 10)) (ci := 9) (k := 8) (kI := 8) (t := 0) (mf_dat eX9_start 2 rfl) fl_X9_19 rfl rfl (by decide) rfl (by decide) rfl (by decide) (fun h9 => absurd h9 (by decide)) is5 ?_
  generalize qh1 : mf_up h 5 8 0 = h1
  replace hyp := hyp _ qh1.symm
  refine mf_aload_n (mf_dat eX9_start 3 rfl) rfl rfl ?_
  refine mf_iconst (v := (-1)) (mf_dat eX9_start 4 rfl) (by decide) ?_
  refine mf_putI (r := (RX9, TX9, 10)) (ci := 9) (k := 9) (kI := 9) (t := 0) (mf_dat eX9_start 5 rfl) fl_X9_23 rfl rfl (by decide) rfl (by decide) rfl (by decide) (fun h9 => absurd h9 (by decide)) is5 ?_
  generalize qh2 : mf_up h1 5 9 (-1) = h2
  replace hyp := hyp _ qh2.symm
  refine mf_aload_n (mf_dat eX9_start 6 rfl) rfl rfl ?_
  refine mf_iconst (v := 0) (mf_dat eX9_start 7 rfl) (by decide) ?_
  refine mf_putI (r := (RX9, TX9, 10)) (ci := 9) (k := 6) (kI := 6) (t := 0) (mf_dat eX9_start 8 rfl) fl_X9_26 rfl rfl (by decide) rfl (by decide) rfl (by decide) (fun h9 => absurd h9 (by decide)) is5 ?_
  generalize qh3 : mf_up h2 5 6 0 = h3
  replace hyp := hyp _ qh3.symm
  refine mf_aload_n (mf_dat eX9_start 9 rfl) rfl rfl ?_
  refine mf_iconst (v := 3) (mf_dat eX9_start 10 rfl) (by decide) ?_
  refine mf_putI (r := (RX9, TX9, 10)) (ci := 9) (k := 2) (kI := 2) (t := 0) (mf_dat eX9_start 11 rfl) fl_X9_29 rfl rfl (by decide) rfl (by decide) rfl (by decide) (fun h9 => absurd h9 (by decide)) is5 ?_
  generalize qh4 : mf_up h3 5 2 3 = h4
  replace hyp := hyp _ qh4.symm
  refine mf_aload_n (mf_dat eX9_start 12 rfl) rfl rfl ?_
  refine mf_callV (Yc := YX9_step) (r := (RX9, TX9, 10)) (ci := 9) (mf_dat eX9_start 13 rfl) ml_X9_32 okX9_step im_X9_step sl_X9_step rfl rfl rfl rfl (Nat.le_of_ble_eq_true rfl) (mf_rr (Nat.le_trans (by decide) hd) (Nat.le_refl _)) (Nat.le_refl _) is5 (hyp hG) (fun r5 g6 h7 hyp => ?_)
  obtain ⟨hG, hyp⟩ := hyp
  exact mf_return (mf_dat eX9_start 14 rfl) rfl ⟨hG, hyp⟩
abbrev BX9_step_21 (C : mf_G) (l : Launch) (d : Nat) (K : mf_Kt) (s0 : Int) (g h : mf_M) : Prop := jX C l d YX9_step K 21 [(0, (2, 5))] [(0, s0)] g h
abbrev BX9_step_55 (C : mf_G) (l : Launch) (d : Nat) (K : mf_Kt) (x1 x2 x3 : Int) (g h : mf_M) : Prop := jX C l d YX9_step K 55 [(0, (2, 5)), (1, (0, x1)), (2, (0, x2)), (3, (0, x3))] [] g h
abbrev BX9_step_110 (C : mf_G) (l : Launch) (d : Nat) (K : mf_Kt) (x1 x2 x3 : Int) (g h : mf_M) : Prop := jX C l d YX9_step K 110 [(0, (2, 5)), (1, (0, x1)), (2, (0, x2)), (3, (0, x3))] [] g h
abbrev BX9_step_200 (C : mf_G) (l : Launch) (d : Nat) (K : mf_Kt) (x1 x2 x3 x4 s0 s1 : Int) (g h : mf_M) : Prop := jX C l d YX9_step K 200 [(0, (2, 5)), (1, (0, x1)), (2, (0, x2)), (3, (0, x3)), (4, (0, x4))] [(0, s1), (2, s0)] g h
abbrev BX9_step_230 (C : mf_G) (l : Launch) (d : Nat) (K : mf_Kt) (x1 x2 : Int) (g h : mf_M) : Prop := jX C l d YX9_step K 230 [(0, (2, 5)), (1, (0, x1)), (2, (0, x2))] [] g h
set_option maxRecDepth 100000 in
set_option maxHeartbeats 4000000 in
theorem vX9_step_21 {C : mf_G} {l : Launch} {d : Nat} {K : mf_Kt} {s0 : Int} {g h : mf_M} (hd : 1 ≤ d) (hyp : (∀ v1 : Int, v1 = h 5 6 → xM C l 0 YJ9_min_7cf53 [(0, h 3 1), (0, 1600)] g h (fun r2 g3 h4 => xM C l 0 YJ9_max_7cf53 [(0, 0), (0, v1)] g3 h4 (fun r5 g6 h7 => (∀ h8 : mf_M, h8 = mf_up h7 5 3 r5 → BX9_step_55 C l d K s0 v1 r2 g6 h8))))) : BX9_step_21 C l d K s0 g h := by
  intro hG
  refine mf_istore_n (mf_dat eX9_step_p0 11 rfl) rfl (by decide) ?_
  refine mf_aload_n (mf_dat eX9_step_p0 12 rfl) rfl rfl ?_
  refine mf_getf (r := (RX9, TX9, 10)) (ci := 9) (k := 6) (t := 0) (v := h 5 6) (mf_dat eX9_step_p0 13 rfl) fl_X9_26 rfl (by decide) rfl rfl is5 ?_
  generalize qv1 : h 5 6 = v1
  replace hyp := hyp _ qv1.symm
  refine mf_istore_n (mf_dat eX9_step_p0 14 rfl) rfl (by decide) ?_
  refine mf_aload_n (mf_dat eX9_step_p0 15 rfl) rfl rfl ?_
  refine mf_getf (r := (RX9, TX9, 10)) (ci := 9) (k := 0) (t := 2) (v := 3) (mf_dat eX9_step_p0 16 rfl) fl_X9_9 rfl (by decide) rfl (gx_5_0 hG) is5 ?_
  refine mf_getf (r := (RX8, TX8, 2)) (ci := 8) (k := 1) (t := 0) (v := h 3 1) (mf_dat eX9_step_p0 17 rfl) fl_X9_35 rfl (by decide) rfl rfl is3 ?_
  refine mf_aload_n (mf_dat eX9_step_p0 18 rfl) rfl rfl ?_
  refine mf_getf (r := (RX9, TX9, 10)) (ci := 9) (k := 0) (t := 2) (v := 3) (mf_dat eX9_step_p0 19 rfl) fl_X9_9 rfl (by decide) rfl (gx_5_0 hG) is5 ?_
  refine mf_getf (r := (RX8, TX8, 2)) (ci := 8) (k := 0) (t := 2) (v := 4) (mf_dat eX9_step_p0 20 rfl) fl_X9_40 rfl (by decide) rfl (gx_3_0 hG) is3 ?_
  refine mf_alen (c := 21) (i := 1) (ty := .byte) (v := 1600) (mf_dat eX9_step_p0 21 rfl) (by decide) rfl is4 len4 (mf_len_small _) ?_
  refine mf_callS (Yc := YJ9_min_7cf53) (mf_dat eX9_step_p0 22 rfl) ml_X9_44 okJ9_min_7cf53 sm_J9_min_7cf53 rfl rfl (Nat.le_of_ble_eq_true rfl) (mf_rr (Nat.le_trans (by decide) hd) (Nat.le_refl _)) (Nat.le_refl _) (hyp hG) (fun r2 g3 h4 hyp => ?_)
  obtain ⟨hG, hyp⟩ := hyp
  refine mf_istore_n (mf_dat eX9_step_p0 23 rfl) rfl (by decide) ?_
  refine mf_aload_n (mf_dat eX9_step_p0 24 rfl) rfl rfl ?_
  refine mf_iconst (v := 0) (mf_dat eX9_step_p0 25 rfl) (by decide) ?_
  refine mf_iload_n (mf_dat eX9_step_p0 26 rfl) rfl rfl ?_
  refine mf_callS (Yc := YJ9_max_7cf53) (mf_dat eX9_step_p0 27 rfl) ml_X9_50 okJ9_max_7cf53 sm_J9_max_7cf53 rfl rfl (Nat.le_of_ble_eq_true rfl) (mf_rr (Nat.le_trans (by decide) hd) (Nat.le_refl _)) (Nat.le_refl _) (hyp hG) (fun r5 g6 h7 hyp => ?_)
  obtain ⟨hG, hyp⟩ := hyp
  refine mf_putI (r := (RX9, TX9, 10)) (ci := 9) (k := 3) (kI := 3) (t := 0) (mf_dat eX9_step_p0 28 rfl) fl_X9_53 rfl rfl (by decide) rfl (by decide) rfl (by decide) (fun h9 => absurd h9 (by decide)) is5 ?_
  generalize qh8 : mf_up h7 5 3 r5 = h8
  replace hyp := hyp _ qh8.symm
  exact mf_sub [3, 2, 1, 0] rfl (hyp hG)
set_option maxRecDepth 100000 in
set_option maxHeartbeats 4000000 in
theorem vX9_step_55 {C : mf_G} {l : Launch} {d : Nat} {K : mf_Kt} {x1 x2 x3 : Int} {g h : mf_M} (hyp : ((x3 ≤ h 5 3 → BX9_step_110 C l d K x1 x2 x3 g h) ∧ (¬ x3 ≤ h 5 3 → 0 ≤ h 5 3 ∧ h 5 3 < 1600 ∧ ((h 4 (h 5 3) = 32 → (∀ h3 : mf_M, h3 = mf_up h 5 3 (mf_w32 ((h 5 3) + 1)) → BX9_step_55 C l d K x1 x2 x3 g h3)) ∧ (¬ h 4 (h 5 3) = 32 → ((¬ h 4 (h 5 3) = 10 → BX9_step_110 C l d K x1 x2 x3 g h) ∧ (h 4 (h 5 3) = 10 → (∀ h4 : mf_M, h4 = mf_up h 5 3 (mf_w32 ((h 5 3) + 1)) → BX9_step_55 C l d K x1 x2 x3 g h4)))))))) : BX9_step_55 C l d K x1 x2 x3 g h := by
  intro hG
  refine mf_aload_n (mf_dat eX9_step_p0 29 rfl) rfl rfl ?_
  refine mf_getf (r := (RX9, TX9, 10)) (ci := 9) (k := 3) (t := 0) (v := h 5 3) (mf_dat eX9_step_p0 30 rfl) fl_X9_53 rfl (by decide) rfl rfl is5 ?_
  refine mf_iload_n (mf_dat eX9_step_p0 31 rfl) rfl rfl ?_
  refine mf_icmp_ge (tgt := 110) (mf_dat eX9_step_p0 32 rfl) (by decide) (fun hc => ?_) (fun hc => ?_)
  · replace hyp := hyp.1 hc
    exact mf_sub [0, 1, 2, 3] rfl (hyp hG)
  · replace hyp := hyp.2 hc
    refine mf_aload_n (mf_dat eX9_step_p0 33 rfl) rfl rfl ?_
    refine mf_getf (r := (RX9, TX9, 10)) (ci := 9) (k := 0) (t := 2) (v := 3) (mf_dat eX9_step_p0 34 rfl) fl_X9_9 rfl (by decide) rfl (gx_5_0 hG) is5 ?_
    refine mf_getf (r := (RX8, TX8, 2)) (ci := 8) (k := 0) (t := 2) (v := 4) (mf_dat eX9_step_p0 35 rfl) fl_X9_40 rfl (by decide) rfl (gx_3_0 hG) is3 ?_
    refine mf_aload_n (mf_dat eX9_step_p0 36 rfl) rfl rfl ?_
    refine mf_getf (r := (RX9, TX9, 10)) (ci := 9) (k := 3) (t := 0) (v := h 5 3) (mf_dat eX9_step_p0 37 rfl) fl_X9_53 rfl (by decide) rfl rfl is5 ?_
    obtain ⟨ck1, hyp⟩ := hyp
    obtain ⟨ck2, hyp⟩ := hyp
    refine mf_bald (mf_dat eX9_step_p0 38 rfl) is4 len4 ck1 ck2 ?_
    refine mf_bipush (v := 32) (mf_dat eX9_step_p0 39 rfl) (by decide) ?_
    refine mf_icmp_eq (tgt := 97) (mf_dat eX9_step_p0 40 rfl) (by decide) (fun hc => ?_) (fun hc => ?_)
    · replace hyp := hyp.1 hc
      refine mf_aload_n (mf_dat eX9_step_p0 49 rfl) rfl rfl ?_
      refine mf_dup (mf_dat eX9_step_p0 50 rfl) (by decide) ?_
      refine mf_getf (r := (RX9, TX9, 10)) (ci := 9) (k := 3) (t := 0) (v := h 5 3) (mf_dat eX9_step_p0 51 rfl) fl_X9_53 rfl (by decide) rfl rfl is5 ?_
      refine mf_iconst (v := 1) (mf_dat eX9_step_p0 52 rfl) (by decide) ?_
      refine mf_iadd (mf_dat eX9_step_p0 53 rfl) ?_
      refine mf_putI (r := (RX9, TX9, 10)) (ci := 9) (k := 3) (kI := 3) (t := 0) (mf_dat eX9_step_p0 54 rfl) fl_X9_53 rfl rfl (by decide) rfl (by decide) rfl (by decide) (fun h9 => absurd h9 (by decide)) is5 ?_
      generalize qh3 : mf_up h 5 3 (mf_w32 ((h 5 3) + 1)) = h3
      replace hyp := hyp _ qh3.symm
      refine mf_goto (tgt := 55) (mf_dat eX9_step_p0 55 rfl) (by decide) ?_
      exact mf_sub [0, 1, 2, 3] rfl (hyp hG)
    · replace hyp := hyp.2 hc
      refine mf_aload_n (mf_dat eX9_step_p0 41 rfl) rfl rfl ?_
      refine mf_getf (r := (RX9, TX9, 10)) (ci := 9) (k := 0) (t := 2) (v := 3) (mf_dat eX9_step_p0 42 rfl) fl_X9_9 rfl (by decide) rfl (gx_5_0 hG) is5 ?_
      refine mf_getf (r := (RX8, TX8, 2)) (ci := 8) (k := 0) (t := 2) (v := 4) (mf_dat eX9_step_p0 43 rfl) fl_X9_40 rfl (by decide) rfl (gx_3_0 hG) is3 ?_
      refine mf_aload_n (mf_dat eX9_step_p0 44 rfl) rfl rfl ?_
      refine mf_getf (r := (RX9, TX9, 10)) (ci := 9) (k := 3) (t := 0) (v := h 5 3) (mf_dat eX9_step_p0 45 rfl) fl_X9_53 rfl (by decide) rfl rfl is5 ?_
      refine mf_bald (mf_dat eX9_step_p0 46 rfl) is4 len4 ck1 ck2 ?_
      refine mf_bipush (v := 10) (mf_dat eX9_step_p0 47 rfl) (by decide) ?_
      refine mf_icmp_ne (tgt := 110) (mf_dat eX9_step_p0 48 rfl) (by decide) (fun hc => ?_) (fun hc => ?_)
      · replace hyp := hyp.1 hc
        exact mf_sub [0, 1, 2, 3] rfl (hyp hG)
      · replace hyp := hyp.2 hc
        refine mf_aload_n (mf_dat eX9_step_p0 49 rfl) rfl rfl ?_
        refine mf_dup (mf_dat eX9_step_p0 50 rfl) (by decide) ?_
        refine mf_getf (r := (RX9, TX9, 10)) (ci := 9) (k := 3) (t := 0) (v := h 5 3) (mf_dat eX9_step_p0 51 rfl) fl_X9_53 rfl (by decide) rfl rfl is5 ?_
        refine mf_iconst (v := 1) (mf_dat eX9_step_p0 52 rfl) (by decide) ?_
        refine mf_iadd (mf_dat eX9_step_p0 53 rfl) ?_
        refine mf_putI (r := (RX9, TX9, 10)) (ci := 9) (k := 3) (kI := 3) (t := 0) (mf_dat eX9_step_p0 54 rfl) fl_X9_53 rfl rfl (by decide) rfl (by decide) rfl (by decide) (fun h9 => absurd h9 (by decide)) is5 ?_
        generalize qh4 : mf_up h 5 3 (mf_w32 ((h 5 3) + 1)) = h4
        replace hyp := hyp _ qh4.symm
        refine mf_goto (tgt := 55) (mf_dat eX9_step_p0 55 rfl) (by decide) ?_
        exact mf_sub [0, 1, 2, 3] rfl (hyp hG)
set_option maxRecDepth 100000 in
set_option maxHeartbeats 4000000 in
theorem vX9_step_110 {C : mf_G} {l : Launch} {d : Nat} {K : mf_Kt} {x1 x2 x3 : Int} {g h : mf_M} (hyp : (∀ h1 : mf_M, h1 = mf_up h 5 4 0 → (∀ h2 : mf_M, h2 = mf_up h1 5 5 0 → ((h2 5 3 < x3 → 0 ≤ h2 5 3 ∧ h2 5 3 < 1600 ∧ (∀ v5 : Int, v5 = mf_and (h2 4 (h2 5 3)) 255 → ((v5 < 97 → ((v5 < 48 → BX9_step_200 C l d K x1 x2 x3 v5 5 3 g h2) ∧ (¬ v5 < 48 → ((57 < v5 → BX9_step_200 C l d K x1 x2 x3 v5 5 3 g h2) ∧ (¬ 57 < v5 → BX9_step_200 C l d K x1 x2 x3 v5 5 2 g h2))))) ∧ (¬ v5 < 97 → ((122 < v5 → ((v5 < 48 → BX9_step_200 C l d K x1 x2 x3 v5 5 3 g h2) ∧ (¬ v5 < 48 → ((57 < v5 → BX9_step_200 C l d K x1 x2 x3 v5 5 3 g h2) ∧ (¬ 57 < v5 → BX9_step_200 C l d K x1 x2 x3 v5 5 2 g h2))))) ∧ (¬ 122 < v5 → BX9_step_200 C l d K x1 x2 x3 v5 5 1 g h2)))))) ∧ (¬ h2 5 3 < x3 → (∀ h6 : mf_M, h6 = mf_up h2 5 2 0 → (∀ h7 : mf_M, h7 = mf_up h6 5 3 x3 → (∀ h8 : mf_M, h8 = mf_up h7 5 6 x3 → K 0 g h8)))))))) : BX9_step_110 C l d K x1 x2 x3 g h := by
  intro hG
  refine mf_aload_n (mf_dat eX9_step_p0 56 rfl) rfl rfl ?_
  refine mf_iconst (v := 0) (mf_dat eX9_step_p0 57 rfl) (by decide) ?_
  refine mf_putI (r := (RX9, TX9, 10)) (ci := 9) (k := 4) (kI := 4) (t := 0) (mf_dat eX9_step_p0 58 rfl) fl_X9_56 rfl rfl (by decide) rfl (by decide) rfl (by decide) (fun h9 => absurd h9 (by decide)) is5 ?_
  generalize qh1 : mf_up h 5 4 0 = h1
  replace hyp := hyp _ qh1.symm
  refine mf_aload_n (mf_dat eX9_step_p0 59 rfl) rfl rfl ?_
  refine mf_iconst (v := 0) (mf_dat eX9_step_p1 0 rfl) (by decide) ?_
  refine mf_putI (r := (RX9, TX9, 10)) (ci := 9) (k := 5) (kI := 5) (t := 0) (mf_dat eX9_step_p1 1 rfl) fl_X9_57 rfl rfl (by decide) rfl (by decide) rfl (by decide) (fun h9 => absurd h9 (by decide)) is5 ?_
  generalize qh2 : mf_up h1 5 5 0 = h2
  replace hyp := hyp _ qh2.symm
  refine mf_aload_n (mf_dat eX9_step_p1 2 rfl) rfl rfl ?_
  refine mf_getf (r := (RX9, TX9, 10)) (ci := 9) (k := 3) (t := 0) (v := h2 5 3) (mf_dat eX9_step_p1 3 rfl) fl_X9_53 rfl (by decide) rfl rfl is5 ?_
  refine mf_iload_n (mf_dat eX9_step_p1 4 rfl) rfl rfl ?_
  refine mf_icmp_lt (tgt := 144) (mf_dat eX9_step_p1 5 rfl) (by decide) (fun hc => ?_) (fun hc => ?_)
  · replace hyp := hyp.1 hc
    refine mf_aload_n (mf_dat eX9_step_p1 16 rfl) rfl rfl ?_
    refine mf_getf (r := (RX9, TX9, 10)) (ci := 9) (k := 0) (t := 2) (v := 3) (mf_dat eX9_step_p1 17 rfl) fl_X9_9 rfl (by decide) rfl (gx_5_0 hG) is5 ?_
    refine mf_getf (r := (RX8, TX8, 2)) (ci := 8) (k := 0) (t := 2) (v := 4) (mf_dat eX9_step_p1 18 rfl) fl_X9_40 rfl (by decide) rfl (gx_3_0 hG) is3 ?_
    refine mf_aload_n (mf_dat eX9_step_p1 19 rfl) rfl rfl ?_
    refine mf_getf (r := (RX9, TX9, 10)) (ci := 9) (k := 3) (t := 0) (v := h2 5 3) (mf_dat eX9_step_p1 20 rfl) fl_X9_53 rfl (by decide) rfl rfl is5 ?_
    obtain ⟨ck3, hyp⟩ := hyp
    obtain ⟨ck4, hyp⟩ := hyp
    refine mf_bald (mf_dat eX9_step_p1 21 rfl) is4 len4 ck3 ck4 ?_
    refine mf_sipush (v := 255) (mf_dat eX9_step_p1 22 rfl) (by decide) ?_
    refine mf_iand (mf_dat eX9_step_p1 23 rfl) ?_
    generalize qv5 : mf_and (h2 4 (h2 5 3)) 255 = v5
    replace hyp := hyp _ qv5.symm
    refine mf_istore (mf_dat eX9_step_p1 24 rfl) (by decide) ?_
    refine mf_aload_n (mf_dat eX9_step_p1 25 rfl) rfl rfl ?_
    refine mf_iload (mf_dat eX9_step_p1 26 rfl) rfl ?_
    refine mf_bipush (v := 97) (mf_dat eX9_step_p1 27 rfl) (by decide) ?_
    refine mf_icmp_lt (tgt := 181) (mf_dat eX9_step_p1 28 rfl) (by decide) (fun hc => ?_) (fun hc => ?_)
    · replace hyp := hyp.1 hc
      refine mf_iload (mf_dat eX9_step_p1 34 rfl) rfl ?_
      refine mf_bipush (v := 48) (mf_dat eX9_step_p1 35 rfl) (by decide) ?_
      refine mf_icmp_lt (tgt := 199) (mf_dat eX9_step_p1 36 rfl) (by decide) (fun hc => ?_) (fun hc => ?_)
      · replace hyp := hyp.1 hc
        refine mf_iconst (v := 3) (mf_dat eX9_step_p1 42 rfl) (by decide) ?_
        exact mf_sub [1, 2, 3, 4, 0] rfl (hyp hG)
      · replace hyp := hyp.2 hc
        refine mf_iload (mf_dat eX9_step_p1 37 rfl) rfl ?_
        refine mf_bipush (v := 57) (mf_dat eX9_step_p1 38 rfl) (by decide) ?_
        refine mf_icmp_gt (tgt := 199) (mf_dat eX9_step_p1 39 rfl) (by decide) (fun hc => ?_) (fun hc => ?_)
        · replace hyp := hyp.1 hc
          refine mf_iconst (v := 3) (mf_dat eX9_step_p1 42 rfl) (by decide) ?_
          exact mf_sub [1, 2, 3, 4, 0] rfl (hyp hG)
        · replace hyp := hyp.2 hc
          refine mf_iconst (v := 2) (mf_dat eX9_step_p1 40 rfl) (by decide) ?_
          refine mf_goto (tgt := 200) (mf_dat eX9_step_p1 41 rfl) (by decide) ?_
          exact mf_sub [1, 2, 3, 4, 0] rfl (hyp hG)
    · replace hyp := hyp.2 hc
      refine mf_iload (mf_dat eX9_step_p1 29 rfl) rfl ?_
      refine mf_bipush (v := 122) (mf_dat eX9_step_p1 30 rfl) (by decide) ?_
      refine mf_icmp_gt (tgt := 181) (mf_dat eX9_step_p1 31 rfl) (by decide) (fun hc => ?_) (fun hc => ?_)
      · replace hyp := hyp.1 hc
        refine mf_iload (mf_dat eX9_step_p1 34 rfl) rfl ?_
        refine mf_bipush (v := 48) (mf_dat eX9_step_p1 35 rfl) (by decide) ?_
        refine mf_icmp_lt (tgt := 199) (mf_dat eX9_step_p1 36 rfl) (by decide) (fun hc => ?_) (fun hc => ?_)
        · replace hyp := hyp.1 hc
          refine mf_iconst (v := 3) (mf_dat eX9_step_p1 42 rfl) (by decide) ?_
          exact mf_sub [1, 2, 3, 4, 0] rfl (hyp hG)
        · replace hyp := hyp.2 hc
          refine mf_iload (mf_dat eX9_step_p1 37 rfl) rfl ?_
          refine mf_bipush (v := 57) (mf_dat eX9_step_p1 38 rfl) (by decide) ?_
          refine mf_icmp_gt (tgt := 199) (mf_dat eX9_step_p1 39 rfl) (by decide) (fun hc => ?_) (fun hc => ?_)
          · replace hyp := hyp.1 hc
            refine mf_iconst (v := 3) (mf_dat eX9_step_p1 42 rfl) (by decide) ?_
            exact mf_sub [1, 2, 3, 4, 0] rfl (hyp hG)
          · replace hyp := hyp.2 hc
            refine mf_iconst (v := 2) (mf_dat eX9_step_p1 40 rfl) (by decide) ?_
            refine mf_goto (tgt := 200) (mf_dat eX9_step_p1 41 rfl) (by decide) ?_
            exact mf_sub [1, 2, 3, 4, 0] rfl (hyp hG)
      · replace hyp := hyp.2 hc
        refine mf_iconst (v := 1) (mf_dat eX9_step_p1 32 rfl) (by decide) ?_
        refine mf_goto (tgt := 200) (mf_dat eX9_step_p1 33 rfl) (by decide) ?_
        exact mf_sub [1, 2, 3, 4, 0] rfl (hyp hG)
  · replace hyp := hyp.2 hc
    refine mf_aload_n (mf_dat eX9_step_p1 6 rfl) rfl rfl ?_
    refine mf_iconst (v := 0) (mf_dat eX9_step_p1 7 rfl) (by decide) ?_
    refine mf_putI (r := (RX9, TX9, 10)) (ci := 9) (k := 2) (kI := 2) (t := 0) (mf_dat eX9_step_p1 8 rfl) fl_X9_29 rfl rfl (by decide) rfl (by decide) rfl (by decide) (fun h9 => absurd h9 (by decide)) is5 ?_
    generalize qh6 : mf_up h2 5 2 0 = h6
    replace hyp := hyp _ qh6.symm
    refine mf_aload_n (mf_dat eX9_step_p1 9 rfl) rfl rfl ?_
    refine mf_iload_n (mf_dat eX9_step_p1 10 rfl) rfl rfl ?_
    refine mf_putI (r := (RX9, TX9, 10)) (ci := 9) (k := 3) (kI := 3) (t := 0) (mf_dat eX9_step_p1 11 rfl) fl_X9_53 rfl rfl (by decide) rfl (by decide) rfl (by decide) (fun h9 => absurd h9 (by decide)) is5 ?_
    generalize qh7 : mf_up h6 5 3 x3 = h7
    replace hyp := hyp _ qh7.symm
    refine mf_aload_n (mf_dat eX9_step_p1 12 rfl) rfl rfl ?_
    refine mf_iload_n (mf_dat eX9_step_p1 13 rfl) rfl rfl ?_
    refine mf_putI (r := (RX9, TX9, 10)) (ci := 9) (k := 6) (kI := 6) (t := 0) (mf_dat eX9_step_p1 14 rfl) fl_X9_26 rfl rfl (by decide) rfl (by decide) rfl (by decide) (fun h9 => absurd h9 (by decide)) is5 ?_
    generalize qh8 : mf_up h7 5 6 x3 = h8
    replace hyp := hyp _ qh8.symm
    exact mf_return (mf_dat eX9_step_p1 15 rfl) rfl ⟨hG, hyp⟩
set_option maxRecDepth 100000 in
set_option maxHeartbeats 4000000 in
theorem vX9_step_200 {C : mf_G} {l : Launch} {d : Nat} {K : mf_Kt} {x1 x2 x3 x4 s0 s1 : Int} {g h : mf_M} (hd : 1 ≤ d) (hyp : mf_is 319 s0 9 ∧ (∀ h2 : mf_M, h2 = mf_up h s0 2 s1 → ((¬ h2 5 2 = 3 → xM C l 0 YX9_takeWhole [(2, 5), (0, x3)] g h2 (fun r3 g4 h5 => BX9_step_230 C l d K x1 x2 g4 h5)) ∧ (h2 5 2 = 3 → (∀ h6 : mf_M, h6 = mf_up h2 5 5 x4 → (∀ h7 : mf_M, h7 = mf_up h6 5 4 1 → BX9_step_230 C l d K x1 x2 g h7)))))) : BX9_step_200 C l d K x1 x2 x3 x4 s0 s1 g h := by
  intro hG
  obtain ⟨ck1, hyp⟩ := hyp
  refine mf_putI (r := (RX9, TX9, 10)) (ci := 9) (k := 2) (kI := 2) (t := 0) (mf_dat eX9_step_p1 43 rfl) fl_X9_29 rfl rfl (by decide) rfl (by decide) rfl (by decide) (fun h9 => absurd h9 (by decide)) ck1 ?_
  generalize qh2 : mf_up h s0 2 s1 = h2
  replace hyp := hyp _ qh2.symm
  refine mf_aload_n (mf_dat eX9_step_p1 44 rfl) rfl rfl ?_
  refine mf_getf (r := (RX9, TX9, 10)) (ci := 9) (k := 2) (t := 0) (v := h2 5 2) (mf_dat eX9_step_p1 45 rfl) fl_X9_29 rfl (by decide) rfl rfl is5 ?_
  refine mf_iconst (v := 3) (mf_dat eX9_step_p1 46 rfl) (by decide) ?_
  refine mf_icmp_ne (tgt := 225) (mf_dat eX9_step_p1 47 rfl) (by decide) (fun hc => ?_) (fun hc => ?_)
  · replace hyp := hyp.1 hc
    refine mf_aload_n (mf_dat eX9_step_p1 55 rfl) rfl rfl ?_
    refine mf_iload_n (mf_dat eX9_step_p1 56 rfl) rfl rfl ?_
    refine mf_callV (Yc := YX9_takeWhole) (r := (RX9, TX9, 10)) (ci := 9) (mf_dat eX9_step_p1 57 rfl) ml_X9_60 okX9_takeWhole im_X9_takeWhole sl_X9_takeWhole rfl rfl rfl rfl (Nat.le_of_ble_eq_true rfl) (mf_rr (Nat.le_trans (by decide) hd) (Nat.le_refl _)) (Nat.le_refl _) is5 (hyp hG) (fun r3 g4 h5 hyp => ?_)
    obtain ⟨hG, hyp⟩ := hyp
    exact mf_sub [0, 1, 2] rfl (hyp hG)
  · replace hyp := hyp.2 hc
    refine mf_aload_n (mf_dat eX9_step_p1 48 rfl) rfl rfl ?_
    refine mf_iload (mf_dat eX9_step_p1 49 rfl) rfl ?_
    refine mf_putI (r := (RX9, TX9, 10)) (ci := 9) (k := 5) (kI := 5) (t := 0) (mf_dat eX9_step_p1 50 rfl) fl_X9_57 rfl rfl (by decide) rfl (by decide) rfl (by decide) (fun h9 => absurd h9 (by decide)) is5 ?_
    generalize qh6 : mf_up h2 5 5 x4 = h6
    replace hyp := hyp _ qh6.symm
    refine mf_aload_n (mf_dat eX9_step_p1 51 rfl) rfl rfl ?_
    refine mf_iconst (v := 1) (mf_dat eX9_step_p1 52 rfl) (by decide) ?_
    refine mf_putI (r := (RX9, TX9, 10)) (ci := 9) (k := 4) (kI := 4) (t := 0) (mf_dat eX9_step_p1 53 rfl) fl_X9_56 rfl rfl (by decide) rfl (by decide) rfl (by decide) (fun h9 => absurd h9 (by decide)) is5 ?_
    generalize qh7 : mf_up h6 5 4 1 = h7
    replace hyp := hyp _ qh7.symm
    refine mf_goto (tgt := 230) (mf_dat eX9_step_p1 54 rfl) (by decide) ?_
    exact mf_sub [0, 1, 2] rfl (hyp hG)
set_option maxRecDepth 100000 in
set_option maxHeartbeats 4000000 in
theorem vX9_step_230 {C : mf_G} {l : Launch} {d : Nat} {K : mf_Kt} {x1 x2 : Int} {g h : mf_M} (hyp : (∀ h1 : mf_M, h1 = mf_up h 5 6 (mf_w32 ((h 5 3) + (h 5 4))) → ((x1 = 0 → K 0 g h1) ∧ (¬ x1 = 0 → ((¬ h1 5 3 = x2 → K 0 g h1) ∧ (h1 5 3 = x2 → ((h1 5 2 = 3 → K 0 g h1) ∧ (¬ h1 5 2 = 3 → (∀ h2 : mf_M, h2 = mf_up h1 5 2 4 → K 0 g h2))))))))) : BX9_step_230 C l d K x1 x2 g h := by
  intro hG
  refine mf_aload_n (mf_dat eX9_step_p1 58 rfl) rfl rfl ?_
  refine mf_aload_n (mf_dat eX9_step_p1 59 rfl) rfl rfl ?_
  refine mf_getf (r := (RX9, TX9, 10)) (ci := 9) (k := 3) (t := 0) (v := h 5 3) (mf_dat eX9_step_p2 0 rfl) fl_X9_53 rfl (by decide) rfl rfl is5 ?_
  refine mf_aload_n (mf_dat eX9_step_p2 1 rfl) rfl rfl ?_
  refine mf_getf (r := (RX9, TX9, 10)) (ci := 9) (k := 4) (t := 0) (v := h 5 4) (mf_dat eX9_step_p2 2 rfl) fl_X9_56 rfl (by decide) rfl rfl is5 ?_
  refine mf_iadd (mf_dat eX9_step_p2 3 rfl) ?_
  refine mf_putI (r := (RX9, TX9, 10)) (ci := 9) (k := 6) (kI := 6) (t := 0) (mf_dat eX9_step_p2 4 rfl) fl_X9_26 rfl rfl (by decide) rfl (by decide) rfl (by decide) (fun h9 => absurd h9 (by decide)) is5 ?_
  generalize qh1 : mf_up h 5 6 (mf_w32 ((h 5 3) + (h 5 4))) = h1
  replace hyp := hyp _ qh1.symm
  refine mf_iload_n (mf_dat eX9_step_p2 5 rfl) rfl rfl ?_
  refine mf_if_eq (tgt := 268) (mf_dat eX9_step_p2 6 rfl) (by decide) (fun hc => ?_) (fun hc => ?_)
  · replace hyp := hyp.1 hc
    exact mf_return (mf_dat eX9_step_p2 18 rfl) rfl ⟨hG, hyp⟩
  · replace hyp := hyp.2 hc
    refine mf_aload_n (mf_dat eX9_step_p2 7 rfl) rfl rfl ?_
    refine mf_getf (r := (RX9, TX9, 10)) (ci := 9) (k := 3) (t := 0) (v := h1 5 3) (mf_dat eX9_step_p2 8 rfl) fl_X9_53 rfl (by decide) rfl rfl is5 ?_
    refine mf_iload_n (mf_dat eX9_step_p2 9 rfl) rfl rfl ?_
    refine mf_icmp_ne (tgt := 268) (mf_dat eX9_step_p2 10 rfl) (by decide) (fun hc => ?_) (fun hc => ?_)
    · replace hyp := hyp.1 hc
      exact mf_return (mf_dat eX9_step_p2 18 rfl) rfl ⟨hG, hyp⟩
    · replace hyp := hyp.2 hc
      refine mf_aload_n (mf_dat eX9_step_p2 11 rfl) rfl rfl ?_
      refine mf_getf (r := (RX9, TX9, 10)) (ci := 9) (k := 2) (t := 0) (v := h1 5 2) (mf_dat eX9_step_p2 12 rfl) fl_X9_29 rfl (by decide) rfl rfl is5 ?_
      refine mf_iconst (v := 3) (mf_dat eX9_step_p2 13 rfl) (by decide) ?_
      refine mf_icmp_eq (tgt := 268) (mf_dat eX9_step_p2 14 rfl) (by decide) (fun hc => ?_) (fun hc => ?_)
      · replace hyp := hyp.1 hc
        exact mf_return (mf_dat eX9_step_p2 18 rfl) rfl ⟨hG, hyp⟩
      · replace hyp := hyp.2 hc
        refine mf_aload_n (mf_dat eX9_step_p2 15 rfl) rfl rfl ?_
        refine mf_iconst (v := 4) (mf_dat eX9_step_p2 16 rfl) (by decide) ?_
        refine mf_putI (r := (RX9, TX9, 10)) (ci := 9) (k := 2) (kI := 2) (t := 0) (mf_dat eX9_step_p2 17 rfl) fl_X9_29 rfl rfl (by decide) rfl (by decide) rfl (by decide) (fun h9 => absurd h9 (by decide)) is5 ?_
        generalize qh2 : mf_up h1 5 2 4 = h2
        replace hyp := hyp _ qh2.symm
        exact mf_return (mf_dat eX9_step_p2 18 rfl) rfl ⟨hG, hyp⟩
set_option maxRecDepth 100000 in
set_option maxHeartbeats 4000000 in
theorem wX9_step {C : mf_G} {l : Launch} {d : Nat} {K : mf_Kt} {g h : mf_M} (hyp : ((h 5 2 = 1 → BX9_step_21 C l d K 1 g h) ∧ (¬ h 5 2 = 1 → ((¬ h 5 2 = 2 → BX9_step_21 C l d K 0 g h) ∧ (h 5 2 = 2 → BX9_step_21 C l d K 1 g h))))) : xM C l d YX9_step [(2, 5)] g h K := by
  intro hG
  refine mf_entry (by decide) (Nat.le_of_ble_eq_true rfl) ?_
  refine mf_aload_n (mf_dat eX9_step_p0 0 rfl) rfl rfl ?_
  refine mf_getf (r := (RX9, TX9, 10)) (ci := 9) (k := 2) (t := 0) (v := h 5 2) (mf_dat eX9_step_p0 1 rfl) fl_X9_29 rfl (by decide) rfl rfl is5 ?_
  refine mf_iconst (v := 1) (mf_dat eX9_step_p0 2 rfl) (by decide) ?_
  refine mf_icmp_eq (tgt := 16) (mf_dat eX9_step_p0 3 rfl) (by decide) (fun hc => ?_) (fun hc => ?_)
  · replace hyp := hyp.1 hc
    refine mf_iconst (v := 1) (mf_dat eX9_step_p0 8 rfl) (by decide) ?_
    refine mf_goto (tgt := 21) (mf_dat eX9_step_p0 9 rfl) (by decide) ?_
    exact mf_sub [0] rfl (hyp hG)
  · replace hyp := hyp.2 hc
    refine mf_aload_n (mf_dat eX9_step_p0 4 rfl) rfl rfl ?_
    refine mf_getf (r := (RX9, TX9, 10)) (ci := 9) (k := 2) (t := 0) (v := h 5 2) (mf_dat eX9_step_p0 5 rfl) fl_X9_29 rfl (by decide) rfl rfl is5 ?_
    refine mf_iconst (v := 2) (mf_dat eX9_step_p0 6 rfl) (by decide) ?_
    refine mf_icmp_ne (tgt := 20) (mf_dat eX9_step_p0 7 rfl) (by decide) (fun hc => ?_) (fun hc => ?_)
    · replace hyp := hyp.1 hc
      refine mf_iconst (v := 0) (mf_dat eX9_step_p0 10 rfl) (by decide) ?_
      exact mf_sub [0] rfl (hyp hG)
    · replace hyp := hyp.2 hc
      refine mf_iconst (v := 1) (mf_dat eX9_step_p0 8 rfl) (by decide) ?_
      refine mf_goto (tgt := 21) (mf_dat eX9_step_p0 9 rfl) (by decide) ?_
      exact mf_sub [0] rfl (hyp hG)
abbrev BX9_takeWhole_13 (C : mf_G) (l : Launch) (d : Nat) (K : mf_Kt) (x1 s0 : Int) (g h : mf_M) : Prop := jX C l d YX9_takeWhole K 13 [(0, (2, 5)), (1, (0, x1))] [(0, s0)] g h
abbrev BX9_takeWhole_37 (C : mf_G) (l : Launch) (d : Nat) (K : mf_Kt) (x1 x2 x3 s0 : Int) (g h : mf_M) : Prop := jX C l d YX9_takeWhole K 37 [(0, (2, 5)), (1, (0, x1)), (2, (0, x2)), (3, (0, x3))] [(0, s0)] g h
abbrev BX9_takeWhole_57 (C : mf_G) (l : Launch) (d : Nat) (K : mf_Kt) (x1 x2 x3 x4 x5 x6 : Int) (g h : mf_M) : Prop := jX C l d YX9_takeWhole K 57 [(0, (2, 5)), (1, (0, x1)), (2, (0, x2)), (3, (0, x3)), (4, (0, x4)), (5, (0, x5)), (6, (0, x6))] [] g h
abbrev BX9_takeWhole_181 (C : mf_G) (l : Launch) (d : Nat) (K : mf_Kt) (x2 x5 x6 : Int) (g h : mf_M) : Prop := jX C l d YX9_takeWhole K 181 [(0, (2, 5)), (2, (0, x2)), (5, (0, x5)), (6, (0, x6))] [] g h
set_option maxRecDepth 100000 in
set_option maxHeartbeats 4000000 in
theorem vX9_takeWhole_13 {C : mf_G} {l : Launch} {d : Nat} {K : mf_Kt} {x1 s0 : Int} {g h : mf_M} (hyp : ((s0 = 0 → ((s0 = 0 → BX9_takeWhole_37 C l d K x1 s0 48 57 g h) ∧ (¬ s0 = 0 → BX9_takeWhole_37 C l d K x1 s0 48 122 g h))) ∧ (¬ s0 = 0 → ((s0 = 0 → BX9_takeWhole_37 C l d K x1 s0 97 57 g h) ∧ (¬ s0 = 0 → BX9_takeWhole_37 C l d K x1 s0 97 122 g h))))) : BX9_takeWhole_13 C l d K x1 s0 g h := by
  intro hG
  refine mf_istore_n (mf_dat eX9_takeWhole_p0 7 rfl) rfl (by decide) ?_
  refine mf_iload_n (mf_dat eX9_takeWhole_p0 8 rfl) rfl rfl ?_
  refine mf_if_eq (tgt := 23) (mf_dat eX9_takeWhole_p0 9 rfl) (by decide) (fun hc => ?_) (fun hc => ?_)
  · replace hyp := hyp.1 hc
    refine mf_bipush (v := 48) (mf_dat eX9_takeWhole_p0 12 rfl) (by decide) ?_
    refine mf_istore_n (mf_dat eX9_takeWhole_p0 13 rfl) rfl (by decide) ?_
    refine mf_iload_n (mf_dat eX9_takeWhole_p0 14 rfl) rfl rfl ?_
    refine mf_if_eq (tgt := 35) (mf_dat eX9_takeWhole_p0 15 rfl) (by decide) (fun hc => ?_) (fun hc => ?_)
    · replace hyp := hyp.1 hc
      refine mf_bipush (v := 57) (mf_dat eX9_takeWhole_p0 18 rfl) (by decide) ?_
      exact mf_sub [2, 3, 1, 0] rfl (hyp hG)
    · replace hyp := hyp.2 hc
      refine mf_bipush (v := 122) (mf_dat eX9_takeWhole_p0 16 rfl) (by decide) ?_
      refine mf_goto (tgt := 37) (mf_dat eX9_takeWhole_p0 17 rfl) (by decide) ?_
      exact mf_sub [2, 3, 1, 0] rfl (hyp hG)
  · replace hyp := hyp.2 hc
    refine mf_bipush (v := 97) (mf_dat eX9_takeWhole_p0 10 rfl) (by decide) ?_
    refine mf_goto (tgt := 25) (mf_dat eX9_takeWhole_p0 11 rfl) (by decide) ?_
    refine mf_istore_n (mf_dat eX9_takeWhole_p0 13 rfl) rfl (by decide) ?_
    refine mf_iload_n (mf_dat eX9_takeWhole_p0 14 rfl) rfl rfl ?_
    refine mf_if_eq (tgt := 35) (mf_dat eX9_takeWhole_p0 15 rfl) (by decide) (fun hc => ?_) (fun hc => ?_)
    · replace hyp := hyp.1 hc
      refine mf_bipush (v := 57) (mf_dat eX9_takeWhole_p0 18 rfl) (by decide) ?_
      exact mf_sub [2, 3, 1, 0] rfl (hyp hG)
    · replace hyp := hyp.2 hc
      refine mf_bipush (v := 122) (mf_dat eX9_takeWhole_p0 16 rfl) (by decide) ?_
      refine mf_goto (tgt := 37) (mf_dat eX9_takeWhole_p0 17 rfl) (by decide) ?_
      exact mf_sub [2, 3, 1, 0] rfl (hyp hG)
set_option maxRecDepth 100000 in
set_option maxHeartbeats 4000000 in
theorem vX9_takeWhole_37 {C : mf_G} {l : Launch} {d : Nat} {K : mf_Kt} {x1 x2 x3 s0 : Int} {g h : mf_M} (hyp : ((x2 = 0 → (∀ v1 : Int, v1 = h 5 3 → BX9_takeWhole_57 C l d K x1 x2 x3 s0 4 v1 g h)) ∧ (¬ x2 = 0 → (∀ v2 : Int, v2 = h 5 3 → BX9_takeWhole_57 C l d K x1 x2 x3 s0 6 v2 g h)))) : BX9_takeWhole_37 C l d K x1 x2 x3 s0 g h := by
  intro hG
  refine mf_istore (mf_dat eX9_takeWhole_p0 19 rfl) (by decide) ?_
  refine mf_iload_n (mf_dat eX9_takeWhole_p0 20 rfl) rfl rfl ?_
  refine mf_if_eq (tgt := 48) (mf_dat eX9_takeWhole_p0 21 rfl) (by decide) (fun hc => ?_) (fun hc => ?_)
  · replace hyp := hyp.1 hc
    refine mf_iconst (v := 4) (mf_dat eX9_takeWhole_p0 24 rfl) (by decide) ?_
    refine mf_istore (mf_dat eX9_takeWhole_p0 25 rfl) (by decide) ?_
    refine mf_aload_n (mf_dat eX9_takeWhole_p0 26 rfl) rfl rfl ?_
    refine mf_getf (r := (RX9, TX9, 10)) (ci := 9) (k := 3) (t := 0) (v := h 5 3) (mf_dat eX9_takeWhole_p0 27 rfl) fl_X9_53 rfl (by decide) rfl rfl is5 ?_
    generalize qv1 : h 5 3 = v1
    replace hyp := hyp _ qv1.symm
    refine mf_istore (mf_dat eX9_takeWhole_p0 28 rfl) (by decide) ?_
    exact mf_sub [3, 4, 5, 6, 2, 1, 0] rfl (hyp hG)
  · replace hyp := hyp.2 hc
    refine mf_bipush (v := 6) (mf_dat eX9_takeWhole_p0 22 rfl) (by decide) ?_
    refine mf_goto (tgt := 49) (mf_dat eX9_takeWhole_p0 23 rfl) (by decide) ?_
    refine mf_istore (mf_dat eX9_takeWhole_p0 25 rfl) (by decide) ?_
    refine mf_aload_n (mf_dat eX9_takeWhole_p0 26 rfl) rfl rfl ?_
    refine mf_getf (r := (RX9, TX9, 10)) (ci := 9) (k := 3) (t := 0) (v := h 5 3) (mf_dat eX9_takeWhole_p0 27 rfl) fl_X9_53 rfl (by decide) rfl rfl is5 ?_
    generalize qv2 : h 5 3 = v2
    replace hyp := hyp _ qv2.symm
    refine mf_istore (mf_dat eX9_takeWhole_p0 28 rfl) (by decide) ?_
    exact mf_sub [3, 4, 5, 6, 2, 1, 0] rfl (hyp hG)
set_option maxRecDepth 100000 in
set_option maxHeartbeats 4000000 in
theorem vX9_takeWhole_57 {C : mf_G} {l : Launch} {d : Nat} {K : mf_Kt} {x1 x2 x3 x4 x5 x6 : Int} {g h : mf_M} (hyp : ((x6 < 0 → (∀ v1 : Int, v1 = h 5 4 → BX9_takeWhole_181 C l d K x2 x5 v1 g h)) ∧ (¬ x6 < 0 → ((x1 ≤ x6 → (∀ v2 : Int, v2 = h 5 4 → BX9_takeWhole_181 C l d K x2 x5 v2 g h)) ∧ (¬ x1 ≤ x6 → 0 ≤ x6 ∧ x6 < 1600 ∧ ((h 4 x6 < x3 → (∀ v5 : Int, v5 = h 5 4 → BX9_takeWhole_181 C l d K x2 x5 v5 g h)) ∧ (¬ h 4 x6 < x3 → ((x4 < h 4 x6 → (∀ v6 : Int, v6 = h 5 4 → BX9_takeWhole_181 C l d K x2 x5 v6 g h)) ∧ (¬ x4 < h 4 x6 → (∀ h7 : mf_M, h7 = mf_up h 5 4 (mf_w32 ((h 5 4) + 1)) → ((x5 < h7 5 4 → (∀ v8 : Int, v8 = mf_w32 (x6 + 1) → BX9_takeWhole_57 C l d K x1 x2 x3 x4 x5 v8 g h7)) ∧ (¬ x5 < h7 5 4 → ((x2 = 0 → (∀ h9 : mf_M, h9 = mf_up h7 5 5 (mf_w32 ((mf_w32 ((mf_w32 ((h7 5 5) * 10)) + (h7 4 x6))) - x3)) → (∀ v10 : Int, v10 = mf_w32 (x6 + 1) → BX9_takeWhole_57 C l d K x1 x2 x3 x4 x5 v10 g h9))) ∧ (¬ x2 = 0 → (∀ h11 : mf_M, h11 = mf_up h7 5 5 (mf_w32 ((mf_w32 ((mf_w32 ((mf_w32 ((h7 5 5) * 27)) + (h7 4 x6))) - x3)) + 1)) → (∀ v12 : Int, v12 = mf_w32 (x6 + 1) → BX9_takeWhole_57 C l d K x1 x2 x3 x4 x5 v12 g h11)))))))))))))))) : BX9_takeWhole_57 C l d K x1 x2 x3 x4 x5 x6 g h := by
  intro hG
  refine mf_iload (mf_dat eX9_takeWhole_p0 29 rfl) rfl ?_
  refine mf_if_lt (tgt := 175) (mf_dat eX9_takeWhole_p0 30 rfl) (by decide) (fun hc => ?_) (fun hc => ?_)
  · replace hyp := hyp.1 hc
    refine mf_aload_n (mf_dat eX9_takeWhole_p1 31 rfl) rfl rfl ?_
    refine mf_getf (r := (RX9, TX9, 10)) (ci := 9) (k := 4) (t := 0) (v := h 5 4) (mf_dat eX9_takeWhole_p1 32 rfl) fl_X9_56 rfl (by decide) rfl rfl is5 ?_
    generalize qv1 : h 5 4 = v1
    replace hyp := hyp _ qv1.symm
    refine mf_istore (mf_dat eX9_takeWhole_p1 33 rfl) (by decide) ?_
    exact mf_sub [1, 3, 6, 0] rfl (hyp hG)
  · replace hyp := hyp.2 hc
    refine mf_iload (mf_dat eX9_takeWhole_p0 31 rfl) rfl ?_
    refine mf_iload_n (mf_dat eX9_takeWhole_p0 32 rfl) rfl rfl ?_
    refine mf_icmp_ge (tgt := 175) (mf_dat eX9_takeWhole_p0 33 rfl) (by decide) (fun hc => ?_) (fun hc => ?_)
    · replace hyp := hyp.1 hc
      refine mf_aload_n (mf_dat eX9_takeWhole_p1 31 rfl) rfl rfl ?_
      refine mf_getf (r := (RX9, TX9, 10)) (ci := 9) (k := 4) (t := 0) (v := h 5 4) (mf_dat eX9_takeWhole_p1 32 rfl) fl_X9_56 rfl (by decide) rfl rfl is5 ?_
      generalize qv2 : h 5 4 = v2
      replace hyp := hyp _ qv2.symm
      refine mf_istore (mf_dat eX9_takeWhole_p1 33 rfl) (by decide) ?_
      exact mf_sub [1, 3, 6, 0] rfl (hyp hG)
    · replace hyp := hyp.2 hc
      refine mf_aload_n (mf_dat eX9_takeWhole_p0 34 rfl) rfl rfl ?_
      refine mf_getf (r := (RX9, TX9, 10)) (ci := 9) (k := 0) (t := 2) (v := 3) (mf_dat eX9_takeWhole_p0 35 rfl) fl_X9_9 rfl (by decide) rfl (gx_5_0 hG) is5 ?_
      refine mf_getf (r := (RX8, TX8, 2)) (ci := 8) (k := 0) (t := 2) (v := 4) (mf_dat eX9_takeWhole_p0 36 rfl) fl_X9_40 rfl (by decide) rfl (gx_3_0 hG) is3 ?_
      refine mf_iload (mf_dat eX9_takeWhole_p0 37 rfl) rfl ?_
      obtain ⟨ck3, hyp⟩ := hyp
      obtain ⟨ck4, hyp⟩ := hyp
      refine mf_bald (mf_dat eX9_takeWhole_p0 38 rfl) is4 len4 ck3 ck4 ?_
      refine mf_iload_n (mf_dat eX9_takeWhole_p0 39 rfl) rfl rfl ?_
      refine mf_icmp_lt (tgt := 175) (mf_dat eX9_takeWhole_p0 40 rfl) (by decide) (fun hc => ?_) (fun hc => ?_)
      · replace hyp := hyp.1 hc
        refine mf_aload_n (mf_dat eX9_takeWhole_p1 31 rfl) rfl rfl ?_
        refine mf_getf (r := (RX9, TX9, 10)) (ci := 9) (k := 4) (t := 0) (v := h 5 4) (mf_dat eX9_takeWhole_p1 32 rfl) fl_X9_56 rfl (by decide) rfl rfl is5 ?_
        generalize qv5 : h 5 4 = v5
        replace hyp := hyp _ qv5.symm
        refine mf_istore (mf_dat eX9_takeWhole_p1 33 rfl) (by decide) ?_
        exact mf_sub [1, 3, 6, 0] rfl (hyp hG)
      · replace hyp := hyp.2 hc
        refine mf_aload_n (mf_dat eX9_takeWhole_p0 41 rfl) rfl rfl ?_
        refine mf_getf (r := (RX9, TX9, 10)) (ci := 9) (k := 0) (t := 2) (v := 3) (mf_dat eX9_takeWhole_p0 42 rfl) fl_X9_9 rfl (by decide) rfl (gx_5_0 hG) is5 ?_
        refine mf_getf (r := (RX8, TX8, 2)) (ci := 8) (k := 0) (t := 2) (v := 4) (mf_dat eX9_takeWhole_p0 43 rfl) fl_X9_40 rfl (by decide) rfl (gx_3_0 hG) is3 ?_
        refine mf_iload (mf_dat eX9_takeWhole_p0 44 rfl) rfl ?_
        refine mf_bald (mf_dat eX9_takeWhole_p0 45 rfl) is4 len4 ck3 ck4 ?_
        refine mf_iload (mf_dat eX9_takeWhole_p0 46 rfl) rfl ?_
        refine mf_icmp_gt (tgt := 175) (mf_dat eX9_takeWhole_p0 47 rfl) (by decide) (fun hc => ?_) (fun hc => ?_)
        · replace hyp := hyp.1 hc
          refine mf_aload_n (mf_dat eX9_takeWhole_p1 31 rfl) rfl rfl ?_
          refine mf_getf (r := (RX9, TX9, 10)) (ci := 9) (k := 4) (t := 0) (v := h 5 4) (mf_dat eX9_takeWhole_p1 32 rfl) fl_X9_56 rfl (by decide) rfl rfl is5 ?_
          generalize qv6 : h 5 4 = v6
          replace hyp := hyp _ qv6.symm
          refine mf_istore (mf_dat eX9_takeWhole_p1 33 rfl) (by decide) ?_
          exact mf_sub [1, 3, 6, 0] rfl (hyp hG)
        · replace hyp := hyp.2 hc
          refine mf_aload_n (mf_dat eX9_takeWhole_p0 48 rfl) rfl rfl ?_
          refine mf_dup (mf_dat eX9_takeWhole_p0 49 rfl) (by decide) ?_
          refine mf_getf (r := (RX9, TX9, 10)) (ci := 9) (k := 4) (t := 0) (v := h 5 4) (mf_dat eX9_takeWhole_p0 50 rfl) fl_X9_56 rfl (by decide) rfl rfl is5 ?_
          refine mf_iconst (v := 1) (mf_dat eX9_takeWhole_p0 51 rfl) (by decide) ?_
          refine mf_iadd (mf_dat eX9_takeWhole_p0 52 rfl) ?_
          refine mf_putI (r := (RX9, TX9, 10)) (ci := 9) (k := 4) (kI := 4) (t := 0) (mf_dat eX9_takeWhole_p0 53 rfl) fl_X9_56 rfl rfl (by decide) rfl (by decide) rfl (by decide) (fun h9 => absurd h9 (by decide)) is5 ?_
          generalize qh7 : mf_up h 5 4 (mf_w32 ((h 5 4) + 1)) = h7
          replace hyp := hyp _ qh7.symm
          refine mf_aload_n (mf_dat eX9_takeWhole_p0 54 rfl) rfl rfl ?_
          refine mf_getf (r := (RX9, TX9, 10)) (ci := 9) (k := 4) (t := 0) (v := h7 5 4) (mf_dat eX9_takeWhole_p0 55 rfl) fl_X9_56 rfl (by decide) rfl rfl is5 ?_
          refine mf_iload (mf_dat eX9_takeWhole_p0 56 rfl) rfl ?_
          refine mf_icmp_gt (tgt := 169) (mf_dat eX9_takeWhole_p0 57 rfl) (by decide) (fun hc => ?_) (fun hc => ?_)
          · replace hyp := hyp.1 hc
            refine mf_iinc (mf_dat eX9_takeWhole_p1 29 rfl) rfl (by decide) (by decide) ?_
            generalize qv8 : mf_w32 (x6 + 1) = v8
            replace hyp := hyp _ qv8.symm
            refine mf_goto (tgt := 57) (mf_dat eX9_takeWhole_p1 30 rfl) (by decide) ?_
            exact mf_sub [1, 2, 3, 4, 5, 6, 0] rfl (hyp hG)
          · replace hyp := hyp.2 hc
            refine mf_aload_n (mf_dat eX9_takeWhole_p0 58 rfl) rfl rfl ?_
            refine mf_iload_n (mf_dat eX9_takeWhole_p0 59 rfl) rfl rfl ?_
            refine mf_if_eq (tgt := 146) (mf_dat eX9_takeWhole_p1 0 rfl) (by decide) (fun hc => ?_) (fun hc => ?_)
            · replace hyp := hyp.1 hc
              refine mf_aload_n (mf_dat eX9_takeWhole_p1 16 rfl) rfl rfl ?_
              refine mf_getf (r := (RX9, TX9, 10)) (ci := 9) (k := 5) (t := 0) (v := h7 5 5) (mf_dat eX9_takeWhole_p1 17 rfl) fl_X9_57 rfl (by decide) rfl rfl is5 ?_
              refine mf_bipush (v := 10) (mf_dat eX9_takeWhole_p1 18 rfl) (by decide) ?_
              refine mf_imul (mf_dat eX9_takeWhole_p1 19 rfl) ?_
              refine mf_aload_n (mf_dat eX9_takeWhole_p1 20 rfl) rfl rfl ?_
              refine mf_getf (r := (RX9, TX9, 10)) (ci := 9) (k := 0) (t := 2) (v := 3) (mf_dat eX9_takeWhole_p1 21 rfl) fl_X9_9 rfl (by decide) rfl (gx_5_0 hG) is5 ?_
              refine mf_getf (r := (RX8, TX8, 2)) (ci := 8) (k := 0) (t := 2) (v := 4) (mf_dat eX9_takeWhole_p1 22 rfl) fl_X9_40 rfl (by decide) rfl (gx_3_0 hG) is3 ?_
              refine mf_iload (mf_dat eX9_takeWhole_p1 23 rfl) rfl ?_
              refine mf_bald (mf_dat eX9_takeWhole_p1 24 rfl) is4 len4 ck3 ck4 ?_
              refine mf_iadd (mf_dat eX9_takeWhole_p1 25 rfl) ?_
              refine mf_iload_n (mf_dat eX9_takeWhole_p1 26 rfl) rfl rfl ?_
              refine mf_isub (mf_dat eX9_takeWhole_p1 27 rfl) ?_
              refine mf_putI (r := (RX9, TX9, 10)) (ci := 9) (k := 5) (kI := 5) (t := 0) (mf_dat eX9_takeWhole_p1 28 rfl) fl_X9_57 rfl rfl (by decide) rfl (by decide) rfl (by decide) (fun h9 => absurd h9 (by decide)) is5 ?_
              generalize qh9 : mf_up h7 5 5 (mf_w32 ((mf_w32 ((mf_w32 ((h7 5 5) * 10)) + (h7 4 x6))) - x3)) = h9
              replace hyp := hyp _ qh9.symm
              refine mf_iinc (mf_dat eX9_takeWhole_p1 29 rfl) rfl (by decide) (by decide) ?_
              generalize qv10 : mf_w32 (x6 + 1) = v10
              replace hyp := hyp _ qv10.symm
              refine mf_goto (tgt := 57) (mf_dat eX9_takeWhole_p1 30 rfl) (by decide) ?_
              exact mf_sub [1, 2, 3, 4, 5, 6, 0] rfl (hyp hG)
            · replace hyp := hyp.2 hc
              refine mf_aload_n (mf_dat eX9_takeWhole_p1 1 rfl) rfl rfl ?_
              refine mf_getf (r := (RX9, TX9, 10)) (ci := 9) (k := 5) (t := 0) (v := h7 5 5) (mf_dat eX9_takeWhole_p1 2 rfl) fl_X9_57 rfl (by decide) rfl rfl is5 ?_
              refine mf_bipush (v := 27) (mf_dat eX9_takeWhole_p1 3 rfl) (by decide) ?_
              refine mf_imul (mf_dat eX9_takeWhole_p1 4 rfl) ?_
              refine mf_aload_n (mf_dat eX9_takeWhole_p1 5 rfl) rfl rfl ?_
              refine mf_getf (r := (RX9, TX9, 10)) (ci := 9) (k := 0) (t := 2) (v := 3) (mf_dat eX9_takeWhole_p1 6 rfl) fl_X9_9 rfl (by decide) rfl (gx_5_0 hG) is5 ?_
              refine mf_getf (r := (RX8, TX8, 2)) (ci := 8) (k := 0) (t := 2) (v := 4) (mf_dat eX9_takeWhole_p1 7 rfl) fl_X9_40 rfl (by decide) rfl (gx_3_0 hG) is3 ?_
              refine mf_iload (mf_dat eX9_takeWhole_p1 8 rfl) rfl ?_
              refine mf_bald (mf_dat eX9_takeWhole_p1 9 rfl) is4 len4 ck3 ck4 ?_
              refine mf_iadd (mf_dat eX9_takeWhole_p1 10 rfl) ?_
              refine mf_iload_n (mf_dat eX9_takeWhole_p1 11 rfl) rfl rfl ?_
              refine mf_isub (mf_dat eX9_takeWhole_p1 12 rfl) ?_
              refine mf_iconst (v := 1) (mf_dat eX9_takeWhole_p1 13 rfl) (by decide) ?_
              refine mf_iadd (mf_dat eX9_takeWhole_p1 14 rfl) ?_
              refine mf_goto (tgt := 166) (mf_dat eX9_takeWhole_p1 15 rfl) (by decide) ?_
              refine mf_putI (r := (RX9, TX9, 10)) (ci := 9) (k := 5) (kI := 5) (t := 0) (mf_dat eX9_takeWhole_p1 28 rfl) fl_X9_57 rfl rfl (by decide) rfl (by decide) rfl (by decide) (fun h9 => absurd h9 (by decide)) is5 ?_
              generalize qh11 : mf_up h7 5 5 (mf_w32 ((mf_w32 ((mf_w32 ((mf_w32 ((h7 5 5) * 27)) + (h7 4 x6))) - x3)) + 1)) = h11
              replace hyp := hyp _ qh11.symm
              refine mf_iinc (mf_dat eX9_takeWhole_p1 29 rfl) rfl (by decide) (by decide) ?_
              generalize qv12 : mf_w32 (x6 + 1) = v12
              replace hyp := hyp _ qv12.symm
              refine mf_goto (tgt := 57) (mf_dat eX9_takeWhole_p1 30 rfl) (by decide) ?_
              exact mf_sub [1, 2, 3, 4, 5, 6, 0] rfl (hyp hG)
set_option maxRecDepth 100000 in
set_option maxHeartbeats 4000000 in
theorem vX9_takeWhole_181 {C : mf_G} {l : Launch} {d : Nat} {K : mf_Kt} {x2 x5 x6 : Int} {g h : mf_M} (hyp : ((x2 = 0 → ((h 5 4 ≤ x5 → K 0 g h) ∧ (¬ h 5 4 ≤ x5 → (∀ h1 : mf_M, h1 = mf_up h 5 5 (-1) → K 0 g h1)))) ∧ (¬ x2 = 0 → ((x5 ≤ x6 → ((h 5 4 ≤ x5 → K 0 g h) ∧ (¬ h 5 4 ≤ x5 → (∀ h2 : mf_M, h2 = mf_up h 5 5 (-1) → K 0 g h2)))) ∧ (¬ x5 ≤ x6 → (∀ h3 : mf_M, h3 = mf_up h 5 5 (mf_w32 ((h 5 5) * 27)) → (∀ v4 : Int, v4 = mf_w32 (x6 + 1) → BX9_takeWhole_181 C l d K x2 x5 v4 g h3))))))) : BX9_takeWhole_181 C l d K x2 x5 x6 g h := by
  intro hG
  refine mf_iload_n (mf_dat eX9_takeWhole_p1 34 rfl) rfl rfl ?_
  refine mf_if_eq (tgt := 209) (mf_dat eX9_takeWhole_p1 35 rfl) (by decide) (fun hc => ?_) (fun hc => ?_)
  · replace hyp := hyp.1 hc
    refine mf_aload_n (mf_dat eX9_takeWhole_p1 47 rfl) rfl rfl ?_
    refine mf_getf (r := (RX9, TX9, 10)) (ci := 9) (k := 4) (t := 0) (v := h 5 4) (mf_dat eX9_takeWhole_p1 48 rfl) fl_X9_56 rfl (by decide) rfl rfl is5 ?_
    refine mf_iload (mf_dat eX9_takeWhole_p1 49 rfl) rfl ?_
    refine mf_icmp_le (tgt := 223) (mf_dat eX9_takeWhole_p1 50 rfl) (by decide) (fun hc => ?_) (fun hc => ?_)
    · replace hyp := hyp.1 hc
      exact mf_return (mf_dat eX9_takeWhole_p1 54 rfl) rfl ⟨hG, hyp⟩
    · replace hyp := hyp.2 hc
      refine mf_aload_n (mf_dat eX9_takeWhole_p1 51 rfl) rfl rfl ?_
      refine mf_iconst (v := (-1)) (mf_dat eX9_takeWhole_p1 52 rfl) (by decide) ?_
      refine mf_putI (r := (RX9, TX9, 10)) (ci := 9) (k := 5) (kI := 5) (t := 0) (mf_dat eX9_takeWhole_p1 53 rfl) fl_X9_57 rfl rfl (by decide) rfl (by decide) rfl (by decide) (fun h9 => absurd h9 (by decide)) is5 ?_
      generalize qh1 : mf_up h 5 5 (-1) = h1
      replace hyp := hyp _ qh1.symm
      exact mf_return (mf_dat eX9_takeWhole_p1 54 rfl) rfl ⟨hG, hyp⟩
  · replace hyp := hyp.2 hc
    refine mf_iload (mf_dat eX9_takeWhole_p1 36 rfl) rfl ?_
    refine mf_iload (mf_dat eX9_takeWhole_p1 37 rfl) rfl ?_
    refine mf_icmp_ge (tgt := 209) (mf_dat eX9_takeWhole_p1 38 rfl) (by decide) (fun hc => ?_) (fun hc => ?_)
    · replace hyp := hyp.1 hc
      refine mf_aload_n (mf_dat eX9_takeWhole_p1 47 rfl) rfl rfl ?_
      refine mf_getf (r := (RX9, TX9, 10)) (ci := 9) (k := 4) (t := 0) (v := h 5 4) (mf_dat eX9_takeWhole_p1 48 rfl) fl_X9_56 rfl (by decide) rfl rfl is5 ?_
      refine mf_iload (mf_dat eX9_takeWhole_p1 49 rfl) rfl ?_
      refine mf_icmp_le (tgt := 223) (mf_dat eX9_takeWhole_p1 50 rfl) (by decide) (fun hc => ?_) (fun hc => ?_)
      · replace hyp := hyp.1 hc
        exact mf_return (mf_dat eX9_takeWhole_p1 54 rfl) rfl ⟨hG, hyp⟩
      · replace hyp := hyp.2 hc
        refine mf_aload_n (mf_dat eX9_takeWhole_p1 51 rfl) rfl rfl ?_
        refine mf_iconst (v := (-1)) (mf_dat eX9_takeWhole_p1 52 rfl) (by decide) ?_
        refine mf_putI (r := (RX9, TX9, 10)) (ci := 9) (k := 5) (kI := 5) (t := 0) (mf_dat eX9_takeWhole_p1 53 rfl) fl_X9_57 rfl rfl (by decide) rfl (by decide) rfl (by decide) (fun h9 => absurd h9 (by decide)) is5 ?_
        generalize qh2 : mf_up h 5 5 (-1) = h2
        replace hyp := hyp _ qh2.symm
        exact mf_return (mf_dat eX9_takeWhole_p1 54 rfl) rfl ⟨hG, hyp⟩
    · replace hyp := hyp.2 hc
      refine mf_aload_n (mf_dat eX9_takeWhole_p1 39 rfl) rfl rfl ?_
      refine mf_dup (mf_dat eX9_takeWhole_p1 40 rfl) (by decide) ?_
      refine mf_getf (r := (RX9, TX9, 10)) (ci := 9) (k := 5) (t := 0) (v := h 5 5) (mf_dat eX9_takeWhole_p1 41 rfl) fl_X9_57 rfl (by decide) rfl rfl is5 ?_
      refine mf_bipush (v := 27) (mf_dat eX9_takeWhole_p1 42 rfl) (by decide) ?_
      refine mf_imul (mf_dat eX9_takeWhole_p1 43 rfl) ?_
      refine mf_putI (r := (RX9, TX9, 10)) (ci := 9) (k := 5) (kI := 5) (t := 0) (mf_dat eX9_takeWhole_p1 44 rfl) fl_X9_57 rfl rfl (by decide) rfl (by decide) rfl (by decide) (fun h9 => absurd h9 (by decide)) is5 ?_
      generalize qh3 : mf_up h 5 5 (mf_w32 ((h 5 5) * 27)) = h3
      replace hyp := hyp _ qh3.symm
      refine mf_iinc (mf_dat eX9_takeWhole_p1 45 rfl) rfl (by decide) (by decide) ?_
      generalize qv4 : mf_w32 (x6 + 1) = v4
      replace hyp := hyp _ qv4.symm
      refine mf_goto (tgt := 181) (mf_dat eX9_takeWhole_p1 46 rfl) (by decide) ?_
      exact mf_sub [1, 2, 3, 0] rfl (hyp hG)
set_option maxRecDepth 100000 in
set_option maxHeartbeats 4000000 in
theorem wX9_takeWhole {C : mf_G} {l : Launch} {d : Nat} {K : mf_Kt} {x1 : Int} {g h : mf_M} (hyp : ((¬ h 5 2 = 1 → BX9_takeWhole_13 C l d K x1 0 g h) ∧ (h 5 2 = 1 → BX9_takeWhole_13 C l d K x1 1 g h))) : xM C l d YX9_takeWhole [(2, 5), (0, x1)] g h K := by
  intro hG
  refine mf_entry (by decide) (Nat.le_of_ble_eq_true rfl) ?_
  refine mf_aload_n (mf_dat eX9_takeWhole_p0 0 rfl) rfl rfl ?_
  refine mf_getf (r := (RX9, TX9, 10)) (ci := 9) (k := 2) (t := 0) (v := h 5 2) (mf_dat eX9_takeWhole_p0 1 rfl) fl_X9_29 rfl (by decide) rfl rfl is5 ?_
  refine mf_iconst (v := 1) (mf_dat eX9_takeWhole_p0 2 rfl) (by decide) ?_
  refine mf_icmp_ne (tgt := 12) (mf_dat eX9_takeWhole_p0 3 rfl) (by decide) (fun hc => ?_) (fun hc => ?_)
  · replace hyp := hyp.1 hc
    refine mf_iconst (v := 0) (mf_dat eX9_takeWhole_p0 6 rfl) (by decide) ?_
    exact mf_sub [0, 1] rfl (hyp hG)
  · replace hyp := hyp.2 hc
    refine mf_iconst (v := 1) (mf_dat eX9_takeWhole_p0 4 rfl) (by decide) ?_
    refine mf_goto (tgt := 13) (mf_dat eX9_takeWhole_p0 5 rfl) (by decide) ?_
    exact mf_sub [0, 1] rfl (hyp hG)
set_option maxRecDepth 100000 in
set_option maxHeartbeats 4000000 in
theorem wX9_isWord {C : mf_G} {l : Launch} {d : Nat} {K : mf_Kt} {x1 : Int} {g h : mf_M} (hd : 1 ≤ d) (hyp : ((¬ h 5 2 = 1 → K 0 g h) ∧ (h 5 2 = 1 → xM C l 0 YX10_isThat [(2, 1), (0, x1), (0, h 5 5)] g h (fun r1 g2 h3 => ((r1 = 0 → K 0 g2 h3) ∧ (¬ r1 = 0 → K 1 g2 h3)))))) : xM C l d YX9_isWord [(2, 5), (0, x1)] g h K := by
  intro hG
  refine mf_entry (by decide) (Nat.le_of_ble_eq_true rfl) ?_
  refine mf_aload_n (mf_dat eX9_isWord 0 rfl) rfl rfl ?_
  refine mf_getf (r := (RX9, TX9, 10)) (ci := 9) (k := 2) (t := 0) (v := h 5 2) (mf_dat eX9_isWord 1 rfl) fl_X9_29 rfl (by decide) rfl rfl is5 ?_
  refine mf_iconst (v := 1) (mf_dat eX9_isWord 2 rfl) (by decide) ?_
  refine mf_icmp_ne (tgt := 27) (mf_dat eX9_isWord 3 rfl) (by decide) (fun hc => ?_) (fun hc => ?_)
  · replace hyp := hyp.1 hc
    refine mf_iconst (v := 0) (mf_dat eX9_isWord 13 rfl) (by decide) ?_
    exact mf_ireturn (mf_dat eX9_isWord 14 rfl) rfl (Or.inr ⟨rfl, by decide⟩) ⟨hG, hyp⟩
  · replace hyp := hyp.2 hc
    refine mf_aload_n (mf_dat eX9_isWord 4 rfl) rfl rfl ?_
    refine mf_getf (r := (RX9, TX9, 10)) (ci := 9) (k := 1) (t := 2) (v := 1) (mf_dat eX9_isWord 5 rfl) fl_X9_15 rfl (by decide) rfl (gx_5_1 hG) is5 ?_
    refine mf_iload_n (mf_dat eX9_isWord 6 rfl) rfl rfl ?_
    refine mf_aload_n (mf_dat eX9_isWord 7 rfl) rfl rfl ?_
    refine mf_getf (r := (RX9, TX9, 10)) (ci := 9) (k := 5) (t := 0) (v := h 5 5) (mf_dat eX9_isWord 8 rfl) fl_X9_57 rfl (by decide) rfl rfl is5 ?_
    refine mf_callV (Yc := YX10_isThat) (r := (RX10, TX10, 1)) (ci := 10) (mf_dat eX9_isWord 9 rfl) ml_X9_66 okX10_isThat im_X10_isThat sl_X10_isThat rfl rfl rfl rfl (Nat.le_of_ble_eq_true rfl) (mf_rr (Nat.le_trans (by decide) hd) (Nat.le_refl _)) (Nat.le_refl _) is1 (hyp hG) (fun r1 g2 h3 hyp => ?_)
    obtain ⟨hG, hyp⟩ := hyp
    refine mf_if_eq (tgt := 27) (mf_dat eX9_isWord 10 rfl) (by decide) (fun hc => ?_) (fun hc => ?_)
    · replace hyp := hyp.1 hc
      refine mf_iconst (v := 0) (mf_dat eX9_isWord 13 rfl) (by decide) ?_
      exact mf_ireturn (mf_dat eX9_isWord 14 rfl) rfl (Or.inr ⟨rfl, by decide⟩) ⟨hG, hyp⟩
    · replace hyp := hyp.2 hc
      refine mf_iconst (v := 1) (mf_dat eX9_isWord 11 rfl) (by decide) ?_
      refine mf_goto (tgt := 28) (mf_dat eX9_isWord 12 rfl) (by decide) ?_
      exact mf_ireturn (mf_dat eX9_isWord 14 rfl) rfl (Or.inr ⟨rfl, by decide⟩) ⟨hG, hyp⟩
set_option maxRecDepth 100000 in
set_option maxHeartbeats 4000000 in
theorem wX9_isSign {C : mf_G} {l : Launch} {d : Nat} {K : mf_Kt} {x1 : Int} {g h : mf_M} (hyp : ((¬ h 5 2 = 3 → K 0 g h) ∧ (h 5 2 = 3 → ((¬ h 5 5 = x1 → K 0 g h) ∧ (h 5 5 = x1 → K 1 g h))))) : xM C l d YX9_isSign [(2, 5), (0, x1)] g h K := by
  intro hG
  refine mf_entry (by decide) (Nat.le_of_ble_eq_true rfl) ?_
  refine mf_aload_n (mf_dat eX9_isSign 0 rfl) rfl rfl ?_
  refine mf_getf (r := (RX9, TX9, 10)) (ci := 9) (k := 2) (t := 0) (v := h 5 2) (mf_dat eX9_isSign 1 rfl) fl_X9_29 rfl (by decide) rfl rfl is5 ?_
  refine mf_iconst (v := 3) (mf_dat eX9_isSign 2 rfl) (by decide) ?_
  refine mf_icmp_ne (tgt := 20) (mf_dat eX9_isSign 3 rfl) (by decide) (fun hc => ?_) (fun hc => ?_)
  · replace hyp := hyp.1 hc
    refine mf_iconst (v := 0) (mf_dat eX9_isSign 10 rfl) (by decide) ?_
    exact mf_ireturn (mf_dat eX9_isSign 11 rfl) rfl (Or.inr ⟨rfl, by decide⟩) ⟨hG, hyp⟩
  · replace hyp := hyp.2 hc
    refine mf_aload_n (mf_dat eX9_isSign 4 rfl) rfl rfl ?_
    refine mf_getf (r := (RX9, TX9, 10)) (ci := 9) (k := 5) (t := 0) (v := h 5 5) (mf_dat eX9_isSign 5 rfl) fl_X9_57 rfl (by decide) rfl rfl is5 ?_
    refine mf_iload_n (mf_dat eX9_isSign 6 rfl) rfl rfl ?_
    refine mf_icmp_ne (tgt := 20) (mf_dat eX9_isSign 7 rfl) (by decide) (fun hc => ?_) (fun hc => ?_)
    · replace hyp := hyp.1 hc
      refine mf_iconst (v := 0) (mf_dat eX9_isSign 10 rfl) (by decide) ?_
      exact mf_ireturn (mf_dat eX9_isSign 11 rfl) rfl (Or.inr ⟨rfl, by decide⟩) ⟨hG, hyp⟩
    · replace hyp := hyp.2 hc
      refine mf_iconst (v := 1) (mf_dat eX9_isSign 8 rfl) (by decide) ?_
      refine mf_goto (tgt := 21) (mf_dat eX9_isSign 9 rfl) (by decide) ?_
      exact mf_ireturn (mf_dat eX9_isSign 11 rfl) rfl (Or.inr ⟨rfl, by decide⟩) ⟨hG, hyp⟩
set_option maxRecDepth 100000 in
set_option maxHeartbeats 4000000 in
theorem wX9_fail {C : mf_G} {l : Launch} {d : Nat} {K : mf_Kt} {x1 x2 : Int} {g h : mf_M} (hyp : ((¬ h 5 8 = 0 → K 0 g h) ∧ (h 5 8 = 0 → (∀ h1 : mf_M, h1 = mf_up h 5 8 x1 → (∀ h2 : mf_M, h2 = mf_up h1 5 9 x2 → K 0 g h2))))) : xM C l d YX9_fail [(2, 5), (0, x1), (0, x2)] g h K := by
  intro hG
  refine mf_entry (by decide) (Nat.le_of_ble_eq_true rfl) ?_
  refine mf_aload_n (mf_dat eX9_fail 0 rfl) rfl rfl ?_
  refine mf_getf (r := (RX9, TX9, 10)) (ci := 9) (k := 8) (t := 0) (v := h 5 8) (mf_dat eX9_fail 1 rfl) fl_X9_19 rfl (by decide) rfl rfl is5 ?_
  refine mf_if_ne (tgt := 17) (mf_dat eX9_fail 2 rfl) (by decide) (fun hc => ?_) (fun hc => ?_)
  · replace hyp := hyp.1 hc
    exact mf_return (mf_dat eX9_fail 9 rfl) rfl ⟨hG, hyp⟩
  · replace hyp := hyp.2 hc
    refine mf_aload_n (mf_dat eX9_fail 3 rfl) rfl rfl ?_
    refine mf_iload_n (mf_dat eX9_fail 4 rfl) rfl rfl ?_
    refine mf_putI (r := (RX9, TX9, 10)) (ci := 9) (k := 8) (kI := 8) (t := 0) (mf_dat eX9_fail 5 rfl) fl_X9_19 rfl rfl (by decide) rfl (by decide) rfl (by decide) (fun h9 => absurd h9 (by decide)) is5 ?_
    generalize qh1 : mf_up h 5 8 x1 = h1
    replace hyp := hyp _ qh1.symm
    refine mf_aload_n (mf_dat eX9_fail 6 rfl) rfl rfl ?_
    refine mf_iload_n (mf_dat eX9_fail 7 rfl) rfl rfl ?_
    refine mf_putI (r := (RX9, TX9, 10)) (ci := 9) (k := 9) (kI := 9) (t := 0) (mf_dat eX9_fail 8 rfl) fl_X9_23 rfl rfl (by decide) rfl (by decide) rfl (by decide) (fun h9 => absurd h9 (by decide)) is5 ?_
    generalize qh2 : mf_up h1 5 9 x2 = h2
    replace hyp := hyp _ qh2.symm
    exact mf_return (mf_dat eX9_fail 9 rfl) rfl ⟨hG, hyp⟩
set_option maxRecDepth 100000 in
set_option maxHeartbeats 4000000 in
theorem wX9_passSign {C : mf_G} {l : Launch} {d : Nat} {K : mf_Kt} {x1 : Int} {g h : mf_M} (hd : 3 ≤ d) (hyp : ((¬ h 5 8 = 0 → ((¬ h 5 8 = 0 → K 0 g h) ∧ (h 5 8 = 0 → xM C l 2 YX9_step [(2, 5)] g h (fun r1 g2 h3 => K 0 g2 h3)))) ∧ (h 5 8 = 0 → xM C l 0 YX9_isSign [(2, 5), (0, x1)] g h (fun r4 g5 h6 => ((¬ r4 = 0 → ((¬ h6 5 8 = 0 → K 0 g5 h6) ∧ (h6 5 8 = 0 → xM C l 2 YX9_step [(2, 5)] g5 h6 (fun r7 g8 h9 => K 0 g8 h9)))) ∧ (r4 = 0 → xM C l 0 YX9_fail [(2, 5), (0, 1), (0, h6 5 3)] g5 h6 (fun r10 g11 h12 => ((¬ h12 5 8 = 0 → K 0 g11 h12) ∧ (h12 5 8 = 0 → xM C l 2 YX9_step [(2, 5)] g11 h12 (fun r13 g14 h15 => K 0 g14 h15)))))))))) : xM C l d YX9_passSign [(2, 5), (0, x1)] g h K := by
  intro hG
  refine mf_entry (by decide) (Nat.le_of_ble_eq_true rfl) ?_
  refine mf_aload_n (mf_dat eX9_passSign 0 rfl) rfl rfl ?_
  refine mf_getf (r := (RX9, TX9, 10)) (ci := 9) (k := 8) (t := 0) (v := h 5 8) (mf_dat eX9_passSign 1 rfl) fl_X9_19 rfl (by decide) rfl rfl is5 ?_
  refine mf_if_ne (tgt := 24) (mf_dat eX9_passSign 2 rfl) (by decide) (fun hc => ?_) (fun hc => ?_)
  · replace hyp := hyp.1 hc
    refine mf_aload_n (mf_dat eX9_passSign 12 rfl) rfl rfl ?_
    refine mf_getf (r := (RX9, TX9, 10)) (ci := 9) (k := 8) (t := 0) (v := h 5 8) (mf_dat eX9_passSign 13 rfl) fl_X9_19 rfl (by decide) rfl rfl is5 ?_
    refine mf_if_ne (tgt := 35) (mf_dat eX9_passSign 14 rfl) (by decide) (fun hc => ?_) (fun hc => ?_)
    · replace hyp := hyp.1 hc
      exact mf_return (mf_dat eX9_passSign 17 rfl) rfl ⟨hG, hyp⟩
    · replace hyp := hyp.2 hc
      refine mf_aload_n (mf_dat eX9_passSign 15 rfl) rfl rfl ?_
      refine mf_callV (Yc := YX9_step) (r := (RX9, TX9, 10)) (ci := 9) (mf_dat eX9_passSign 16 rfl) ml_X9_32 okX9_step im_X9_step sl_X9_step rfl rfl rfl rfl (Nat.le_of_ble_eq_true rfl) (mf_rr (Nat.le_trans (by decide) hd) (Nat.le_refl _)) (Nat.le_refl _) is5 (hyp hG) (fun r1 g2 h3 hyp => ?_)
      obtain ⟨hG, hyp⟩ := hyp
      exact mf_return (mf_dat eX9_passSign 17 rfl) rfl ⟨hG, hyp⟩
  · replace hyp := hyp.2 hc
    refine mf_aload_n (mf_dat eX9_passSign 3 rfl) rfl rfl ?_
    refine mf_iload_n (mf_dat eX9_passSign 4 rfl) rfl rfl ?_
    refine mf_callV (Yc := YX9_isSign) (r := (RX9, TX9, 10)) (ci := 9) (mf_dat eX9_passSign 5 rfl) ml_X9_70 okX9_isSign im_X9_isSign sl_X9_isSign rfl rfl rfl rfl (Nat.le_of_ble_eq_true rfl) (mf_rr (Nat.le_trans (by decide) hd) (Nat.le_refl _)) (Nat.le_refl _) is5 (hyp hG) (fun r4 g5 h6 hyp => ?_)
    obtain ⟨hG, hyp⟩ := hyp
    refine mf_if_ne (tgt := 24) (mf_dat eX9_passSign 6 rfl) (by decide) (fun hc => ?_) (fun hc => ?_)
    · replace hyp := hyp.1 hc
      refine mf_aload_n (mf_dat eX9_passSign 12 rfl) rfl rfl ?_
      refine mf_getf (r := (RX9, TX9, 10)) (ci := 9) (k := 8) (t := 0) (v := h6 5 8) (mf_dat eX9_passSign 13 rfl) fl_X9_19 rfl (by decide) rfl rfl is5 ?_
      refine mf_if_ne (tgt := 35) (mf_dat eX9_passSign 14 rfl) (by decide) (fun hc => ?_) (fun hc => ?_)
      · replace hyp := hyp.1 hc
        exact mf_return (mf_dat eX9_passSign 17 rfl) rfl ⟨hG, hyp⟩
      · replace hyp := hyp.2 hc
        refine mf_aload_n (mf_dat eX9_passSign 15 rfl) rfl rfl ?_
        refine mf_callV (Yc := YX9_step) (r := (RX9, TX9, 10)) (ci := 9) (mf_dat eX9_passSign 16 rfl) ml_X9_32 okX9_step im_X9_step sl_X9_step rfl rfl rfl rfl (Nat.le_of_ble_eq_true rfl) (mf_rr (Nat.le_trans (by decide) hd) (Nat.le_refl _)) (Nat.le_refl _) is5 (hyp hG) (fun r7 g8 h9 hyp => ?_)
        obtain ⟨hG, hyp⟩ := hyp
        exact mf_return (mf_dat eX9_passSign 17 rfl) rfl ⟨hG, hyp⟩
    · replace hyp := hyp.2 hc
      refine mf_aload_n (mf_dat eX9_passSign 7 rfl) rfl rfl ?_
      refine mf_iconst (v := 1) (mf_dat eX9_passSign 8 rfl) (by decide) ?_
      refine mf_aload_n (mf_dat eX9_passSign 9 rfl) rfl rfl ?_
      refine mf_getf (r := (RX9, TX9, 10)) (ci := 9) (k := 3) (t := 0) (v := h6 5 3) (mf_dat eX9_passSign 10 rfl) fl_X9_53 rfl (by decide) rfl rfl is5 ?_
      refine mf_callV (Yc := YX9_fail) (r := (RX9, TX9, 10)) (ci := 9) (mf_dat eX9_passSign 11 rfl) ml_X9_74 okX9_fail im_X9_fail sl_X9_fail rfl rfl rfl rfl (Nat.le_of_ble_eq_true rfl) (mf_rr (Nat.le_trans (by decide) hd) (Nat.le_refl _)) (Nat.le_refl _) is5 (hyp hG) (fun r10 g11 h12 hyp => ?_)
      obtain ⟨hG, hyp⟩ := hyp
      refine mf_aload_n (mf_dat eX9_passSign 12 rfl) rfl rfl ?_
      refine mf_getf (r := (RX9, TX9, 10)) (ci := 9) (k := 8) (t := 0) (v := h12 5 8) (mf_dat eX9_passSign 13 rfl) fl_X9_19 rfl (by decide) rfl rfl is5 ?_
      refine mf_if_ne (tgt := 35) (mf_dat eX9_passSign 14 rfl) (by decide) (fun hc => ?_) (fun hc => ?_)
      · replace hyp := hyp.1 hc
        exact mf_return (mf_dat eX9_passSign 17 rfl) rfl ⟨hG, hyp⟩
      · replace hyp := hyp.2 hc
        refine mf_aload_n (mf_dat eX9_passSign 15 rfl) rfl rfl ?_
        refine mf_callV (Yc := YX9_step) (r := (RX9, TX9, 10)) (ci := 9) (mf_dat eX9_passSign 16 rfl) ml_X9_32 okX9_step im_X9_step sl_X9_step rfl rfl rfl rfl (Nat.le_of_ble_eq_true rfl) (mf_rr (Nat.le_trans (by decide) hd) (Nat.le_refl _)) (Nat.le_refl _) is5 (hyp hG) (fun r13 g14 h15 hyp => ?_)
        obtain ⟨hG, hyp⟩ := hyp
        exact mf_return (mf_dat eX9_passSign 17 rfl) rfl ⟨hG, hyp⟩
set_option maxRecDepth 100000 in
set_option maxHeartbeats 4000000 in
theorem wX9_passWord {C : mf_G} {l : Launch} {d : Nat} {K : mf_Kt} {x1 : Int} {g h : mf_M} (hd : 3 ≤ d) (hyp : ((¬ h 5 8 = 0 → ((¬ h 5 8 = 0 → K 0 g h) ∧ (h 5 8 = 0 → xM C l 2 YX9_step [(2, 5)] g h (fun r1 g2 h3 => K 0 g2 h3)))) ∧ (h 5 8 = 0 → xM C l 1 YX9_isWord [(2, 5), (0, x1)] g h (fun r4 g5 h6 => ((¬ r4 = 0 → ((¬ h6 5 8 = 0 → K 0 g5 h6) ∧ (h6 5 8 = 0 → xM C l 2 YX9_step [(2, 5)] g5 h6 (fun r7 g8 h9 => K 0 g8 h9)))) ∧ (r4 = 0 → xM C l 0 YX9_fail [(2, 5), (0, 1), (0, h6 5 3)] g5 h6 (fun r10 g11 h12 => ((¬ h12 5 8 = 0 → K 0 g11 h12) ∧ (h12 5 8 = 0 → xM C l 2 YX9_step [(2, 5)] g11 h12 (fun r13 g14 h15 => K 0 g14 h15)))))))))) : xM C l d YX9_passWord [(2, 5), (0, x1)] g h K := by
  intro hG
  refine mf_entry (by decide) (Nat.le_of_ble_eq_true rfl) ?_
  refine mf_aload_n (mf_dat eX9_passWord 0 rfl) rfl rfl ?_
  refine mf_getf (r := (RX9, TX9, 10)) (ci := 9) (k := 8) (t := 0) (v := h 5 8) (mf_dat eX9_passWord 1 rfl) fl_X9_19 rfl (by decide) rfl rfl is5 ?_
  refine mf_if_ne (tgt := 24) (mf_dat eX9_passWord 2 rfl) (by decide) (fun hc => ?_) (fun hc => ?_)
  · replace hyp := hyp.1 hc
    refine mf_aload_n (mf_dat eX9_passWord 12 rfl) rfl rfl ?_
    refine mf_getf (r := (RX9, TX9, 10)) (ci := 9) (k := 8) (t := 0) (v := h 5 8) (mf_dat eX9_passWord 13 rfl) fl_X9_19 rfl (by decide) rfl rfl is5 ?_
    refine mf_if_ne (tgt := 35) (mf_dat eX9_passWord 14 rfl) (by decide) (fun hc => ?_) (fun hc => ?_)
    · replace hyp := hyp.1 hc
      exact mf_return (mf_dat eX9_passWord 17 rfl) rfl ⟨hG, hyp⟩
    · replace hyp := hyp.2 hc
      refine mf_aload_n (mf_dat eX9_passWord 15 rfl) rfl rfl ?_
      refine mf_callV (Yc := YX9_step) (r := (RX9, TX9, 10)) (ci := 9) (mf_dat eX9_passWord 16 rfl) ml_X9_32 okX9_step im_X9_step sl_X9_step rfl rfl rfl rfl (Nat.le_of_ble_eq_true rfl) (mf_rr (Nat.le_trans (by decide) hd) (Nat.le_refl _)) (Nat.le_refl _) is5 (hyp hG) (fun r1 g2 h3 hyp => ?_)
      obtain ⟨hG, hyp⟩ := hyp
      exact mf_return (mf_dat eX9_passWord 17 rfl) rfl ⟨hG, hyp⟩
  · replace hyp := hyp.2 hc
    refine mf_aload_n (mf_dat eX9_passWord 3 rfl) rfl rfl ?_
    refine mf_iload_n (mf_dat eX9_passWord 4 rfl) rfl rfl ?_
    refine mf_callV (Yc := YX9_isWord) (r := (RX9, TX9, 10)) (ci := 9) (mf_dat eX9_passWord 5 rfl) ml_X9_78 okX9_isWord im_X9_isWord sl_X9_isWord rfl rfl rfl rfl (Nat.le_of_ble_eq_true rfl) (mf_rr (Nat.le_trans (by decide) hd) (Nat.le_refl _)) (Nat.le_refl _) is5 (hyp hG) (fun r4 g5 h6 hyp => ?_)
    obtain ⟨hG, hyp⟩ := hyp
    refine mf_if_ne (tgt := 24) (mf_dat eX9_passWord 6 rfl) (by decide) (fun hc => ?_) (fun hc => ?_)
    · replace hyp := hyp.1 hc
      refine mf_aload_n (mf_dat eX9_passWord 12 rfl) rfl rfl ?_
      refine mf_getf (r := (RX9, TX9, 10)) (ci := 9) (k := 8) (t := 0) (v := h6 5 8) (mf_dat eX9_passWord 13 rfl) fl_X9_19 rfl (by decide) rfl rfl is5 ?_
      refine mf_if_ne (tgt := 35) (mf_dat eX9_passWord 14 rfl) (by decide) (fun hc => ?_) (fun hc => ?_)
      · replace hyp := hyp.1 hc
        exact mf_return (mf_dat eX9_passWord 17 rfl) rfl ⟨hG, hyp⟩
      · replace hyp := hyp.2 hc
        refine mf_aload_n (mf_dat eX9_passWord 15 rfl) rfl rfl ?_
        refine mf_callV (Yc := YX9_step) (r := (RX9, TX9, 10)) (ci := 9) (mf_dat eX9_passWord 16 rfl) ml_X9_32 okX9_step im_X9_step sl_X9_step rfl rfl rfl rfl (Nat.le_of_ble_eq_true rfl) (mf_rr (Nat.le_trans (by decide) hd) (Nat.le_refl _)) (Nat.le_refl _) is5 (hyp hG) (fun r7 g8 h9 hyp => ?_)
        obtain ⟨hG, hyp⟩ := hyp
        exact mf_return (mf_dat eX9_passWord 17 rfl) rfl ⟨hG, hyp⟩
    · replace hyp := hyp.2 hc
      refine mf_aload_n (mf_dat eX9_passWord 7 rfl) rfl rfl ?_
      refine mf_iconst (v := 1) (mf_dat eX9_passWord 8 rfl) (by decide) ?_
      refine mf_aload_n (mf_dat eX9_passWord 9 rfl) rfl rfl ?_
      refine mf_getf (r := (RX9, TX9, 10)) (ci := 9) (k := 3) (t := 0) (v := h6 5 3) (mf_dat eX9_passWord 10 rfl) fl_X9_53 rfl (by decide) rfl rfl is5 ?_
      refine mf_callV (Yc := YX9_fail) (r := (RX9, TX9, 10)) (ci := 9) (mf_dat eX9_passWord 11 rfl) ml_X9_74 okX9_fail im_X9_fail sl_X9_fail rfl rfl rfl rfl (Nat.le_of_ble_eq_true rfl) (mf_rr (Nat.le_trans (by decide) hd) (Nat.le_refl _)) (Nat.le_refl _) is5 (hyp hG) (fun r10 g11 h12 hyp => ?_)
      obtain ⟨hG, hyp⟩ := hyp
      refine mf_aload_n (mf_dat eX9_passWord 12 rfl) rfl rfl ?_
      refine mf_getf (r := (RX9, TX9, 10)) (ci := 9) (k := 8) (t := 0) (v := h12 5 8) (mf_dat eX9_passWord 13 rfl) fl_X9_19 rfl (by decide) rfl rfl is5 ?_
      refine mf_if_ne (tgt := 35) (mf_dat eX9_passWord 14 rfl) (by decide) (fun hc => ?_) (fun hc => ?_)
      · replace hyp := hyp.1 hc
        exact mf_return (mf_dat eX9_passWord 17 rfl) rfl ⟨hG, hyp⟩
      · replace hyp := hyp.2 hc
        refine mf_aload_n (mf_dat eX9_passWord 15 rfl) rfl rfl ?_
        refine mf_callV (Yc := YX9_step) (r := (RX9, TX9, 10)) (ci := 9) (mf_dat eX9_passWord 16 rfl) ml_X9_32 okX9_step im_X9_step sl_X9_step rfl rfl rfl rfl (Nat.le_of_ble_eq_true rfl) (mf_rr (Nat.le_trans (by decide) hd) (Nat.le_refl _)) (Nat.le_refl _) is5 (hyp hG) (fun r13 g14 h15 hyp => ?_)
        obtain ⟨hG, hyp⟩ := hyp
        exact mf_return (mf_dat eX9_passWord 17 rfl) rfl ⟨hG, hyp⟩
abbrev BX9_passNumber_31 (C : mf_G) (l : Launch) (d : Nat) (K : mf_Kt) (x1 x2 : Int) (g h : mf_M) : Prop := jX C l d YX9_passNumber K 31 [(0, (2, 5)), (1, (0, x1)), (2, (0, x2))] [] g h
abbrev BX9_passNumber_57 (C : mf_G) (l : Launch) (d : Nat) (K : mf_Kt) (x1 x2 : Int) (g h : mf_M) : Prop := jX C l d YX9_passNumber K 57 [(0, (2, 5)), (1, (0, x1)), (2, (0, x2))] [] g h
abbrev BX9_passNumber_80 (C : mf_G) (l : Launch) (d : Nat) (K : mf_Kt) (g h : mf_M) : Prop := jX C l d YX9_passNumber K 80 [(0, (2, 5))] [] g h
set_option maxRecDepth 100000 in
set_option maxHeartbeats 4000000 in
theorem vX9_passNumber_31 {C : mf_G} {l : Launch} {d : Nat} {K : mf_Kt} {x1 x2 : Int} {g h : mf_M} (hd : 1 ≤ d) (hyp : ((¬ h 5 2 = 2 → xM C l 0 YX9_fail [(2, 5), (0, 1), (0, h 5 3)] g h (fun r1 g2 h3 => BX9_passNumber_57 C l d K x1 x2 g2 h3)) ∧ (h 5 2 = 2 → xM C l 0 YX9_fail [(2, 5), (0, 1), (0, mf_w32 ((h 5 3) + 4))] g h (fun r4 g5 h6 => BX9_passNumber_57 C l d K x1 x2 g5 h6)))) : BX9_passNumber_31 C l d K x1 x2 g h := by
  intro hG
  refine mf_aload_n (mf_dat eX9_passNumber 15 rfl) rfl rfl ?_
  refine mf_iconst (v := 1) (mf_dat eX9_passNumber 16 rfl) (by decide) ?_
  refine mf_aload_n (mf_dat eX9_passNumber 17 rfl) rfl rfl ?_
  refine mf_getf (r := (RX9, TX9, 10)) (ci := 9) (k := 2) (t := 0) (v := h 5 2) (mf_dat eX9_passNumber 18 rfl) fl_X9_29 rfl (by decide) rfl rfl is5 ?_
  refine mf_iconst (v := 2) (mf_dat eX9_passNumber 19 rfl) (by decide) ?_
  refine mf_icmp_ne (tgt := 50) (mf_dat eX9_passNumber 20 rfl) (by decide) (fun hc => ?_) (fun hc => ?_)
  · replace hyp := hyp.1 hc
    refine mf_aload_n (mf_dat eX9_passNumber 26 rfl) rfl rfl ?_
    refine mf_getf (r := (RX9, TX9, 10)) (ci := 9) (k := 3) (t := 0) (v := h 5 3) (mf_dat eX9_passNumber 27 rfl) fl_X9_53 rfl (by decide) rfl rfl is5 ?_
    refine mf_callV (Yc := YX9_fail) (r := (RX9, TX9, 10)) (ci := 9) (mf_dat eX9_passNumber 28 rfl) ml_X9_74 okX9_fail im_X9_fail sl_X9_fail rfl rfl rfl rfl (Nat.le_of_ble_eq_true rfl) (mf_rr (Nat.le_trans (by decide) hd) (Nat.le_refl _)) (Nat.le_refl _) is5 (hyp hG) (fun r1 g2 h3 hyp => ?_)
    obtain ⟨hG, hyp⟩ := hyp
    exact mf_sub [0, 1, 2] rfl (hyp hG)
  · replace hyp := hyp.2 hc
    refine mf_aload_n (mf_dat eX9_passNumber 21 rfl) rfl rfl ?_
    refine mf_getf (r := (RX9, TX9, 10)) (ci := 9) (k := 3) (t := 0) (v := h 5 3) (mf_dat eX9_passNumber 22 rfl) fl_X9_53 rfl (by decide) rfl rfl is5 ?_
    refine mf_iconst (v := 4) (mf_dat eX9_passNumber 23 rfl) (by decide) ?_
    refine mf_iadd (mf_dat eX9_passNumber 24 rfl) ?_
    refine mf_goto (tgt := 54) (mf_dat eX9_passNumber 25 rfl) (by decide) ?_
    refine mf_callV (Yc := YX9_fail) (r := (RX9, TX9, 10)) (ci := 9) (mf_dat eX9_passNumber 28 rfl) ml_X9_74 okX9_fail im_X9_fail sl_X9_fail rfl rfl rfl rfl (Nat.le_of_ble_eq_true rfl) (mf_rr (Nat.le_trans (by decide) hd) (Nat.le_refl _)) (Nat.le_refl _) is5 (hyp hG) (fun r4 g5 h6 hyp => ?_)
    obtain ⟨hG, hyp⟩ := hyp
    exact mf_sub [0, 1, 2] rfl (hyp hG)
set_option maxRecDepth 100000 in
set_option maxHeartbeats 4000000 in
theorem vX9_passNumber_57 {C : mf_G} {l : Launch} {d : Nat} {K : mf_Kt} {x1 x2 : Int} {g h : mf_M} (hd : 3 ≤ d) (hyp : ((¬ h 5 8 = 0 → ((h 5 8 = 0 → (∀ v1 : Int, v1 = h 5 5 → xM C l 2 YX9_step [(2, 5)] g h (fun r2 g3 h4 => K v1 g3 h4))) ∧ (¬ h 5 8 = 0 → K (-1) g h))) ∧ (h 5 8 = 0 → ((h 5 5 < x1 → BX9_passNumber_80 C l d K g h) ∧ (¬ h 5 5 < x1 → ((h 5 5 ≤ x2 → ((h 5 8 = 0 → (∀ v5 : Int, v5 = h 5 5 → xM C l 2 YX9_step [(2, 5)] g h (fun r6 g7 h8 => K v5 g7 h8))) ∧ (¬ h 5 8 = 0 → K (-1) g h))) ∧ (¬ h 5 5 ≤ x2 → BX9_passNumber_80 C l d K g h))))))) : BX9_passNumber_57 C l d K x1 x2 g h := by
  intro hG
  refine mf_aload_n (mf_dat eX9_passNumber 29 rfl) rfl rfl ?_
  refine mf_getf (r := (RX9, TX9, 10)) (ci := 9) (k := 8) (t := 0) (v := h 5 8) (mf_dat eX9_passNumber 30 rfl) fl_X9_19 rfl (by decide) rfl rfl is5 ?_
  refine mf_if_ne (tgt := 89) (mf_dat eX9_passNumber 31 rfl) (by decide) (fun hc => ?_) (fun hc => ?_)
  · replace hyp := hyp.1 hc
    refine mf_aload_n (mf_dat eX9_passNumber 45 rfl) rfl rfl ?_
    refine mf_getf (r := (RX9, TX9, 10)) (ci := 9) (k := 8) (t := 0) (v := h 5 8) (mf_dat eX9_passNumber 46 rfl) fl_X9_19 rfl (by decide) rfl rfl is5 ?_
    refine mf_if_eq (tgt := 98) (mf_dat eX9_passNumber 47 rfl) (by decide) (fun hc => ?_) (fun hc => ?_)
    · replace hyp := hyp.1 hc
      refine mf_aload_n (mf_dat eX9_passNumber 50 rfl) rfl rfl ?_
      refine mf_getf (r := (RX9, TX9, 10)) (ci := 9) (k := 5) (t := 0) (v := h 5 5) (mf_dat eX9_passNumber 51 rfl) fl_X9_57 rfl (by decide) rfl rfl is5 ?_
      generalize qv1 : h 5 5 = v1
      replace hyp := hyp _ qv1.symm
      refine mf_istore_n (mf_dat eX9_passNumber 52 rfl) rfl (by decide) ?_
      refine mf_aload_n (mf_dat eX9_passNumber 53 rfl) rfl rfl ?_
      refine mf_callV (Yc := YX9_step) (r := (RX9, TX9, 10)) (ci := 9) (mf_dat eX9_passNumber 54 rfl) ml_X9_32 okX9_step im_X9_step sl_X9_step rfl rfl rfl rfl (Nat.le_of_ble_eq_true rfl) (mf_rr (Nat.le_trans (by decide) hd) (Nat.le_refl _)) (Nat.le_refl _) is5 (hyp hG) (fun r2 g3 h4 hyp => ?_)
      obtain ⟨hG, hyp⟩ := hyp
      refine mf_iload_n (mf_dat eX9_passNumber 55 rfl) rfl rfl ?_
      exact mf_ireturn (mf_dat eX9_passNumber 56 rfl) rfl (Or.inl rfl) ⟨hG, hyp⟩
    · replace hyp := hyp.2 hc
      refine mf_iconst (v := (-1)) (mf_dat eX9_passNumber 48 rfl) (by decide) ?_
      exact mf_ireturn (mf_dat eX9_passNumber 49 rfl) rfl (Or.inl rfl) ⟨hG, hyp⟩
  · replace hyp := hyp.2 hc
    refine mf_aload_n (mf_dat eX9_passNumber 32 rfl) rfl rfl ?_
    refine mf_getf (r := (RX9, TX9, 10)) (ci := 9) (k := 5) (t := 0) (v := h 5 5) (mf_dat eX9_passNumber 33 rfl) fl_X9_57 rfl (by decide) rfl rfl is5 ?_
    refine mf_iload_n (mf_dat eX9_passNumber 34 rfl) rfl rfl ?_
    refine mf_icmp_lt (tgt := 80) (mf_dat eX9_passNumber 35 rfl) (by decide) (fun hc => ?_) (fun hc => ?_)
    · replace hyp := hyp.1 hc
      exact mf_sub [0] rfl (hyp hG)
    · replace hyp := hyp.2 hc
      refine mf_aload_n (mf_dat eX9_passNumber 36 rfl) rfl rfl ?_
      refine mf_getf (r := (RX9, TX9, 10)) (ci := 9) (k := 5) (t := 0) (v := h 5 5) (mf_dat eX9_passNumber 37 rfl) fl_X9_57 rfl (by decide) rfl rfl is5 ?_
      refine mf_iload_n (mf_dat eX9_passNumber 38 rfl) rfl rfl ?_
      refine mf_icmp_le (tgt := 89) (mf_dat eX9_passNumber 39 rfl) (by decide) (fun hc => ?_) (fun hc => ?_)
      · replace hyp := hyp.1 hc
        refine mf_aload_n (mf_dat eX9_passNumber 45 rfl) rfl rfl ?_
        refine mf_getf (r := (RX9, TX9, 10)) (ci := 9) (k := 8) (t := 0) (v := h 5 8) (mf_dat eX9_passNumber 46 rfl) fl_X9_19 rfl (by decide) rfl rfl is5 ?_
        refine mf_if_eq (tgt := 98) (mf_dat eX9_passNumber 47 rfl) (by decide) (fun hc => ?_) (fun hc => ?_)
        · replace hyp := hyp.1 hc
          refine mf_aload_n (mf_dat eX9_passNumber 50 rfl) rfl rfl ?_
          refine mf_getf (r := (RX9, TX9, 10)) (ci := 9) (k := 5) (t := 0) (v := h 5 5) (mf_dat eX9_passNumber 51 rfl) fl_X9_57 rfl (by decide) rfl rfl is5 ?_
          generalize qv5 : h 5 5 = v5
          replace hyp := hyp _ qv5.symm
          refine mf_istore_n (mf_dat eX9_passNumber 52 rfl) rfl (by decide) ?_
          refine mf_aload_n (mf_dat eX9_passNumber 53 rfl) rfl rfl ?_
          refine mf_callV (Yc := YX9_step) (r := (RX9, TX9, 10)) (ci := 9) (mf_dat eX9_passNumber 54 rfl) ml_X9_32 okX9_step im_X9_step sl_X9_step rfl rfl rfl rfl (Nat.le_of_ble_eq_true rfl) (mf_rr (Nat.le_trans (by decide) hd) (Nat.le_refl _)) (Nat.le_refl _) is5 (hyp hG) (fun r6 g7 h8 hyp => ?_)
          obtain ⟨hG, hyp⟩ := hyp
          refine mf_iload_n (mf_dat eX9_passNumber 55 rfl) rfl rfl ?_
          exact mf_ireturn (mf_dat eX9_passNumber 56 rfl) rfl (Or.inl rfl) ⟨hG, hyp⟩
        · replace hyp := hyp.2 hc
          refine mf_iconst (v := (-1)) (mf_dat eX9_passNumber 48 rfl) (by decide) ?_
          exact mf_ireturn (mf_dat eX9_passNumber 49 rfl) rfl (Or.inl rfl) ⟨hG, hyp⟩
      · replace hyp := hyp.2 hc
        exact mf_sub [0] rfl (hyp hG)
set_option maxRecDepth 100000 in
set_option maxHeartbeats 4000000 in
theorem vX9_passNumber_80 {C : mf_G} {l : Launch} {d : Nat} {K : mf_Kt} {g h : mf_M} (hd : 3 ≤ d) (hyp : xM C l 0 YX9_fail [(2, 5), (0, 2), (0, h 5 3)] g h (fun r1 g2 h3 => ((h3 5 8 = 0 → (∀ v4 : Int, v4 = h3 5 5 → xM C l 2 YX9_step [(2, 5)] g2 h3 (fun r5 g6 h7 => K v4 g6 h7))) ∧ (¬ h3 5 8 = 0 → K (-1) g2 h3)))) : BX9_passNumber_80 C l d K g h := by
  intro hG
  refine mf_aload_n (mf_dat eX9_passNumber 40 rfl) rfl rfl ?_
  refine mf_iconst (v := 2) (mf_dat eX9_passNumber 41 rfl) (by decide) ?_
  refine mf_aload_n (mf_dat eX9_passNumber 42 rfl) rfl rfl ?_
  refine mf_getf (r := (RX9, TX9, 10)) (ci := 9) (k := 3) (t := 0) (v := h 5 3) (mf_dat eX9_passNumber 43 rfl) fl_X9_53 rfl (by decide) rfl rfl is5 ?_
  refine mf_callV (Yc := YX9_fail) (r := (RX9, TX9, 10)) (ci := 9) (mf_dat eX9_passNumber 44 rfl) ml_X9_74 okX9_fail im_X9_fail sl_X9_fail rfl rfl rfl rfl (Nat.le_of_ble_eq_true rfl) (mf_rr (Nat.le_trans (by decide) hd) (Nat.le_refl _)) (Nat.le_refl _) is5 (hyp hG) (fun r1 g2 h3 hyp => ?_)
  obtain ⟨hG, hyp⟩ := hyp
  refine mf_aload_n (mf_dat eX9_passNumber 45 rfl) rfl rfl ?_
  refine mf_getf (r := (RX9, TX9, 10)) (ci := 9) (k := 8) (t := 0) (v := h3 5 8) (mf_dat eX9_passNumber 46 rfl) fl_X9_19 rfl (by decide) rfl rfl is5 ?_
  refine mf_if_eq (tgt := 98) (mf_dat eX9_passNumber 47 rfl) (by decide) (fun hc => ?_) (fun hc => ?_)
  · replace hyp := hyp.1 hc
    refine mf_aload_n (mf_dat eX9_passNumber 50 rfl) rfl rfl ?_
    refine mf_getf (r := (RX9, TX9, 10)) (ci := 9) (k := 5) (t := 0) (v := h3 5 5) (mf_dat eX9_passNumber 51 rfl) fl_X9_57 rfl (by decide) rfl rfl is5 ?_
    generalize qv4 : h3 5 5 = v4
    replace hyp := hyp _ qv4.symm
    refine mf_istore_n (mf_dat eX9_passNumber 52 rfl) rfl (by decide) ?_
    refine mf_aload_n (mf_dat eX9_passNumber 53 rfl) rfl rfl ?_
    refine mf_callV (Yc := YX9_step) (r := (RX9, TX9, 10)) (ci := 9) (mf_dat eX9_passNumber 54 rfl) ml_X9_32 okX9_step im_X9_step sl_X9_step rfl rfl rfl rfl (Nat.le_of_ble_eq_true rfl) (mf_rr (Nat.le_trans (by decide) hd) (Nat.le_refl _)) (Nat.le_refl _) is5 (hyp hG) (fun r5 g6 h7 hyp => ?_)
    obtain ⟨hG, hyp⟩ := hyp
    refine mf_iload_n (mf_dat eX9_passNumber 55 rfl) rfl rfl ?_
    exact mf_ireturn (mf_dat eX9_passNumber 56 rfl) rfl (Or.inl rfl) ⟨hG, hyp⟩
  · replace hyp := hyp.2 hc
    refine mf_iconst (v := (-1)) (mf_dat eX9_passNumber 48 rfl) (by decide) ?_
    exact mf_ireturn (mf_dat eX9_passNumber 49 rfl) rfl (Or.inl rfl) ⟨hG, hyp⟩
set_option maxRecDepth 100000 in
set_option maxHeartbeats 4000000 in
theorem wX9_passNumber {C : mf_G} {l : Launch} {d : Nat} {K : mf_Kt} {x1 x2 : Int} {g h : mf_M} (hyp : (∀ h1 : mf_M, h1 = mf_up h 5 7 (h 5 3) → ((¬ h1 5 8 = 0 → BX9_passNumber_57 C l d K x1 x2 g h1) ∧ (h1 5 8 = 0 → ((¬ h1 5 2 = 2 → BX9_passNumber_31 C l d K x1 x2 g h1) ∧ (h1 5 2 = 2 → ((h1 5 4 ≤ 4 → BX9_passNumber_57 C l d K x1 x2 g h1) ∧ (¬ h1 5 4 ≤ 4 → BX9_passNumber_31 C l d K x1 x2 g h1)))))))) : xM C l d YX9_passNumber [(2, 5), (0, x1), (0, x2)] g h K := by
  intro hG
  refine mf_entry (by decide) (Nat.le_of_ble_eq_true rfl) ?_
  refine mf_aload_n (mf_dat eX9_passNumber 0 rfl) rfl rfl ?_
  refine mf_aload_n (mf_dat eX9_passNumber 1 rfl) rfl rfl ?_
  refine mf_getf (r := (RX9, TX9, 10)) (ci := 9) (k := 3) (t := 0) (v := h 5 3) (mf_dat eX9_passNumber 2 rfl) fl_X9_53 rfl (by decide) rfl rfl is5 ?_
  refine mf_putI (r := (RX9, TX9, 10)) (ci := 9) (k := 7) (kI := 7) (t := 0) (mf_dat eX9_passNumber 3 rfl) fl_X9_82 rfl rfl (by decide) rfl (by decide) rfl (by decide) (fun h9 => absurd h9 (by decide)) is5 ?_
  generalize qh1 : mf_up h 5 7 (h 5 3) = h1
  replace hyp := hyp _ qh1.symm
  refine mf_aload_n (mf_dat eX9_passNumber 4 rfl) rfl rfl ?_
  refine mf_getf (r := (RX9, TX9, 10)) (ci := 9) (k := 8) (t := 0) (v := h1 5 8) (mf_dat eX9_passNumber 5 rfl) fl_X9_19 rfl (by decide) rfl rfl is5 ?_
  refine mf_if_ne (tgt := 57) (mf_dat eX9_passNumber 6 rfl) (by decide) (fun hc => ?_) (fun hc => ?_)
  · replace hyp := hyp.1 hc
    exact mf_sub [0, 1, 2] rfl (hyp hG)
  · replace hyp := hyp.2 hc
    refine mf_aload_n (mf_dat eX9_passNumber 7 rfl) rfl rfl ?_
    refine mf_getf (r := (RX9, TX9, 10)) (ci := 9) (k := 2) (t := 0) (v := h1 5 2) (mf_dat eX9_passNumber 8 rfl) fl_X9_29 rfl (by decide) rfl rfl is5 ?_
    refine mf_iconst (v := 2) (mf_dat eX9_passNumber 9 rfl) (by decide) ?_
    refine mf_icmp_ne (tgt := 31) (mf_dat eX9_passNumber 10 rfl) (by decide) (fun hc => ?_) (fun hc => ?_)
    · replace hyp := hyp.1 hc
      exact mf_sub [0, 1, 2] rfl (hyp hG)
    · replace hyp := hyp.2 hc
      refine mf_aload_n (mf_dat eX9_passNumber 11 rfl) rfl rfl ?_
      refine mf_getf (r := (RX9, TX9, 10)) (ci := 9) (k := 4) (t := 0) (v := h1 5 4) (mf_dat eX9_passNumber 12 rfl) fl_X9_56 rfl (by decide) rfl rfl is5 ?_
      refine mf_iconst (v := 4) (mf_dat eX9_passNumber 13 rfl) (by decide) ?_
      refine mf_icmp_le (tgt := 57) (mf_dat eX9_passNumber 14 rfl) (by decide) (fun hc => ?_) (fun hc => ?_)
      · replace hyp := hyp.1 hc
        exact mf_sub [0, 1, 2] rfl (hyp hG)
      · replace hyp := hyp.2 hc
        exact mf_sub [0, 1, 2] rfl (hyp hG)
set_option maxRecDepth 100000 in
set_option maxHeartbeats 4000000 in
theorem wX9_mayOpen {C : mf_G} {l : Launch} {d : Nat} {K : mf_Kt} {x1 : Int} {g h : mf_M} (hd : 1 ≤ d) (hyp : ((x1 < 6 → ((¬ h 5 8 = 0 → K 0 g h) ∧ (h 5 8 = 0 → K 1 g h))) ∧ (¬ x1 < 6 → xM C l 0 YX9_fail [(2, 5), (0, 4), (0, h 5 3)] g h (fun r1 g2 h3 => ((¬ h3 5 8 = 0 → K 0 g2 h3) ∧ (h3 5 8 = 0 → K 1 g2 h3)))))) : xM C l d YX9_mayOpen [(2, 5), (0, x1)] g h K := by
  intro hG
  refine mf_entry (by decide) (Nat.le_of_ble_eq_true rfl) ?_
  refine mf_iload_n (mf_dat eX9_mayOpen 0 rfl) rfl rfl ?_
  refine mf_bipush (v := 6) (mf_dat eX9_mayOpen 1 rfl) (by decide) ?_
  refine mf_icmp_lt (tgt := 15) (mf_dat eX9_mayOpen 2 rfl) (by decide) (fun hc => ?_) (fun hc => ?_)
  · replace hyp := hyp.1 hc
    refine mf_aload_n (mf_dat eX9_mayOpen 8 rfl) rfl rfl ?_
    refine mf_getf (r := (RX9, TX9, 10)) (ci := 9) (k := 8) (t := 0) (v := h 5 8) (mf_dat eX9_mayOpen 9 rfl) fl_X9_19 rfl (by decide) rfl rfl is5 ?_
    refine mf_if_ne (tgt := 26) (mf_dat eX9_mayOpen 10 rfl) (by decide) (fun hc => ?_) (fun hc => ?_)
    · replace hyp := hyp.1 hc
      refine mf_iconst (v := 0) (mf_dat eX9_mayOpen 13 rfl) (by decide) ?_
      exact mf_ireturn (mf_dat eX9_mayOpen 14 rfl) rfl (Or.inr ⟨rfl, by decide⟩) ⟨hG, hyp⟩
    · replace hyp := hyp.2 hc
      refine mf_iconst (v := 1) (mf_dat eX9_mayOpen 11 rfl) (by decide) ?_
      refine mf_goto (tgt := 27) (mf_dat eX9_mayOpen 12 rfl) (by decide) ?_
      exact mf_ireturn (mf_dat eX9_mayOpen 14 rfl) rfl (Or.inr ⟨rfl, by decide⟩) ⟨hG, hyp⟩
  · replace hyp := hyp.2 hc
    refine mf_aload_n (mf_dat eX9_mayOpen 3 rfl) rfl rfl ?_
    refine mf_iconst (v := 4) (mf_dat eX9_mayOpen 4 rfl) (by decide) ?_
    refine mf_aload_n (mf_dat eX9_mayOpen 5 rfl) rfl rfl ?_
    refine mf_getf (r := (RX9, TX9, 10)) (ci := 9) (k := 3) (t := 0) (v := h 5 3) (mf_dat eX9_mayOpen 6 rfl) fl_X9_53 rfl (by decide) rfl rfl is5 ?_
    refine mf_callV (Yc := YX9_fail) (r := (RX9, TX9, 10)) (ci := 9) (mf_dat eX9_mayOpen 7 rfl) ml_X9_74 okX9_fail im_X9_fail sl_X9_fail rfl rfl rfl rfl (Nat.le_of_ble_eq_true rfl) (mf_rr (Nat.le_trans (by decide) hd) (Nat.le_refl _)) (Nat.le_refl _) is5 (hyp hG) (fun r1 g2 h3 hyp => ?_)
    obtain ⟨hG, hyp⟩ := hyp
    refine mf_aload_n (mf_dat eX9_mayOpen 8 rfl) rfl rfl ?_
    refine mf_getf (r := (RX9, TX9, 10)) (ci := 9) (k := 8) (t := 0) (v := h3 5 8) (mf_dat eX9_mayOpen 9 rfl) fl_X9_19 rfl (by decide) rfl rfl is5 ?_
    refine mf_if_ne (tgt := 26) (mf_dat eX9_mayOpen 10 rfl) (by decide) (fun hc => ?_) (fun hc => ?_)
    · replace hyp := hyp.1 hc
      refine mf_iconst (v := 0) (mf_dat eX9_mayOpen 13 rfl) (by decide) ?_
      exact mf_ireturn (mf_dat eX9_mayOpen 14 rfl) rfl (Or.inr ⟨rfl, by decide⟩) ⟨hG, hyp⟩
    · replace hyp := hyp.2 hc
      refine mf_iconst (v := 1) (mf_dat eX9_mayOpen 11 rfl) (by decide) ?_
      refine mf_goto (tgt := 27) (mf_dat eX9_mayOpen 12 rfl) (by decide) ?_
      exact mf_ireturn (mf_dat eX9_mayOpen 14 rfl) rfl (Or.inr ⟨rfl, by decide⟩) ⟨hG, hyp⟩
abbrev BX10_letterOf_6 (C : mf_G) (l : Launch) (d : Nat) (K : mf_Kt) (x2 x3 : Int) (g h : mf_M) : Prop := jX C l d YX10_letterOf K 6 [(2, (0, x2)), (3, (0, x3))] [] g h
set_option maxRecDepth 100000 in
set_option maxHeartbeats 4000000 in
theorem vX10_letterOf_6 {C : mf_G} {l : Launch} {d : Nat} {K : mf_Kt} {x2 x3 : Int} {g h : mf_M} (hyp : ((6 ≤ x3 → K (x2.tmod 27) g h) ∧ (¬ 6 ≤ x3 → (∀ v1 : Int, v1 = mf_w32 (x2.tdiv 27) → (∀ v2 : Int, v2 = mf_w32 (x3 + 1) → BX10_letterOf_6 C l d K v1 v2 g h))))) : BX10_letterOf_6 C l d K x2 x3 g h := by
  intro hG
  refine mf_iload_n (mf_dat eX10_letterOf 6 rfl) rfl rfl ?_
  refine mf_bipush (v := 6) (mf_dat eX10_letterOf 7 rfl) (by decide) ?_
  refine mf_icmp_ge (tgt := 23) (mf_dat eX10_letterOf 8 rfl) (by decide) (fun hc => ?_) (fun hc => ?_)
  · replace hyp := hyp.1 hc
    refine mf_iload_n (mf_dat eX10_letterOf 15 rfl) rfl rfl ?_
    refine mf_bipush (v := 27) (mf_dat eX10_letterOf 16 rfl) (by decide) ?_
    refine mf_irem (mf_dat eX10_letterOf 17 rfl) (by decide) ?_
    exact mf_ireturn (mf_dat eX10_letterOf 18 rfl) rfl (Or.inl rfl) ⟨hG, hyp⟩
  · replace hyp := hyp.2 hc
    refine mf_iload_n (mf_dat eX10_letterOf 9 rfl) rfl rfl ?_
    refine mf_bipush (v := 27) (mf_dat eX10_letterOf 10 rfl) (by decide) ?_
    refine mf_idiv (mf_dat eX10_letterOf 11 rfl) (by decide) ?_
    generalize qv1 : mf_w32 (x2.tdiv 27) = v1
    replace hyp := hyp _ qv1.symm
    refine mf_istore_n (mf_dat eX10_letterOf 12 rfl) rfl (by decide) ?_
    refine mf_iinc (mf_dat eX10_letterOf 13 rfl) rfl (by decide) (by decide) ?_
    generalize qv2 : mf_w32 (x3 + 1) = v2
    replace hyp := hyp _ qv2.symm
    refine mf_goto (tgt := 6) (mf_dat eX10_letterOf 14 rfl) (by decide) ?_
    exact mf_sub [1, 0] rfl (hyp hG)
set_option maxRecDepth 100000 in
set_option maxHeartbeats 4000000 in
theorem wX10_letterOf {C : mf_G} {l : Launch} {d : Nat} {K : mf_Kt} {x0 x1 : Int} {g h : mf_M} (hyp : (∀ v1 : Int, v1 = mf_w32 (x1 + 1) → BX10_letterOf_6 C l d K x0 v1 g h)) : xM C l d YX10_letterOf [(0, x0), (0, x1)] g h K := by
  intro hG
  refine mf_entry (by decide) (Nat.le_of_ble_eq_true rfl) ?_
  refine mf_iload_n (mf_dat eX10_letterOf 0 rfl) rfl rfl ?_
  refine mf_istore_n (mf_dat eX10_letterOf 1 rfl) rfl (by decide) ?_
  refine mf_iload_n (mf_dat eX10_letterOf 2 rfl) rfl rfl ?_
  refine mf_iconst (v := 1) (mf_dat eX10_letterOf 3 rfl) (by decide) ?_
  refine mf_iadd (mf_dat eX10_letterOf 4 rfl) ?_
  generalize qv1 : mf_w32 (x1 + 1) = v1
  replace hyp := hyp _ qv1.symm
  refine mf_istore_n (mf_dat eX10_letterOf 5 rfl) rfl (by decide) ?_
  exact mf_sub [1, 0] rfl (hyp hG)
set_option maxRecDepth 100000 in
set_option maxHeartbeats 4000000 in
theorem wX10_isThat {C : mf_G} {l : Launch} {d : Nat} {K : mf_Kt} {x1 x2 : Int} {g h : mf_M} (hyp : ((x1 < 0 → K 0 g h) ∧ (¬ x1 < 0 → ((34 ≤ x1 → K 0 g h) ∧ (¬ 34 ≤ x1 → 0 ≤ x1 ∧ x1 < 34 ∧ ((¬ h 2 x1 = x2 → K 0 g h) ∧ (h 2 x1 = x2 → K 1 g h))))))) : xM C l d YX10_isThat [(2, 1), (0, x1), (0, x2)] g h K := by
  intro hG
  refine mf_entry (by decide) (Nat.le_of_ble_eq_true rfl) ?_
  refine mf_iload_n (mf_dat eX10_isThat 0 rfl) rfl rfl ?_
  refine mf_if_lt (tgt := 27) (mf_dat eX10_isThat 1 rfl) (by decide) (fun hc => ?_) (fun hc => ?_)
  · replace hyp := hyp.1 hc
    refine mf_iconst (v := 0) (mf_dat eX10_isThat 15 rfl) (by decide) ?_
    exact mf_ireturn (mf_dat eX10_isThat 16 rfl) rfl (Or.inr ⟨rfl, by decide⟩) ⟨hG, hyp⟩
  · replace hyp := hyp.2 hc
    refine mf_iload_n (mf_dat eX10_isThat 2 rfl) rfl rfl ?_
    refine mf_aload_n (mf_dat eX10_isThat 3 rfl) rfl rfl ?_
    refine mf_getf (r := (RX10, TX10, 1)) (ci := 10) (k := 0) (t := 2) (v := 2) (mf_dat eX10_isThat 4 rfl) fl_X10_11 rfl (by decide) rfl (gx_1_0 hG) is1 ?_
    refine mf_alen (c := 20) (i := 0) (ty := .int) (v := 34) (mf_dat eX10_isThat 5 rfl) (by decide) rfl is2 len2 (mf_len_small _) ?_
    refine mf_icmp_ge (tgt := 27) (mf_dat eX10_isThat 6 rfl) (by decide) (fun hc => ?_) (fun hc => ?_)
    · replace hyp := hyp.1 hc
      refine mf_iconst (v := 0) (mf_dat eX10_isThat 15 rfl) (by decide) ?_
      exact mf_ireturn (mf_dat eX10_isThat 16 rfl) rfl (Or.inr ⟨rfl, by decide⟩) ⟨hG, hyp⟩
    · replace hyp := hyp.2 hc
      refine mf_aload_n (mf_dat eX10_isThat 7 rfl) rfl rfl ?_
      refine mf_getf (r := (RX10, TX10, 1)) (ci := 10) (k := 0) (t := 2) (v := 2) (mf_dat eX10_isThat 8 rfl) fl_X10_11 rfl (by decide) rfl (gx_1_0 hG) is1 ?_
      refine mf_iload_n (mf_dat eX10_isThat 9 rfl) rfl rfl ?_
      obtain ⟨ck1, hyp⟩ := hyp
      obtain ⟨ck2, hyp⟩ := hyp
      refine mf_iald (mf_dat eX10_isThat 10 rfl) is2 len2 ck1 ck2 ?_
      refine mf_iload_n (mf_dat eX10_isThat 11 rfl) rfl rfl ?_
      refine mf_icmp_ne (tgt := 27) (mf_dat eX10_isThat 12 rfl) (by decide) (fun hc => ?_) (fun hc => ?_)
      · replace hyp := hyp.1 hc
        refine mf_iconst (v := 0) (mf_dat eX10_isThat 15 rfl) (by decide) ?_
        exact mf_ireturn (mf_dat eX10_isThat 16 rfl) rfl (Or.inr ⟨rfl, by decide⟩) ⟨hG, hyp⟩
      · replace hyp := hyp.2 hc
        refine mf_iconst (v := 1) (mf_dat eX10_isThat 13 rfl) (by decide) ?_
        refine mf_goto (tgt := 28) (mf_dat eX10_isThat 14 rfl) (by decide) ?_
        exact mf_ireturn (mf_dat eX10_isThat 16 rfl) rfl (Or.inr ⟨rfl, by decide⟩) ⟨hG, hyp⟩
abbrev BX10_find_2 (C : mf_G) (l : Launch) (d : Nat) (K : mf_Kt) (x1 x2 : Int) (g h : mf_M) : Prop := jX C l d YX10_find K 2 [(0, (2, 1)), (1, (0, x1)), (2, (0, x2))] [] g h
set_option maxRecDepth 100000 in
set_option maxHeartbeats 4000000 in
theorem vX10_find_2 {C : mf_G} {l : Launch} {d : Nat} {K : mf_Kt} {x1 x2 : Int} {g h : mf_M} (hyp : ((34 ≤ x2 → K (-1) g h) ∧ (¬ 34 ≤ x2 → 0 ≤ x2 ∧ x2 < 34 ∧ ((¬ h 2 x2 = x1 → (∀ v3 : Int, v3 = mf_w32 (x2 + 1) → BX10_find_2 C l d K x1 v3 g h)) ∧ (h 2 x2 = x1 → K x2 g h))))) : BX10_find_2 C l d K x1 x2 g h := by
  intro hG
  refine mf_iload_n (mf_dat eX10_find 2 rfl) rfl rfl ?_
  refine mf_aload_n (mf_dat eX10_find 3 rfl) rfl rfl ?_
  refine mf_getf (r := (RX10, TX10, 1)) (ci := 10) (k := 0) (t := 2) (v := 2) (mf_dat eX10_find 4 rfl) fl_X10_11 rfl (by decide) rfl (gx_1_0 hG) is1 ?_
  refine mf_alen (c := 20) (i := 0) (ty := .int) (v := 34) (mf_dat eX10_find 5 rfl) (by decide) rfl is2 len2 (mf_len_small _) ?_
  refine mf_icmp_ge (tgt := 29) (mf_dat eX10_find 6 rfl) (by decide) (fun hc => ?_) (fun hc => ?_)
  · replace hyp := hyp.1 hc
    refine mf_iconst (v := (-1)) (mf_dat eX10_find 17 rfl) (by decide) ?_
    exact mf_ireturn (mf_dat eX10_find 18 rfl) rfl (Or.inl rfl) ⟨hG, hyp⟩
  · replace hyp := hyp.2 hc
    refine mf_aload_n (mf_dat eX10_find 7 rfl) rfl rfl ?_
    refine mf_getf (r := (RX10, TX10, 1)) (ci := 10) (k := 0) (t := 2) (v := 2) (mf_dat eX10_find 8 rfl) fl_X10_11 rfl (by decide) rfl (gx_1_0 hG) is1 ?_
    refine mf_iload_n (mf_dat eX10_find 9 rfl) rfl rfl ?_
    obtain ⟨ck1, hyp⟩ := hyp
    obtain ⟨ck2, hyp⟩ := hyp
    refine mf_iald (mf_dat eX10_find 10 rfl) is2 len2 ck1 ck2 ?_
    refine mf_iload_n (mf_dat eX10_find 11 rfl) rfl rfl ?_
    refine mf_icmp_ne (tgt := 23) (mf_dat eX10_find 12 rfl) (by decide) (fun hc => ?_) (fun hc => ?_)
    · replace hyp := hyp.1 hc
      refine mf_iinc (mf_dat eX10_find 15 rfl) rfl (by decide) (by decide) ?_
      generalize qv3 : mf_w32 (x2 + 1) = v3
      replace hyp := hyp _ qv3.symm
      refine mf_goto (tgt := 2) (mf_dat eX10_find 16 rfl) (by decide) ?_
      exact mf_sub [1, 2, 0] rfl (hyp hG)
    · replace hyp := hyp.2 hc
      refine mf_iload_n (mf_dat eX10_find 13 rfl) rfl rfl ?_
      exact mf_ireturn (mf_dat eX10_find 14 rfl) rfl (Or.inl rfl) ⟨hG, hyp⟩
set_option maxRecDepth 100000 in
set_option maxHeartbeats 4000000 in
theorem wX10_find {C : mf_G} {l : Launch} {d : Nat} {K : mf_Kt} {x1 : Int} {g h : mf_M} (hyp : BX10_find_2 C l d K x1 0 g h) : xM C l d YX10_find [(2, 1), (0, x1)] g h K := by
  intro hG
  refine mf_entry (by decide) (Nat.le_of_ble_eq_true rfl) ?_
  refine mf_iconst (v := 0) (mf_dat eX10_find 0 rfl) (by decide) ?_
  refine mf_istore_n (mf_dat eX10_find 1 rfl) rfl (by decide) ?_
  exact mf_sub [1, 2, 0] rfl (hyp hG)
set_option maxRecDepth 100000 in
set_option maxHeartbeats 4000000 in
theorem wX11_feed {C : mf_G} {l : Launch} {d : Nat} {K : mf_Kt} {x1 x2 x3 x4 x5 : Int} {g h : mf_M} (hd : 1 ≤ d) (hyp : ((mf_w32 ((h 3 1) + 20) ≤ 1600 → xM C l 0 YX8_add [(2, 3), (0, x1)] g h (fun r1 g2 h3 => xM C l 0 YX8_add [(2, 3), (0, x2)] g2 h3 (fun r4 g5 h6 => xM C l 0 YX8_add [(2, 3), (0, x3)] g5 h6 (fun r7 g8 h9 => xM C l 0 YX8_add [(2, 3), (0, x4)] g8 h9 (fun r10 g11 h12 => xM C l 0 YX8_add [(2, 3), (0, x5)] g11 h12 (fun r13 g14 h15 => K (h15 3 1) g14 h15)))))) ∧ (¬ mf_w32 ((h 3 1) + 20) ≤ 1600 → (∀ h16 : mf_M, h16 = mf_up h 243 0 (mf_w32 ((h 243 0) + 1)) → K (-1) g h16)))) : xM C l d YX11_feed [(2, 0), (0, x1), (0, x2), (0, x3), (0, x4), (0, x5)] g h K := by
  intro hG
  refine mf_entry (by decide) (Nat.le_of_ble_eq_true rfl) ?_
  refine mf_aload_n (mf_dat eX11_feed 0 rfl) rfl rfl ?_
  refine mf_getf (r := (RX11, TX11, 20)) (ci := 11) (k := 0) (t := 2) (v := 3) (mf_dat eX11_feed 1 rfl) fl_X11_15 rfl (by decide) rfl (gx_0_0 hG) is0 ?_
  refine mf_getf (r := (RX8, TX8, 2)) (ci := 8) (k := 1) (t := 0) (v := h 3 1) (mf_dat eX11_feed 2 rfl) fl_X11_107 rfl (by decide) rfl rfl is3 ?_
  refine mf_bipush (v := 20) (mf_dat eX11_feed 3 rfl) (by decide) ?_
  refine mf_iadd (mf_dat eX11_feed 4 rfl) ?_
  refine mf_sipush (v := 1600) (mf_dat eX11_feed 5 rfl) (by decide) ?_
  refine mf_icmp_le (tgt := 28) (mf_dat eX11_feed 6 rfl) (by decide) (fun hc => ?_) (fun hc => ?_)
  · replace hyp := hyp.1 hc
    refine mf_aload_n (mf_dat eX11_feed 17 rfl) rfl rfl ?_
    refine mf_getf (r := (RX11, TX11, 20)) (ci := 11) (k := 0) (t := 2) (v := 3) (mf_dat eX11_feed 18 rfl) fl_X11_15 rfl (by decide) rfl (gx_0_0 hG) is0 ?_
    refine mf_iload_n (mf_dat eX11_feed 19 rfl) rfl rfl ?_
    refine mf_callV (Yc := YX8_add) (r := (RX8, TX8, 2)) (ci := 8) (mf_dat eX11_feed 20 rfl) ml_X11_110 okX8_add im_X8_add sl_X8_add rfl rfl rfl rfl (Nat.le_of_ble_eq_true rfl) (mf_rr (Nat.le_trans (by decide) hd) (Nat.le_refl _)) (Nat.le_refl _) is3 (hyp hG) (fun r1 g2 h3 hyp => ?_)
    obtain ⟨hG, hyp⟩ := hyp
    refine mf_aload_n (mf_dat eX11_feed 21 rfl) rfl rfl ?_
    refine mf_getf (r := (RX11, TX11, 20)) (ci := 11) (k := 0) (t := 2) (v := 3) (mf_dat eX11_feed 22 rfl) fl_X11_15 rfl (by decide) rfl (gx_0_0 hG) is0 ?_
    refine mf_iload_n (mf_dat eX11_feed 23 rfl) rfl rfl ?_
    refine mf_callV (Yc := YX8_add) (r := (RX8, TX8, 2)) (ci := 8) (mf_dat eX11_feed 24 rfl) ml_X11_110 okX8_add im_X8_add sl_X8_add rfl rfl rfl rfl (Nat.le_of_ble_eq_true rfl) (mf_rr (Nat.le_trans (by decide) hd) (Nat.le_refl _)) (Nat.le_refl _) is3 (hyp hG) (fun r4 g5 h6 hyp => ?_)
    obtain ⟨hG, hyp⟩ := hyp
    refine mf_aload_n (mf_dat eX11_feed 25 rfl) rfl rfl ?_
    refine mf_getf (r := (RX11, TX11, 20)) (ci := 11) (k := 0) (t := 2) (v := 3) (mf_dat eX11_feed 26 rfl) fl_X11_15 rfl (by decide) rfl (gx_0_0 hG) is0 ?_
    refine mf_iload_n (mf_dat eX11_feed 27 rfl) rfl rfl ?_
    refine mf_callV (Yc := YX8_add) (r := (RX8, TX8, 2)) (ci := 8) (mf_dat eX11_feed 28 rfl) ml_X11_110 okX8_add im_X8_add sl_X8_add rfl rfl rfl rfl (Nat.le_of_ble_eq_true rfl) (mf_rr (Nat.le_trans (by decide) hd) (Nat.le_refl _)) (Nat.le_refl _) is3 (hyp hG) (fun r7 g8 h9 hyp => ?_)
    obtain ⟨hG, hyp⟩ := hyp
    refine mf_aload_n (mf_dat eX11_feed 29 rfl) rfl rfl ?_
    refine mf_getf (r := (RX11, TX11, 20)) (ci := 11) (k := 0) (t := 2) (v := 3) (mf_dat eX11_feed 30 rfl) fl_X11_15 rfl (by decide) rfl (gx_0_0 hG) is0 ?_
    refine mf_iload (mf_dat eX11_feed 31 rfl) rfl ?_
    refine mf_callV (Yc := YX8_add) (r := (RX8, TX8, 2)) (ci := 8) (mf_dat eX11_feed 32 rfl) ml_X11_110 okX8_add im_X8_add sl_X8_add rfl rfl rfl rfl (Nat.le_of_ble_eq_true rfl) (mf_rr (Nat.le_trans (by decide) hd) (Nat.le_refl _)) (Nat.le_refl _) is3 (hyp hG) (fun r10 g11 h12 hyp => ?_)
    obtain ⟨hG, hyp⟩ := hyp
    refine mf_aload_n (mf_dat eX11_feed 33 rfl) rfl rfl ?_
    refine mf_getf (r := (RX11, TX11, 20)) (ci := 11) (k := 0) (t := 2) (v := 3) (mf_dat eX11_feed 34 rfl) fl_X11_15 rfl (by decide) rfl (gx_0_0 hG) is0 ?_
    refine mf_iload (mf_dat eX11_feed 35 rfl) rfl ?_
    refine mf_callV (Yc := YX8_add) (r := (RX8, TX8, 2)) (ci := 8) (mf_dat eX11_feed 36 rfl) ml_X11_110 okX8_add im_X8_add sl_X8_add rfl rfl rfl rfl (Nat.le_of_ble_eq_true rfl) (mf_rr (Nat.le_trans (by decide) hd) (Nat.le_refl _)) (Nat.le_refl _) is3 (hyp hG) (fun r13 g14 h15 hyp => ?_)
    obtain ⟨hG, hyp⟩ := hyp
    refine mf_aload_n (mf_dat eX11_feed 37 rfl) rfl rfl ?_
    refine mf_getf (r := (RX11, TX11, 20)) (ci := 11) (k := 0) (t := 2) (v := 3) (mf_dat eX11_feed 38 rfl) fl_X11_15 rfl (by decide) rfl (gx_0_0 hG) is0 ?_
    refine mf_getf (r := (RX8, TX8, 2)) (ci := 8) (k := 1) (t := 0) (v := h15 3 1) (mf_dat eX11_feed 39 rfl) fl_X11_107 rfl (by decide) rfl rfl is3 ?_
    exact mf_ireturn (mf_dat eX11_feed 40 rfl) rfl (Or.inl rfl) ⟨hG, hyp⟩
  · replace hyp := hyp.2 hc
    refine mf_aload_n (mf_dat eX11_feed 7 rfl) rfl rfl ?_
    refine mf_getf (r := (RX11, TX11, 20)) (ci := 11) (k := 10) (t := 2) (v := 243) (mf_dat eX11_feed 8 rfl) fl_X11_93 rfl (by decide) rfl (gx_0_10 hG) is0 ?_
    refine mf_iconst (v := 0) (mf_dat eX11_feed 9 rfl) (by decide) ?_
    refine mf_dup2 (mf_dat eX11_feed 10 rfl) (by decide) (by decide) ?_
    refine mf_iald (mf_dat eX11_feed 11 rfl) is243 len243 (by decide) (by decide) ?_
    refine mf_iconst (v := 1) (mf_dat eX11_feed 12 rfl) (by decide) ?_
    refine mf_iadd (mf_dat eX11_feed 13 rfl) ?_
    refine mf_iast (mf_dat eX11_feed 14 rfl) is243 len243 (by decide) (by decide) ?_
    generalize qh16 : mf_up h 243 0 (mf_w32 ((h 243 0) + 1)) = h16
    replace hyp := hyp _ qh16.symm
    refine mf_iconst (v := (-1)) (mf_dat eX11_feed 15 rfl) (by decide) ?_
    exact mf_ireturn (mf_dat eX11_feed 16 rfl) rfl (Or.inl rfl) ⟨hG, hyp⟩
set_option maxRecDepth 100000 in
set_option maxHeartbeats 4000000 in
theorem wX11_end {C : mf_G} {l : Launch} {d : Nat} {K : mf_Kt} {x1 : Int} {g h : mf_M} (hyp : ((x1 < 0 → (∀ h1 : mf_M, h1 = mf_up h 243 0 (mf_w32 ((h 243 0) + 1)) → K 0 g h1)) ∧ (¬ x1 < 0 → ((x1 ≤ h 3 1 → (∀ h2 : mf_M, h2 = mf_up h 3 1 x1 → K 1 g h2)) ∧ (¬ x1 ≤ h 3 1 → (∀ h3 : mf_M, h3 = mf_up h 243 0 (mf_w32 ((h 243 0) + 1)) → K 0 g h3)))))) : xM C l d YX11_end [(2, 0), (0, x1)] g h K := by
  intro hG
  refine mf_entry (by decide) (Nat.le_of_ble_eq_true rfl) ?_
  refine mf_iload_n (mf_dat eX11_end 0 rfl) rfl rfl ?_
  refine mf_if_lt (tgt := 15) (mf_dat eX11_end 1 rfl) (by decide) (fun hc => ?_) (fun hc => ?_)
  · replace hyp := hyp.1 hc
    refine mf_aload_n (mf_dat eX11_end 7 rfl) rfl rfl ?_
    refine mf_getf (r := (RX11, TX11, 20)) (ci := 11) (k := 10) (t := 2) (v := 243) (mf_dat eX11_end 8 rfl) fl_X11_93 rfl (by decide) rfl (gx_0_10 hG) is0 ?_
    refine mf_iconst (v := 0) (mf_dat eX11_end 9 rfl) (by decide) ?_
    refine mf_dup2 (mf_dat eX11_end 10 rfl) (by decide) (by decide) ?_
    refine mf_iald (mf_dat eX11_end 11 rfl) is243 len243 (by decide) (by decide) ?_
    refine mf_iconst (v := 1) (mf_dat eX11_end 12 rfl) (by decide) ?_
    refine mf_iadd (mf_dat eX11_end 13 rfl) ?_
    refine mf_iast (mf_dat eX11_end 14 rfl) is243 len243 (by decide) (by decide) ?_
    generalize qh1 : mf_up h 243 0 (mf_w32 ((h 243 0) + 1)) = h1
    replace hyp := hyp _ qh1.symm
    refine mf_iconst (v := 0) (mf_dat eX11_end 15 rfl) (by decide) ?_
    exact mf_ireturn (mf_dat eX11_end 16 rfl) rfl (Or.inr ⟨rfl, by decide⟩) ⟨hG, hyp⟩
  · replace hyp := hyp.2 hc
    refine mf_iload_n (mf_dat eX11_end 2 rfl) rfl rfl ?_
    refine mf_aload_n (mf_dat eX11_end 3 rfl) rfl rfl ?_
    refine mf_getf (r := (RX11, TX11, 20)) (ci := 11) (k := 0) (t := 2) (v := 3) (mf_dat eX11_end 4 rfl) fl_X11_15 rfl (by decide) rfl (gx_0_0 hG) is0 ?_
    refine mf_getf (r := (RX8, TX8, 2)) (ci := 8) (k := 1) (t := 0) (v := h 3 1) (mf_dat eX11_end 5 rfl) fl_X11_107 rfl (by decide) rfl rfl is3 ?_
    refine mf_icmp_le (tgt := 27) (mf_dat eX11_end 6 rfl) (by decide) (fun hc => ?_) (fun hc => ?_)
    · replace hyp := hyp.1 hc
      refine mf_aload_n (mf_dat eX11_end 17 rfl) rfl rfl ?_
      refine mf_getf (r := (RX11, TX11, 20)) (ci := 11) (k := 0) (t := 2) (v := 3) (mf_dat eX11_end 18 rfl) fl_X11_15 rfl (by decide) rfl (gx_0_0 hG) is0 ?_
      refine mf_iload_n (mf_dat eX11_end 19 rfl) rfl rfl ?_
      refine mf_putI (r := (RX8, TX8, 2)) (ci := 8) (k := 1) (kI := 1) (t := 0) (mf_dat eX11_end 20 rfl) fl_X11_107 rfl rfl (by decide) rfl (by decide) rfl (by decide) (fun h9 => absurd h9 (by decide)) is3 ?_
      generalize qh2 : mf_up h 3 1 x1 = h2
      replace hyp := hyp _ qh2.symm
      refine mf_iconst (v := 1) (mf_dat eX11_end 21 rfl) (by decide) ?_
      exact mf_ireturn (mf_dat eX11_end 22 rfl) rfl (Or.inr ⟨rfl, by decide⟩) ⟨hG, hyp⟩
    · replace hyp := hyp.2 hc
      refine mf_aload_n (mf_dat eX11_end 7 rfl) rfl rfl ?_
      refine mf_getf (r := (RX11, TX11, 20)) (ci := 11) (k := 10) (t := 2) (v := 243) (mf_dat eX11_end 8 rfl) fl_X11_93 rfl (by decide) rfl (gx_0_10 hG) is0 ?_
      refine mf_iconst (v := 0) (mf_dat eX11_end 9 rfl) (by decide) ?_
      refine mf_dup2 (mf_dat eX11_end 10 rfl) (by decide) (by decide) ?_
      refine mf_iald (mf_dat eX11_end 11 rfl) is243 len243 (by decide) (by decide) ?_
      refine mf_iconst (v := 1) (mf_dat eX11_end 12 rfl) (by decide) ?_
      refine mf_iadd (mf_dat eX11_end 13 rfl) ?_
      refine mf_iast (mf_dat eX11_end 14 rfl) is243 len243 (by decide) (by decide) ?_
      generalize qh3 : mf_up h 243 0 (mf_w32 ((h 243 0) + 1)) = h3
      replace hyp := hyp _ qh3.symm
      refine mf_iconst (v := 0) (mf_dat eX11_end 15 rfl) (by decide) ?_
      exact mf_ireturn (mf_dat eX11_end 16 rfl) rfl (Or.inr ⟨rfl, by decide⟩) ⟨hG, hyp⟩
set_option maxRecDepth 100000 in
set_option maxHeartbeats 4000000 in
theorem wX11_folio {C : mf_G} {l : Launch} {d : Nat} {K : mf_Kt} {g h : mf_M} (hd : 128 ≤ d) (hyp : xM C l 127 YX2_read [(2, 45), (2, g 0 13)] g h (fun r1 g2 h3 => xM C l 0 YX11_takeFault [(2, 0)] g2 h3 (fun r4 g5 h6 => ((h6 0 17 = 0 → (∀ g7 : mf_M, g7 = mf_up g5 0 12 (g5 0 13) → (∀ g8 : mf_M, g8 = mf_up g7 0 13 (g5 0 12) → mf_is 319 (g8 0 12) 1 ∧ xM C l 2 YX6_copyAll [(2, 88), (2, g8 0 12 + 10)] g8 h6 (fun r10 g11 h12 => (∀ h13 : mf_M, h13 = mf_up h12 51 11 0 → (∀ h14 : mf_M, h14 = mf_up h13 0 15 0 → mf_is 319 (g11 0 12) 1 ∧ K (h14 (g11 0 12) 7) g11 h14)))))) ∧ (¬ h6 0 17 = 0 → (∀ h16 : mf_M, h16 = mf_up h6 243 1 (mf_w32 ((h6 243 1) + 1)) → K (-1) g5 h16)))))) : xM C l d YX11_folio [(2, 0)] g h K := by
  intro hG
  refine mf_entry (by decide) (Nat.le_of_ble_eq_true rfl) ?_
  refine mf_aload_n (mf_dat eX11_folio 0 rfl) rfl rfl ?_
  refine mf_getf (r := (RX11, TX11, 20)) (ci := 11) (k := 3) (t := 2) (v := 45) (mf_dat eX11_folio 1 rfl) fl_X11_59 rfl (by decide) rfl (gx_0_3 hG) is0 ?_
  refine mf_aload_n (mf_dat eX11_folio 2 rfl) rfl rfl ?_
  refine mf_getf (r := (RX11, TX11, 20)) (ci := 11) (k := 13) (t := 2) (v := g 0 13) (mf_dat eX11_folio 3 rfl) fl_X11_51 rfl (by decide) rfl rfl is0 ?_
  refine mf_callV (Yc := YX2_read) (r := (RX2, TX2, 4)) (ci := 2) (mf_dat eX11_folio 4 rfl) ml_X11_114 okX2_read im_X2_read sl_X2_read rfl rfl rfl rfl (Nat.le_of_ble_eq_true rfl) (mf_rr (Nat.le_trans (by decide) hd) (Nat.le_refl _)) (Nat.le_refl _) is45 (hyp hG) (fun r1 g2 h3 hyp => ?_)
  obtain ⟨hG, hyp⟩ := hyp
  refine mf_aload_n (mf_dat eX11_folio 5 rfl) rfl rfl ?_
  refine mf_callV (Yc := YX11_takeFault) (r := (RX11, TX11, 20)) (ci := 11) (mf_dat eX11_folio 6 rfl) ml_X11_118 okX11_takeFault im_X11_takeFault sl_X11_takeFault rfl rfl rfl rfl (Nat.le_of_ble_eq_true rfl) (mf_rr (Nat.le_trans (by decide) hd) (Nat.le_refl _)) (Nat.le_refl _) is0 (hyp hG) (fun r4 g5 h6 hyp => ?_)
  obtain ⟨hG, hyp⟩ := hyp
  refine mf_aload_n (mf_dat eX11_folio 7 rfl) rfl rfl ?_
  refine mf_getf (r := (RX11, TX11, 20)) (ci := 11) (k := 17) (t := 0) (v := h6 0 17) (mf_dat eX11_folio 8 rfl) fl_X11_121 rfl (by decide) rfl rfl is0 ?_
  refine mf_if_eq (tgt := 34) (mf_dat eX11_folio 9 rfl) (by decide) (fun hc => ?_) (fun hc => ?_)
  · replace hyp := hyp.1 hc
    refine mf_aload_n (mf_dat eX11_folio 20 rfl) rfl rfl ?_
    refine mf_getf (r := (RX11, TX11, 20)) (ci := 11) (k := 12) (t := 2) (v := g5 0 12) (mf_dat eX11_folio 21 rfl) fl_X11_47 rfl (by decide) rfl rfl is0 ?_
    refine mf_astore_n (mf_dat eX11_folio 22 rfl) rfl (by decide) ?_
    refine mf_aload_n (mf_dat eX11_folio 23 rfl) rfl rfl ?_
    refine mf_aload_n (mf_dat eX11_folio 24 rfl) rfl rfl ?_
    refine mf_getf (r := (RX11, TX11, 20)) (ci := 11) (k := 13) (t := 2) (v := g5 0 13) (mf_dat eX11_folio 25 rfl) fl_X11_51 rfl (by decide) rfl rfl is0 ?_
    refine mf_putR (r := (RX11, TX11, 20)) (ci := 11) (k := 12) (kI := 12) (t := 2) (mf_dat eX11_folio 26 rfl) fl_X11_47 rfl rfl (by decide) rfl (by decide) rfl (by decide) (fun h9 => absurd h9 (by decide)) is0 ?_
    replace hG := hG.up (a := 0) (k := 12) (v := g5 0 13) (by decide)
    generalize qg7 : mf_up g5 0 12 (g5 0 13) = g7 at hG ⊢
    replace hyp := hyp _ qg7.symm
    refine mf_aload_n (mf_dat eX11_folio 27 rfl) rfl rfl ?_
    refine mf_aload_n (mf_dat eX11_folio 28 rfl) rfl rfl ?_
    refine mf_putR (r := (RX11, TX11, 20)) (ci := 11) (k := 13) (kI := 13) (t := 2) (mf_dat eX11_folio 29 rfl) fl_X11_51 rfl rfl (by decide) rfl (by decide) rfl (by decide) (fun h9 => absurd h9 (by decide)) is0 ?_
    replace hG := hG.up (a := 0) (k := 13) (v := g5 0 12) (by decide)
    generalize qg8 : mf_up g7 0 13 (g5 0 12) = g8 at hG ⊢
    replace hyp := hyp _ qg8.symm
    refine mf_aload_n (mf_dat eX11_folio 30 rfl) rfl rfl ?_
    refine mf_getf (r := (RX11, TX11, 20)) (ci := 11) (k := 7) (t := 2) (v := 88) (mf_dat eX11_folio 31 rfl) fl_X11_82 rfl (by decide) rfl (gx_0_7 hG) is0 ?_
    refine mf_aload_n (mf_dat eX11_folio 32 rfl) rfl rfl ?_
    refine mf_getf (r := (RX11, TX11, 20)) (ci := 11) (k := 12) (t := 2) (v := g8 0 12) (mf_dat eX11_folio 33 rfl) fl_X11_47 rfl (by decide) rfl rfl is0 ?_
    obtain ⟨ck9, hyp⟩ := hyp
    refine mf_getf (r := (RX1, TX1, 14)) (ci := 1) (k := 6) (t := 2) (v := g8 0 12 + 10) (mf_dat eX11_folio 34 rfl) fl_X11_124 rfl (by decide) rfl (gf_6 hG ck9) ck9 ?_
    refine mf_callV (Yc := YX6_copyAll) (r := (RX6, TX6, 8)) (ci := 6) (mf_dat eX11_folio 35 rfl) ml_X11_127 okX6_copyAll im_X6_copyAll sl_X6_copyAll rfl rfl rfl rfl (Nat.le_of_ble_eq_true rfl) (mf_rr (Nat.le_trans (by decide) hd) (Nat.le_refl _)) (Nat.le_refl _) is88 (hyp hG) (fun r10 g11 h12 hyp => ?_)
    obtain ⟨hG, hyp⟩ := hyp
    refine mf_aload_n (mf_dat eX11_folio 36 rfl) rfl rfl ?_
    refine mf_getf (r := (RX11, TX11, 20)) (ci := 11) (k := 5) (t := 2) (v := 51) (mf_dat eX11_folio 37 rfl) fl_X11_75 rfl (by decide) rfl (gx_0_5 hG) is0 ?_
    refine mf_iconst (v := 0) (mf_dat eX11_folio 38 rfl) (by decide) ?_
    refine mf_putI (r := (RX5, TX5, 12)) (ci := 5) (k := 11) (kI := 11) (t := 0) (mf_dat eX11_folio 39 rfl) fl_X11_131 rfl rfl (by decide) rfl (by decide) rfl (by decide) (fun h9 => absurd h9 (by decide)) is51 ?_
    generalize qh13 : mf_up h12 51 11 0 = h13
    replace hyp := hyp _ qh13.symm
    refine mf_aload_n (mf_dat eX11_folio 40 rfl) rfl rfl ?_
    refine mf_iconst (v := 0) (mf_dat eX11_folio 41 rfl) (by decide) ?_
    refine mf_putI (r := (RX11, TX11, 20)) (ci := 11) (k := 15) (kI := 15) (t := 0) (mf_dat eX11_folio 42 rfl) fl_X11_134 rfl rfl (by decide) rfl (by decide) rfl (by decide) (fun h9 => absurd h9 (by decide)) is0 ?_
    generalize qh14 : mf_up h13 0 15 0 = h14
    replace hyp := hyp _ qh14.symm
    refine mf_aload_n (mf_dat eX11_folio 43 rfl) rfl rfl ?_
    refine mf_getf (r := (RX11, TX11, 20)) (ci := 11) (k := 12) (t := 2) (v := g11 0 12) (mf_dat eX11_folio 44 rfl) fl_X11_47 rfl (by decide) rfl rfl is0 ?_
    obtain ⟨ck15, hyp⟩ := hyp
    refine mf_getf (r := (RX1, TX1, 14)) (ci := 1) (k := 7) (t := 0) (v := h14 (g11 0 12) 7) (mf_dat eX11_folio 45 rfl) fl_X11_137 rfl (by decide) rfl rfl ck15 ?_
    exact mf_ireturn (mf_dat eX11_folio 46 rfl) rfl (Or.inl rfl) ⟨hG, hyp⟩
  · replace hyp := hyp.2 hc
    refine mf_aload_n (mf_dat eX11_folio 10 rfl) rfl rfl ?_
    refine mf_getf (r := (RX11, TX11, 20)) (ci := 11) (k := 10) (t := 2) (v := 243) (mf_dat eX11_folio 11 rfl) fl_X11_93 rfl (by decide) rfl (gx_0_10 hG) is0 ?_
    refine mf_iconst (v := 1) (mf_dat eX11_folio 12 rfl) (by decide) ?_
    refine mf_dup2 (mf_dat eX11_folio 13 rfl) (by decide) (by decide) ?_
    refine mf_iald (mf_dat eX11_folio 14 rfl) is243 len243 (by decide) (by decide) ?_
    refine mf_iconst (v := 1) (mf_dat eX11_folio 15 rfl) (by decide) ?_
    refine mf_iadd (mf_dat eX11_folio 16 rfl) ?_
    refine mf_iast (mf_dat eX11_folio 17 rfl) is243 len243 (by decide) (by decide) ?_
    generalize qh16 : mf_up h6 243 1 (mf_w32 ((h6 243 1) + 1)) = h16
    replace hyp := hyp _ qh16.symm
    refine mf_iconst (v := (-1)) (mf_dat eX11_folio 18 rfl) (by decide) ?_
    exact mf_ireturn (mf_dat eX11_folio 19 rfl) rfl (Or.inl rfl) ⟨hG, hyp⟩
set_option maxRecDepth 100000 in
set_option maxHeartbeats 4000000 in
theorem wX11_fault {C : mf_G} {l : Launch} {d : Nat} {K : mf_Kt} {x1 : Int} {g h : mf_M} (hyp : ((¬ x1 = 0 → ((¬ x1 = 1 → K (-1) g h) ∧ (x1 = 1 → K (h 0 18) g h))) ∧ (x1 = 0 → K (h 0 17) g h))) : xM C l d YX11_fault [(2, 0), (0, x1)] g h K := by
  intro hG
  refine mf_entry (by decide) (Nat.le_of_ble_eq_true rfl) ?_
  refine mf_iload_n (mf_dat eX11_fault 0 rfl) rfl rfl ?_
  refine mf_if_ne (tgt := 9) (mf_dat eX11_fault 1 rfl) (by decide) (fun hc => ?_) (fun hc => ?_)
  · replace hyp := hyp.1 hc
    refine mf_iload_n (mf_dat eX11_fault 5 rfl) rfl rfl ?_
    refine mf_iconst (v := 1) (mf_dat eX11_fault 6 rfl) (by decide) ?_
    refine mf_icmp_ne (tgt := 21) (mf_dat eX11_fault 7 rfl) (by decide) (fun hc => ?_) (fun hc => ?_)
    · replace hyp := hyp.1 hc
      refine mf_iconst (v := (-1)) (mf_dat eX11_fault 11 rfl) (by decide) ?_
      exact mf_ireturn (mf_dat eX11_fault 12 rfl) rfl (Or.inl rfl) ⟨hG, hyp⟩
    · replace hyp := hyp.2 hc
      refine mf_aload_n (mf_dat eX11_fault 8 rfl) rfl rfl ?_
      refine mf_getf (r := (RX11, TX11, 20)) (ci := 11) (k := 18) (t := 0) (v := h 0 18) (mf_dat eX11_fault 9 rfl) fl_X11_100 rfl (by decide) rfl rfl is0 ?_
      refine mf_goto (tgt := 22) (mf_dat eX11_fault 10 rfl) (by decide) ?_
      exact mf_ireturn (mf_dat eX11_fault 12 rfl) rfl (Or.inl rfl) ⟨hG, hyp⟩
  · replace hyp := hyp.2 hc
    refine mf_aload_n (mf_dat eX11_fault 2 rfl) rfl rfl ?_
    refine mf_getf (r := (RX11, TX11, 20)) (ci := 11) (k := 17) (t := 0) (v := h 0 17) (mf_dat eX11_fault 3 rfl) fl_X11_121 rfl (by decide) rfl rfl is0 ?_
    exact mf_ireturn (mf_dat eX11_fault 4 rfl) rfl (Or.inl rfl) ⟨hG, hyp⟩
set_option maxRecDepth 100000 in
set_option maxHeartbeats 4000000 in
theorem wX11_has {C : mf_G} {l : Launch} {d : Nat} {K : mf_Kt} {x1 : Int} {g h : mf_M} (hd : 5 ≤ d) (hyp : ((x1 = 0 → mf_is 319 (g 0 12) 1 ∧ K (h (g 0 12) 8) g h) ∧ (x1 = 1 → mf_is 319 (g 0 12) 1 ∧ K (h (g 0 12) 9) g h) ∧ (x1 = 2 → xM C l 1 YX6_countGlosses [(2, 88)] g h (fun r3 g4 h5 => K r3 g4 h5)) ∧ (x1 = 3 → mf_is 319 (g 0 12) 1 ∧ K (h (g 0 12) 11) g h) ∧ (x1 = 4 → mf_is 319 (g 0 12) 1 ∧ K (h (g 0 12) 12) g h) ∧ (x1 = 5 → K (h 88 7) g h) ∧ (x1 = 6 → xM C l 4 YX0_openingOf [(2, 46), (2, g 0 12), (0, h 88 7)] g h (fun r8 g9 h10 => K r8 g9 h10)) ∧ (x1 = 7 → xM C l 0 YX11_allPurses [(2, 0)] g h (fun r11 g12 h13 => K r11 g12 h13)) ∧ (x1 = 8 → xM C l 1 YX6_countKept [(2, 88)] g h (fun r14 g15 h16 => K r14 g15 h16)) ∧ (x1 = 9 → K (h 51 11) g h) ∧ (x1 = 10 → K (h 0 15) g h) ∧ ((x1 < 0 ∨ 10 < x1) → K (-1) g h))) : xM C l d YX11_has [(2, 0), (0, x1)] g h K := by
  intro hG
  refine mf_entry (by decide) (Nat.le_of_ble_eq_true rfl) ?_
  refine mf_iload_n (mf_dat eX11_has 0 rfl) rfl rfl ?_
  refine mf_tsw1 (v := 0) (tgt := 60) (mf_dat eX11_has 1 rfl) (by decide) (by decide) (off := 59) (by decide) (by decide) (fun hc => ?_) (fun hc0 => ?_)
  · replace hyp := hyp.1 hc
    refine mf_aload_n (mf_dat eX11_has 2 rfl) rfl rfl ?_
    refine mf_getf (r := (RX11, TX11, 20)) (ci := 11) (k := 12) (t := 2) (v := g 0 12) (mf_dat eX11_has 3 rfl) fl_X11_47 rfl (by decide) rfl rfl is0 ?_
    obtain ⟨ck1, hyp⟩ := hyp
    refine mf_getf (r := (RX1, TX1, 14)) (ci := 1) (k := 8) (t := 0) (v := h (g 0 12) 8) (mf_dat eX11_has 4 rfl) fl_X11_140 rfl (by decide) rfl rfl ck1 ?_
    exact mf_ireturn (mf_dat eX11_has 5 rfl) rfl (Or.inl rfl) ⟨hG, hyp⟩
  replace hyp := hyp.2
  refine mf_tsw1 (v := 1) (tgt := 68) (mf_dat eX11_has 1 rfl) (by decide) (by decide) (off := 67) (by decide) (by decide) (fun hc => ?_) (fun hc1 => ?_)
  · replace hyp := hyp.1 hc
    refine mf_aload_n (mf_dat eX11_has 6 rfl) rfl rfl ?_
    refine mf_getf (r := (RX11, TX11, 20)) (ci := 11) (k := 12) (t := 2) (v := g 0 12) (mf_dat eX11_has 7 rfl) fl_X11_47 rfl (by decide) rfl rfl is0 ?_
    obtain ⟨ck2, hyp⟩ := hyp
    refine mf_getf (r := (RX1, TX1, 14)) (ci := 1) (k := 9) (t := 0) (v := h (g 0 12) 9) (mf_dat eX11_has 8 rfl) fl_X11_143 rfl (by decide) rfl rfl ck2 ?_
    exact mf_ireturn (mf_dat eX11_has 9 rfl) rfl (Or.inl rfl) ⟨hG, hyp⟩
  replace hyp := hyp.2
  refine mf_tsw1 (v := 2) (tgt := 76) (mf_dat eX11_has 1 rfl) (by decide) (by decide) (off := 75) (by decide) (by decide) (fun hc => ?_) (fun hc2 => ?_)
  · replace hyp := hyp.1 hc
    refine mf_aload_n (mf_dat eX11_has 10 rfl) rfl rfl ?_
    refine mf_getf (r := (RX11, TX11, 20)) (ci := 11) (k := 7) (t := 2) (v := 88) (mf_dat eX11_has 11 rfl) fl_X11_82 rfl (by decide) rfl (gx_0_7 hG) is0 ?_
    refine mf_callV (Yc := YX6_countGlosses) (r := (RX6, TX6, 8)) (ci := 6) (mf_dat eX11_has 12 rfl) ml_X11_146 okX6_countGlosses im_X6_countGlosses sl_X6_countGlosses rfl rfl rfl rfl (Nat.le_of_ble_eq_true rfl) (mf_rr (Nat.le_trans (by decide) hd) (Nat.le_refl _)) (Nat.le_refl _) is88 (hyp hG) (fun r3 g4 h5 hyp => ?_)
    obtain ⟨hG, hyp⟩ := hyp
    exact mf_ireturn (mf_dat eX11_has 13 rfl) rfl (Or.inl rfl) ⟨hG, hyp⟩
  replace hyp := hyp.2
  refine mf_tsw1 (v := 3) (tgt := 84) (mf_dat eX11_has 1 rfl) (by decide) (by decide) (off := 83) (by decide) (by decide) (fun hc => ?_) (fun hc3 => ?_)
  · replace hyp := hyp.1 hc
    refine mf_aload_n (mf_dat eX11_has 14 rfl) rfl rfl ?_
    refine mf_getf (r := (RX11, TX11, 20)) (ci := 11) (k := 12) (t := 2) (v := g 0 12) (mf_dat eX11_has 15 rfl) fl_X11_47 rfl (by decide) rfl rfl is0 ?_
    obtain ⟨ck6, hyp⟩ := hyp
    refine mf_getf (r := (RX1, TX1, 14)) (ci := 1) (k := 11) (t := 0) (v := h (g 0 12) 11) (mf_dat eX11_has 16 rfl) fl_X11_150 rfl (by decide) rfl rfl ck6 ?_
    exact mf_ireturn (mf_dat eX11_has 17 rfl) rfl (Or.inl rfl) ⟨hG, hyp⟩
  replace hyp := hyp.2
  refine mf_tsw1 (v := 4) (tgt := 92) (mf_dat eX11_has 1 rfl) (by decide) (by decide) (off := 91) (by decide) (by decide) (fun hc => ?_) (fun hc4 => ?_)
  · replace hyp := hyp.1 hc
    refine mf_aload_n (mf_dat eX11_has 18 rfl) rfl rfl ?_
    refine mf_getf (r := (RX11, TX11, 20)) (ci := 11) (k := 12) (t := 2) (v := g 0 12) (mf_dat eX11_has 19 rfl) fl_X11_47 rfl (by decide) rfl rfl is0 ?_
    obtain ⟨ck7, hyp⟩ := hyp
    refine mf_getf (r := (RX1, TX1, 14)) (ci := 1) (k := 12) (t := 0) (v := h (g 0 12) 12) (mf_dat eX11_has 20 rfl) fl_X11_153 rfl (by decide) rfl rfl ck7 ?_
    exact mf_ireturn (mf_dat eX11_has 21 rfl) rfl (Or.inl rfl) ⟨hG, hyp⟩
  replace hyp := hyp.2
  refine mf_tsw1 (v := 5) (tgt := 100) (mf_dat eX11_has 1 rfl) (by decide) (by decide) (off := 99) (by decide) (by decide) (fun hc => ?_) (fun hc5 => ?_)
  · replace hyp := hyp.1 hc
    refine mf_aload_n (mf_dat eX11_has 22 rfl) rfl rfl ?_
    refine mf_getf (r := (RX11, TX11, 20)) (ci := 11) (k := 7) (t := 2) (v := 88) (mf_dat eX11_has 23 rfl) fl_X11_82 rfl (by decide) rfl (gx_0_7 hG) is0 ?_
    refine mf_getf (r := (RX6, TX6, 8)) (ci := 6) (k := 7) (t := 0) (v := h 88 7) (mf_dat eX11_has 24 rfl) fl_X11_156 rfl (by decide) rfl rfl is88 ?_
    exact mf_ireturn (mf_dat eX11_has 25 rfl) rfl (Or.inl rfl) ⟨hG, hyp⟩
  replace hyp := hyp.2
  refine mf_tsw1 (v := 6) (tgt := 108) (mf_dat eX11_has 1 rfl) (by decide) (by decide) (off := 107) (by decide) (by decide) (fun hc => ?_) (fun hc6 => ?_)
  · replace hyp := hyp.1 hc
    refine mf_aload_n (mf_dat eX11_has 26 rfl) rfl rfl ?_
    refine mf_getf (r := (RX11, TX11, 20)) (ci := 11) (k := 4) (t := 2) (v := 46) (mf_dat eX11_has 27 rfl) fl_X11_66 rfl (by decide) rfl (gx_0_4 hG) is0 ?_
    refine mf_aload_n (mf_dat eX11_has 28 rfl) rfl rfl ?_
    refine mf_getf (r := (RX11, TX11, 20)) (ci := 11) (k := 12) (t := 2) (v := g 0 12) (mf_dat eX11_has 29 rfl) fl_X11_47 rfl (by decide) rfl rfl is0 ?_
    refine mf_aload_n (mf_dat eX11_has 30 rfl) rfl rfl ?_
    refine mf_getf (r := (RX11, TX11, 20)) (ci := 11) (k := 7) (t := 2) (v := 88) (mf_dat eX11_has 31 rfl) fl_X11_82 rfl (by decide) rfl (gx_0_7 hG) is0 ?_
    refine mf_getf (r := (RX6, TX6, 8)) (ci := 6) (k := 7) (t := 0) (v := h 88 7) (mf_dat eX11_has 32 rfl) fl_X11_156 rfl (by decide) rfl rfl is88 ?_
    refine mf_callV (Yc := YX0_openingOf) (r := (RX0, TX0, 1)) (ci := 0) (mf_dat eX11_has 33 rfl) ml_X11_159 okX0_openingOf im_X0_openingOf sl_X0_openingOf rfl rfl rfl rfl (Nat.le_of_ble_eq_true rfl) (mf_rr (Nat.le_trans (by decide) hd) (Nat.le_refl _)) (Nat.le_refl _) is46 (hyp hG) (fun r8 g9 h10 hyp => ?_)
    obtain ⟨hG, hyp⟩ := hyp
    exact mf_ireturn (mf_dat eX11_has 34 rfl) rfl (Or.inl rfl) ⟨hG, hyp⟩
  replace hyp := hyp.2
  refine mf_tsw1 (v := 7) (tgt := 127) (mf_dat eX11_has 1 rfl) (by decide) (by decide) (off := 126) (by decide) (by decide) (fun hc => ?_) (fun hc7 => ?_)
  · replace hyp := hyp.1 hc
    refine mf_aload_n (mf_dat eX11_has 35 rfl) rfl rfl ?_
    refine mf_callV (Yc := YX11_allPurses) (r := (RX11, TX11, 20)) (ci := 11) (mf_dat eX11_has 36 rfl) ml_X11_163 okX11_allPurses im_X11_allPurses sl_X11_allPurses rfl rfl rfl rfl (Nat.le_of_ble_eq_true rfl) (mf_rr (Nat.le_trans (by decide) hd) (Nat.le_refl _)) (Nat.le_refl _) is0 (hyp hG) (fun r11 g12 h13 hyp => ?_)
    obtain ⟨hG, hyp⟩ := hyp
    exact mf_ireturn (mf_dat eX11_has 37 rfl) rfl (Or.inl rfl) ⟨hG, hyp⟩
  replace hyp := hyp.2
  refine mf_tsw1 (v := 8) (tgt := 132) (mf_dat eX11_has 1 rfl) (by decide) (by decide) (off := 131) (by decide) (by decide) (fun hc => ?_) (fun hc8 => ?_)
  · replace hyp := hyp.1 hc
    refine mf_aload_n (mf_dat eX11_has 38 rfl) rfl rfl ?_
    refine mf_getf (r := (RX11, TX11, 20)) (ci := 11) (k := 7) (t := 2) (v := 88) (mf_dat eX11_has 39 rfl) fl_X11_82 rfl (by decide) rfl (gx_0_7 hG) is0 ?_
    refine mf_callV (Yc := YX6_countKept) (r := (RX6, TX6, 8)) (ci := 6) (mf_dat eX11_has 40 rfl) ml_X11_166 okX6_countKept im_X6_countKept sl_X6_countKept rfl rfl rfl rfl (Nat.le_of_ble_eq_true rfl) (mf_rr (Nat.le_trans (by decide) hd) (Nat.le_refl _)) (Nat.le_refl _) is88 (hyp hG) (fun r14 g15 h16 hyp => ?_)
    obtain ⟨hG, hyp⟩ := hyp
    exact mf_ireturn (mf_dat eX11_has 41 rfl) rfl (Or.inl rfl) ⟨hG, hyp⟩
  replace hyp := hyp.2
  refine mf_tsw1 (v := 9) (tgt := 140) (mf_dat eX11_has 1 rfl) (by decide) (by decide) (off := 139) (by decide) (by decide) (fun hc => ?_) (fun hc9 => ?_)
  · replace hyp := hyp.1 hc
    refine mf_aload_n (mf_dat eX11_has 42 rfl) rfl rfl ?_
    refine mf_getf (r := (RX11, TX11, 20)) (ci := 11) (k := 5) (t := 2) (v := 51) (mf_dat eX11_has 43 rfl) fl_X11_75 rfl (by decide) rfl (gx_0_5 hG) is0 ?_
    refine mf_getf (r := (RX5, TX5, 12)) (ci := 5) (k := 11) (t := 0) (v := h 51 11) (mf_dat eX11_has 44 rfl) fl_X11_131 rfl (by decide) rfl rfl is51 ?_
    exact mf_ireturn (mf_dat eX11_has 45 rfl) rfl (Or.inl rfl) ⟨hG, hyp⟩
  replace hyp := hyp.2
  refine mf_tsw1 (v := 10) (tgt := 148) (mf_dat eX11_has 1 rfl) (by decide) (by decide) (off := 147) (by decide) (by decide) (fun hc => ?_) (fun hc10 => ?_)
  · replace hyp := hyp.1 hc
    refine mf_aload_n (mf_dat eX11_has 46 rfl) rfl rfl ?_
    refine mf_getf (r := (RX11, TX11, 20)) (ci := 11) (k := 15) (t := 0) (v := h 0 15) (mf_dat eX11_has 47 rfl) fl_X11_134 rfl (by decide) rfl rfl is0 ?_
    exact mf_ireturn (mf_dat eX11_has 48 rfl) rfl (Or.inl rfl) ⟨hG, hyp⟩
  replace hyp := hyp.2
  refine mf_tswO (tgt := 153) (mf_dat eX11_has 1 rfl) (by omega) (by decide) ?_
  replace hyp := hyp (by omega)
  refine mf_iconst (v := (-1)) (mf_dat eX11_has 49 rfl) (by decide) ?_
  exact mf_ireturn (mf_dat eX11_has 50 rfl) rfl (Or.inl rfl) ⟨hG, hyp⟩
set_option maxRecDepth 100000 in
set_option maxHeartbeats 4000000 in
theorem wX11_letter {C : mf_G} {l : Launch} {d : Nat} {K : mf_Kt} {x1 x2 : Int} {g h : mf_M} (hd : 1 ≤ d) (hyp : xM C l 0 YX11_isBeing [(2, 0), (0, x1)] g h (fun r1 g2 h3 => ((r1 = 0 → K (-1) g2 h3) ∧ (¬ r1 = 0 → ((x2 < 0 → K (-1) g2 h3) ∧ (¬ x2 < 0 → ((x2 < 6 → mf_is 319 (g2 0 12) 1 ∧ 0 ≤ x1 ∧ x1 < 8 ∧ xM C l 0 YX10_letterOf [(0, h3 (g2 0 12 + 4) x1), (0, x2)] g2 h3 (fun r7 g8 h9 => K r7 g8 h9)) ∧ (¬ x2 < 6 → K (-1) g2 h3)))))))) : xM C l d YX11_letter [(2, 0), (0, x1), (0, x2)] g h K := by
  intro hG
  refine mf_entry (by decide) (Nat.le_of_ble_eq_true rfl) ?_
  refine mf_aload_n (mf_dat eX11_letter 0 rfl) rfl rfl ?_
  refine mf_iload_n (mf_dat eX11_letter 1 rfl) rfl rfl ?_
  refine mf_callV (Yc := YX11_isBeing) (r := (RX11, TX11, 20)) (ci := 11) (mf_dat eX11_letter 2 rfl) ml_X11_169 okX11_isBeing im_X11_isBeing sl_X11_isBeing rfl rfl rfl rfl (Nat.le_of_ble_eq_true rfl) (mf_rr (Nat.le_trans (by decide) hd) (Nat.le_refl _)) (Nat.le_refl _) is0 (hyp hG) (fun r1 g2 h3 hyp => ?_)
  obtain ⟨hG, hyp⟩ := hyp
  refine mf_if_eq (tgt := 18) (mf_dat eX11_letter 3 rfl) (by decide) (fun hc => ?_) (fun hc => ?_)
  · replace hyp := hyp.1 hc
    refine mf_iconst (v := (-1)) (mf_dat eX11_letter 9 rfl) (by decide) ?_
    exact mf_ireturn (mf_dat eX11_letter 10 rfl) rfl (Or.inl rfl) ⟨hG, hyp⟩
  · replace hyp := hyp.2 hc
    refine mf_iload_n (mf_dat eX11_letter 4 rfl) rfl rfl ?_
    refine mf_if_lt (tgt := 18) (mf_dat eX11_letter 5 rfl) (by decide) (fun hc => ?_) (fun hc => ?_)
    · replace hyp := hyp.1 hc
      refine mf_iconst (v := (-1)) (mf_dat eX11_letter 9 rfl) (by decide) ?_
      exact mf_ireturn (mf_dat eX11_letter 10 rfl) rfl (Or.inl rfl) ⟨hG, hyp⟩
    · replace hyp := hyp.2 hc
      refine mf_iload_n (mf_dat eX11_letter 6 rfl) rfl rfl ?_
      refine mf_bipush (v := 6) (mf_dat eX11_letter 7 rfl) (by decide) ?_
      refine mf_icmp_lt (tgt := 20) (mf_dat eX11_letter 8 rfl) (by decide) (fun hc => ?_) (fun hc => ?_)
      · replace hyp := hyp.1 hc
        refine mf_aload_n (mf_dat eX11_letter 11 rfl) rfl rfl ?_
        refine mf_getf (r := (RX11, TX11, 20)) (ci := 11) (k := 12) (t := 2) (v := g2 0 12) (mf_dat eX11_letter 12 rfl) fl_X11_47 rfl (by decide) rfl rfl is0 ?_
        obtain ⟨ck4, hyp⟩ := hyp
        refine mf_getf (r := (RX1, TX1, 14)) (ci := 1) (k := 3) (t := 2) (v := g2 0 12 + 4) (mf_dat eX11_letter 13 rfl) fl_X11_173 rfl (by decide) rfl (gf_3 hG ck4) ck4 ?_
        refine mf_iload_n (mf_dat eX11_letter 14 rfl) rfl rfl ?_
        obtain ⟨ck5, hyp⟩ := hyp
        obtain ⟨ck6, hyp⟩ := hyp
        refine mf_iald (mf_dat eX11_letter 15 rfl) (fo_is3 ck4) (fo_len3 ck4) ck5 ck6 ?_
        refine mf_iload_n (mf_dat eX11_letter 16 rfl) rfl rfl ?_
        refine mf_callS (Yc := YX10_letterOf) (mf_dat eX11_letter 17 rfl) ml_X11_176 okX10_letterOf sm_X10_letterOf rfl rfl (Nat.le_of_ble_eq_true rfl) (mf_rr (Nat.le_trans (by decide) hd) (Nat.le_refl _)) (Nat.le_refl _) (hyp hG) (fun r7 g8 h9 hyp => ?_)
        obtain ⟨hG, hyp⟩ := hyp
        exact mf_ireturn (mf_dat eX11_letter 18 rfl) rfl (Or.inl rfl) ⟨hG, hyp⟩
      · replace hyp := hyp.2 hc
        refine mf_iconst (v := (-1)) (mf_dat eX11_letter 9 rfl) (by decide) ?_
        exact mf_ireturn (mf_dat eX11_letter 10 rfl) rfl (Or.inl rfl) ⟨hG, hyp⟩
