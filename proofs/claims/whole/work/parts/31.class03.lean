set_option maxRecDepth 100000 in
set_option maxHeartbeats 4000000 in
theorem wX11_being {C : mf_G} {l : Launch} {d : Nat} {K : mf_Kt} {x1 x2 : Int} {g h : mf_M} (hd : 5 ≤ d) (hyp : xM C l 0 YX11_isBeing [(2, 0), (0, x1)] g h (fun r1 g2 h3 => ((¬ r1 = 0 → ((x2 = 0 → 0 ≤ x1 ∧ x1 < 8 ∧ K (h3 90 x1) g2 h3) ∧ (x2 = 1 → 0 ≤ x1 ∧ x1 < 8 ∧ K (h3 91 x1) g2 h3) ∧ (x2 = 2 → mf_is 319 (g2 0 12) 1 ∧ 0 ≤ x1 ∧ x1 < 8 ∧ K (h3 (g2 0 12 + 5) x1) g2 h3) ∧ (x2 = 3 → 0 ≤ x1 ∧ x1 < 8 ∧ K (h3 92 x1) g2 h3) ∧ (x2 = 4 → 0 ≤ x1 ∧ x1 < 8 ∧ K (h3 93 x1) g2 h3) ∧ (x2 = 5 → xM C l 4 YX0_openingOf [(2, 46), (2, g2 0 12), (0, h3 88 7)] g2 h3 (fun r15 g16 h17 => 0 ≤ x1 ∧ x1 < 8 ∧ xM C l 0 YX0_liesOpen [(0, r15), (0, h17 90 x1)] g16 h17 (fun r20 g21 h22 => ((r20 = 0 → K 0 g21 h22) ∧ (¬ r20 = 0 → K 1 g21 h22))))) ∧ ((x2 < 0 ∨ 5 < x2) → K (-1) g2 h3))) ∧ (r1 = 0 → K (-1) g2 h3)))) : xM C l d YX11_being [(2, 0), (0, x1), (0, x2)] g h K := by
  intro hG
  refine mf_entry (by decide) (Nat.le_of_ble_eq_true rfl) ?_
  refine mf_aload_n (mf_dat eX11_being 0 rfl) rfl rfl ?_
  refine mf_iload_n (mf_dat eX11_being 1 rfl) rfl rfl ?_
  refine mf_callV (Yc := YX11_isBeing) (r := (RX11, TX11, 20)) (ci := 11) (mf_dat eX11_being 2 rfl) ml_X11_169 okX11_isBeing im_X11_isBeing sl_X11_isBeing rfl rfl rfl rfl (Nat.le_of_ble_eq_true rfl) (mf_rr (Nat.le_trans (by decide) hd) (Nat.le_refl _)) (Nat.le_refl _) is0 (hyp hG) (fun r1 g2 h3 hyp => ?_)
  obtain ⟨hG, hyp⟩ := hyp
  refine mf_if_ne (tgt := 10) (mf_dat eX11_being 3 rfl) (by decide) (fun hc => ?_) (fun hc => ?_)
  · replace hyp := hyp.1 hc
    refine mf_iload_n (mf_dat eX11_being 6 rfl) rfl rfl ?_
    refine mf_tsw1 (v := 0) (tgt := 48) (mf_dat eX11_being 7 rfl) (by decide) (by decide) (off := 37) (by decide) (by decide) (fun hc => ?_) (fun hc0 => ?_)
    · replace hyp := hyp.1 hc
      refine mf_aload_n (mf_dat eX11_being 8 rfl) rfl rfl ?_
      refine mf_getf (r := (RX11, TX11, 20)) (ci := 11) (k := 7) (t := 2) (v := 88) (mf_dat eX11_being 9 rfl) fl_X11_82 rfl (by decide) rfl (gx_0_7 hG) is0 ?_
      refine mf_getf (r := (RX6, TX6, 8)) (ci := 6) (k := 1) (t := 2) (v := 90) (mf_dat eX11_being 10 rfl) fl_X11_180 rfl (by decide) rfl (gs_1 hG is88) is88 ?_
      refine mf_iload_n (mf_dat eX11_being 11 rfl) rfl rfl ?_
      obtain ⟨ck4, hyp⟩ := hyp
      obtain ⟨ck5, hyp⟩ := hyp
      refine mf_iald (mf_dat eX11_being 12 rfl) is90 len90 ck4 ck5 ?_
      exact mf_ireturn (mf_dat eX11_being 13 rfl) rfl (Or.inl rfl) ⟨hG, hyp⟩
    replace hyp := hyp.2
    refine mf_tsw1 (v := 1) (tgt := 58) (mf_dat eX11_being 7 rfl) (by decide) (by decide) (off := 47) (by decide) (by decide) (fun hc => ?_) (fun hc1 => ?_)
    · replace hyp := hyp.1 hc
      refine mf_aload_n (mf_dat eX11_being 14 rfl) rfl rfl ?_
      refine mf_getf (r := (RX11, TX11, 20)) (ci := 11) (k := 7) (t := 2) (v := 88) (mf_dat eX11_being 15 rfl) fl_X11_82 rfl (by decide) rfl (gx_0_7 hG) is0 ?_
      refine mf_getf (r := (RX6, TX6, 8)) (ci := 6) (k := 2) (t := 2) (v := 91) (mf_dat eX11_being 16 rfl) fl_X11_183 rfl (by decide) rfl (gs_2 hG is88) is88 ?_
      refine mf_iload_n (mf_dat eX11_being 17 rfl) rfl rfl ?_
      obtain ⟨ck6, hyp⟩ := hyp
      obtain ⟨ck7, hyp⟩ := hyp
      refine mf_iald (mf_dat eX11_being 18 rfl) is91 len91 ck6 ck7 ?_
      exact mf_ireturn (mf_dat eX11_being 19 rfl) rfl (Or.inl rfl) ⟨hG, hyp⟩
    replace hyp := hyp.2
    refine mf_tsw1 (v := 2) (tgt := 68) (mf_dat eX11_being 7 rfl) (by decide) (by decide) (off := 57) (by decide) (by decide) (fun hc => ?_) (fun hc2 => ?_)
    · replace hyp := hyp.1 hc
      refine mf_aload_n (mf_dat eX11_being 20 rfl) rfl rfl ?_
      refine mf_getf (r := (RX11, TX11, 20)) (ci := 11) (k := 12) (t := 2) (v := g2 0 12) (mf_dat eX11_being 21 rfl) fl_X11_47 rfl (by decide) rfl rfl is0 ?_
      obtain ⟨ck8, hyp⟩ := hyp
      refine mf_getf (r := (RX1, TX1, 14)) (ci := 1) (k := 4) (t := 2) (v := g2 0 12 + 5) (mf_dat eX11_being 22 rfl) fl_X11_186 rfl (by decide) rfl (gf_4 hG ck8) ck8 ?_
      refine mf_iload_n (mf_dat eX11_being 23 rfl) rfl rfl ?_
      obtain ⟨ck9, hyp⟩ := hyp
      obtain ⟨ck10, hyp⟩ := hyp
      refine mf_iald (mf_dat eX11_being 24 rfl) (fo_is4 ck8) (fo_len4 ck8) ck9 ck10 ?_
      exact mf_ireturn (mf_dat eX11_being 25 rfl) rfl (Or.inl rfl) ⟨hG, hyp⟩
    replace hyp := hyp.2
    refine mf_tsw1 (v := 3) (tgt := 78) (mf_dat eX11_being 7 rfl) (by decide) (by decide) (off := 67) (by decide) (by decide) (fun hc => ?_) (fun hc3 => ?_)
    · replace hyp := hyp.1 hc
      refine mf_aload_n (mf_dat eX11_being 26 rfl) rfl rfl ?_
      refine mf_getf (r := (RX11, TX11, 20)) (ci := 11) (k := 7) (t := 2) (v := 88) (mf_dat eX11_being 27 rfl) fl_X11_82 rfl (by decide) rfl (gx_0_7 hG) is0 ?_
      refine mf_getf (r := (RX6, TX6, 8)) (ci := 6) (k := 3) (t := 2) (v := 92) (mf_dat eX11_being 28 rfl) fl_X11_189 rfl (by decide) rfl (gs_3 hG is88) is88 ?_
      refine mf_iload_n (mf_dat eX11_being 29 rfl) rfl rfl ?_
      obtain ⟨ck11, hyp⟩ := hyp
      obtain ⟨ck12, hyp⟩ := hyp
      refine mf_iald (mf_dat eX11_being 30 rfl) is92 len92 ck11 ck12 ?_
      exact mf_ireturn (mf_dat eX11_being 31 rfl) rfl (Or.inl rfl) ⟨hG, hyp⟩
    replace hyp := hyp.2
    refine mf_tsw1 (v := 4) (tgt := 88) (mf_dat eX11_being 7 rfl) (by decide) (by decide) (off := 77) (by decide) (by decide) (fun hc => ?_) (fun hc4 => ?_)
    · replace hyp := hyp.1 hc
      refine mf_aload_n (mf_dat eX11_being 32 rfl) rfl rfl ?_
      refine mf_getf (r := (RX11, TX11, 20)) (ci := 11) (k := 7) (t := 2) (v := 88) (mf_dat eX11_being 33 rfl) fl_X11_82 rfl (by decide) rfl (gx_0_7 hG) is0 ?_
      refine mf_getf (r := (RX6, TX6, 8)) (ci := 6) (k := 4) (t := 2) (v := 93) (mf_dat eX11_being 34 rfl) fl_X11_192 rfl (by decide) rfl (gs_4 hG is88) is88 ?_
      refine mf_iload_n (mf_dat eX11_being 35 rfl) rfl rfl ?_
      obtain ⟨ck13, hyp⟩ := hyp
      obtain ⟨ck14, hyp⟩ := hyp
      refine mf_iald (mf_dat eX11_being 36 rfl) is93 len93 ck13 ck14 ?_
      exact mf_ireturn (mf_dat eX11_being 37 rfl) rfl (Or.inl rfl) ⟨hG, hyp⟩
    replace hyp := hyp.2
    refine mf_tsw1 (v := 5) (tgt := 98) (mf_dat eX11_being 7 rfl) (by decide) (by decide) (off := 87) (by decide) (by decide) (fun hc => ?_) (fun hc5 => ?_)
    · replace hyp := hyp.1 hc
      refine mf_aload_n (mf_dat eX11_being 38 rfl) rfl rfl ?_
      refine mf_getf (r := (RX11, TX11, 20)) (ci := 11) (k := 4) (t := 2) (v := 46) (mf_dat eX11_being 39 rfl) fl_X11_66 rfl (by decide) rfl (gx_0_4 hG) is0 ?_
      refine mf_aload_n (mf_dat eX11_being 40 rfl) rfl rfl ?_
      refine mf_getf (r := (RX11, TX11, 20)) (ci := 11) (k := 12) (t := 2) (v := g2 0 12) (mf_dat eX11_being 41 rfl) fl_X11_47 rfl (by decide) rfl rfl is0 ?_
      refine mf_aload_n (mf_dat eX11_being 42 rfl) rfl rfl ?_
      refine mf_getf (r := (RX11, TX11, 20)) (ci := 11) (k := 7) (t := 2) (v := 88) (mf_dat eX11_being 43 rfl) fl_X11_82 rfl (by decide) rfl (gx_0_7 hG) is0 ?_
      refine mf_getf (r := (RX6, TX6, 8)) (ci := 6) (k := 7) (t := 0) (v := h3 88 7) (mf_dat eX11_being 44 rfl) fl_X11_156 rfl (by decide) rfl rfl is88 ?_
      refine mf_callV (Yc := YX0_openingOf) (r := (RX0, TX0, 1)) (ci := 0) (mf_dat eX11_being 45 rfl) ml_X11_159 okX0_openingOf im_X0_openingOf sl_X0_openingOf rfl rfl rfl rfl (Nat.le_of_ble_eq_true rfl) (mf_rr (Nat.le_trans (by decide) hd) (Nat.le_refl _)) (Nat.le_refl _) is46 (hyp hG) (fun r15 g16 h17 hyp => ?_)
      obtain ⟨hG, hyp⟩ := hyp
      refine mf_aload_n (mf_dat eX11_being 46 rfl) rfl rfl ?_
      refine mf_getf (r := (RX11, TX11, 20)) (ci := 11) (k := 7) (t := 2) (v := 88) (mf_dat eX11_being 47 rfl) fl_X11_82 rfl (by decide) rfl (gx_0_7 hG) is0 ?_
      refine mf_getf (r := (RX6, TX6, 8)) (ci := 6) (k := 1) (t := 2) (v := 90) (mf_dat eX11_being 48 rfl) fl_X11_180 rfl (by decide) rfl (gs_1 hG is88) is88 ?_
      refine mf_iload_n (mf_dat eX11_being 49 rfl) rfl rfl ?_
      obtain ⟨ck18, hyp⟩ := hyp
      obtain ⟨ck19, hyp⟩ := hyp
      refine mf_iald (mf_dat eX11_being 50 rfl) is90 len90 ck18 ck19 ?_
      refine mf_callS (Yc := YX0_liesOpen) (mf_dat eX11_being 51 rfl) ml_X11_195 okX0_liesOpen sm_X0_liesOpen rfl rfl (Nat.le_of_ble_eq_true rfl) (mf_rr (Nat.le_trans (by decide) hd) (Nat.le_refl _)) (Nat.le_refl _) (hyp hG) (fun r20 g21 h22 hyp => ?_)
      obtain ⟨hG, hyp⟩ := hyp
      refine mf_if_eq (tgt := 135) (mf_dat eX11_being 52 rfl) (by decide) (fun hc => ?_) (fun hc => ?_)
      · replace hyp := hyp.1 hc
        refine mf_iconst (v := 0) (mf_dat eX11_being 55 rfl) (by decide) ?_
        exact mf_ireturn (mf_dat eX11_being 56 rfl) rfl (Or.inl rfl) ⟨hG, hyp⟩
      · replace hyp := hyp.2 hc
        refine mf_iconst (v := 1) (mf_dat eX11_being 53 rfl) (by decide) ?_
        refine mf_goto (tgt := 136) (mf_dat eX11_being 54 rfl) (by decide) ?_
        exact mf_ireturn (mf_dat eX11_being 56 rfl) rfl (Or.inl rfl) ⟨hG, hyp⟩
    replace hyp := hyp.2
    refine mf_tswO (tgt := 137) (mf_dat eX11_being 7 rfl) (by omega) (by decide) ?_
    replace hyp := hyp (by omega)
    refine mf_iconst (v := (-1)) (mf_dat eX11_being 57 rfl) (by decide) ?_
    exact mf_ireturn (mf_dat eX11_being 58 rfl) rfl (Or.inl rfl) ⟨hG, hyp⟩
  · replace hyp := hyp.2 hc
    refine mf_iconst (v := (-1)) (mf_dat eX11_being 4 rfl) (by decide) ?_
    exact mf_ireturn (mf_dat eX11_being 5 rfl) rfl (Or.inl rfl) ⟨hG, hyp⟩
set_option maxRecDepth 100000 in
set_option maxHeartbeats 4000000 in
theorem wX11_cell {C : mf_G} {l : Launch} {d : Nat} {K : mf_Kt} {x1 x2 x3 : Int} {g h : mf_M} (hd : 6 ≤ d) (hyp : xM C l 0 YX11_isCell [(2, 0), (0, x1), (0, x2)] g h (fun r1 g2 h3 => ((¬ r1 = 0 → ((x3 = 0 → xM C l 0 YX6_hasGloss [(2, 88), (0, x1), (0, x2)] g2 h3 (fun r4 g5 h6 => ((r4 = 0 → K 0 g5 h6) ∧ (¬ r4 = 0 → K 1 g5 h6)))) ∧ (x3 = 1 → mf_is 319 (g2 0 12) 1 ∧ xM C l 0 YX6_whoStands [(2, 88), (0, x1), (0, x2), (0, h3 (g2 0 12) 12)] g2 h3 (fun r8 g9 h10 => K r8 g9 h10)) ∧ (x3 = 2 → xM C l 5 YX11_leafUpon [(2, 0), (0, x1)] g2 h3 (fun r11 g12 h13 => K r11 g12 h13)) ∧ (x3 = 3 → xM C l 5 YX11_leafUpon [(2, 0), (0, x1)] g2 h3 (fun r14 g15 h16 => ((¬ r14 = (-1) → mf_is 319 (g15 0 12) 1 ∧ xM C l 0 YX1_mirror [(2, g15 0 12), (0, x2)] g15 h16 (fun r17 g18 h19 => K r17 g18 h19)) ∧ (r14 = (-1) → K (-1) g15 h16)))) ∧ ((x3 < 0 ∨ 3 < x3) → K (-1) g2 h3))) ∧ (r1 = 0 → K (-1) g2 h3)))) : xM C l d YX11_cell [(2, 0), (0, x1), (0, x2), (0, x3)] g h K := by
  intro hG
  refine mf_entry (by decide) (Nat.le_of_ble_eq_true rfl) ?_
  refine mf_aload_n (mf_dat eX11_cell 0 rfl) rfl rfl ?_
  refine mf_iload_n (mf_dat eX11_cell 1 rfl) rfl rfl ?_
  refine mf_iload_n (mf_dat eX11_cell 2 rfl) rfl rfl ?_
  refine mf_callV (Yc := YX11_isCell) (r := (RX11, TX11, 20)) (ci := 11) (mf_dat eX11_cell 3 rfl) ml_X11_199 okX11_isCell im_X11_isCell sl_X11_isCell rfl rfl rfl rfl (Nat.le_of_ble_eq_true rfl) (mf_rr (Nat.le_trans (by decide) hd) (Nat.le_refl _)) (Nat.le_refl _) is0 (hyp hG) (fun r1 g2 h3 hyp => ?_)
  obtain ⟨hG, hyp⟩ := hyp
  refine mf_if_ne (tgt := 11) (mf_dat eX11_cell 4 rfl) (by decide) (fun hc => ?_) (fun hc => ?_)
  · replace hyp := hyp.1 hc
    refine mf_iload_n (mf_dat eX11_cell 7 rfl) rfl rfl ?_
    refine mf_tsw1 (v := 0) (tgt := 44) (mf_dat eX11_cell 8 rfl) (by decide) (by decide) (off := 32) (by decide) (by decide) (fun hc => ?_) (fun hc0 => ?_)
    · replace hyp := hyp.1 hc
      refine mf_aload_n (mf_dat eX11_cell 9 rfl) rfl rfl ?_
      refine mf_getf (r := (RX11, TX11, 20)) (ci := 11) (k := 7) (t := 2) (v := 88) (mf_dat eX11_cell 10 rfl) fl_X11_82 rfl (by decide) rfl (gx_0_7 hG) is0 ?_
      refine mf_iload_n (mf_dat eX11_cell 11 rfl) rfl rfl ?_
      refine mf_iload_n (mf_dat eX11_cell 12 rfl) rfl rfl ?_
      refine mf_callV (Yc := YX6_hasGloss) (r := (RX6, TX6, 8)) (ci := 6) (mf_dat eX11_cell 13 rfl) ml_X11_202 okX6_hasGloss im_X6_hasGloss sl_X6_hasGloss rfl rfl rfl rfl (Nat.le_of_ble_eq_true rfl) (mf_rr (Nat.le_trans (by decide) hd) (Nat.le_refl _)) (Nat.le_refl _) is88 (hyp hG) (fun r4 g5 h6 hyp => ?_)
      obtain ⟨hG, hyp⟩ := hyp
      refine mf_if_eq (tgt := 60) (mf_dat eX11_cell 14 rfl) (by decide) (fun hc => ?_) (fun hc => ?_)
      · replace hyp := hyp.1 hc
        refine mf_iconst (v := 0) (mf_dat eX11_cell 17 rfl) (by decide) ?_
        exact mf_ireturn (mf_dat eX11_cell 18 rfl) rfl (Or.inl rfl) ⟨hG, hyp⟩
      · replace hyp := hyp.2 hc
        refine mf_iconst (v := 1) (mf_dat eX11_cell 15 rfl) (by decide) ?_
        refine mf_goto (tgt := 61) (mf_dat eX11_cell 16 rfl) (by decide) ?_
        exact mf_ireturn (mf_dat eX11_cell 18 rfl) rfl (Or.inl rfl) ⟨hG, hyp⟩
    replace hyp := hyp.2
    refine mf_tsw1 (v := 1) (tgt := 62) (mf_dat eX11_cell 8 rfl) (by decide) (by decide) (off := 50) (by decide) (by decide) (fun hc => ?_) (fun hc1 => ?_)
    · replace hyp := hyp.1 hc
      refine mf_aload_n (mf_dat eX11_cell 19 rfl) rfl rfl ?_
      refine mf_getf (r := (RX11, TX11, 20)) (ci := 11) (k := 7) (t := 2) (v := 88) (mf_dat eX11_cell 20 rfl) fl_X11_82 rfl (by decide) rfl (gx_0_7 hG) is0 ?_
      refine mf_iload_n (mf_dat eX11_cell 21 rfl) rfl rfl ?_
      refine mf_iload_n (mf_dat eX11_cell 22 rfl) rfl rfl ?_
      refine mf_aload_n (mf_dat eX11_cell 23 rfl) rfl rfl ?_
      refine mf_getf (r := (RX11, TX11, 20)) (ci := 11) (k := 12) (t := 2) (v := g2 0 12) (mf_dat eX11_cell 24 rfl) fl_X11_47 rfl (by decide) rfl rfl is0 ?_
      obtain ⟨ck7, hyp⟩ := hyp
      refine mf_getf (r := (RX1, TX1, 14)) (ci := 1) (k := 12) (t := 0) (v := h3 (g2 0 12) 12) (mf_dat eX11_cell 25 rfl) fl_X11_153 rfl (by decide) rfl rfl ck7 ?_
      refine mf_callV (Yc := YX6_whoStands) (r := (RX6, TX6, 8)) (ci := 6) (mf_dat eX11_cell 26 rfl) ml_X11_205 okX6_whoStands im_X6_whoStands sl_X6_whoStands rfl rfl rfl rfl (Nat.le_of_ble_eq_true rfl) (mf_rr (Nat.le_trans (by decide) hd) (Nat.le_refl _)) (Nat.le_refl _) is88 (hyp hG) (fun r8 g9 h10 hyp => ?_)
      obtain ⟨hG, hyp⟩ := hyp
      exact mf_ireturn (mf_dat eX11_cell 27 rfl) rfl (Or.inl rfl) ⟨hG, hyp⟩
    replace hyp := hyp.2
    refine mf_tsw1 (v := 2) (tgt := 79) (mf_dat eX11_cell 8 rfl) (by decide) (by decide) (off := 67) (by decide) (by decide) (fun hc => ?_) (fun hc2 => ?_)
    · replace hyp := hyp.1 hc
      refine mf_aload_n (mf_dat eX11_cell 28 rfl) rfl rfl ?_
      refine mf_iload_n (mf_dat eX11_cell 29 rfl) rfl rfl ?_
      refine mf_callV (Yc := YX11_leafUpon) (r := (RX11, TX11, 20)) (ci := 11) (mf_dat eX11_cell 30 rfl) ml_X11_209 okX11_leafUpon im_X11_leafUpon sl_X11_leafUpon rfl rfl rfl rfl (Nat.le_of_ble_eq_true rfl) (mf_rr (Nat.le_trans (by decide) hd) (Nat.le_refl _)) (Nat.le_refl _) is0 (hyp hG) (fun r11 g12 h13 hyp => ?_)
      obtain ⟨hG, hyp⟩ := hyp
      exact mf_ireturn (mf_dat eX11_cell 31 rfl) rfl (Or.inl rfl) ⟨hG, hyp⟩
    replace hyp := hyp.2
    refine mf_tsw1 (v := 3) (tgt := 85) (mf_dat eX11_cell 8 rfl) (by decide) (by decide) (off := 73) (by decide) (by decide) (fun hc => ?_) (fun hc3 => ?_)
    · replace hyp := hyp.1 hc
      refine mf_aload_n (mf_dat eX11_cell 32 rfl) rfl rfl ?_
      refine mf_iload_n (mf_dat eX11_cell 33 rfl) rfl rfl ?_
      refine mf_callV (Yc := YX11_leafUpon) (r := (RX11, TX11, 20)) (ci := 11) (mf_dat eX11_cell 34 rfl) ml_X11_209 okX11_leafUpon im_X11_leafUpon sl_X11_leafUpon rfl rfl rfl rfl (Nat.le_of_ble_eq_true rfl) (mf_rr (Nat.le_trans (by decide) hd) (Nat.le_refl _)) (Nat.le_refl _) is0 (hyp hG) (fun r14 g15 h16 hyp => ?_)
      obtain ⟨hG, hyp⟩ := hyp
      refine mf_iconst (v := (-1)) (mf_dat eX11_cell 35 rfl) (by decide) ?_
      refine mf_icmp_ne (tgt := 98) (mf_dat eX11_cell 36 rfl) (by decide) (fun hc => ?_) (fun hc => ?_)
      · replace hyp := hyp.1 hc
        refine mf_aload_n (mf_dat eX11_cell 39 rfl) rfl rfl ?_
        refine mf_getf (r := (RX11, TX11, 20)) (ci := 11) (k := 12) (t := 2) (v := g15 0 12) (mf_dat eX11_cell 40 rfl) fl_X11_47 rfl (by decide) rfl rfl is0 ?_
        refine mf_iload_n (mf_dat eX11_cell 41 rfl) rfl rfl ?_
        obtain ⟨ck20, hyp⟩ := hyp
        refine mf_callV (Yc := YX1_mirror) (r := (RX1, TX1, 14)) (ci := 1) (mf_dat eX11_cell 42 rfl) ml_X11_213 okX1_mirror im_X1_mirror sl_X1_mirror rfl rfl rfl rfl (Nat.le_of_ble_eq_true rfl) (mf_rr (Nat.le_trans (by decide) hd) (Nat.le_refl _)) (Nat.le_refl _) ck20 (hyp hG) (fun r17 g18 h19 hyp => ?_)
        obtain ⟨hG, hyp⟩ := hyp
        exact mf_ireturn (mf_dat eX11_cell 43 rfl) rfl (Or.inl rfl) ⟨hG, hyp⟩
      · replace hyp := hyp.2 hc
        refine mf_iconst (v := (-1)) (mf_dat eX11_cell 37 rfl) (by decide) ?_
        refine mf_goto (tgt := 106) (mf_dat eX11_cell 38 rfl) (by decide) ?_
        exact mf_ireturn (mf_dat eX11_cell 43 rfl) rfl (Or.inl rfl) ⟨hG, hyp⟩
    replace hyp := hyp.2
    refine mf_tswO (tgt := 107) (mf_dat eX11_cell 8 rfl) (by omega) (by decide) ?_
    replace hyp := hyp (by omega)
    refine mf_iconst (v := (-1)) (mf_dat eX11_cell 44 rfl) (by decide) ?_
    exact mf_ireturn (mf_dat eX11_cell 45 rfl) rfl (Or.inl rfl) ⟨hG, hyp⟩
  · replace hyp := hyp.2 hc
    refine mf_iconst (v := (-1)) (mf_dat eX11_cell 5 rfl) (by decide) ?_
    exact mf_ireturn (mf_dat eX11_cell 6 rfl) rfl (Or.inl rfl) ⟨hG, hyp⟩
set_option maxRecDepth 100000 in
set_option maxHeartbeats 4000000 in
theorem wX11_kept {C : mf_G} {l : Launch} {d : Nat} {K : mf_Kt} {x1 x2 : Int} {g h : mf_M} (hd : 3 ≤ d) (hyp : ((x1 < 0 → K (-1) g h) ∧ (¬ x1 < 0 → xM C l 1 YX6_countKept [(2, 88)] g h (fun r1 g2 h3 => ((x1 < r1 → xM C l 2 YX6_keptAt [(2, 88), (0, x1)] g2 h3 (fun r4 g5 h6 => ((x2 = 0 → K (mf_w32 (r4.tdiv 64)) g5 h6) ∧ (x2 = 1 → K ((mf_w32 (r4.tdiv 8)).tmod 8) g5 h6) ∧ (x2 = 2 → K (r4.tmod 8) g5 h6) ∧ ((x2 < 0 ∨ 2 < x2) → K (-1) g5 h6)))) ∧ (¬ x1 < r1 → K (-1) g2 h3)))))) : xM C l d YX11_kept [(2, 0), (0, x1), (0, x2)] g h K := by
  intro hG
  refine mf_entry (by decide) (Nat.le_of_ble_eq_true rfl) ?_
  refine mf_iload_n (mf_dat eX11_kept 0 rfl) rfl rfl ?_
  refine mf_if_lt (tgt := 15) (mf_dat eX11_kept 1 rfl) (by decide) (fun hc => ?_) (fun hc => ?_)
  · replace hyp := hyp.1 hc
    refine mf_iconst (v := (-1)) (mf_dat eX11_kept 7 rfl) (by decide) ?_
    exact mf_ireturn (mf_dat eX11_kept 8 rfl) rfl (Or.inl rfl) ⟨hG, hyp⟩
  · replace hyp := hyp.2 hc
    refine mf_iload_n (mf_dat eX11_kept 2 rfl) rfl rfl ?_
    refine mf_aload_n (mf_dat eX11_kept 3 rfl) rfl rfl ?_
    refine mf_getf (r := (RX11, TX11, 20)) (ci := 11) (k := 7) (t := 2) (v := 88) (mf_dat eX11_kept 4 rfl) fl_X11_82 rfl (by decide) rfl (gx_0_7 hG) is0 ?_
    refine mf_callV (Yc := YX6_countKept) (r := (RX6, TX6, 8)) (ci := 6) (mf_dat eX11_kept 5 rfl) ml_X11_166 okX6_countKept im_X6_countKept sl_X6_countKept rfl rfl rfl rfl (Nat.le_of_ble_eq_true rfl) (mf_rr (Nat.le_trans (by decide) hd) (Nat.le_refl _)) (Nat.le_refl _) is88 (hyp hG) (fun r1 g2 h3 hyp => ?_)
    obtain ⟨hG, hyp⟩ := hyp
    refine mf_icmp_lt (tgt := 17) (mf_dat eX11_kept 6 rfl) (by decide) (fun hc => ?_) (fun hc => ?_)
    · replace hyp := hyp.1 hc
      refine mf_aload_n (mf_dat eX11_kept 9 rfl) rfl rfl ?_
      refine mf_getf (r := (RX11, TX11, 20)) (ci := 11) (k := 7) (t := 2) (v := 88) (mf_dat eX11_kept 10 rfl) fl_X11_82 rfl (by decide) rfl (gx_0_7 hG) is0 ?_
      refine mf_iload_n (mf_dat eX11_kept 11 rfl) rfl rfl ?_
      refine mf_callV (Yc := YX6_keptAt) (r := (RX6, TX6, 8)) (ci := 6) (mf_dat eX11_kept 12 rfl) ml_X11_216 okX6_keptAt im_X6_keptAt sl_X6_keptAt rfl rfl rfl rfl (Nat.le_of_ble_eq_true rfl) (mf_rr (Nat.le_trans (by decide) hd) (Nat.le_refl _)) (Nat.le_refl _) is88 (hyp hG) (fun r4 g5 h6 hyp => ?_)
      obtain ⟨hG, hyp⟩ := hyp
      refine mf_istore_n (mf_dat eX11_kept 13 rfl) rfl (by decide) ?_
      refine mf_iload_n (mf_dat eX11_kept 14 rfl) rfl rfl ?_
      refine mf_tsw1 (v := 0) (tgt := 52) (mf_dat eX11_kept 15 rfl) (by decide) (by decide) (off := 25) (by decide) (by decide) (fun hc => ?_) (fun hc0 => ?_)
      · replace hyp := hyp.1 hc
        refine mf_iload_n (mf_dat eX11_kept 16 rfl) rfl rfl ?_
        refine mf_bipush (v := 64) (mf_dat eX11_kept 17 rfl) (by decide) ?_
        refine mf_idiv (mf_dat eX11_kept 18 rfl) (by decide) ?_
        exact mf_ireturn (mf_dat eX11_kept 19 rfl) rfl (Or.inl rfl) ⟨hG, hyp⟩
      replace hyp := hyp.2
      refine mf_tsw1 (v := 1) (tgt := 57) (mf_dat eX11_kept 15 rfl) (by decide) (by decide) (off := 30) (by decide) (by decide) (fun hc => ?_) (fun hc1 => ?_)
      · replace hyp := hyp.1 hc
        refine mf_iload_n (mf_dat eX11_kept 20 rfl) rfl rfl ?_
        refine mf_bipush (v := 8) (mf_dat eX11_kept 21 rfl) (by decide) ?_
        refine mf_idiv (mf_dat eX11_kept 22 rfl) (by decide) ?_
        refine mf_bipush (v := 8) (mf_dat eX11_kept 23 rfl) (by decide) ?_
        refine mf_irem (mf_dat eX11_kept 24 rfl) (by decide) ?_
        exact mf_ireturn (mf_dat eX11_kept 25 rfl) rfl (Or.inl rfl) ⟨hG, hyp⟩
      replace hyp := hyp.2
      refine mf_tsw1 (v := 2) (tgt := 65) (mf_dat eX11_kept 15 rfl) (by decide) (by decide) (off := 38) (by decide) (by decide) (fun hc => ?_) (fun hc2 => ?_)
      · replace hyp := hyp.1 hc
        refine mf_iload_n (mf_dat eX11_kept 26 rfl) rfl rfl ?_
        refine mf_bipush (v := 8) (mf_dat eX11_kept 27 rfl) (by decide) ?_
        refine mf_irem (mf_dat eX11_kept 28 rfl) (by decide) ?_
        exact mf_ireturn (mf_dat eX11_kept 29 rfl) rfl (Or.inl rfl) ⟨hG, hyp⟩
      replace hyp := hyp.2
      refine mf_tswO (tgt := 70) (mf_dat eX11_kept 15 rfl) (by omega) (by decide) ?_
      replace hyp := hyp (by omega)
      refine mf_iconst (v := (-1)) (mf_dat eX11_kept 30 rfl) (by decide) ?_
      exact mf_ireturn (mf_dat eX11_kept 31 rfl) rfl (Or.inl rfl) ⟨hG, hyp⟩
    · replace hyp := hyp.2 hc
      refine mf_iconst (v := (-1)) (mf_dat eX11_kept 7 rfl) (by decide) ?_
      exact mf_ireturn (mf_dat eX11_kept 8 rfl) rfl (Or.inl rfl) ⟨hG, hyp⟩
set_option maxRecDepth 100000 in
set_option maxHeartbeats 4000000 in
theorem wX11_meets {C : mf_G} {l : Launch} {d : Nat} {K : mf_Kt} {x1 x2 : Int} {g h : mf_M} (hd : 5 ≤ d) (hyp : xM C l 0 YX11_isBeing [(2, 0), (0, x1)] g h (fun r1 g2 h3 => ((r1 = 0 → K (-1) g2 h3) ∧ (¬ r1 = 0 → xM C l 0 YX11_isBeing [(2, 0), (0, x2)] g2 h3 (fun r4 g5 h6 => ((r4 = 0 → K (-1) g5 h6) ∧ (¬ r4 = 0 → ((¬ x1 = x2 → xM C l 4 YX0_openingOf [(2, 46), (2, g5 0 12), (0, h6 88 7)] g5 h6 (fun r7 g8 h9 => xM C l 2 YX0_meet [(2, g5 0 12), (2, 88), (0, x1), (0, x2), (0, r7)] g8 h9 (fun r10 g11 h12 => ((r10 = 0 → K 0 g11 h12) ∧ (¬ r10 = 0 → K 1 g11 h12))))) ∧ (x1 = x2 → K (-1) g5 h6))))))))) : xM C l d YX11_meets [(2, 0), (0, x1), (0, x2)] g h K := by
  intro hG
  refine mf_entry (by decide) (Nat.le_of_ble_eq_true rfl) ?_
  refine mf_aload_n (mf_dat eX11_meets 0 rfl) rfl rfl ?_
  refine mf_iload_n (mf_dat eX11_meets 1 rfl) rfl rfl ?_
  refine mf_callV (Yc := YX11_isBeing) (r := (RX11, TX11, 20)) (ci := 11) (mf_dat eX11_meets 2 rfl) ml_X11_169 okX11_isBeing im_X11_isBeing sl_X11_isBeing rfl rfl rfl rfl (Nat.le_of_ble_eq_true rfl) (mf_rr (Nat.le_trans (by decide) hd) (Nat.le_refl _)) (Nat.le_refl _) is0 (hyp hG) (fun r1 g2 h3 hyp => ?_)
  obtain ⟨hG, hyp⟩ := hyp
  refine mf_if_eq (tgt := 21) (mf_dat eX11_meets 3 rfl) (by decide) (fun hc => ?_) (fun hc => ?_)
  · replace hyp := hyp.1 hc
    refine mf_iconst (v := (-1)) (mf_dat eX11_meets 11 rfl) (by decide) ?_
    exact mf_ireturn (mf_dat eX11_meets 12 rfl) rfl (Or.inl rfl) ⟨hG, hyp⟩
  · replace hyp := hyp.2 hc
    refine mf_aload_n (mf_dat eX11_meets 4 rfl) rfl rfl ?_
    refine mf_iload_n (mf_dat eX11_meets 5 rfl) rfl rfl ?_
    refine mf_callV (Yc := YX11_isBeing) (r := (RX11, TX11, 20)) (ci := 11) (mf_dat eX11_meets 6 rfl) ml_X11_169 okX11_isBeing im_X11_isBeing sl_X11_isBeing rfl rfl rfl rfl (Nat.le_of_ble_eq_true rfl) (mf_rr (Nat.le_trans (by decide) hd) (Nat.le_refl _)) (Nat.le_refl _) is0 (hyp hG) (fun r4 g5 h6 hyp => ?_)
    obtain ⟨hG, hyp⟩ := hyp
    refine mf_if_eq (tgt := 21) (mf_dat eX11_meets 7 rfl) (by decide) (fun hc => ?_) (fun hc => ?_)
    · replace hyp := hyp.1 hc
      refine mf_iconst (v := (-1)) (mf_dat eX11_meets 11 rfl) (by decide) ?_
      exact mf_ireturn (mf_dat eX11_meets 12 rfl) rfl (Or.inl rfl) ⟨hG, hyp⟩
    · replace hyp := hyp.2 hc
      refine mf_iload_n (mf_dat eX11_meets 8 rfl) rfl rfl ?_
      refine mf_iload_n (mf_dat eX11_meets 9 rfl) rfl rfl ?_
      refine mf_icmp_ne (tgt := 23) (mf_dat eX11_meets 10 rfl) (by decide) (fun hc => ?_) (fun hc => ?_)
      · replace hyp := hyp.1 hc
        refine mf_aload_n (mf_dat eX11_meets 13 rfl) rfl rfl ?_
        refine mf_getf (r := (RX11, TX11, 20)) (ci := 11) (k := 12) (t := 2) (v := g5 0 12) (mf_dat eX11_meets 14 rfl) fl_X11_47 rfl (by decide) rfl rfl is0 ?_
        refine mf_aload_n (mf_dat eX11_meets 15 rfl) rfl rfl ?_
        refine mf_getf (r := (RX11, TX11, 20)) (ci := 11) (k := 7) (t := 2) (v := 88) (mf_dat eX11_meets 16 rfl) fl_X11_82 rfl (by decide) rfl (gx_0_7 hG) is0 ?_
        refine mf_iload_n (mf_dat eX11_meets 17 rfl) rfl rfl ?_
        refine mf_iload_n (mf_dat eX11_meets 18 rfl) rfl rfl ?_
        refine mf_aload_n (mf_dat eX11_meets 19 rfl) rfl rfl ?_
        refine mf_getf (r := (RX11, TX11, 20)) (ci := 11) (k := 4) (t := 2) (v := 46) (mf_dat eX11_meets 20 rfl) fl_X11_66 rfl (by decide) rfl (gx_0_4 hG) is0 ?_
        refine mf_aload_n (mf_dat eX11_meets 21 rfl) rfl rfl ?_
        refine mf_getf (r := (RX11, TX11, 20)) (ci := 11) (k := 12) (t := 2) (v := g5 0 12) (mf_dat eX11_meets 22 rfl) fl_X11_47 rfl (by decide) rfl rfl is0 ?_
        refine mf_aload_n (mf_dat eX11_meets 23 rfl) rfl rfl ?_
        refine mf_getf (r := (RX11, TX11, 20)) (ci := 11) (k := 7) (t := 2) (v := 88) (mf_dat eX11_meets 24 rfl) fl_X11_82 rfl (by decide) rfl (gx_0_7 hG) is0 ?_
        refine mf_getf (r := (RX6, TX6, 8)) (ci := 6) (k := 7) (t := 0) (v := h6 88 7) (mf_dat eX11_meets 25 rfl) fl_X11_156 rfl (by decide) rfl rfl is88 ?_
        refine mf_callV (Yc := YX0_openingOf) (r := (RX0, TX0, 1)) (ci := 0) (mf_dat eX11_meets 26 rfl) ml_X11_159 okX0_openingOf im_X0_openingOf sl_X0_openingOf rfl rfl rfl rfl (Nat.le_of_ble_eq_true rfl) (mf_rr (Nat.le_trans (by decide) hd) (Nat.le_refl _)) (Nat.le_refl _) is46 (hyp hG) (fun r7 g8 h9 hyp => ?_)
        obtain ⟨hG, hyp⟩ := hyp
        refine mf_callS (Yc := YX0_meet) (mf_dat eX11_meets 27 rfl) ml_X11_219 okX0_meet sm_X0_meet rfl rfl (Nat.le_of_ble_eq_true rfl) (mf_rr (Nat.le_trans (by decide) hd) (Nat.le_refl _)) (Nat.le_refl _) (hyp hG) (fun r10 g11 h12 hyp => ?_)
        obtain ⟨hG, hyp⟩ := hyp
        refine mf_if_eq (tgt := 61) (mf_dat eX11_meets 28 rfl) (by decide) (fun hc => ?_) (fun hc => ?_)
        · replace hyp := hyp.1 hc
          refine mf_iconst (v := 0) (mf_dat eX11_meets 31 rfl) (by decide) ?_
          exact mf_ireturn (mf_dat eX11_meets 32 rfl) rfl (Or.inl rfl) ⟨hG, hyp⟩
        · replace hyp := hyp.2 hc
          refine mf_iconst (v := 1) (mf_dat eX11_meets 29 rfl) (by decide) ?_
          refine mf_goto (tgt := 62) (mf_dat eX11_meets 30 rfl) (by decide) ?_
          exact mf_ireturn (mf_dat eX11_meets 32 rfl) rfl (Or.inl rfl) ⟨hG, hyp⟩
      · replace hyp := hyp.2 hc
        refine mf_iconst (v := (-1)) (mf_dat eX11_meets 11 rfl) (by decide) ?_
        exact mf_ireturn (mf_dat eX11_meets 12 rfl) rfl (Or.inl rfl) ⟨hG, hyp⟩
set_option maxRecDepth 100000 in
set_option maxHeartbeats 4000000 in
theorem wX11_pairs {C : mf_G} {l : Launch} {d : Nat} {K : mf_Kt} {x1 : Int} {g h : mf_M} (hd : 5 ≤ d) (hyp : mf_is 319 (g 0 12) 1 ∧ ((h (g 0 12) 8 = 0 → K (-1) g h) ∧ (¬ h (g 0 12) 8 = 0 → ((x1 < (-1) → K (-1) g h) ∧ (¬ x1 < (-1) → ((x1 ≤ h (g 0 12) 8 → ((¬ x1 = (-1) → xM C l 3 YX0_countPairs [(2, g 0 12), (2, 88), (0, x1)] g h (fun r2 g3 h4 => K r2 g3 h4)) ∧ (x1 = (-1) → xM C l 4 YX0_openingOf [(2, 46), (2, g 0 12), (0, h 88 7)] g h (fun r5 g6 h7 => xM C l 3 YX0_countPairs [(2, g6 0 12), (2, 88), (0, r5)] g6 h7 (fun r8 g9 h10 => K r8 g9 h10))))) ∧ (¬ x1 ≤ h (g 0 12) 8 → K (-1) g h))))))) : xM C l d YX11_pairs [(2, 0), (0, x1)] g h K := by
  intro hG
  refine mf_entry (by decide) (Nat.le_of_ble_eq_true rfl) ?_
  refine mf_aload_n (mf_dat eX11_pairs 0 rfl) rfl rfl ?_
  refine mf_getf (r := (RX11, TX11, 20)) (ci := 11) (k := 12) (t := 2) (v := g 0 12) (mf_dat eX11_pairs 1 rfl) fl_X11_47 rfl (by decide) rfl rfl is0 ?_
  obtain ⟨ck1, hyp⟩ := hyp
  refine mf_getf (r := (RX1, TX1, 14)) (ci := 1) (k := 8) (t := 0) (v := h (g 0 12) 8) (mf_dat eX11_pairs 2 rfl) fl_X11_140 rfl (by decide) rfl rfl ck1 ?_
  refine mf_if_eq (tgt := 26) (mf_dat eX11_pairs 3 rfl) (by decide) (fun hc => ?_) (fun hc => ?_)
  · replace hyp := hyp.1 hc
    refine mf_iconst (v := (-1)) (mf_dat eX11_pairs 12 rfl) (by decide) ?_
    exact mf_ireturn (mf_dat eX11_pairs 13 rfl) rfl (Or.inl rfl) ⟨hG, hyp⟩
  · replace hyp := hyp.2 hc
    refine mf_iload_n (mf_dat eX11_pairs 4 rfl) rfl rfl ?_
    refine mf_iconst (v := (-1)) (mf_dat eX11_pairs 5 rfl) (by decide) ?_
    refine mf_icmp_lt (tgt := 26) (mf_dat eX11_pairs 6 rfl) (by decide) (fun hc => ?_) (fun hc => ?_)
    · replace hyp := hyp.1 hc
      refine mf_iconst (v := (-1)) (mf_dat eX11_pairs 12 rfl) (by decide) ?_
      exact mf_ireturn (mf_dat eX11_pairs 13 rfl) rfl (Or.inl rfl) ⟨hG, hyp⟩
    · replace hyp := hyp.2 hc
      refine mf_iload_n (mf_dat eX11_pairs 7 rfl) rfl rfl ?_
      refine mf_aload_n (mf_dat eX11_pairs 8 rfl) rfl rfl ?_
      refine mf_getf (r := (RX11, TX11, 20)) (ci := 11) (k := 12) (t := 2) (v := g 0 12) (mf_dat eX11_pairs 9 rfl) fl_X11_47 rfl (by decide) rfl rfl is0 ?_
      refine mf_getf (r := (RX1, TX1, 14)) (ci := 1) (k := 8) (t := 0) (v := h (g 0 12) 8) (mf_dat eX11_pairs 10 rfl) fl_X11_140 rfl (by decide) rfl rfl ck1 ?_
      refine mf_icmp_le (tgt := 28) (mf_dat eX11_pairs 11 rfl) (by decide) (fun hc => ?_) (fun hc => ?_)
      · replace hyp := hyp.1 hc
        refine mf_iload_n (mf_dat eX11_pairs 14 rfl) rfl rfl ?_
        refine mf_iconst (v := (-1)) (mf_dat eX11_pairs 15 rfl) (by decide) ?_
        refine mf_icmp_ne (tgt := 54) (mf_dat eX11_pairs 16 rfl) (by decide) (fun hc => ?_) (fun hc => ?_)
        · replace hyp := hyp.1 hc
          refine mf_iload_n (mf_dat eX11_pairs 26 rfl) rfl rfl ?_
          refine mf_istore_n (mf_dat eX11_pairs 27 rfl) rfl (by decide) ?_
          refine mf_aload_n (mf_dat eX11_pairs 28 rfl) rfl rfl ?_
          refine mf_getf (r := (RX11, TX11, 20)) (ci := 11) (k := 12) (t := 2) (v := g 0 12) (mf_dat eX11_pairs 29 rfl) fl_X11_47 rfl (by decide) rfl rfl is0 ?_
          refine mf_aload_n (mf_dat eX11_pairs 30 rfl) rfl rfl ?_
          refine mf_getf (r := (RX11, TX11, 20)) (ci := 11) (k := 7) (t := 2) (v := 88) (mf_dat eX11_pairs 31 rfl) fl_X11_82 rfl (by decide) rfl (gx_0_7 hG) is0 ?_
          refine mf_iload_n (mf_dat eX11_pairs 32 rfl) rfl rfl ?_
          refine mf_callS (Yc := YX0_countPairs) (mf_dat eX11_pairs 33 rfl) ml_X11_223 okX0_countPairs sm_X0_countPairs rfl rfl (Nat.le_of_ble_eq_true rfl) (mf_rr (Nat.le_trans (by decide) hd) (Nat.le_refl _)) (Nat.le_refl _) (hyp hG) (fun r2 g3 h4 hyp => ?_)
          obtain ⟨hG, hyp⟩ := hyp
          exact mf_ireturn (mf_dat eX11_pairs 34 rfl) rfl (Or.inl rfl) ⟨hG, hyp⟩
        · replace hyp := hyp.2 hc
          refine mf_aload_n (mf_dat eX11_pairs 17 rfl) rfl rfl ?_
          refine mf_getf (r := (RX11, TX11, 20)) (ci := 11) (k := 4) (t := 2) (v := 46) (mf_dat eX11_pairs 18 rfl) fl_X11_66 rfl (by decide) rfl (gx_0_4 hG) is0 ?_
          refine mf_aload_n (mf_dat eX11_pairs 19 rfl) rfl rfl ?_
          refine mf_getf (r := (RX11, TX11, 20)) (ci := 11) (k := 12) (t := 2) (v := g 0 12) (mf_dat eX11_pairs 20 rfl) fl_X11_47 rfl (by decide) rfl rfl is0 ?_
          refine mf_aload_n (mf_dat eX11_pairs 21 rfl) rfl rfl ?_
          refine mf_getf (r := (RX11, TX11, 20)) (ci := 11) (k := 7) (t := 2) (v := 88) (mf_dat eX11_pairs 22 rfl) fl_X11_82 rfl (by decide) rfl (gx_0_7 hG) is0 ?_
          refine mf_getf (r := (RX6, TX6, 8)) (ci := 6) (k := 7) (t := 0) (v := h 88 7) (mf_dat eX11_pairs 23 rfl) fl_X11_156 rfl (by decide) rfl rfl is88 ?_
          refine mf_callV (Yc := YX0_openingOf) (r := (RX0, TX0, 1)) (ci := 0) (mf_dat eX11_pairs 24 rfl) ml_X11_159 okX0_openingOf im_X0_openingOf sl_X0_openingOf rfl rfl rfl rfl (Nat.le_of_ble_eq_true rfl) (mf_rr (Nat.le_trans (by decide) hd) (Nat.le_refl _)) (Nat.le_refl _) is46 (hyp hG) (fun r5 g6 h7 hyp => ?_)
          obtain ⟨hG, hyp⟩ := hyp
          refine mf_goto (tgt := 55) (mf_dat eX11_pairs 25 rfl) (by decide) ?_
          refine mf_istore_n (mf_dat eX11_pairs 27 rfl) rfl (by decide) ?_
          refine mf_aload_n (mf_dat eX11_pairs 28 rfl) rfl rfl ?_
          refine mf_getf (r := (RX11, TX11, 20)) (ci := 11) (k := 12) (t := 2) (v := g6 0 12) (mf_dat eX11_pairs 29 rfl) fl_X11_47 rfl (by decide) rfl rfl is0 ?_
          refine mf_aload_n (mf_dat eX11_pairs 30 rfl) rfl rfl ?_
          refine mf_getf (r := (RX11, TX11, 20)) (ci := 11) (k := 7) (t := 2) (v := 88) (mf_dat eX11_pairs 31 rfl) fl_X11_82 rfl (by decide) rfl (gx_0_7 hG) is0 ?_
          refine mf_iload_n (mf_dat eX11_pairs 32 rfl) rfl rfl ?_
          refine mf_callS (Yc := YX0_countPairs) (mf_dat eX11_pairs 33 rfl) ml_X11_223 okX0_countPairs sm_X0_countPairs rfl rfl (Nat.le_of_ble_eq_true rfl) (mf_rr (Nat.le_trans (by decide) hd) (Nat.le_refl _)) (Nat.le_refl _) (hyp hG) (fun r8 g9 h10 hyp => ?_)
          obtain ⟨hG, hyp⟩ := hyp
          exact mf_ireturn (mf_dat eX11_pairs 34 rfl) rfl (Or.inl rfl) ⟨hG, hyp⟩
      · replace hyp := hyp.2 hc
        refine mf_iconst (v := (-1)) (mf_dat eX11_pairs 12 rfl) (by decide) ?_
        exact mf_ireturn (mf_dat eX11_pairs 13 rfl) rfl (Or.inl rfl) ⟨hG, hyp⟩
set_option maxRecDepth 100000 in
set_option maxHeartbeats 4000000 in
theorem wX11_apart {C : mf_G} {l : Launch} {d : Nat} {K : mf_Kt} {g h : mf_M} (hd : 5 ≤ d) (hyp : mf_is 319 (g 0 12) 1 ∧ ((¬ h (g 0 12) 8 = 0 → xM C l 4 YX5_findApart [(2, 51), (2, g 0 12), (2, 88)] g h (fun r2 g3 h4 => K r2 g3 h4)) ∧ (h (g 0 12) 8 = 0 → K (-1) g h))) : xM C l d YX11_apart [(2, 0)] g h K := by
  intro hG
  refine mf_entry (by decide) (Nat.le_of_ble_eq_true rfl) ?_
  refine mf_aload_n (mf_dat eX11_apart 0 rfl) rfl rfl ?_
  refine mf_getf (r := (RX11, TX11, 20)) (ci := 11) (k := 12) (t := 2) (v := g 0 12) (mf_dat eX11_apart 1 rfl) fl_X11_47 rfl (by decide) rfl rfl is0 ?_
  obtain ⟨ck1, hyp⟩ := hyp
  refine mf_getf (r := (RX1, TX1, 14)) (ci := 1) (k := 8) (t := 0) (v := h (g 0 12) 8) (mf_dat eX11_apart 2 rfl) fl_X11_140 rfl (by decide) rfl rfl ck1 ?_
  refine mf_if_ne (tgt := 14) (mf_dat eX11_apart 3 rfl) (by decide) (fun hc => ?_) (fun hc => ?_)
  · replace hyp := hyp.1 hc
    refine mf_aload_n (mf_dat eX11_apart 6 rfl) rfl rfl ?_
    refine mf_getf (r := (RX11, TX11, 20)) (ci := 11) (k := 5) (t := 2) (v := 51) (mf_dat eX11_apart 7 rfl) fl_X11_75 rfl (by decide) rfl (gx_0_5 hG) is0 ?_
    refine mf_aload_n (mf_dat eX11_apart 8 rfl) rfl rfl ?_
    refine mf_getf (r := (RX11, TX11, 20)) (ci := 11) (k := 12) (t := 2) (v := g 0 12) (mf_dat eX11_apart 9 rfl) fl_X11_47 rfl (by decide) rfl rfl is0 ?_
    refine mf_aload_n (mf_dat eX11_apart 10 rfl) rfl rfl ?_
    refine mf_getf (r := (RX11, TX11, 20)) (ci := 11) (k := 7) (t := 2) (v := 88) (mf_dat eX11_apart 11 rfl) fl_X11_82 rfl (by decide) rfl (gx_0_7 hG) is0 ?_
    refine mf_callV (Yc := YX5_findApart) (r := (RX5, TX5, 12)) (ci := 5) (mf_dat eX11_apart 12 rfl) ml_X11_227 okX5_findApart im_X5_findApart sl_X5_findApart rfl rfl rfl rfl (Nat.le_of_ble_eq_true rfl) (mf_rr (Nat.le_trans (by decide) hd) (Nat.le_refl _)) (Nat.le_refl _) is51 (hyp hG) (fun r2 g3 h4 hyp => ?_)
    obtain ⟨hG, hyp⟩ := hyp
    exact mf_ireturn (mf_dat eX11_apart 13 rfl) rfl (Or.inl rfl) ⟨hG, hyp⟩
  · replace hyp := hyp.2 hc
    refine mf_iconst (v := (-1)) (mf_dat eX11_apart 4 rfl) (by decide) ?_
    refine mf_goto (tgt := 29) (mf_dat eX11_apart 5 rfl) (by decide) ?_
    exact mf_ireturn (mf_dat eX11_apart 13 rfl) rfl (Or.inl rfl) ⟨hG, hyp⟩
set_option maxRecDepth 100000 in
set_option maxHeartbeats 4000000 in
theorem wX11_reading {C : mf_G} {l : Launch} {d : Nat} {K : mf_Kt} {x1 x2 : Int} {g h : mf_M} (hd : 68 ≤ d) (hyp : ((x1 < 1 → K (-1) g h) ∧ (¬ x1 < 1 → ((3 < x1 → K (-1) g h) ∧ (¬ 3 < x1 → ((x2 < (-1) → K (-1) g h) ∧ (¬ x2 < (-1) → ((x1 ≤ x2 → K (-1) g h) ∧ (¬ x1 ≤ x2 → xM C l 0 YX11_canPass [(2, 0), (0, x1)] g h (fun r1 g2 h3 => ((¬ r1 = 0 → xM C l 67 YX5_findReading [(2, 51), (2, g2 0 12), (2, 88), (0, x1), (0, x2)] g2 h3 (fun r4 g5 h6 => K r4 g5 h6)) ∧ (r1 = 0 → K (-1) g2 h3)))))))))))) : xM C l d YX11_reading [(2, 0), (0, x1), (0, x2)] g h K := by
  intro hG
  refine mf_entry (by decide) (Nat.le_of_ble_eq_true rfl) ?_
  refine mf_iload_n (mf_dat eX11_reading 0 rfl) rfl rfl ?_
  refine mf_iconst (v := 1) (mf_dat eX11_reading 1 rfl) (by decide) ?_
  refine mf_icmp_lt (tgt := 28) (mf_dat eX11_reading 2 rfl) (by decide) (fun hc => ?_) (fun hc => ?_)
  · replace hyp := hyp.1 hc
    refine mf_iconst (v := (-1)) (mf_dat eX11_reading 16 rfl) (by decide) ?_
    exact mf_ireturn (mf_dat eX11_reading 17 rfl) rfl (Or.inl rfl) ⟨hG, hyp⟩
  · replace hyp := hyp.2 hc
    refine mf_iload_n (mf_dat eX11_reading 3 rfl) rfl rfl ?_
    refine mf_iconst (v := 3) (mf_dat eX11_reading 4 rfl) (by decide) ?_
    refine mf_icmp_gt (tgt := 28) (mf_dat eX11_reading 5 rfl) (by decide) (fun hc => ?_) (fun hc => ?_)
    · replace hyp := hyp.1 hc
      refine mf_iconst (v := (-1)) (mf_dat eX11_reading 16 rfl) (by decide) ?_
      exact mf_ireturn (mf_dat eX11_reading 17 rfl) rfl (Or.inl rfl) ⟨hG, hyp⟩
    · replace hyp := hyp.2 hc
      refine mf_iload_n (mf_dat eX11_reading 6 rfl) rfl rfl ?_
      refine mf_iconst (v := (-1)) (mf_dat eX11_reading 7 rfl) (by decide) ?_
      refine mf_icmp_lt (tgt := 28) (mf_dat eX11_reading 8 rfl) (by decide) (fun hc => ?_) (fun hc => ?_)
      · replace hyp := hyp.1 hc
        refine mf_iconst (v := (-1)) (mf_dat eX11_reading 16 rfl) (by decide) ?_
        exact mf_ireturn (mf_dat eX11_reading 17 rfl) rfl (Or.inl rfl) ⟨hG, hyp⟩
      · replace hyp := hyp.2 hc
        refine mf_iload_n (mf_dat eX11_reading 9 rfl) rfl rfl ?_
        refine mf_iload_n (mf_dat eX11_reading 10 rfl) rfl rfl ?_
        refine mf_icmp_ge (tgt := 28) (mf_dat eX11_reading 11 rfl) (by decide) (fun hc => ?_) (fun hc => ?_)
        · replace hyp := hyp.1 hc
          refine mf_iconst (v := (-1)) (mf_dat eX11_reading 16 rfl) (by decide) ?_
          exact mf_ireturn (mf_dat eX11_reading 17 rfl) rfl (Or.inl rfl) ⟨hG, hyp⟩
        · replace hyp := hyp.2 hc
          refine mf_aload_n (mf_dat eX11_reading 12 rfl) rfl rfl ?_
          refine mf_iload_n (mf_dat eX11_reading 13 rfl) rfl rfl ?_
          refine mf_callV (Yc := YX11_canPass) (r := (RX11, TX11, 20)) (ci := 11) (mf_dat eX11_reading 14 rfl) ml_X11_231 okX11_canPass im_X11_canPass sl_X11_canPass rfl rfl rfl rfl (Nat.le_of_ble_eq_true rfl) (mf_rr (Nat.le_trans (by decide) hd) (Nat.le_refl _)) (Nat.le_refl _) is0 (hyp hG) (fun r1 g2 h3 hyp => ?_)
          obtain ⟨hG, hyp⟩ := hyp
          refine mf_if_ne (tgt := 30) (mf_dat eX11_reading 15 rfl) (by decide) (fun hc => ?_) (fun hc => ?_)
          · replace hyp := hyp.1 hc
            refine mf_aload_n (mf_dat eX11_reading 18 rfl) rfl rfl ?_
            refine mf_getf (r := (RX11, TX11, 20)) (ci := 11) (k := 5) (t := 2) (v := 51) (mf_dat eX11_reading 19 rfl) fl_X11_75 rfl (by decide) rfl (gx_0_5 hG) is0 ?_
            refine mf_aload_n (mf_dat eX11_reading 20 rfl) rfl rfl ?_
            refine mf_getf (r := (RX11, TX11, 20)) (ci := 11) (k := 12) (t := 2) (v := g2 0 12) (mf_dat eX11_reading 21 rfl) fl_X11_47 rfl (by decide) rfl rfl is0 ?_
            refine mf_aload_n (mf_dat eX11_reading 22 rfl) rfl rfl ?_
            refine mf_getf (r := (RX11, TX11, 20)) (ci := 11) (k := 7) (t := 2) (v := 88) (mf_dat eX11_reading 23 rfl) fl_X11_82 rfl (by decide) rfl (gx_0_7 hG) is0 ?_
            refine mf_iload_n (mf_dat eX11_reading 24 rfl) rfl rfl ?_
            refine mf_iload_n (mf_dat eX11_reading 25 rfl) rfl rfl ?_
            refine mf_callV (Yc := YX5_findReading) (r := (RX5, TX5, 12)) (ci := 5) (mf_dat eX11_reading 26 rfl) ml_X11_234 okX5_findReading im_X5_findReading sl_X5_findReading rfl rfl rfl rfl (Nat.le_of_ble_eq_true rfl) (mf_rr (Nat.le_trans (by decide) hd) (Nat.le_refl _)) (Nat.le_refl _) is51 (hyp hG) (fun r4 g5 h6 hyp => ?_)
            obtain ⟨hG, hyp⟩ := hyp
            exact mf_ireturn (mf_dat eX11_reading 27 rfl) rfl (Or.inl rfl) ⟨hG, hyp⟩
          · replace hyp := hyp.2 hc
            refine mf_iconst (v := (-1)) (mf_dat eX11_reading 16 rfl) (by decide) ?_
            exact mf_ireturn (mf_dat eX11_reading 17 rfl) rfl (Or.inl rfl) ⟨hG, hyp⟩
set_option maxRecDepth 100000 in
set_option maxHeartbeats 4000000 in
theorem wX11_later {C : mf_G} {l : Launch} {d : Nat} {K : mf_Kt} {x1 x2 x3 : Int} {g h : mf_M} (hd : 7 ≤ d) (hyp : xM C l 0 YX11_isBeing [(2, 0), (0, x1)] g h (fun r1 g2 h3 => ((r1 = 0 → K (-1) g2 h3) ∧ (¬ r1 = 0 → ((x2 < 0 → K (-1) g2 h3) ∧ (¬ x2 < 0 → ((60 < x2 → K (-1) g2 h3) ∧ (¬ 60 < x2 → xM C l 0 YX11_canPass [(2, 0), (0, x2)] g2 h3 (fun r4 g5 h6 => ((¬ r4 = 0 → ((x3 < 0 → K (-1) g5 h6) ∧ (¬ x3 < 0 → ((x3 ≤ 2 → xM C l 6 YX5_lookAhead [(2, 51), (2, g5 0 12), (2, 88), (0, x2)] g5 h6 (fun r7 g8 h9 => ((¬ x3 = 0 → ((¬ x3 = 1 → mf_is 319 r7 6 ∧ 0 ≤ x1 ∧ x1 < 8 ∧ K (h9 (r7 + 5) x1) g8 h9) ∧ (x3 = 1 → mf_is 319 r7 6 ∧ 0 ≤ x1 ∧ x1 < 8 ∧ K (h9 (r7 + 4) x1) g8 h9))) ∧ (x3 = 0 → mf_is 319 r7 6 ∧ 0 ≤ x1 ∧ x1 < 8 ∧ K (h9 (r7 + 3) x1) g8 h9)))) ∧ (¬ x3 ≤ 2 → K (-1) g5 h6))))) ∧ (r4 = 0 → K (-1) g5 h6))))))))))) : xM C l d YX11_later [(2, 0), (0, x1), (0, x2), (0, x3)] g h K := by
  intro hG
  refine mf_entry (by decide) (Nat.le_of_ble_eq_true rfl) ?_
  refine mf_aload_n (mf_dat eX11_later 0 rfl) rfl rfl ?_
  refine mf_iload_n (mf_dat eX11_later 1 rfl) rfl rfl ?_
  refine mf_callV (Yc := YX11_isBeing) (r := (RX11, TX11, 20)) (ci := 11) (mf_dat eX11_later 2 rfl) ml_X11_169 okX11_isBeing im_X11_isBeing sl_X11_isBeing rfl rfl rfl rfl (Nat.le_of_ble_eq_true rfl) (mf_rr (Nat.le_trans (by decide) hd) (Nat.le_refl _)) (Nat.le_refl _) is0 (hyp hG) (fun r1 g2 h3 hyp => ?_)
  obtain ⟨hG, hyp⟩ := hyp
  refine mf_if_eq (tgt := 26) (mf_dat eX11_later 3 rfl) (by decide) (fun hc => ?_) (fun hc => ?_)
  · replace hyp := hyp.1 hc
    refine mf_iconst (v := (-1)) (mf_dat eX11_later 13 rfl) (by decide) ?_
    exact mf_ireturn (mf_dat eX11_later 14 rfl) rfl (Or.inl rfl) ⟨hG, hyp⟩
  · replace hyp := hyp.2 hc
    refine mf_iload_n (mf_dat eX11_later 4 rfl) rfl rfl ?_
    refine mf_if_lt (tgt := 26) (mf_dat eX11_later 5 rfl) (by decide) (fun hc => ?_) (fun hc => ?_)
    · replace hyp := hyp.1 hc
      refine mf_iconst (v := (-1)) (mf_dat eX11_later 13 rfl) (by decide) ?_
      exact mf_ireturn (mf_dat eX11_later 14 rfl) rfl (Or.inl rfl) ⟨hG, hyp⟩
    · replace hyp := hyp.2 hc
      refine mf_iload_n (mf_dat eX11_later 6 rfl) rfl rfl ?_
      refine mf_bipush (v := 60) (mf_dat eX11_later 7 rfl) (by decide) ?_
      refine mf_icmp_gt (tgt := 26) (mf_dat eX11_later 8 rfl) (by decide) (fun hc => ?_) (fun hc => ?_)
      · replace hyp := hyp.1 hc
        refine mf_iconst (v := (-1)) (mf_dat eX11_later 13 rfl) (by decide) ?_
        exact mf_ireturn (mf_dat eX11_later 14 rfl) rfl (Or.inl rfl) ⟨hG, hyp⟩
      · replace hyp := hyp.2 hc
        refine mf_aload_n (mf_dat eX11_later 9 rfl) rfl rfl ?_
        refine mf_iload_n (mf_dat eX11_later 10 rfl) rfl rfl ?_
        refine mf_callV (Yc := YX11_canPass) (r := (RX11, TX11, 20)) (ci := 11) (mf_dat eX11_later 11 rfl) ml_X11_231 okX11_canPass im_X11_canPass sl_X11_canPass rfl rfl rfl rfl (Nat.le_of_ble_eq_true rfl) (mf_rr (Nat.le_trans (by decide) hd) (Nat.le_refl _)) (Nat.le_refl _) is0 (hyp hG) (fun r4 g5 h6 hyp => ?_)
        obtain ⟨hG, hyp⟩ := hyp
        refine mf_if_ne (tgt := 28) (mf_dat eX11_later 12 rfl) (by decide) (fun hc => ?_) (fun hc => ?_)
        · replace hyp := hyp.1 hc
          refine mf_iload_n (mf_dat eX11_later 15 rfl) rfl rfl ?_
          refine mf_if_lt (tgt := 37) (mf_dat eX11_later 16 rfl) (by decide) (fun hc => ?_) (fun hc => ?_)
          · replace hyp := hyp.1 hc
            refine mf_iconst (v := (-1)) (mf_dat eX11_later 20 rfl) (by decide) ?_
            exact mf_ireturn (mf_dat eX11_later 21 rfl) rfl (Or.inl rfl) ⟨hG, hyp⟩
          · replace hyp := hyp.2 hc
            refine mf_iload_n (mf_dat eX11_later 17 rfl) rfl rfl ?_
            refine mf_iconst (v := 2) (mf_dat eX11_later 18 rfl) (by decide) ?_
            refine mf_icmp_le (tgt := 39) (mf_dat eX11_later 19 rfl) (by decide) (fun hc => ?_) (fun hc => ?_)
            · replace hyp := hyp.1 hc
              refine mf_aload_n (mf_dat eX11_later 22 rfl) rfl rfl ?_
              refine mf_getf (r := (RX11, TX11, 20)) (ci := 11) (k := 5) (t := 2) (v := 51) (mf_dat eX11_later 23 rfl) fl_X11_75 rfl (by decide) rfl (gx_0_5 hG) is0 ?_
              refine mf_aload_n (mf_dat eX11_later 24 rfl) rfl rfl ?_
              refine mf_getf (r := (RX11, TX11, 20)) (ci := 11) (k := 12) (t := 2) (v := g5 0 12) (mf_dat eX11_later 25 rfl) fl_X11_47 rfl (by decide) rfl rfl is0 ?_
              refine mf_aload_n (mf_dat eX11_later 26 rfl) rfl rfl ?_
              refine mf_getf (r := (RX11, TX11, 20)) (ci := 11) (k := 7) (t := 2) (v := 88) (mf_dat eX11_later 27 rfl) fl_X11_82 rfl (by decide) rfl (gx_0_7 hG) is0 ?_
              refine mf_iload_n (mf_dat eX11_later 28 rfl) rfl rfl ?_
              refine mf_callV (Yc := YX5_lookAhead) (r := (RX5, TX5, 12)) (ci := 5) (mf_dat eX11_later 29 rfl) ml_X11_238 okX5_lookAhead im_X5_lookAhead sl_X5_lookAhead rfl rfl rfl rfl (Nat.le_of_ble_eq_true rfl) (mf_rr (Nat.le_trans (by decide) hd) (Nat.le_refl _)) (Nat.le_refl _) is51 (hyp hG) (fun r7 g8 h9 hyp => ?_)
              obtain ⟨hG, hyp⟩ := hyp
              refine mf_astore (mf_dat eX11_later 30 rfl) (by decide) ?_
              refine mf_iload_n (mf_dat eX11_later 31 rfl) rfl rfl ?_
              refine mf_if_ne (tgt := 69) (mf_dat eX11_later 32 rfl) (by decide) (fun hc => ?_) (fun hc => ?_)
              · replace hyp := hyp.1 hc
                refine mf_iload_n (mf_dat eX11_later 38 rfl) rfl rfl ?_
                refine mf_iconst (v := 1) (mf_dat eX11_later 39 rfl) (by decide) ?_
                refine mf_icmp_ne (tgt := 84) (mf_dat eX11_later 40 rfl) (by decide) (fun hc => ?_) (fun hc => ?_)
                · replace hyp := hyp.1 hc
                  refine mf_aload (mf_dat eX11_later 46 rfl) rfl ?_
                  obtain ⟨ck10, hyp⟩ := hyp
                  refine mf_getf (r := (RX6, TX6, 8)) (ci := 6) (k := 4) (t := 2) (v := r7 + 5) (mf_dat eX11_later 47 rfl) fl_X11_192 rfl (by decide) rfl (gs_4 hG ck10) ck10 ?_
                  refine mf_iload_n (mf_dat eX11_later 48 rfl) rfl rfl ?_
                  obtain ⟨ck11, hyp⟩ := hyp
                  obtain ⟨ck12, hyp⟩ := hyp
                  refine mf_iald (mf_dat eX11_later 49 rfl) (st_is4 ck10) (st_len4 ck10) ck11 ck12 ?_
                  exact mf_ireturn (mf_dat eX11_later 50 rfl) rfl (Or.inl rfl) ⟨hG, hyp⟩
                · replace hyp := hyp.2 hc
                  refine mf_aload (mf_dat eX11_later 41 rfl) rfl ?_
                  obtain ⟨ck13, hyp⟩ := hyp
                  refine mf_getf (r := (RX6, TX6, 8)) (ci := 6) (k := 3) (t := 2) (v := r7 + 4) (mf_dat eX11_later 42 rfl) fl_X11_189 rfl (by decide) rfl (gs_3 hG ck13) ck13 ?_
                  refine mf_iload_n (mf_dat eX11_later 43 rfl) rfl rfl ?_
                  obtain ⟨ck14, hyp⟩ := hyp
                  obtain ⟨ck15, hyp⟩ := hyp
                  refine mf_iald (mf_dat eX11_later 44 rfl) (st_is3 ck13) (st_len3 ck13) ck14 ck15 ?_
                  refine mf_goto (tgt := 91) (mf_dat eX11_later 45 rfl) (by decide) ?_
                  exact mf_ireturn (mf_dat eX11_later 50 rfl) rfl (Or.inl rfl) ⟨hG, hyp⟩
              · replace hyp := hyp.2 hc
                refine mf_aload (mf_dat eX11_later 33 rfl) rfl ?_
                obtain ⟨ck16, hyp⟩ := hyp
                refine mf_getf (r := (RX6, TX6, 8)) (ci := 6) (k := 2) (t := 2) (v := r7 + 3) (mf_dat eX11_later 34 rfl) fl_X11_183 rfl (by decide) rfl (gs_2 hG ck16) ck16 ?_
                refine mf_iload_n (mf_dat eX11_later 35 rfl) rfl rfl ?_
                obtain ⟨ck17, hyp⟩ := hyp
                obtain ⟨ck18, hyp⟩ := hyp
                refine mf_iald (mf_dat eX11_later 36 rfl) (st_is2 ck16) (st_len2 ck16) ck17 ck18 ?_
                exact mf_ireturn (mf_dat eX11_later 37 rfl) rfl (Or.inl rfl) ⟨hG, hyp⟩
            · replace hyp := hyp.2 hc
              refine mf_iconst (v := (-1)) (mf_dat eX11_later 20 rfl) (by decide) ?_
              exact mf_ireturn (mf_dat eX11_later 21 rfl) rfl (Or.inl rfl) ⟨hG, hyp⟩
        · replace hyp := hyp.2 hc
          refine mf_iconst (v := (-1)) (mf_dat eX11_later 13 rfl) (by decide) ?_
          exact mf_ireturn (mf_dat eX11_later 14 rfl) rfl (Or.inl rfl) ⟨hG, hyp⟩
set_option maxRecDepth 100000 in
set_option maxHeartbeats 4000000 in
theorem wX11_opening {C : mf_G} {l : Launch} {d : Nat} {K : mf_Kt} {x1 : Int} {g h : mf_M} (hd : 5 ≤ d) (hyp : ((x1 < 0 → K (-1) g h) ∧ (¬ x1 < 0 → ((60 < x1 → K (-1) g h) ∧ (¬ 60 < x1 → xM C l 0 YX11_canPass [(2, 0), (0, x1)] g h (fun r1 g2 h3 => ((¬ r1 = 0 → xM C l 4 YX0_openingOf [(2, 46), (2, g2 0 12), (0, mf_w32 ((h3 88 7) + x1))] g2 h3 (fun r4 g5 h6 => K r4 g5 h6)) ∧ (r1 = 0 → K (-1) g2 h3)))))))) : xM C l d YX11_opening [(2, 0), (0, x1)] g h K := by
  intro hG
  refine mf_entry (by decide) (Nat.le_of_ble_eq_true rfl) ?_
  refine mf_iload_n (mf_dat eX11_opening 0 rfl) rfl rfl ?_
  refine mf_if_lt (tgt := 18) (mf_dat eX11_opening 1 rfl) (by decide) (fun hc => ?_) (fun hc => ?_)
  · replace hyp := hyp.1 hc
    refine mf_iconst (v := (-1)) (mf_dat eX11_opening 9 rfl) (by decide) ?_
    exact mf_ireturn (mf_dat eX11_opening 10 rfl) rfl (Or.inl rfl) ⟨hG, hyp⟩
  · replace hyp := hyp.2 hc
    refine mf_iload_n (mf_dat eX11_opening 2 rfl) rfl rfl ?_
    refine mf_bipush (v := 60) (mf_dat eX11_opening 3 rfl) (by decide) ?_
    refine mf_icmp_gt (tgt := 18) (mf_dat eX11_opening 4 rfl) (by decide) (fun hc => ?_) (fun hc => ?_)
    · replace hyp := hyp.1 hc
      refine mf_iconst (v := (-1)) (mf_dat eX11_opening 9 rfl) (by decide) ?_
      exact mf_ireturn (mf_dat eX11_opening 10 rfl) rfl (Or.inl rfl) ⟨hG, hyp⟩
    · replace hyp := hyp.2 hc
      refine mf_aload_n (mf_dat eX11_opening 5 rfl) rfl rfl ?_
      refine mf_iload_n (mf_dat eX11_opening 6 rfl) rfl rfl ?_
      refine mf_callV (Yc := YX11_canPass) (r := (RX11, TX11, 20)) (ci := 11) (mf_dat eX11_opening 7 rfl) ml_X11_231 okX11_canPass im_X11_canPass sl_X11_canPass rfl rfl rfl rfl (Nat.le_of_ble_eq_true rfl) (mf_rr (Nat.le_trans (by decide) hd) (Nat.le_refl _)) (Nat.le_refl _) is0 (hyp hG) (fun r1 g2 h3 hyp => ?_)
      obtain ⟨hG, hyp⟩ := hyp
      refine mf_if_ne (tgt := 20) (mf_dat eX11_opening 8 rfl) (by decide) (fun hc => ?_) (fun hc => ?_)
      · replace hyp := hyp.1 hc
        refine mf_aload_n (mf_dat eX11_opening 11 rfl) rfl rfl ?_
        refine mf_getf (r := (RX11, TX11, 20)) (ci := 11) (k := 4) (t := 2) (v := 46) (mf_dat eX11_opening 12 rfl) fl_X11_66 rfl (by decide) rfl (gx_0_4 hG) is0 ?_
        refine mf_aload_n (mf_dat eX11_opening 13 rfl) rfl rfl ?_
        refine mf_getf (r := (RX11, TX11, 20)) (ci := 11) (k := 12) (t := 2) (v := g2 0 12) (mf_dat eX11_opening 14 rfl) fl_X11_47 rfl (by decide) rfl rfl is0 ?_
        refine mf_aload_n (mf_dat eX11_opening 15 rfl) rfl rfl ?_
        refine mf_getf (r := (RX11, TX11, 20)) (ci := 11) (k := 7) (t := 2) (v := 88) (mf_dat eX11_opening 16 rfl) fl_X11_82 rfl (by decide) rfl (gx_0_7 hG) is0 ?_
        refine mf_getf (r := (RX6, TX6, 8)) (ci := 6) (k := 7) (t := 0) (v := h3 88 7) (mf_dat eX11_opening 17 rfl) fl_X11_156 rfl (by decide) rfl rfl is88 ?_
        refine mf_iload_n (mf_dat eX11_opening 18 rfl) rfl rfl ?_
        refine mf_iadd (mf_dat eX11_opening 19 rfl) ?_
        refine mf_callV (Yc := YX0_openingOf) (r := (RX0, TX0, 1)) (ci := 0) (mf_dat eX11_opening 20 rfl) ml_X11_159 okX0_openingOf im_X0_openingOf sl_X0_openingOf rfl rfl rfl rfl (Nat.le_of_ble_eq_true rfl) (mf_rr (Nat.le_trans (by decide) hd) (Nat.le_refl _)) (Nat.le_refl _) is46 (hyp hG) (fun r4 g5 h6 hyp => ?_)
        obtain ⟨hG, hyp⟩ := hyp
        exact mf_ireturn (mf_dat eX11_opening 21 rfl) rfl (Or.inl rfl) ⟨hG, hyp⟩
      · replace hyp := hyp.2 hc
        refine mf_iconst (v := (-1)) (mf_dat eX11_opening 9 rfl) (by decide) ?_
        exact mf_ireturn (mf_dat eX11_opening 10 rfl) rfl (Or.inl rfl) ⟨hG, hyp⟩
set_option maxRecDepth 100000 in
set_option maxHeartbeats 4000000 in
theorem wX11_way {C : mf_G} {l : Launch} {d : Nat} {K : mf_Kt} {x1 x2 x3 : Int} {g h : mf_M} (hd : 6 ≤ d) (hyp : xM C l 0 YX11_isBeing [(2, 0), (0, x1)] g h (fun r1 g2 h3 => ((r1 = 0 → K (-1) g2 h3) ∧ (¬ r1 = 0 → xM C l 0 YX11_isCell [(2, 0), (0, x2), (0, x3)] g2 h3 (fun r4 g5 h6 => ((¬ r4 = 0 → xM C l 5 YX5_findWay [(2, 51), (2, g5 0 12), (2, 88), (0, x1), (0, x2), (0, x3)] g5 h6 (fun r7 g8 h9 => K r7 g8 h9)) ∧ (r4 = 0 → K (-1) g5 h6))))))) : xM C l d YX11_way [(2, 0), (0, x1), (0, x2), (0, x3)] g h K := by
  intro hG
  refine mf_entry (by decide) (Nat.le_of_ble_eq_true rfl) ?_
  refine mf_aload_n (mf_dat eX11_way 0 rfl) rfl rfl ?_
  refine mf_iload_n (mf_dat eX11_way 1 rfl) rfl rfl ?_
  refine mf_callV (Yc := YX11_isBeing) (r := (RX11, TX11, 20)) (ci := 11) (mf_dat eX11_way 2 rfl) ml_X11_169 okX11_isBeing im_X11_isBeing sl_X11_isBeing rfl rfl rfl rfl (Nat.le_of_ble_eq_true rfl) (mf_rr (Nat.le_trans (by decide) hd) (Nat.le_refl _)) (Nat.le_refl _) is0 (hyp hG) (fun r1 g2 h3 hyp => ?_)
  obtain ⟨hG, hyp⟩ := hyp
  refine mf_if_eq (tgt := 17) (mf_dat eX11_way 3 rfl) (by decide) (fun hc => ?_) (fun hc => ?_)
  · replace hyp := hyp.1 hc
    refine mf_iconst (v := (-1)) (mf_dat eX11_way 9 rfl) (by decide) ?_
    exact mf_ireturn (mf_dat eX11_way 10 rfl) rfl (Or.inl rfl) ⟨hG, hyp⟩
  · replace hyp := hyp.2 hc
    refine mf_aload_n (mf_dat eX11_way 4 rfl) rfl rfl ?_
    refine mf_iload_n (mf_dat eX11_way 5 rfl) rfl rfl ?_
    refine mf_iload_n (mf_dat eX11_way 6 rfl) rfl rfl ?_
    refine mf_callV (Yc := YX11_isCell) (r := (RX11, TX11, 20)) (ci := 11) (mf_dat eX11_way 7 rfl) ml_X11_199 okX11_isCell im_X11_isCell sl_X11_isCell rfl rfl rfl rfl (Nat.le_of_ble_eq_true rfl) (mf_rr (Nat.le_trans (by decide) hd) (Nat.le_refl _)) (Nat.le_refl _) is0 (hyp hG) (fun r4 g5 h6 hyp => ?_)
    obtain ⟨hG, hyp⟩ := hyp
    refine mf_if_ne (tgt := 19) (mf_dat eX11_way 8 rfl) (by decide) (fun hc => ?_) (fun hc => ?_)
    · replace hyp := hyp.1 hc
      refine mf_aload_n (mf_dat eX11_way 11 rfl) rfl rfl ?_
      refine mf_getf (r := (RX11, TX11, 20)) (ci := 11) (k := 5) (t := 2) (v := 51) (mf_dat eX11_way 12 rfl) fl_X11_75 rfl (by decide) rfl (gx_0_5 hG) is0 ?_
      refine mf_aload_n (mf_dat eX11_way 13 rfl) rfl rfl ?_
      refine mf_getf (r := (RX11, TX11, 20)) (ci := 11) (k := 12) (t := 2) (v := g5 0 12) (mf_dat eX11_way 14 rfl) fl_X11_47 rfl (by decide) rfl rfl is0 ?_
      refine mf_aload_n (mf_dat eX11_way 15 rfl) rfl rfl ?_
      refine mf_getf (r := (RX11, TX11, 20)) (ci := 11) (k := 7) (t := 2) (v := 88) (mf_dat eX11_way 16 rfl) fl_X11_82 rfl (by decide) rfl (gx_0_7 hG) is0 ?_
      refine mf_iload_n (mf_dat eX11_way 17 rfl) rfl rfl ?_
      refine mf_iload_n (mf_dat eX11_way 18 rfl) rfl rfl ?_
      refine mf_iload_n (mf_dat eX11_way 19 rfl) rfl rfl ?_
      refine mf_callV (Yc := YX5_findWay) (r := (RX5, TX5, 12)) (ci := 5) (mf_dat eX11_way 20 rfl) ml_X11_242 okX5_findWay im_X5_findWay sl_X5_findWay rfl rfl rfl rfl (Nat.le_of_ble_eq_true rfl) (mf_rr (Nat.le_trans (by decide) hd) (Nat.le_refl _)) (Nat.le_refl _) is51 (hyp hG) (fun r7 g8 h9 hyp => ?_)
      obtain ⟨hG, hyp⟩ := hyp
      exact mf_ireturn (mf_dat eX11_way 21 rfl) rfl (Or.inl rfl) ⟨hG, hyp⟩
    · replace hyp := hyp.2 hc
      refine mf_iconst (v := (-1)) (mf_dat eX11_way 9 rfl) (by decide) ?_
      exact mf_ireturn (mf_dat eX11_way 10 rfl) rfl (Or.inl rfl) ⟨hG, hyp⟩
set_option maxRecDepth 100000 in
set_option maxHeartbeats 4000000 in
theorem wX11_see {C : mf_G} {l : Launch} {d : Nat} {K : mf_Kt} {g h : mf_M} (hd : 2 ≤ d) (hyp : xM C l 1 YX5_takeSeen [(2, 51), (2, g 0 12), (2, 3)] g h (fun r1 g2 h3 => (∀ h4 : mf_M, h4 = mf_up h3 3 1 0 → ((¬ r1 = 0 → K (h4 51 11) g2 h4) ∧ (r1 = 0 → (∀ h5 : mf_M, h5 = mf_up h4 243 1 (mf_w32 ((h4 243 1) + 1)) → K (-1) g2 h5)))))) : xM C l d YX11_see [(2, 0)] g h K := by
  intro hG
  refine mf_entry (by decide) (Nat.le_of_ble_eq_true rfl) ?_
  refine mf_aload_n (mf_dat eX11_see 0 rfl) rfl rfl ?_
  refine mf_getf (r := (RX11, TX11, 20)) (ci := 11) (k := 5) (t := 2) (v := 51) (mf_dat eX11_see 1 rfl) fl_X11_75 rfl (by decide) rfl (gx_0_5 hG) is0 ?_
  refine mf_aload_n (mf_dat eX11_see 2 rfl) rfl rfl ?_
  refine mf_getf (r := (RX11, TX11, 20)) (ci := 11) (k := 12) (t := 2) (v := g 0 12) (mf_dat eX11_see 3 rfl) fl_X11_47 rfl (by decide) rfl rfl is0 ?_
  refine mf_aload_n (mf_dat eX11_see 4 rfl) rfl rfl ?_
  refine mf_getf (r := (RX11, TX11, 20)) (ci := 11) (k := 0) (t := 2) (v := 3) (mf_dat eX11_see 5 rfl) fl_X11_15 rfl (by decide) rfl (gx_0_0 hG) is0 ?_
  refine mf_callV (Yc := YX5_takeSeen) (r := (RX5, TX5, 12)) (ci := 5) (mf_dat eX11_see 6 rfl) ml_X11_246 okX5_takeSeen im_X5_takeSeen sl_X5_takeSeen rfl rfl rfl rfl (Nat.le_of_ble_eq_true rfl) (mf_rr (Nat.le_trans (by decide) hd) (Nat.le_refl _)) (Nat.le_refl _) is51 (hyp hG) (fun r1 g2 h3 hyp => ?_)
  obtain ⟨hG, hyp⟩ := hyp
  refine mf_istore_n (mf_dat eX11_see 7 rfl) rfl (by decide) ?_
  refine mf_aload_n (mf_dat eX11_see 8 rfl) rfl rfl ?_
  refine mf_getf (r := (RX11, TX11, 20)) (ci := 11) (k := 0) (t := 2) (v := 3) (mf_dat eX11_see 9 rfl) fl_X11_15 rfl (by decide) rfl (gx_0_0 hG) is0 ?_
  refine mf_iconst (v := 0) (mf_dat eX11_see 10 rfl) (by decide) ?_
  refine mf_putI (r := (RX8, TX8, 2)) (ci := 8) (k := 1) (kI := 1) (t := 0) (mf_dat eX11_see 11 rfl) fl_X11_107 rfl rfl (by decide) rfl (by decide) rfl (by decide) (fun h9 => absurd h9 (by decide)) is3 ?_
  generalize qh4 : mf_up h3 3 1 0 = h4
  replace hyp := hyp _ qh4.symm
  refine mf_iload_n (mf_dat eX11_see 12 rfl) rfl rfl ?_
  refine mf_if_ne (tgt := 40) (mf_dat eX11_see 13 rfl) (by decide) (fun hc => ?_) (fun hc => ?_)
  · replace hyp := hyp.1 hc
    refine mf_aload_n (mf_dat eX11_see 24 rfl) rfl rfl ?_
    refine mf_getf (r := (RX11, TX11, 20)) (ci := 11) (k := 5) (t := 2) (v := 51) (mf_dat eX11_see 25 rfl) fl_X11_75 rfl (by decide) rfl (gx_0_5 hG) is0 ?_
    refine mf_getf (r := (RX5, TX5, 12)) (ci := 5) (k := 11) (t := 0) (v := h4 51 11) (mf_dat eX11_see 26 rfl) fl_X11_131 rfl (by decide) rfl rfl is51 ?_
    exact mf_ireturn (mf_dat eX11_see 27 rfl) rfl (Or.inl rfl) ⟨hG, hyp⟩
  · replace hyp := hyp.2 hc
    refine mf_aload_n (mf_dat eX11_see 14 rfl) rfl rfl ?_
    refine mf_getf (r := (RX11, TX11, 20)) (ci := 11) (k := 10) (t := 2) (v := 243) (mf_dat eX11_see 15 rfl) fl_X11_93 rfl (by decide) rfl (gx_0_10 hG) is0 ?_
    refine mf_iconst (v := 1) (mf_dat eX11_see 16 rfl) (by decide) ?_
    refine mf_dup2 (mf_dat eX11_see 17 rfl) (by decide) (by decide) ?_
    refine mf_iald (mf_dat eX11_see 18 rfl) is243 len243 (by decide) (by decide) ?_
    refine mf_iconst (v := 1) (mf_dat eX11_see 19 rfl) (by decide) ?_
    refine mf_iadd (mf_dat eX11_see 20 rfl) ?_
    refine mf_iast (mf_dat eX11_see 21 rfl) is243 len243 (by decide) (by decide) ?_
    generalize qh5 : mf_up h4 243 1 (mf_w32 ((h4 243 1) + 1)) = h5
    replace hyp := hyp _ qh5.symm
    refine mf_iconst (v := (-1)) (mf_dat eX11_see 22 rfl) (by decide) ?_
    exact mf_ireturn (mf_dat eX11_see 23 rfl) rfl (Or.inl rfl) ⟨hG, hyp⟩
set_option maxRecDepth 100000 in
set_option maxHeartbeats 4000000 in
theorem wX11_lay {C : mf_G} {l : Launch} {d : Nat} {K : mf_Kt} {x1 : Int} {g h : mf_M} (hd : 7 ≤ d) (hyp : xM C l 0 YX11_canPass [(2, 0), (0, 1)] g h (fun r1 g2 h3 => ((r1 = 0 → K (-1) g2 h3) ∧ (¬ r1 = 0 → ((x1 < 0 → K (-1) g2 h3) ∧ (¬ x1 < 0 → ((x1 ≤ 1 → xM C l 6 YX5_findOpenings [(2, 51), (2, g2 0 12), (2, 88)] g2 h3 (fun r4 g5 h6 => ((¬ x1 = 0 → K r4 g5 h6) ∧ (x1 = 0 → xM C l 0 YJ6_bitCount_0f7a4 [(0, r4)] g5 h6 (fun r7 g8 h9 => K r7 g8 h9))))) ∧ (¬ x1 ≤ 1 → K (-1) g2 h3)))))))) : xM C l d YX11_lay [(2, 0), (0, x1)] g h K := by
  intro hG
  refine mf_entry (by decide) (Nat.le_of_ble_eq_true rfl) ?_
  refine mf_aload_n (mf_dat eX11_lay 0 rfl) rfl rfl ?_
  refine mf_iconst (v := 1) (mf_dat eX11_lay 1 rfl) (by decide) ?_
  refine mf_callV (Yc := YX11_canPass) (r := (RX11, TX11, 20)) (ci := 11) (mf_dat eX11_lay 2 rfl) ml_X11_231 okX11_canPass im_X11_canPass sl_X11_canPass rfl rfl rfl rfl (Nat.le_of_ble_eq_true rfl) (mf_rr (Nat.le_trans (by decide) hd) (Nat.le_refl _)) (Nat.le_refl _) is0 (hyp hG) (fun r1 g2 h3 hyp => ?_)
  obtain ⟨hG, hyp⟩ := hyp
  refine mf_if_eq (tgt := 17) (mf_dat eX11_lay 3 rfl) (by decide) (fun hc => ?_) (fun hc => ?_)
  · replace hyp := hyp.1 hc
    refine mf_iconst (v := (-1)) (mf_dat eX11_lay 9 rfl) (by decide) ?_
    exact mf_ireturn (mf_dat eX11_lay 10 rfl) rfl (Or.inl rfl) ⟨hG, hyp⟩
  · replace hyp := hyp.2 hc
    refine mf_iload_n (mf_dat eX11_lay 4 rfl) rfl rfl ?_
    refine mf_if_lt (tgt := 17) (mf_dat eX11_lay 5 rfl) (by decide) (fun hc => ?_) (fun hc => ?_)
    · replace hyp := hyp.1 hc
      refine mf_iconst (v := (-1)) (mf_dat eX11_lay 9 rfl) (by decide) ?_
      exact mf_ireturn (mf_dat eX11_lay 10 rfl) rfl (Or.inl rfl) ⟨hG, hyp⟩
    · replace hyp := hyp.2 hc
      refine mf_iload_n (mf_dat eX11_lay 6 rfl) rfl rfl ?_
      refine mf_iconst (v := 1) (mf_dat eX11_lay 7 rfl) (by decide) ?_
      refine mf_icmp_le (tgt := 19) (mf_dat eX11_lay 8 rfl) (by decide) (fun hc => ?_) (fun hc => ?_)
      · replace hyp := hyp.1 hc
        refine mf_aload_n (mf_dat eX11_lay 11 rfl) rfl rfl ?_
        refine mf_getf (r := (RX11, TX11, 20)) (ci := 11) (k := 5) (t := 2) (v := 51) (mf_dat eX11_lay 12 rfl) fl_X11_75 rfl (by decide) rfl (gx_0_5 hG) is0 ?_
        refine mf_aload_n (mf_dat eX11_lay 13 rfl) rfl rfl ?_
        refine mf_getf (r := (RX11, TX11, 20)) (ci := 11) (k := 12) (t := 2) (v := g2 0 12) (mf_dat eX11_lay 14 rfl) fl_X11_47 rfl (by decide) rfl rfl is0 ?_
        refine mf_aload_n (mf_dat eX11_lay 15 rfl) rfl rfl ?_
        refine mf_getf (r := (RX11, TX11, 20)) (ci := 11) (k := 7) (t := 2) (v := 88) (mf_dat eX11_lay 16 rfl) fl_X11_82 rfl (by decide) rfl (gx_0_7 hG) is0 ?_
        refine mf_callV (Yc := YX5_findOpenings) (r := (RX5, TX5, 12)) (ci := 5) (mf_dat eX11_lay 17 rfl) ml_X11_250 okX5_findOpenings im_X5_findOpenings sl_X5_findOpenings rfl rfl rfl rfl (Nat.le_of_ble_eq_true rfl) (mf_rr (Nat.le_trans (by decide) hd) (Nat.le_refl _)) (Nat.le_refl _) is51 (hyp hG) (fun r4 g5 h6 hyp => ?_)
        obtain ⟨hG, hyp⟩ := hyp
        refine mf_istore_n (mf_dat eX11_lay 18 rfl) rfl (by decide) ?_
        refine mf_iload_n (mf_dat eX11_lay 19 rfl) rfl rfl ?_
        refine mf_if_ne (tgt := 46) (mf_dat eX11_lay 20 rfl) (by decide) (fun hc => ?_) (fun hc => ?_)
        · replace hyp := hyp.1 hc
          refine mf_iload_n (mf_dat eX11_lay 24 rfl) rfl rfl ?_
          exact mf_ireturn (mf_dat eX11_lay 25 rfl) rfl (Or.inl rfl) ⟨hG, hyp⟩
        · replace hyp := hyp.2 hc
          refine mf_iload_n (mf_dat eX11_lay 21 rfl) rfl rfl ?_
          refine mf_callS (Yc := YJ6_bitCount_0f7a4) (mf_dat eX11_lay 22 rfl) ml_X11_253 okJ6_bitCount_0f7a4 sm_J6_bitCount_0f7a4 rfl rfl (Nat.le_of_ble_eq_true rfl) (mf_rr (Nat.le_trans (by decide) hd) (Nat.le_refl _)) (Nat.le_refl _) (hyp hG) (fun r7 g8 h9 hyp => ?_)
          obtain ⟨hG, hyp⟩ := hyp
          refine mf_goto (tgt := 47) (mf_dat eX11_lay 23 rfl) (by decide) ?_
          exact mf_ireturn (mf_dat eX11_lay 25 rfl) rfl (Or.inl rfl) ⟨hG, hyp⟩
      · replace hyp := hyp.2 hc
        refine mf_iconst (v := (-1)) (mf_dat eX11_lay 9 rfl) (by decide) ?_
        exact mf_ireturn (mf_dat eX11_lay 10 rfl) rfl (Or.inl rfl) ⟨hG, hyp⟩
set_option maxRecDepth 100000 in
set_option maxHeartbeats 4000000 in
theorem wX11_after {C : mf_G} {l : Launch} {d : Nat} {K : mf_Kt} {x1 : Int} {g h : mf_M} (hd : 8 ≤ d) (hyp : xM C l 0 YX11_canPass [(2, 0), (0, 1)] g h (fun r1 g2 h3 => ((r1 = 0 → K (-1) g2 h3) ∧ (¬ r1 = 0 → ((x1 < 0 → K (-1) g2 h3) ∧ (¬ x1 < 0 → ((x1 ≤ 1 → xM C l 7 YX5_askAfter [(2, 51), (2, g2 0 12), (2, 88), (0, x1)] g2 h3 (fun r4 g5 h6 => K r4 g5 h6)) ∧ (¬ x1 ≤ 1 → K (-1) g2 h3)))))))) : xM C l d YX11_after [(2, 0), (0, x1)] g h K := by
  intro hG
  refine mf_entry (by decide) (Nat.le_of_ble_eq_true rfl) ?_
  refine mf_aload_n (mf_dat eX11_after 0 rfl) rfl rfl ?_
  refine mf_iconst (v := 1) (mf_dat eX11_after 1 rfl) (by decide) ?_
  refine mf_callV (Yc := YX11_canPass) (r := (RX11, TX11, 20)) (ci := 11) (mf_dat eX11_after 2 rfl) ml_X11_231 okX11_canPass im_X11_canPass sl_X11_canPass rfl rfl rfl rfl (Nat.le_of_ble_eq_true rfl) (mf_rr (Nat.le_trans (by decide) hd) (Nat.le_refl _)) (Nat.le_refl _) is0 (hyp hG) (fun r1 g2 h3 hyp => ?_)
  obtain ⟨hG, hyp⟩ := hyp
  refine mf_if_eq (tgt := 17) (mf_dat eX11_after 3 rfl) (by decide) (fun hc => ?_) (fun hc => ?_)
  · replace hyp := hyp.1 hc
    refine mf_iconst (v := (-1)) (mf_dat eX11_after 9 rfl) (by decide) ?_
    exact mf_ireturn (mf_dat eX11_after 10 rfl) rfl (Or.inl rfl) ⟨hG, hyp⟩
  · replace hyp := hyp.2 hc
    refine mf_iload_n (mf_dat eX11_after 4 rfl) rfl rfl ?_
    refine mf_if_lt (tgt := 17) (mf_dat eX11_after 5 rfl) (by decide) (fun hc => ?_) (fun hc => ?_)
    · replace hyp := hyp.1 hc
      refine mf_iconst (v := (-1)) (mf_dat eX11_after 9 rfl) (by decide) ?_
      exact mf_ireturn (mf_dat eX11_after 10 rfl) rfl (Or.inl rfl) ⟨hG, hyp⟩
    · replace hyp := hyp.2 hc
      refine mf_iload_n (mf_dat eX11_after 6 rfl) rfl rfl ?_
      refine mf_iconst (v := 1) (mf_dat eX11_after 7 rfl) (by decide) ?_
      refine mf_icmp_le (tgt := 19) (mf_dat eX11_after 8 rfl) (by decide) (fun hc => ?_) (fun hc => ?_)
      · replace hyp := hyp.1 hc
        refine mf_aload_n (mf_dat eX11_after 11 rfl) rfl rfl ?_
        refine mf_getf (r := (RX11, TX11, 20)) (ci := 11) (k := 5) (t := 2) (v := 51) (mf_dat eX11_after 12 rfl) fl_X11_75 rfl (by decide) rfl (gx_0_5 hG) is0 ?_
        refine mf_aload_n (mf_dat eX11_after 13 rfl) rfl rfl ?_
        refine mf_getf (r := (RX11, TX11, 20)) (ci := 11) (k := 12) (t := 2) (v := g2 0 12) (mf_dat eX11_after 14 rfl) fl_X11_47 rfl (by decide) rfl rfl is0 ?_
        refine mf_aload_n (mf_dat eX11_after 15 rfl) rfl rfl ?_
        refine mf_getf (r := (RX11, TX11, 20)) (ci := 11) (k := 7) (t := 2) (v := 88) (mf_dat eX11_after 16 rfl) fl_X11_82 rfl (by decide) rfl (gx_0_7 hG) is0 ?_
        refine mf_iload_n (mf_dat eX11_after 17 rfl) rfl rfl ?_
        refine mf_callV (Yc := YX5_askAfter) (r := (RX5, TX5, 12)) (ci := 5) (mf_dat eX11_after 18 rfl) ml_X11_258 okX5_askAfter im_X5_askAfter sl_X5_askAfter rfl rfl rfl rfl (Nat.le_of_ble_eq_true rfl) (mf_rr (Nat.le_trans (by decide) hd) (Nat.le_refl _)) (Nat.le_refl _) is51 (hyp hG) (fun r4 g5 h6 hyp => ?_)
        obtain ⟨hG, hyp⟩ := hyp
        exact mf_ireturn (mf_dat eX11_after 19 rfl) rfl (Or.inl rfl) ⟨hG, hyp⟩
      · replace hyp := hyp.2 hc
        refine mf_iconst (v := (-1)) (mf_dat eX11_after 9 rfl) (by decide) ?_
        exact mf_ireturn (mf_dat eX11_after 10 rfl) rfl (Or.inl rfl) ⟨hG, hyp⟩
set_option maxRecDepth 100000 in
set_option maxHeartbeats 4000000 in
theorem wX11_trim {C : mf_G} {l : Launch} {d : Nat} {K : mf_Kt} {x1 x2 : Int} {g h : mf_M} (hd : 3 ≤ d) (hyp : ((x2 < 1 → K (-1) g h) ∧ (¬ x2 < 1 → mf_is 319 (g 0 12) 1 ∧ ((h (g 0 12) 9 ≤ x2 → K (-1) g h) ∧ (¬ h (g 0 12) 9 ≤ x2 → xM C l 0 YX11_isCell [(2, 0), (0, x1), (0, 0)] g h (fun r2 g3 h4 => ((¬ r2 = 0 → xM C l 2 YX5_findTrim [(2, 51), (2, g3 0 12), (2, 88), (0, x1), (0, x2)] g3 h4 (fun r5 g6 h7 => K r5 g6 h7)) ∧ (r2 = 0 → K (-1) g3 h4)))))))) : xM C l d YX11_trim [(2, 0), (0, x1), (0, x2)] g h K := by
  intro hG
  refine mf_entry (by decide) (Nat.le_of_ble_eq_true rfl) ?_
  refine mf_iload_n (mf_dat eX11_trim 0 rfl) rfl rfl ?_
  refine mf_iconst (v := 1) (mf_dat eX11_trim 1 rfl) (by decide) ?_
  refine mf_icmp_lt (tgt := 25) (mf_dat eX11_trim 2 rfl) (by decide) (fun hc => ?_) (fun hc => ?_)
  · replace hyp := hyp.1 hc
    refine mf_iconst (v := (-1)) (mf_dat eX11_trim 13 rfl) (by decide) ?_
    exact mf_ireturn (mf_dat eX11_trim 14 rfl) rfl (Or.inl rfl) ⟨hG, hyp⟩
  · replace hyp := hyp.2 hc
    refine mf_iload_n (mf_dat eX11_trim 3 rfl) rfl rfl ?_
    refine mf_aload_n (mf_dat eX11_trim 4 rfl) rfl rfl ?_
    refine mf_getf (r := (RX11, TX11, 20)) (ci := 11) (k := 12) (t := 2) (v := g 0 12) (mf_dat eX11_trim 5 rfl) fl_X11_47 rfl (by decide) rfl rfl is0 ?_
    obtain ⟨ck1, hyp⟩ := hyp
    refine mf_getf (r := (RX1, TX1, 14)) (ci := 1) (k := 9) (t := 0) (v := h (g 0 12) 9) (mf_dat eX11_trim 6 rfl) fl_X11_143 rfl (by decide) rfl rfl ck1 ?_
    refine mf_icmp_ge (tgt := 25) (mf_dat eX11_trim 7 rfl) (by decide) (fun hc => ?_) (fun hc => ?_)
    · replace hyp := hyp.1 hc
      refine mf_iconst (v := (-1)) (mf_dat eX11_trim 13 rfl) (by decide) ?_
      exact mf_ireturn (mf_dat eX11_trim 14 rfl) rfl (Or.inl rfl) ⟨hG, hyp⟩
    · replace hyp := hyp.2 hc
      refine mf_aload_n (mf_dat eX11_trim 8 rfl) rfl rfl ?_
      refine mf_iload_n (mf_dat eX11_trim 9 rfl) rfl rfl ?_
      refine mf_iconst (v := 0) (mf_dat eX11_trim 10 rfl) (by decide) ?_
      refine mf_callV (Yc := YX11_isCell) (r := (RX11, TX11, 20)) (ci := 11) (mf_dat eX11_trim 11 rfl) ml_X11_199 okX11_isCell im_X11_isCell sl_X11_isCell rfl rfl rfl rfl (Nat.le_of_ble_eq_true rfl) (mf_rr (Nat.le_trans (by decide) hd) (Nat.le_refl _)) (Nat.le_refl _) is0 (hyp hG) (fun r2 g3 h4 hyp => ?_)
      obtain ⟨hG, hyp⟩ := hyp
      refine mf_if_ne (tgt := 27) (mf_dat eX11_trim 12 rfl) (by decide) (fun hc => ?_) (fun hc => ?_)
      · replace hyp := hyp.1 hc
        refine mf_aload_n (mf_dat eX11_trim 15 rfl) rfl rfl ?_
        refine mf_getf (r := (RX11, TX11, 20)) (ci := 11) (k := 5) (t := 2) (v := 51) (mf_dat eX11_trim 16 rfl) fl_X11_75 rfl (by decide) rfl (gx_0_5 hG) is0 ?_
        refine mf_aload_n (mf_dat eX11_trim 17 rfl) rfl rfl ?_
        refine mf_getf (r := (RX11, TX11, 20)) (ci := 11) (k := 12) (t := 2) (v := g3 0 12) (mf_dat eX11_trim 18 rfl) fl_X11_47 rfl (by decide) rfl rfl is0 ?_
        refine mf_aload_n (mf_dat eX11_trim 19 rfl) rfl rfl ?_
        refine mf_getf (r := (RX11, TX11, 20)) (ci := 11) (k := 7) (t := 2) (v := 88) (mf_dat eX11_trim 20 rfl) fl_X11_82 rfl (by decide) rfl (gx_0_7 hG) is0 ?_
        refine mf_iload_n (mf_dat eX11_trim 21 rfl) rfl rfl ?_
        refine mf_iload_n (mf_dat eX11_trim 22 rfl) rfl rfl ?_
        refine mf_callV (Yc := YX5_findTrim) (r := (RX5, TX5, 12)) (ci := 5) (mf_dat eX11_trim 23 rfl) ml_X11_261 okX5_findTrim im_X5_findTrim sl_X5_findTrim rfl rfl rfl rfl (Nat.le_of_ble_eq_true rfl) (mf_rr (Nat.le_trans (by decide) hd) (Nat.le_refl _)) (Nat.le_refl _) is51 (hyp hG) (fun r5 g6 h7 hyp => ?_)
        obtain ⟨hG, hyp⟩ := hyp
        exact mf_ireturn (mf_dat eX11_trim 24 rfl) rfl (Or.inl rfl) ⟨hG, hyp⟩
      · replace hyp := hyp.2 hc
        refine mf_iconst (v := (-1)) (mf_dat eX11_trim 13 rfl) (by decide) ?_
        exact mf_ireturn (mf_dat eX11_trim 14 rfl) rfl (Or.inl rfl) ⟨hG, hyp⟩
set_option maxRecDepth 100000 in
set_option maxHeartbeats 4000000 in
theorem wX11_go {C : mf_G} {l : Launch} {d : Nat} {K : mf_Kt} {x1 x2 x3 : Int} {g h : mf_M} (hd : 4 ≤ d) (hyp : xM C l 0 YX11_isBeing [(2, 0), (0, x1)] g h (fun r1 g2 h3 => ((r1 = 0 → (∀ h4 : mf_M, h4 = mf_up h3 243 2 (mf_w32 ((h3 243 2) + 1)) → K 0 g2 h4)) ∧ (¬ r1 = 0 → xM C l 0 YX11_isCell [(2, 0), (0, x2), (0, x3)] g2 h3 (fun r5 g6 h7 => ((r5 = 0 → (∀ h8 : mf_M, h8 = mf_up h7 243 2 (mf_w32 ((h7 243 2) + 1)) → K 0 g6 h8)) ∧ (¬ r5 = 0 → mf_is 319 (g6 0 12) 1 ∧ xM C l 1 YX6_isFree [(2, 88), (0, x2), (0, x3), (0, h7 (g6 0 12) 12)] g6 h7 (fun r10 g11 h12 => ((¬ r10 = 0 → xM C l 3 YX11_saveAct [(2, 0)] g11 h12 (fun r13 g14 h15 => 0 ≤ x1 ∧ x1 < 8 ∧ (∀ h18 : mf_M, h18 = mf_up h15 90 x1 x2 → (∀ h19 : mf_M, h19 = mf_up h18 91 x1 x3 → K 1 g14 h19)))) ∧ (r10 = 0 → (∀ h20 : mf_M, h20 = mf_up h12 243 2 (mf_w32 ((h12 243 2) + 1)) → K 0 g11 h20))))))))))) : xM C l d YX11_go [(2, 0), (0, x1), (0, x2), (0, x3)] g h K := by
  intro hG
  refine mf_entry (by decide) (Nat.le_of_ble_eq_true rfl) ?_
  refine mf_aload_n (mf_dat eX11_go 0 rfl) rfl rfl ?_
  refine mf_iload_n (mf_dat eX11_go 1 rfl) rfl rfl ?_
  refine mf_callV (Yc := YX11_isBeing) (r := (RX11, TX11, 20)) (ci := 11) (mf_dat eX11_go 2 rfl) ml_X11_169 okX11_isBeing im_X11_isBeing sl_X11_isBeing rfl rfl rfl rfl (Nat.le_of_ble_eq_true rfl) (mf_rr (Nat.le_trans (by decide) hd) (Nat.le_refl _)) (Nat.le_refl _) is0 (hyp hG) (fun r1 g2 h3 hyp => ?_)
  obtain ⟨hG, hyp⟩ := hyp
  refine mf_if_eq (tgt := 36) (mf_dat eX11_go 3 rfl) (by decide) (fun hc => ?_) (fun hc => ?_)
  · replace hyp := hyp.1 hc
    refine mf_aload_n (mf_dat eX11_go 18 rfl) rfl rfl ?_
    refine mf_getf (r := (RX11, TX11, 20)) (ci := 11) (k := 10) (t := 2) (v := 243) (mf_dat eX11_go 19 rfl) fl_X11_93 rfl (by decide) rfl (gx_0_10 hG) is0 ?_
    refine mf_iconst (v := 2) (mf_dat eX11_go 20 rfl) (by decide) ?_
    refine mf_dup2 (mf_dat eX11_go 21 rfl) (by decide) (by decide) ?_
    refine mf_iald (mf_dat eX11_go 22 rfl) is243 len243 (by decide) (by decide) ?_
    refine mf_iconst (v := 1) (mf_dat eX11_go 23 rfl) (by decide) ?_
    refine mf_iadd (mf_dat eX11_go 24 rfl) ?_
    refine mf_iast (mf_dat eX11_go 25 rfl) is243 len243 (by decide) (by decide) ?_
    generalize qh4 : mf_up h3 243 2 (mf_w32 ((h3 243 2) + 1)) = h4
    replace hyp := hyp _ qh4.symm
    refine mf_iconst (v := 0) (mf_dat eX11_go 26 rfl) (by decide) ?_
    exact mf_ireturn (mf_dat eX11_go 27 rfl) rfl (Or.inr ⟨rfl, by decide⟩) ⟨hG, hyp⟩
  · replace hyp := hyp.2 hc
    refine mf_aload_n (mf_dat eX11_go 4 rfl) rfl rfl ?_
    refine mf_iload_n (mf_dat eX11_go 5 rfl) rfl rfl ?_
    refine mf_iload_n (mf_dat eX11_go 6 rfl) rfl rfl ?_
    refine mf_callV (Yc := YX11_isCell) (r := (RX11, TX11, 20)) (ci := 11) (mf_dat eX11_go 7 rfl) ml_X11_199 okX11_isCell im_X11_isCell sl_X11_isCell rfl rfl rfl rfl (Nat.le_of_ble_eq_true rfl) (mf_rr (Nat.le_trans (by decide) hd) (Nat.le_refl _)) (Nat.le_refl _) is0 (hyp hG) (fun r5 g6 h7 hyp => ?_)
    obtain ⟨hG, hyp⟩ := hyp
    refine mf_if_eq (tgt := 36) (mf_dat eX11_go 8 rfl) (by decide) (fun hc => ?_) (fun hc => ?_)
    · replace hyp := hyp.1 hc
      refine mf_aload_n (mf_dat eX11_go 18 rfl) rfl rfl ?_
      refine mf_getf (r := (RX11, TX11, 20)) (ci := 11) (k := 10) (t := 2) (v := 243) (mf_dat eX11_go 19 rfl) fl_X11_93 rfl (by decide) rfl (gx_0_10 hG) is0 ?_
      refine mf_iconst (v := 2) (mf_dat eX11_go 20 rfl) (by decide) ?_
      refine mf_dup2 (mf_dat eX11_go 21 rfl) (by decide) (by decide) ?_
      refine mf_iald (mf_dat eX11_go 22 rfl) is243 len243 (by decide) (by decide) ?_
      refine mf_iconst (v := 1) (mf_dat eX11_go 23 rfl) (by decide) ?_
      refine mf_iadd (mf_dat eX11_go 24 rfl) ?_
      refine mf_iast (mf_dat eX11_go 25 rfl) is243 len243 (by decide) (by decide) ?_
      generalize qh8 : mf_up h7 243 2 (mf_w32 ((h7 243 2) + 1)) = h8
      replace hyp := hyp _ qh8.symm
      refine mf_iconst (v := 0) (mf_dat eX11_go 26 rfl) (by decide) ?_
      exact mf_ireturn (mf_dat eX11_go 27 rfl) rfl (Or.inr ⟨rfl, by decide⟩) ⟨hG, hyp⟩
    · replace hyp := hyp.2 hc
      refine mf_aload_n (mf_dat eX11_go 9 rfl) rfl rfl ?_
      refine mf_getf (r := (RX11, TX11, 20)) (ci := 11) (k := 7) (t := 2) (v := 88) (mf_dat eX11_go 10 rfl) fl_X11_82 rfl (by decide) rfl (gx_0_7 hG) is0 ?_
      refine mf_iload_n (mf_dat eX11_go 11 rfl) rfl rfl ?_
      refine mf_iload_n (mf_dat eX11_go 12 rfl) rfl rfl ?_
      refine mf_aload_n (mf_dat eX11_go 13 rfl) rfl rfl ?_
      refine mf_getf (r := (RX11, TX11, 20)) (ci := 11) (k := 12) (t := 2) (v := g6 0 12) (mf_dat eX11_go 14 rfl) fl_X11_47 rfl (by decide) rfl rfl is0 ?_
      obtain ⟨ck9, hyp⟩ := hyp
      refine mf_getf (r := (RX1, TX1, 14)) (ci := 1) (k := 12) (t := 0) (v := h7 (g6 0 12) 12) (mf_dat eX11_go 15 rfl) fl_X11_153 rfl (by decide) rfl rfl ck9 ?_
      refine mf_callV (Yc := YX6_isFree) (r := (RX6, TX6, 8)) (ci := 6) (mf_dat eX11_go 16 rfl) ml_X11_264 okX6_isFree im_X6_isFree sl_X6_isFree rfl rfl rfl rfl (Nat.le_of_ble_eq_true rfl) (mf_rr (Nat.le_trans (by decide) hd) (Nat.le_refl _)) (Nat.le_refl _) is88 (hyp hG) (fun r10 g11 h12 hyp => ?_)
      obtain ⟨hG, hyp⟩ := hyp
      refine mf_if_ne (tgt := 48) (mf_dat eX11_go 17 rfl) (by decide) (fun hc => ?_) (fun hc => ?_)
      · replace hyp := hyp.1 hc
        refine mf_aload_n (mf_dat eX11_go 28 rfl) rfl rfl ?_
        refine mf_callV (Yc := YX11_saveAct) (r := (RX11, TX11, 20)) (ci := 11) (mf_dat eX11_go 29 rfl) ml_X11_268 okX11_saveAct im_X11_saveAct sl_X11_saveAct rfl rfl rfl rfl (Nat.le_of_ble_eq_true rfl) (mf_rr (Nat.le_trans (by decide) hd) (Nat.le_refl _)) (Nat.le_refl _) is0 (hyp hG) (fun r13 g14 h15 hyp => ?_)
        obtain ⟨hG, hyp⟩ := hyp
        refine mf_aload_n (mf_dat eX11_go 30 rfl) rfl rfl ?_
        refine mf_getf (r := (RX11, TX11, 20)) (ci := 11) (k := 7) (t := 2) (v := 88) (mf_dat eX11_go 31 rfl) fl_X11_82 rfl (by decide) rfl (gx_0_7 hG) is0 ?_
        refine mf_getf (r := (RX6, TX6, 8)) (ci := 6) (k := 1) (t := 2) (v := 90) (mf_dat eX11_go 32 rfl) fl_X11_180 rfl (by decide) rfl (gs_1 hG is88) is88 ?_
        refine mf_iload_n (mf_dat eX11_go 33 rfl) rfl rfl ?_
        refine mf_iload_n (mf_dat eX11_go 34 rfl) rfl rfl ?_
        obtain ⟨ck16, hyp⟩ := hyp
        obtain ⟨ck17, hyp⟩ := hyp
        refine mf_iast (mf_dat eX11_go 35 rfl) is90 len90 ck16 ck17 ?_
        generalize qh18 : mf_up h15 90 x1 x2 = h18
        replace hyp := hyp _ qh18.symm
        refine mf_aload_n (mf_dat eX11_go 36 rfl) rfl rfl ?_
        refine mf_getf (r := (RX11, TX11, 20)) (ci := 11) (k := 7) (t := 2) (v := 88) (mf_dat eX11_go 37 rfl) fl_X11_82 rfl (by decide) rfl (gx_0_7 hG) is0 ?_
        refine mf_getf (r := (RX6, TX6, 8)) (ci := 6) (k := 2) (t := 2) (v := 91) (mf_dat eX11_go 38 rfl) fl_X11_183 rfl (by decide) rfl (gs_2 hG is88) is88 ?_
        refine mf_iload_n (mf_dat eX11_go 39 rfl) rfl rfl ?_
        refine mf_iload_n (mf_dat eX11_go 40 rfl) rfl rfl ?_
        refine mf_iast (mf_dat eX11_go 41 rfl) is91 len91 ck16 ck17 ?_
        generalize qh19 : mf_up h18 91 x1 x3 = h19
        replace hyp := hyp _ qh19.symm
        refine mf_iconst (v := 1) (mf_dat eX11_go 42 rfl) (by decide) ?_
        exact mf_ireturn (mf_dat eX11_go 43 rfl) rfl (Or.inr ⟨rfl, by decide⟩) ⟨hG, hyp⟩
      · replace hyp := hyp.2 hc
        refine mf_aload_n (mf_dat eX11_go 18 rfl) rfl rfl ?_
        refine mf_getf (r := (RX11, TX11, 20)) (ci := 11) (k := 10) (t := 2) (v := 243) (mf_dat eX11_go 19 rfl) fl_X11_93 rfl (by decide) rfl (gx_0_10 hG) is0 ?_
        refine mf_iconst (v := 2) (mf_dat eX11_go 20 rfl) (by decide) ?_
        refine mf_dup2 (mf_dat eX11_go 21 rfl) (by decide) (by decide) ?_
        refine mf_iald (mf_dat eX11_go 22 rfl) is243 len243 (by decide) (by decide) ?_
        refine mf_iconst (v := 1) (mf_dat eX11_go 23 rfl) (by decide) ?_
        refine mf_iadd (mf_dat eX11_go 24 rfl) ?_
        refine mf_iast (mf_dat eX11_go 25 rfl) is243 len243 (by decide) (by decide) ?_
        generalize qh20 : mf_up h12 243 2 (mf_w32 ((h12 243 2) + 1)) = h20
        replace hyp := hyp _ qh20.symm
        refine mf_iconst (v := 0) (mf_dat eX11_go 26 rfl) (by decide) ?_
        exact mf_ireturn (mf_dat eX11_go 27 rfl) rfl (Or.inr ⟨rfl, by decide⟩) ⟨hG, hyp⟩
abbrev BX11_gloss_65 (C : mf_G) (l : Launch) (d : Nat) (K : mf_Kt) (x1 x2 x3 s0 : Int) (g h : mf_M) : Prop := jX C l d YX11_gloss K 65 [(0, (2, 0)), (1, (0, x1)), (2, (0, x2)), (3, (0, x3))] [(0, s0)] g h
abbrev BX11_gloss_90 (C : mf_G) (l : Launch) (d : Nat) (K : mf_Kt) (x1 x2 x3 x4 : Int) (g h : mf_M) : Prop := jX C l d YX11_gloss K 90 [(0, (2, 0)), (1, (0, x1)), (2, (0, x2)), (3, (0, x3)), (4, (0, x4))] [] g h
set_option maxRecDepth 100000 in
set_option maxHeartbeats 4000000 in
theorem vX11_gloss_65 {C : mf_G} {l : Launch} {d : Nat} {K : mf_Kt} {x1 x2 x3 s0 : Int} {g h : mf_M} (hyp : ((x3 = (-1) → BX11_gloss_90 C l d K x1 x2 x3 s0 g h) ∧ (¬ x3 = (-1) → ((¬ s0 = (-1) → BX11_gloss_90 C l d K x1 x2 x3 s0 g h) ∧ (s0 = (-1) → (∀ h1 : mf_M, h1 = mf_up h 243 2 (mf_w32 ((h 243 2) + 1)) → K (-1) g h1)))))) : BX11_gloss_65 C l d K x1 x2 x3 s0 g h := by
  intro hG
  refine mf_istore (mf_dat eX11_gloss_p0 39 rfl) (by decide) ?_
  refine mf_iload_n (mf_dat eX11_gloss_p0 40 rfl) rfl rfl ?_
  refine mf_iconst (v := (-1)) (mf_dat eX11_gloss_p0 41 rfl) (by decide) ?_
  refine mf_icmp_eq (tgt := 90) (mf_dat eX11_gloss_p0 42 rfl) (by decide) (fun hc => ?_) (fun hc => ?_)
  · replace hyp := hyp.1 hc
    exact mf_sub [1, 2, 3, 4, 0] rfl (hyp hG)
  · replace hyp := hyp.2 hc
    refine mf_iload (mf_dat eX11_gloss_p0 43 rfl) rfl ?_
    refine mf_iconst (v := (-1)) (mf_dat eX11_gloss_p0 44 rfl) (by decide) ?_
    refine mf_icmp_ne (tgt := 90) (mf_dat eX11_gloss_p0 45 rfl) (by decide) (fun hc => ?_) (fun hc => ?_)
    · replace hyp := hyp.1 hc
      exact mf_sub [1, 2, 3, 4, 0] rfl (hyp hG)
    · replace hyp := hyp.2 hc
      refine mf_aload_n (mf_dat eX11_gloss_p0 46 rfl) rfl rfl ?_
      refine mf_getf (r := (RX11, TX11, 20)) (ci := 11) (k := 10) (t := 2) (v := 243) (mf_dat eX11_gloss_p0 47 rfl) fl_X11_93 rfl (by decide) rfl (gx_0_10 hG) is0 ?_
      refine mf_iconst (v := 2) (mf_dat eX11_gloss_p0 48 rfl) (by decide) ?_
      refine mf_dup2 (mf_dat eX11_gloss_p0 49 rfl) (by decide) (by decide) ?_
      refine mf_iald (mf_dat eX11_gloss_p0 50 rfl) is243 len243 (by decide) (by decide) ?_
      refine mf_iconst (v := 1) (mf_dat eX11_gloss_p0 51 rfl) (by decide) ?_
      refine mf_iadd (mf_dat eX11_gloss_p0 52 rfl) ?_
      refine mf_iast (mf_dat eX11_gloss_p0 53 rfl) is243 len243 (by decide) (by decide) ?_
      generalize qh1 : mf_up h 243 2 (mf_w32 ((h 243 2) + 1)) = h1
      replace hyp := hyp _ qh1.symm
      refine mf_iconst (v := (-1)) (mf_dat eX11_gloss_p0 54 rfl) (by decide) ?_
      exact mf_ireturn (mf_dat eX11_gloss_p0 55 rfl) rfl (Or.inl rfl) ⟨hG, hyp⟩
set_option maxRecDepth 100000 in
set_option maxHeartbeats 4000000 in
theorem vX11_gloss_90 {C : mf_G} {l : Launch} {d : Nat} {K : mf_Kt} {x1 x2 x3 x4 : Int} {g h : mf_M} (hd : 4 ≤ d) (hyp : xM C l 3 YX11_saveAct [(2, 0)] g h (fun r1 g2 h3 => xM C l 0 YX6_writeGloss [(2, 88), (0, x1), (0, x2)] g2 h3 (fun r4 g5 h6 => ((¬ x3 = (-1) → 0 ≤ x3 ∧ x3 < 8 ∧ (∀ h9 : mf_M, h9 = mf_up h6 91 x3 x4 → K x4 g5 h9)) ∧ (x3 = (-1) → K 100 g5 h6))))) : BX11_gloss_90 C l d K x1 x2 x3 x4 g h := by
  intro hG
  refine mf_aload_n (mf_dat eX11_gloss_p0 56 rfl) rfl rfl ?_
  refine mf_callV (Yc := YX11_saveAct) (r := (RX11, TX11, 20)) (ci := 11) (mf_dat eX11_gloss_p0 57 rfl) ml_X11_268 okX11_saveAct im_X11_saveAct sl_X11_saveAct rfl rfl rfl rfl (Nat.le_of_ble_eq_true rfl) (mf_rr (Nat.le_trans (by decide) hd) (Nat.le_refl _)) (Nat.le_refl _) is0 (hyp hG) (fun r1 g2 h3 hyp => ?_)
  obtain ⟨hG, hyp⟩ := hyp
  refine mf_aload_n (mf_dat eX11_gloss_p0 58 rfl) rfl rfl ?_
  refine mf_getf (r := (RX11, TX11, 20)) (ci := 11) (k := 7) (t := 2) (v := 88) (mf_dat eX11_gloss_p0 59 rfl) fl_X11_82 rfl (by decide) rfl (gx_0_7 hG) is0 ?_
  refine mf_iload_n (mf_dat eX11_gloss_p1 0 rfl) rfl rfl ?_
  refine mf_iload_n (mf_dat eX11_gloss_p1 1 rfl) rfl rfl ?_
  refine mf_callV (Yc := YX6_writeGloss) (r := (RX6, TX6, 8)) (ci := 6) (mf_dat eX11_gloss_p1 2 rfl) ml_X11_274 okX6_writeGloss im_X6_writeGloss sl_X6_writeGloss rfl rfl rfl rfl (Nat.le_of_ble_eq_true rfl) (mf_rr (Nat.le_trans (by decide) hd) (Nat.le_refl _)) (Nat.le_refl _) is88 (hyp hG) (fun r4 g5 h6 hyp => ?_)
  obtain ⟨hG, hyp⟩ := hyp
  refine mf_iload_n (mf_dat eX11_gloss_p1 3 rfl) rfl rfl ?_
  refine mf_iconst (v := (-1)) (mf_dat eX11_gloss_p1 4 rfl) (by decide) ?_
  refine mf_icmp_ne (tgt := 111) (mf_dat eX11_gloss_p1 5 rfl) (by decide) (fun hc => ?_) (fun hc => ?_)
  · replace hyp := hyp.1 hc
    refine mf_aload_n (mf_dat eX11_gloss_p1 8 rfl) rfl rfl ?_
    refine mf_getf (r := (RX11, TX11, 20)) (ci := 11) (k := 7) (t := 2) (v := 88) (mf_dat eX11_gloss_p1 9 rfl) fl_X11_82 rfl (by decide) rfl (gx_0_7 hG) is0 ?_
    refine mf_getf (r := (RX6, TX6, 8)) (ci := 6) (k := 2) (t := 2) (v := 91) (mf_dat eX11_gloss_p1 10 rfl) fl_X11_183 rfl (by decide) rfl (gs_2 hG is88) is88 ?_
    refine mf_iload_n (mf_dat eX11_gloss_p1 11 rfl) rfl rfl ?_
    refine mf_iload (mf_dat eX11_gloss_p1 12 rfl) rfl ?_
    obtain ⟨ck7, hyp⟩ := hyp
    obtain ⟨ck8, hyp⟩ := hyp
    refine mf_iast (mf_dat eX11_gloss_p1 13 rfl) is91 len91 ck7 ck8 ?_
    generalize qh9 : mf_up h6 91 x3 x4 = h9
    replace hyp := hyp _ qh9.symm
    refine mf_iload (mf_dat eX11_gloss_p1 14 rfl) rfl ?_
    exact mf_ireturn (mf_dat eX11_gloss_p1 15 rfl) rfl (Or.inl rfl) ⟨hG, hyp⟩
  · replace hyp := hyp.2 hc
    refine mf_bipush (v := 100) (mf_dat eX11_gloss_p1 6 rfl) (by decide) ?_
    exact mf_ireturn (mf_dat eX11_gloss_p1 7 rfl) rfl (Or.inl rfl) ⟨hG, hyp⟩
set_option maxRecDepth 100000 in
set_option maxHeartbeats 4000000 in
theorem wX11_gloss {C : mf_G} {l : Launch} {d : Nat} {K : mf_Kt} {x1 x2 : Int} {g h : mf_M} (hd : 3 ≤ d) (hyp : xM C l 0 YX11_isCell [(2, 0), (0, x1), (0, x2)] g h (fun r1 g2 h3 => ((r1 = 0 → (∀ h4 : mf_M, h4 = mf_up h3 243 2 (mf_w32 ((h3 243 2) + 1)) → K (-1) g2 h4)) ∧ (¬ r1 = 0 → xM C l 0 YX6_hasGloss [(2, 88), (0, x1), (0, x2)] g2 h3 (fun r5 g6 h7 => ((r5 = 0 → mf_is 319 (g6 0 12) 1 ∧ xM C l 0 YX6_whoStands [(2, 88), (0, x1), (0, x2), (0, h7 (g6 0 12) 12)] g6 h7 (fun r9 g10 h11 => ((¬ r9 = (-1) → xM C l 2 YX11_findRefuge [(2, 0), (0, x1), (0, x2)] g10 h11 (fun r12 g13 h14 => BX11_gloss_65 C l d K x1 x2 r9 r12 g13 h14)) ∧ (r9 = (-1) → BX11_gloss_65 C l d K x1 x2 r9 (-1) g10 h11)))) ∧ (¬ r5 = 0 → (∀ h15 : mf_M, h15 = mf_up h7 243 2 (mf_w32 ((h7 243 2) + 1)) → K (-1) g6 h15)))))))) : xM C l d YX11_gloss [(2, 0), (0, x1), (0, x2)] g h K := by
  intro hG
  refine mf_entry (by decide) (Nat.le_of_ble_eq_true rfl) ?_
  refine mf_aload_n (mf_dat eX11_gloss_p0 0 rfl) rfl rfl ?_
  refine mf_iload_n (mf_dat eX11_gloss_p0 1 rfl) rfl rfl ?_
  refine mf_iload_n (mf_dat eX11_gloss_p0 2 rfl) rfl rfl ?_
  refine mf_callV (Yc := YX11_isCell) (r := (RX11, TX11, 20)) (ci := 11) (mf_dat eX11_gloss_p0 3 rfl) ml_X11_199 okX11_isCell im_X11_isCell sl_X11_isCell rfl rfl rfl rfl (Nat.le_of_ble_eq_true rfl) (mf_rr (Nat.le_trans (by decide) hd) (Nat.le_refl _)) (Nat.le_refl _) is0 (hyp hG) (fun r1 g2 h3 hyp => ?_)
  obtain ⟨hG, hyp⟩ := hyp
  refine mf_if_eq (tgt := 21) (mf_dat eX11_gloss_p0 4 rfl) (by decide) (fun hc => ?_) (fun hc => ?_)
  · replace hyp := hyp.1 hc
    refine mf_aload_n (mf_dat eX11_gloss_p0 11 rfl) rfl rfl ?_
    refine mf_getf (r := (RX11, TX11, 20)) (ci := 11) (k := 10) (t := 2) (v := 243) (mf_dat eX11_gloss_p0 12 rfl) fl_X11_93 rfl (by decide) rfl (gx_0_10 hG) is0 ?_
    refine mf_iconst (v := 2) (mf_dat eX11_gloss_p0 13 rfl) (by decide) ?_
    refine mf_dup2 (mf_dat eX11_gloss_p0 14 rfl) (by decide) (by decide) ?_
    refine mf_iald (mf_dat eX11_gloss_p0 15 rfl) is243 len243 (by decide) (by decide) ?_
    refine mf_iconst (v := 1) (mf_dat eX11_gloss_p0 16 rfl) (by decide) ?_
    refine mf_iadd (mf_dat eX11_gloss_p0 17 rfl) ?_
    refine mf_iast (mf_dat eX11_gloss_p0 18 rfl) is243 len243 (by decide) (by decide) ?_
    generalize qh4 : mf_up h3 243 2 (mf_w32 ((h3 243 2) + 1)) = h4
    replace hyp := hyp _ qh4.symm
    refine mf_iconst (v := (-1)) (mf_dat eX11_gloss_p0 19 rfl) (by decide) ?_
    exact mf_ireturn (mf_dat eX11_gloss_p0 20 rfl) rfl (Or.inl rfl) ⟨hG, hyp⟩
  · replace hyp := hyp.2 hc
    refine mf_aload_n (mf_dat eX11_gloss_p0 5 rfl) rfl rfl ?_
    refine mf_getf (r := (RX11, TX11, 20)) (ci := 11) (k := 7) (t := 2) (v := 88) (mf_dat eX11_gloss_p0 6 rfl) fl_X11_82 rfl (by decide) rfl (gx_0_7 hG) is0 ?_
    refine mf_iload_n (mf_dat eX11_gloss_p0 7 rfl) rfl rfl ?_
    refine mf_iload_n (mf_dat eX11_gloss_p0 8 rfl) rfl rfl ?_
    refine mf_callV (Yc := YX6_hasGloss) (r := (RX6, TX6, 8)) (ci := 6) (mf_dat eX11_gloss_p0 9 rfl) ml_X11_202 okX6_hasGloss im_X6_hasGloss sl_X6_hasGloss rfl rfl rfl rfl (Nat.le_of_ble_eq_true rfl) (mf_rr (Nat.le_trans (by decide) hd) (Nat.le_refl _)) (Nat.le_refl _) is88 (hyp hG) (fun r5 g6 h7 hyp => ?_)
    obtain ⟨hG, hyp⟩ := hyp
    refine mf_if_eq (tgt := 33) (mf_dat eX11_gloss_p0 10 rfl) (by decide) (fun hc => ?_) (fun hc => ?_)
    · replace hyp := hyp.1 hc
      refine mf_aload_n (mf_dat eX11_gloss_p0 21 rfl) rfl rfl ?_
      refine mf_getf (r := (RX11, TX11, 20)) (ci := 11) (k := 7) (t := 2) (v := 88) (mf_dat eX11_gloss_p0 22 rfl) fl_X11_82 rfl (by decide) rfl (gx_0_7 hG) is0 ?_
      refine mf_iload_n (mf_dat eX11_gloss_p0 23 rfl) rfl rfl ?_
      refine mf_iload_n (mf_dat eX11_gloss_p0 24 rfl) rfl rfl ?_
      refine mf_aload_n (mf_dat eX11_gloss_p0 25 rfl) rfl rfl ?_
      refine mf_getf (r := (RX11, TX11, 20)) (ci := 11) (k := 12) (t := 2) (v := g6 0 12) (mf_dat eX11_gloss_p0 26 rfl) fl_X11_47 rfl (by decide) rfl rfl is0 ?_
      obtain ⟨ck8, hyp⟩ := hyp
      refine mf_getf (r := (RX1, TX1, 14)) (ci := 1) (k := 12) (t := 0) (v := h7 (g6 0 12) 12) (mf_dat eX11_gloss_p0 27 rfl) fl_X11_153 rfl (by decide) rfl rfl ck8 ?_
      refine mf_callV (Yc := YX6_whoStands) (r := (RX6, TX6, 8)) (ci := 6) (mf_dat eX11_gloss_p0 28 rfl) ml_X11_205 okX6_whoStands im_X6_whoStands sl_X6_whoStands rfl rfl rfl rfl (Nat.le_of_ble_eq_true rfl) (mf_rr (Nat.le_trans (by decide) hd) (Nat.le_refl _)) (Nat.le_refl _) is88 (hyp hG) (fun r9 g10 h11 hyp => ?_)
      obtain ⟨hG, hyp⟩ := hyp
      refine mf_istore_n (mf_dat eX11_gloss_p0 29 rfl) rfl (by decide) ?_
      refine mf_iload_n (mf_dat eX11_gloss_p0 30 rfl) rfl rfl ?_
      refine mf_iconst (v := (-1)) (mf_dat eX11_gloss_p0 31 rfl) (by decide) ?_
      refine mf_icmp_ne (tgt := 59) (mf_dat eX11_gloss_p0 32 rfl) (by decide) (fun hc => ?_) (fun hc => ?_)
      · replace hyp := hyp.1 hc
        refine mf_aload_n (mf_dat eX11_gloss_p0 35 rfl) rfl rfl ?_
        refine mf_iload_n (mf_dat eX11_gloss_p0 36 rfl) rfl rfl ?_
        refine mf_iload_n (mf_dat eX11_gloss_p0 37 rfl) rfl rfl ?_
        refine mf_callV (Yc := YX11_findRefuge) (r := (RX11, TX11, 20)) (ci := 11) (mf_dat eX11_gloss_p0 38 rfl) ml_X11_271 okX11_findRefuge im_X11_findRefuge sl_X11_findRefuge rfl rfl rfl rfl (Nat.le_of_ble_eq_true rfl) (mf_rr (Nat.le_trans (by decide) hd) (Nat.le_refl _)) (Nat.le_refl _) is0 (hyp hG) (fun r12 g13 h14 hyp => ?_)
        obtain ⟨hG, hyp⟩ := hyp
        exact mf_sub [1, 2, 3, 0] rfl (hyp hG)
      · replace hyp := hyp.2 hc
        refine mf_iconst (v := (-1)) (mf_dat eX11_gloss_p0 33 rfl) (by decide) ?_
        refine mf_goto (tgt := 65) (mf_dat eX11_gloss_p0 34 rfl) (by decide) ?_
        exact mf_sub [1, 2, 3, 0] rfl (hyp hG)
    · replace hyp := hyp.2 hc
      refine mf_aload_n (mf_dat eX11_gloss_p0 11 rfl) rfl rfl ?_
      refine mf_getf (r := (RX11, TX11, 20)) (ci := 11) (k := 10) (t := 2) (v := 243) (mf_dat eX11_gloss_p0 12 rfl) fl_X11_93 rfl (by decide) rfl (gx_0_10 hG) is0 ?_
      refine mf_iconst (v := 2) (mf_dat eX11_gloss_p0 13 rfl) (by decide) ?_
      refine mf_dup2 (mf_dat eX11_gloss_p0 14 rfl) (by decide) (by decide) ?_
      refine mf_iald (mf_dat eX11_gloss_p0 15 rfl) is243 len243 (by decide) (by decide) ?_
      refine mf_iconst (v := 1) (mf_dat eX11_gloss_p0 16 rfl) (by decide) ?_
      refine mf_iadd (mf_dat eX11_gloss_p0 17 rfl) ?_
      refine mf_iast (mf_dat eX11_gloss_p0 18 rfl) is243 len243 (by decide) (by decide) ?_
      generalize qh15 : mf_up h7 243 2 (mf_w32 ((h7 243 2) + 1)) = h15
      replace hyp := hyp _ qh15.symm
      refine mf_iconst (v := (-1)) (mf_dat eX11_gloss_p0 19 rfl) (by decide) ?_
      exact mf_ireturn (mf_dat eX11_gloss_p0 20 rfl) rfl (Or.inl rfl) ⟨hG, hyp⟩
abbrev BX11_days_39 (C : mf_G) (l : Launch) (d : Nat) (K : mf_Kt) (x1 x2 x3 : Int) (g h : mf_M) : Prop := jX C l d YX11_days K 39 [(0, (2, 0)), (1, (0, x1)), (2, (0, x2)), (3, (0, x3))] [] g h
set_option maxRecDepth 100000 in
set_option maxHeartbeats 4000000 in
theorem vX11_days_39 {C : mf_G} {l : Launch} {d : Nat} {K : mf_Kt} {x1 x2 x3 : Int} {g h : mf_M} (hd : 6 ≤ d) (hyp : ((x1 ≤ x3 → K x2 g h) ∧ (¬ x1 ≤ x3 → xM C l 4 YX0_openingOf [(2, 46), (2, g 0 12), (0, h 88 7)] g h (fun r1 g2 h3 => xM C l 5 YX0_passDay [(2, 46), (2, g 0 12), (2, 88), (0, r1)] g2 h3 (fun r4 g5 h6 => (∀ v7 : Int, v7 = mf_w32 (x2 + r4) → (∀ v8 : Int, v8 = mf_w32 (x3 + 1) → BX11_days_39 C l d K x1 v7 v8 g5 h6))))))) : BX11_days_39 C l d K x1 x2 x3 g h := by
  intro hG
  refine mf_iload_n (mf_dat eX11_days 26 rfl) rfl rfl ?_
  refine mf_iload_n (mf_dat eX11_days 27 rfl) rfl rfl ?_
  refine mf_icmp_ge (tgt := 86) (mf_dat eX11_days 28 rfl) (by decide) (fun hc => ?_) (fun hc => ?_)
  · replace hyp := hyp.1 hc
    refine mf_iload_n (mf_dat eX11_days 49 rfl) rfl rfl ?_
    exact mf_ireturn (mf_dat eX11_days 50 rfl) rfl (Or.inl rfl) ⟨hG, hyp⟩
  · replace hyp := hyp.2 hc
    refine mf_iload_n (mf_dat eX11_days 29 rfl) rfl rfl ?_
    refine mf_aload_n (mf_dat eX11_days 30 rfl) rfl rfl ?_
    refine mf_getf (r := (RX11, TX11, 20)) (ci := 11) (k := 4) (t := 2) (v := 46) (mf_dat eX11_days 31 rfl) fl_X11_66 rfl (by decide) rfl (gx_0_4 hG) is0 ?_
    refine mf_aload_n (mf_dat eX11_days 32 rfl) rfl rfl ?_
    refine mf_getf (r := (RX11, TX11, 20)) (ci := 11) (k := 12) (t := 2) (v := g 0 12) (mf_dat eX11_days 33 rfl) fl_X11_47 rfl (by decide) rfl rfl is0 ?_
    refine mf_aload_n (mf_dat eX11_days 34 rfl) rfl rfl ?_
    refine mf_getf (r := (RX11, TX11, 20)) (ci := 11) (k := 7) (t := 2) (v := 88) (mf_dat eX11_days 35 rfl) fl_X11_82 rfl (by decide) rfl (gx_0_7 hG) is0 ?_
    refine mf_aload_n (mf_dat eX11_days 36 rfl) rfl rfl ?_
    refine mf_getf (r := (RX11, TX11, 20)) (ci := 11) (k := 4) (t := 2) (v := 46) (mf_dat eX11_days 37 rfl) fl_X11_66 rfl (by decide) rfl (gx_0_4 hG) is0 ?_
    refine mf_aload_n (mf_dat eX11_days 38 rfl) rfl rfl ?_
    refine mf_getf (r := (RX11, TX11, 20)) (ci := 11) (k := 12) (t := 2) (v := g 0 12) (mf_dat eX11_days 39 rfl) fl_X11_47 rfl (by decide) rfl rfl is0 ?_
    refine mf_aload_n (mf_dat eX11_days 40 rfl) rfl rfl ?_
    refine mf_getf (r := (RX11, TX11, 20)) (ci := 11) (k := 7) (t := 2) (v := 88) (mf_dat eX11_days 41 rfl) fl_X11_82 rfl (by decide) rfl (gx_0_7 hG) is0 ?_
    refine mf_getf (r := (RX6, TX6, 8)) (ci := 6) (k := 7) (t := 0) (v := h 88 7) (mf_dat eX11_days 42 rfl) fl_X11_156 rfl (by decide) rfl rfl is88 ?_
    refine mf_callV (Yc := YX0_openingOf) (r := (RX0, TX0, 1)) (ci := 0) (mf_dat eX11_days 43 rfl) ml_X11_159 okX0_openingOf im_X0_openingOf sl_X0_openingOf rfl rfl rfl rfl (Nat.le_of_ble_eq_true rfl) (mf_rr (Nat.le_trans (by decide) hd) (Nat.le_refl _)) (Nat.le_refl _) is46 (hyp hG) (fun r1 g2 h3 hyp => ?_)
    obtain ⟨hG, hyp⟩ := hyp
    refine mf_callV (Yc := YX0_passDay) (r := (RX0, TX0, 1)) (ci := 0) (mf_dat eX11_days 44 rfl) ml_X11_278 okX0_passDay im_X0_passDay sl_X0_passDay rfl rfl rfl rfl (Nat.le_of_ble_eq_true rfl) (mf_rr (Nat.le_trans (by decide) hd) (Nat.le_refl _)) (Nat.le_refl _) is46 (hyp hG) (fun r4 g5 h6 hyp => ?_)
    obtain ⟨hG, hyp⟩ := hyp
    refine mf_iadd (mf_dat eX11_days 45 rfl) ?_
    generalize qv7 : mf_w32 (x2 + r4) = v7
    replace hyp := hyp _ qv7.symm
    refine mf_istore_n (mf_dat eX11_days 46 rfl) rfl (by decide) ?_
    refine mf_iinc (mf_dat eX11_days 47 rfl) rfl (by decide) (by decide) ?_
    generalize qv8 : mf_w32 (x3 + 1) = v8
    replace hyp := hyp _ qv8.symm
    refine mf_goto (tgt := 39) (mf_dat eX11_days 48 rfl) (by decide) ?_
    exact mf_sub [2, 3, 1, 0] rfl (hyp hG)
set_option maxRecDepth 100000 in
set_option maxHeartbeats 4000000 in
theorem wX11_days {C : mf_G} {l : Launch} {d : Nat} {K : mf_Kt} {x1 : Int} {g h : mf_M} (hd : 4 ≤ d) (hyp : ((x1 < 1 → (∀ h1 : mf_M, h1 = mf_up h 243 3 (mf_w32 ((h 243 3) + 1)) → K (-1) g h1)) ∧ (¬ x1 < 1 → ((100 < x1 → (∀ h2 : mf_M, h2 = mf_up h 243 3 (mf_w32 ((h 243 3) + 1)) → K (-1) g h2)) ∧ (¬ 100 < x1 → xM C l 0 YX11_canPass [(2, 0), (0, x1)] g h (fun r3 g4 h5 => ((¬ r3 = 0 → xM C l 3 YX11_saveAct [(2, 0)] g4 h5 (fun r6 g7 h8 => BX11_days_39 C l d K x1 0 0 g7 h8)) ∧ (r3 = 0 → (∀ h9 : mf_M, h9 = mf_up h5 243 3 (mf_w32 ((h5 243 3) + 1)) → K (-1) g4 h9))))))))) : xM C l d YX11_days [(2, 0), (0, x1)] g h K := by
  intro hG
  refine mf_entry (by decide) (Nat.le_of_ble_eq_true rfl) ?_
  refine mf_iload_n (mf_dat eX11_days 0 rfl) rfl rfl ?_
  refine mf_iconst (v := 1) (mf_dat eX11_days 1 rfl) (by decide) ?_
  refine mf_icmp_lt (tgt := 19) (mf_dat eX11_days 2 rfl) (by decide) (fun hc => ?_) (fun hc => ?_)
  · replace hyp := hyp.1 hc
    refine mf_aload_n (mf_dat eX11_days 10 rfl) rfl rfl ?_
    refine mf_getf (r := (RX11, TX11, 20)) (ci := 11) (k := 10) (t := 2) (v := 243) (mf_dat eX11_days 11 rfl) fl_X11_93 rfl (by decide) rfl (gx_0_10 hG) is0 ?_
    refine mf_iconst (v := 3) (mf_dat eX11_days 12 rfl) (by decide) ?_
    refine mf_dup2 (mf_dat eX11_days 13 rfl) (by decide) (by decide) ?_
    refine mf_iald (mf_dat eX11_days 14 rfl) is243 len243 (by decide) (by decide) ?_
    refine mf_iconst (v := 1) (mf_dat eX11_days 15 rfl) (by decide) ?_
    refine mf_iadd (mf_dat eX11_days 16 rfl) ?_
    refine mf_iast (mf_dat eX11_days 17 rfl) is243 len243 (by decide) (by decide) ?_
    generalize qh1 : mf_up h 243 3 (mf_w32 ((h 243 3) + 1)) = h1
    replace hyp := hyp _ qh1.symm
    refine mf_iconst (v := (-1)) (mf_dat eX11_days 18 rfl) (by decide) ?_
    exact mf_ireturn (mf_dat eX11_days 19 rfl) rfl (Or.inl rfl) ⟨hG, hyp⟩
  · replace hyp := hyp.2 hc
    refine mf_iload_n (mf_dat eX11_days 3 rfl) rfl rfl ?_
    refine mf_bipush (v := 100) (mf_dat eX11_days 4 rfl) (by decide) ?_
    refine mf_icmp_gt (tgt := 19) (mf_dat eX11_days 5 rfl) (by decide) (fun hc => ?_) (fun hc => ?_)
    · replace hyp := hyp.1 hc
      refine mf_aload_n (mf_dat eX11_days 10 rfl) rfl rfl ?_
      refine mf_getf (r := (RX11, TX11, 20)) (ci := 11) (k := 10) (t := 2) (v := 243) (mf_dat eX11_days 11 rfl) fl_X11_93 rfl (by decide) rfl (gx_0_10 hG) is0 ?_
      refine mf_iconst (v := 3) (mf_dat eX11_days 12 rfl) (by decide) ?_
      refine mf_dup2 (mf_dat eX11_days 13 rfl) (by decide) (by decide) ?_
      refine mf_iald (mf_dat eX11_days 14 rfl) is243 len243 (by decide) (by decide) ?_
      refine mf_iconst (v := 1) (mf_dat eX11_days 15 rfl) (by decide) ?_
      refine mf_iadd (mf_dat eX11_days 16 rfl) ?_
      refine mf_iast (mf_dat eX11_days 17 rfl) is243 len243 (by decide) (by decide) ?_
      generalize qh2 : mf_up h 243 3 (mf_w32 ((h 243 3) + 1)) = h2
      replace hyp := hyp _ qh2.symm
      refine mf_iconst (v := (-1)) (mf_dat eX11_days 18 rfl) (by decide) ?_
      exact mf_ireturn (mf_dat eX11_days 19 rfl) rfl (Or.inl rfl) ⟨hG, hyp⟩
    · replace hyp := hyp.2 hc
      refine mf_aload_n (mf_dat eX11_days 6 rfl) rfl rfl ?_
      refine mf_iload_n (mf_dat eX11_days 7 rfl) rfl rfl ?_
      refine mf_callV (Yc := YX11_canPass) (r := (RX11, TX11, 20)) (ci := 11) (mf_dat eX11_days 8 rfl) ml_X11_231 okX11_canPass im_X11_canPass sl_X11_canPass rfl rfl rfl rfl (Nat.le_of_ble_eq_true rfl) (mf_rr (Nat.le_trans (by decide) hd) (Nat.le_refl _)) (Nat.le_refl _) is0 (hyp hG) (fun r3 g4 h5 hyp => ?_)
      obtain ⟨hG, hyp⟩ := hyp
      refine mf_if_ne (tgt := 31) (mf_dat eX11_days 9 rfl) (by decide) (fun hc => ?_) (fun hc => ?_)
      · replace hyp := hyp.1 hc
        refine mf_aload_n (mf_dat eX11_days 20 rfl) rfl rfl ?_
        refine mf_callV (Yc := YX11_saveAct) (r := (RX11, TX11, 20)) (ci := 11) (mf_dat eX11_days 21 rfl) ml_X11_268 okX11_saveAct im_X11_saveAct sl_X11_saveAct rfl rfl rfl rfl (Nat.le_of_ble_eq_true rfl) (mf_rr (Nat.le_trans (by decide) hd) (Nat.le_refl _)) (Nat.le_refl _) is0 (hyp hG) (fun r6 g7 h8 hyp => ?_)
        obtain ⟨hG, hyp⟩ := hyp
        refine mf_iconst (v := 0) (mf_dat eX11_days 22 rfl) (by decide) ?_
        refine mf_istore_n (mf_dat eX11_days 23 rfl) rfl (by decide) ?_
        refine mf_iconst (v := 0) (mf_dat eX11_days 24 rfl) (by decide) ?_
        refine mf_istore_n (mf_dat eX11_days 25 rfl) rfl (by decide) ?_
        exact mf_sub [2, 3, 1, 0] rfl (hyp hG)
      · replace hyp := hyp.2 hc
        refine mf_aload_n (mf_dat eX11_days 10 rfl) rfl rfl ?_
        refine mf_getf (r := (RX11, TX11, 20)) (ci := 11) (k := 10) (t := 2) (v := 243) (mf_dat eX11_days 11 rfl) fl_X11_93 rfl (by decide) rfl (gx_0_10 hG) is0 ?_
        refine mf_iconst (v := 3) (mf_dat eX11_days 12 rfl) (by decide) ?_
        refine mf_dup2 (mf_dat eX11_days 13 rfl) (by decide) (by decide) ?_
        refine mf_iald (mf_dat eX11_days 14 rfl) is243 len243 (by decide) (by decide) ?_
        refine mf_iconst (v := 1) (mf_dat eX11_days 15 rfl) (by decide) ?_
        refine mf_iadd (mf_dat eX11_days 16 rfl) ?_
        refine mf_iast (mf_dat eX11_days 17 rfl) is243 len243 (by decide) (by decide) ?_
        generalize qh9 : mf_up h5 243 3 (mf_w32 ((h5 243 3) + 1)) = h9
        replace hyp := hyp _ qh9.symm
        refine mf_iconst (v := (-1)) (mf_dat eX11_days 18 rfl) (by decide) ?_
        exact mf_ireturn (mf_dat eX11_days 19 rfl) rfl (Or.inl rfl) ⟨hG, hyp⟩
abbrev BX11_chance_39 (C : mf_G) (l : Launch) (d : Nat) (K : mf_Kt) (x1 x2 x3 : Int) (g h : mf_M) : Prop := jX C l d YX11_chance K 39 [(0, (2, 0)), (1, (0, x1)), (2, (0, x2)), (3, (0, x3))] [] g h
abbrev BX11_chance_100 (C : mf_G) (l : Launch) (d : Nat) (K : mf_Kt) (x1 x2 x3 : Int) (g h : mf_M) : Prop := jX C l d YX11_chance K 100 [(0, (2, 0)), (1, (0, x1)), (2, (0, x2)), (3, (0, x3))] [] g h
set_option maxRecDepth 100000 in
set_option maxHeartbeats 4000000 in
theorem vX11_chance_39 {C : mf_G} {l : Launch} {d : Nat} {K : mf_Kt} {x1 x2 x3 : Int} {g h : mf_M} (hd : 1 ≤ d) (hyp : ((x1 ≤ x3 → K x2 g h) ∧ (¬ x1 ≤ x3 → xM C l 0 YX11_draw [(2, 0), (0, 100)] g h (fun r1 g2 h3 => mf_is 319 (g2 0 12) 1 ∧ ((h3 (g2 0 12) 13 ≤ r1 → BX11_chance_100 C l d K x1 x2 x3 g2 h3) ∧ (¬ h3 (g2 0 12) 13 ≤ r1 → ((h3 (g2 0 12) 12 ≤ 0 → BX11_chance_100 C l d K x1 x2 x3 g2 h3) ∧ (¬ h3 (g2 0 12) 12 ≤ 0 → xM C l 0 YX11_draw [(2, 0), (0, h3 (g2 0 12) 12)] g2 h3 (fun r5 g6 h7 => 0 ≤ r5 ∧ r5 < 8 ∧ (∀ h10 : mf_M, h10 = mf_up h7 92 r5 (mf_w32 ((h7 92 r5).tdiv 2)) → (∀ v11 : Int, v11 = mf_w32 (x2 + 1) → BX11_chance_100 C l d K x1 v11 x3 g6 h10))))))))))) : BX11_chance_39 C l d K x1 x2 x3 g h := by
  intro hG
  refine mf_iload_n (mf_dat eX11_chance_p0 26 rfl) rfl rfl ?_
  refine mf_iload_n (mf_dat eX11_chance_p0 27 rfl) rfl rfl ?_
  refine mf_icmp_ge (tgt := 140) (mf_dat eX11_chance_p0 28 rfl) (by decide) (fun hc => ?_) (fun hc => ?_)
  · replace hyp := hyp.1 hc
    refine mf_iload_n (mf_dat eX11_chance_p1 14 rfl) rfl rfl ?_
    exact mf_ireturn (mf_dat eX11_chance_p1 15 rfl) rfl (Or.inl rfl) ⟨hG, hyp⟩
  · replace hyp := hyp.2 hc
    refine mf_aload_n (mf_dat eX11_chance_p0 29 rfl) rfl rfl ?_
    refine mf_bipush (v := 100) (mf_dat eX11_chance_p0 30 rfl) (by decide) ?_
    refine mf_callV (Yc := YX11_draw) (r := (RX11, TX11, 20)) (ci := 11) (mf_dat eX11_chance_p0 31 rfl) ml_X11_281 okX11_draw im_X11_draw sl_X11_draw rfl rfl rfl rfl (Nat.le_of_ble_eq_true rfl) (mf_rr (Nat.le_trans (by decide) hd) (Nat.le_refl _)) (Nat.le_refl _) is0 (hyp hG) (fun r1 g2 h3 hyp => ?_)
    obtain ⟨hG, hyp⟩ := hyp
    refine mf_aload_n (mf_dat eX11_chance_p0 32 rfl) rfl rfl ?_
    refine mf_getf (r := (RX11, TX11, 20)) (ci := 11) (k := 12) (t := 2) (v := g2 0 12) (mf_dat eX11_chance_p0 33 rfl) fl_X11_47 rfl (by decide) rfl rfl is0 ?_
    obtain ⟨ck4, hyp⟩ := hyp
    refine mf_getf (r := (RX1, TX1, 14)) (ci := 1) (k := 13) (t := 0) (v := h3 (g2 0 12) 13) (mf_dat eX11_chance_p0 34 rfl) fl_X11_284 rfl (by decide) rfl rfl ck4 ?_
    refine mf_icmp_ge (tgt := 100) (mf_dat eX11_chance_p0 35 rfl) (by decide) (fun hc => ?_) (fun hc => ?_)
    · replace hyp := hyp.1 hc
      exact mf_sub [0, 1, 2, 3] rfl (hyp hG)
    · replace hyp := hyp.2 hc
      refine mf_aload_n (mf_dat eX11_chance_p0 36 rfl) rfl rfl ?_
      refine mf_getf (r := (RX11, TX11, 20)) (ci := 11) (k := 12) (t := 2) (v := g2 0 12) (mf_dat eX11_chance_p0 37 rfl) fl_X11_47 rfl (by decide) rfl rfl is0 ?_
      refine mf_getf (r := (RX1, TX1, 14)) (ci := 1) (k := 12) (t := 0) (v := h3 (g2 0 12) 12) (mf_dat eX11_chance_p0 38 rfl) fl_X11_153 rfl (by decide) rfl rfl ck4 ?_
      refine mf_if_le (tgt := 100) (mf_dat eX11_chance_p0 39 rfl) (by decide) (fun hc => ?_) (fun hc => ?_)
      · replace hyp := hyp.1 hc
        exact mf_sub [0, 1, 2, 3] rfl (hyp hG)
      · replace hyp := hyp.2 hc
        refine mf_aload_n (mf_dat eX11_chance_p0 40 rfl) rfl rfl ?_
        refine mf_aload_n (mf_dat eX11_chance_p0 41 rfl) rfl rfl ?_
        refine mf_getf (r := (RX11, TX11, 20)) (ci := 11) (k := 12) (t := 2) (v := g2 0 12) (mf_dat eX11_chance_p0 42 rfl) fl_X11_47 rfl (by decide) rfl rfl is0 ?_
        refine mf_getf (r := (RX1, TX1, 14)) (ci := 1) (k := 12) (t := 0) (v := h3 (g2 0 12) 12) (mf_dat eX11_chance_p0 43 rfl) fl_X11_153 rfl (by decide) rfl rfl ck4 ?_
        refine mf_callV (Yc := YX11_draw) (r := (RX11, TX11, 20)) (ci := 11) (mf_dat eX11_chance_p0 44 rfl) ml_X11_281 okX11_draw im_X11_draw sl_X11_draw rfl rfl rfl rfl (Nat.le_of_ble_eq_true rfl) (mf_rr (Nat.le_trans (by decide) hd) (Nat.le_refl _)) (Nat.le_refl _) is0 (hyp hG) (fun r5 g6 h7 hyp => ?_)
        obtain ⟨hG, hyp⟩ := hyp
        refine mf_istore (mf_dat eX11_chance_p0 45 rfl) (by decide) ?_
        refine mf_aload_n (mf_dat eX11_chance_p0 46 rfl) rfl rfl ?_
        refine mf_getf (r := (RX11, TX11, 20)) (ci := 11) (k := 7) (t := 2) (v := 88) (mf_dat eX11_chance_p0 47 rfl) fl_X11_82 rfl (by decide) rfl (gx_0_7 hG) is0 ?_
        refine mf_getf (r := (RX6, TX6, 8)) (ci := 6) (k := 3) (t := 2) (v := 92) (mf_dat eX11_chance_p0 48 rfl) fl_X11_189 rfl (by decide) rfl (gs_3 hG is88) is88 ?_
        refine mf_iload (mf_dat eX11_chance_p0 49 rfl) rfl ?_
        refine mf_dup2 (mf_dat eX11_chance_p0 50 rfl) (by decide) (by decide) ?_
        obtain ⟨ck8, hyp⟩ := hyp
        obtain ⟨ck9, hyp⟩ := hyp
        refine mf_iald (mf_dat eX11_chance_p0 51 rfl) is92 len92 ck8 ck9 ?_
        refine mf_iconst (v := 2) (mf_dat eX11_chance_p0 52 rfl) (by decide) ?_
        refine mf_idiv (mf_dat eX11_chance_p0 53 rfl) (by decide) ?_
        refine mf_iast (mf_dat eX11_chance_p0 54 rfl) is92 len92 ck8 ck9 ?_
        generalize qh10 : mf_up h7 92 r5 (mf_w32 ((h7 92 r5).tdiv 2)) = h10
        replace hyp := hyp _ qh10.symm
        refine mf_iinc (mf_dat eX11_chance_p0 55 rfl) rfl (by decide) (by decide) ?_
        generalize qv11 : mf_w32 (x2 + 1) = v11
        replace hyp := hyp _ qv11.symm
        exact mf_sub [2, 3, 0, 4] rfl (hyp hG)
set_option maxRecDepth 100000 in
set_option maxHeartbeats 4000000 in
theorem vX11_chance_100 {C : mf_G} {l : Launch} {d : Nat} {K : mf_Kt} {x1 x2 x3 : Int} {g h : mf_M} (hd : 6 ≤ d) (hyp : xM C l 4 YX0_openingOf [(2, 46), (2, g 0 12), (0, h 88 7)] g h (fun r1 g2 h3 => xM C l 5 YX0_passDay [(2, 46), (2, g 0 12), (2, 88), (0, r1)] g2 h3 (fun r4 g5 h6 => (∀ v7 : Int, v7 = mf_w32 (x3 + 1) → BX11_chance_39 C l d K x1 x2 v7 g5 h6)))) : BX11_chance_100 C l d K x1 x2 x3 g h := by
  intro hG
  refine mf_aload_n (mf_dat eX11_chance_p0 56 rfl) rfl rfl ?_
  refine mf_getf (r := (RX11, TX11, 20)) (ci := 11) (k := 4) (t := 2) (v := 46) (mf_dat eX11_chance_p0 57 rfl) fl_X11_66 rfl (by decide) rfl (gx_0_4 hG) is0 ?_
  refine mf_aload_n (mf_dat eX11_chance_p0 58 rfl) rfl rfl ?_
  refine mf_getf (r := (RX11, TX11, 20)) (ci := 11) (k := 12) (t := 2) (v := g 0 12) (mf_dat eX11_chance_p0 59 rfl) fl_X11_47 rfl (by decide) rfl rfl is0 ?_
  refine mf_aload_n (mf_dat eX11_chance_p1 0 rfl) rfl rfl ?_
  refine mf_getf (r := (RX11, TX11, 20)) (ci := 11) (k := 7) (t := 2) (v := 88) (mf_dat eX11_chance_p1 1 rfl) fl_X11_82 rfl (by decide) rfl (gx_0_7 hG) is0 ?_
  refine mf_aload_n (mf_dat eX11_chance_p1 2 rfl) rfl rfl ?_
  refine mf_getf (r := (RX11, TX11, 20)) (ci := 11) (k := 4) (t := 2) (v := 46) (mf_dat eX11_chance_p1 3 rfl) fl_X11_66 rfl (by decide) rfl (gx_0_4 hG) is0 ?_
  refine mf_aload_n (mf_dat eX11_chance_p1 4 rfl) rfl rfl ?_
  refine mf_getf (r := (RX11, TX11, 20)) (ci := 11) (k := 12) (t := 2) (v := g 0 12) (mf_dat eX11_chance_p1 5 rfl) fl_X11_47 rfl (by decide) rfl rfl is0 ?_
  refine mf_aload_n (mf_dat eX11_chance_p1 6 rfl) rfl rfl ?_
  refine mf_getf (r := (RX11, TX11, 20)) (ci := 11) (k := 7) (t := 2) (v := 88) (mf_dat eX11_chance_p1 7 rfl) fl_X11_82 rfl (by decide) rfl (gx_0_7 hG) is0 ?_
  refine mf_getf (r := (RX6, TX6, 8)) (ci := 6) (k := 7) (t := 0) (v := h 88 7) (mf_dat eX11_chance_p1 8 rfl) fl_X11_156 rfl (by decide) rfl rfl is88 ?_
  refine mf_callV (Yc := YX0_openingOf) (r := (RX0, TX0, 1)) (ci := 0) (mf_dat eX11_chance_p1 9 rfl) ml_X11_159 okX0_openingOf im_X0_openingOf sl_X0_openingOf rfl rfl rfl rfl (Nat.le_of_ble_eq_true rfl) (mf_rr (Nat.le_trans (by decide) hd) (Nat.le_refl _)) (Nat.le_refl _) is46 (hyp hG) (fun r1 g2 h3 hyp => ?_)
  obtain ⟨hG, hyp⟩ := hyp
  refine mf_callV (Yc := YX0_passDay) (r := (RX0, TX0, 1)) (ci := 0) (mf_dat eX11_chance_p1 10 rfl) ml_X11_278 okX0_passDay im_X0_passDay sl_X0_passDay rfl rfl rfl rfl (Nat.le_of_ble_eq_true rfl) (mf_rr (Nat.le_trans (by decide) hd) (Nat.le_refl _)) (Nat.le_refl _) is46 (hyp hG) (fun r4 g5 h6 hyp => ?_)
  obtain ⟨hG, hyp⟩ := hyp
  refine mf_pop (mf_dat eX11_chance_p1 11 rfl) (by decide) ?_
  refine mf_iinc (mf_dat eX11_chance_p1 12 rfl) rfl (by decide) (by decide) ?_
  generalize qv7 : mf_w32 (x3 + 1) = v7
  replace hyp := hyp _ qv7.symm
  refine mf_goto (tgt := 39) (mf_dat eX11_chance_p1 13 rfl) (by decide) ?_
  exact mf_sub [1, 2, 3, 0] rfl (hyp hG)
set_option maxRecDepth 100000 in
set_option maxHeartbeats 4000000 in
theorem wX11_chance {C : mf_G} {l : Launch} {d : Nat} {K : mf_Kt} {x1 : Int} {g h : mf_M} (hd : 4 ≤ d) (hyp : ((x1 < 1 → (∀ h1 : mf_M, h1 = mf_up h 243 3 (mf_w32 ((h 243 3) + 1)) → K (-1) g h1)) ∧ (¬ x1 < 1 → ((100 < x1 → (∀ h2 : mf_M, h2 = mf_up h 243 3 (mf_w32 ((h 243 3) + 1)) → K (-1) g h2)) ∧ (¬ 100 < x1 → xM C l 0 YX11_canPass [(2, 0), (0, x1)] g h (fun r3 g4 h5 => ((¬ r3 = 0 → xM C l 3 YX11_saveAct [(2, 0)] g4 h5 (fun r6 g7 h8 => BX11_chance_39 C l d K x1 0 0 g7 h8)) ∧ (r3 = 0 → (∀ h9 : mf_M, h9 = mf_up h5 243 3 (mf_w32 ((h5 243 3) + 1)) → K (-1) g4 h9))))))))) : xM C l d YX11_chance [(2, 0), (0, x1)] g h K := by
  intro hG
  refine mf_entry (by decide) (Nat.le_of_ble_eq_true rfl) ?_
  refine mf_iload_n (mf_dat eX11_chance_p0 0 rfl) rfl rfl ?_
  refine mf_iconst (v := 1) (mf_dat eX11_chance_p0 1 rfl) (by decide) ?_
  refine mf_icmp_lt (tgt := 19) (mf_dat eX11_chance_p0 2 rfl) (by decide) (fun hc => ?_) (fun hc => ?_)
  · replace hyp := hyp.1 hc
    refine mf_aload_n (mf_dat eX11_chance_p0 10 rfl) rfl rfl ?_
    refine mf_getf (r := (RX11, TX11, 20)) (ci := 11) (k := 10) (t := 2) (v := 243) (mf_dat eX11_chance_p0 11 rfl) fl_X11_93 rfl (by decide) rfl (gx_0_10 hG) is0 ?_
    refine mf_iconst (v := 3) (mf_dat eX11_chance_p0 12 rfl) (by decide) ?_
    refine mf_dup2 (mf_dat eX11_chance_p0 13 rfl) (by decide) (by decide) ?_
    refine mf_iald (mf_dat eX11_chance_p0 14 rfl) is243 len243 (by decide) (by decide) ?_
    refine mf_iconst (v := 1) (mf_dat eX11_chance_p0 15 rfl) (by decide) ?_
    refine mf_iadd (mf_dat eX11_chance_p0 16 rfl) ?_
    refine mf_iast (mf_dat eX11_chance_p0 17 rfl) is243 len243 (by decide) (by decide) ?_
    generalize qh1 : mf_up h 243 3 (mf_w32 ((h 243 3) + 1)) = h1
    replace hyp := hyp _ qh1.symm
    refine mf_iconst (v := (-1)) (mf_dat eX11_chance_p0 18 rfl) (by decide) ?_
    exact mf_ireturn (mf_dat eX11_chance_p0 19 rfl) rfl (Or.inl rfl) ⟨hG, hyp⟩
  · replace hyp := hyp.2 hc
    refine mf_iload_n (mf_dat eX11_chance_p0 3 rfl) rfl rfl ?_
    refine mf_bipush (v := 100) (mf_dat eX11_chance_p0 4 rfl) (by decide) ?_
    refine mf_icmp_gt (tgt := 19) (mf_dat eX11_chance_p0 5 rfl) (by decide) (fun hc => ?_) (fun hc => ?_)
    · replace hyp := hyp.1 hc
      refine mf_aload_n (mf_dat eX11_chance_p0 10 rfl) rfl rfl ?_
      refine mf_getf (r := (RX11, TX11, 20)) (ci := 11) (k := 10) (t := 2) (v := 243) (mf_dat eX11_chance_p0 11 rfl) fl_X11_93 rfl (by decide) rfl (gx_0_10 hG) is0 ?_
      refine mf_iconst (v := 3) (mf_dat eX11_chance_p0 12 rfl) (by decide) ?_
      refine mf_dup2 (mf_dat eX11_chance_p0 13 rfl) (by decide) (by decide) ?_
      refine mf_iald (mf_dat eX11_chance_p0 14 rfl) is243 len243 (by decide) (by decide) ?_
      refine mf_iconst (v := 1) (mf_dat eX11_chance_p0 15 rfl) (by decide) ?_
      refine mf_iadd (mf_dat eX11_chance_p0 16 rfl) ?_
      refine mf_iast (mf_dat eX11_chance_p0 17 rfl) is243 len243 (by decide) (by decide) ?_
      generalize qh2 : mf_up h 243 3 (mf_w32 ((h 243 3) + 1)) = h2
      replace hyp := hyp _ qh2.symm
      refine mf_iconst (v := (-1)) (mf_dat eX11_chance_p0 18 rfl) (by decide) ?_
      exact mf_ireturn (mf_dat eX11_chance_p0 19 rfl) rfl (Or.inl rfl) ⟨hG, hyp⟩
    · replace hyp := hyp.2 hc
      refine mf_aload_n (mf_dat eX11_chance_p0 6 rfl) rfl rfl ?_
      refine mf_iload_n (mf_dat eX11_chance_p0 7 rfl) rfl rfl ?_
      refine mf_callV (Yc := YX11_canPass) (r := (RX11, TX11, 20)) (ci := 11) (mf_dat eX11_chance_p0 8 rfl) ml_X11_231 okX11_canPass im_X11_canPass sl_X11_canPass rfl rfl rfl rfl (Nat.le_of_ble_eq_true rfl) (mf_rr (Nat.le_trans (by decide) hd) (Nat.le_refl _)) (Nat.le_refl _) is0 (hyp hG) (fun r3 g4 h5 hyp => ?_)
      obtain ⟨hG, hyp⟩ := hyp
      refine mf_if_ne (tgt := 31) (mf_dat eX11_chance_p0 9 rfl) (by decide) (fun hc => ?_) (fun hc => ?_)
      · replace hyp := hyp.1 hc
        refine mf_aload_n (mf_dat eX11_chance_p0 20 rfl) rfl rfl ?_
        refine mf_callV (Yc := YX11_saveAct) (r := (RX11, TX11, 20)) (ci := 11) (mf_dat eX11_chance_p0 21 rfl) ml_X11_268 okX11_saveAct im_X11_saveAct sl_X11_saveAct rfl rfl rfl rfl (Nat.le_of_ble_eq_true rfl) (mf_rr (Nat.le_trans (by decide) hd) (Nat.le_refl _)) (Nat.le_refl _) is0 (hyp hG) (fun r6 g7 h8 hyp => ?_)
        obtain ⟨hG, hyp⟩ := hyp
        refine mf_iconst (v := 0) (mf_dat eX11_chance_p0 22 rfl) (by decide) ?_
        refine mf_istore_n (mf_dat eX11_chance_p0 23 rfl) rfl (by decide) ?_
        refine mf_iconst (v := 0) (mf_dat eX11_chance_p0 24 rfl) (by decide) ?_
        refine mf_istore_n (mf_dat eX11_chance_p0 25 rfl) rfl (by decide) ?_
        exact mf_sub [2, 3, 1, 0] rfl (hyp hG)
      · replace hyp := hyp.2 hc
        refine mf_aload_n (mf_dat eX11_chance_p0 10 rfl) rfl rfl ?_
        refine mf_getf (r := (RX11, TX11, 20)) (ci := 11) (k := 10) (t := 2) (v := 243) (mf_dat eX11_chance_p0 11 rfl) fl_X11_93 rfl (by decide) rfl (gx_0_10 hG) is0 ?_
        refine mf_iconst (v := 3) (mf_dat eX11_chance_p0 12 rfl) (by decide) ?_
        refine mf_dup2 (mf_dat eX11_chance_p0 13 rfl) (by decide) (by decide) ?_
        refine mf_iald (mf_dat eX11_chance_p0 14 rfl) is243 len243 (by decide) (by decide) ?_
        refine mf_iconst (v := 1) (mf_dat eX11_chance_p0 15 rfl) (by decide) ?_
        refine mf_iadd (mf_dat eX11_chance_p0 16 rfl) ?_
        refine mf_iast (mf_dat eX11_chance_p0 17 rfl) is243 len243 (by decide) (by decide) ?_
        generalize qh9 : mf_up h5 243 3 (mf_w32 ((h5 243 3) + 1)) = h9
        replace hyp := hyp _ qh9.symm
        refine mf_iconst (v := (-1)) (mf_dat eX11_chance_p0 18 rfl) (by decide) ?_
        exact mf_ireturn (mf_dat eX11_chance_p0 19 rfl) rfl (Or.inl rfl) ⟨hG, hyp⟩
set_option maxRecDepth 100000 in
set_option maxHeartbeats 4000000 in
theorem wX11_undo {C : mf_G} {l : Launch} {d : Nat} {K : mf_Kt} {g h : mf_M} (hd : 3 ≤ d) (hyp : ((¬ h 0 15 = 0 → (∀ h1 : mf_M, h1 = mf_up h 0 15 (mf_w32 ((h 0 15) - 1)) → (∀ h2 : mf_M, h2 = mf_up h1 0 16 ((mf_w32 ((mf_w32 ((h1 0 16) + 20)) - 1)).tmod 20) → 0 ≤ h2 0 16 ∧ h2 0 16 < 20 ∧ xM C l 2 YX6_copyAll [(2, 88), (2, 103 + 7 * (h2 0 16))] g h2 (fun r5 g6 h7 => K 1 g6 h7)))) ∧ (h 0 15 = 0 → (∀ h8 : mf_M, h8 = mf_up h 243 4 (mf_w32 ((h 243 4) + 1)) → K 0 g h8)))) : xM C l d YX11_undo [(2, 0)] g h K := by
  intro hG
  refine mf_entry (by decide) (Nat.le_of_ble_eq_true rfl) ?_
  refine mf_aload_n (mf_dat eX11_undo 0 rfl) rfl rfl ?_
  refine mf_getf (r := (RX11, TX11, 20)) (ci := 11) (k := 15) (t := 0) (v := h 0 15) (mf_dat eX11_undo 1 rfl) fl_X11_134 rfl (by decide) rfl rfl is0 ?_
  refine mf_if_ne (tgt := 19) (mf_dat eX11_undo 2 rfl) (by decide) (fun hc => ?_) (fun hc => ?_)
  · replace hyp := hyp.1 hc
    refine mf_aload_n (mf_dat eX11_undo 13 rfl) rfl rfl ?_
    refine mf_dup (mf_dat eX11_undo 14 rfl) (by decide) ?_
    refine mf_getf (r := (RX11, TX11, 20)) (ci := 11) (k := 15) (t := 0) (v := h 0 15) (mf_dat eX11_undo 15 rfl) fl_X11_134 rfl (by decide) rfl rfl is0 ?_
    refine mf_iconst (v := 1) (mf_dat eX11_undo 16 rfl) (by decide) ?_
    refine mf_isub (mf_dat eX11_undo 17 rfl) ?_
    refine mf_putI (r := (RX11, TX11, 20)) (ci := 11) (k := 15) (kI := 15) (t := 0) (mf_dat eX11_undo 18 rfl) fl_X11_134 rfl rfl (by decide) rfl (by decide) rfl (by decide) (fun h9 => absurd h9 (by decide)) is0 ?_
    generalize qh1 : mf_up h 0 15 (mf_w32 ((h 0 15) - 1)) = h1
    replace hyp := hyp _ qh1.symm
    refine mf_aload_n (mf_dat eX11_undo 19 rfl) rfl rfl ?_
    refine mf_aload_n (mf_dat eX11_undo 20 rfl) rfl rfl ?_
    refine mf_getf (r := (RX11, TX11, 20)) (ci := 11) (k := 16) (t := 0) (v := h1 0 16) (mf_dat eX11_undo 21 rfl) fl_X11_287 rfl (by decide) rfl rfl is0 ?_
    refine mf_bipush (v := 20) (mf_dat eX11_undo 22 rfl) (by decide) ?_
    refine mf_iadd (mf_dat eX11_undo 23 rfl) ?_
    refine mf_iconst (v := 1) (mf_dat eX11_undo 24 rfl) (by decide) ?_
    refine mf_isub (mf_dat eX11_undo 25 rfl) ?_
    refine mf_bipush (v := 20) (mf_dat eX11_undo 26 rfl) (by decide) ?_
    refine mf_irem (mf_dat eX11_undo 27 rfl) (by decide) ?_
    refine mf_putI (r := (RX11, TX11, 20)) (ci := 11) (k := 16) (kI := 16) (t := 0) (mf_dat eX11_undo 28 rfl) fl_X11_287 rfl rfl (by decide) rfl (by decide) rfl (by decide) (fun h9 => absurd h9 (by decide)) is0 ?_
    generalize qh2 : mf_up h1 0 16 ((mf_w32 ((mf_w32 ((h1 0 16) + 20)) - 1)).tmod 20) = h2
    replace hyp := hyp _ qh2.symm
    refine mf_aload_n (mf_dat eX11_undo 29 rfl) rfl rfl ?_
    refine mf_getf (r := (RX11, TX11, 20)) (ci := 11) (k := 7) (t := 2) (v := 88) (mf_dat eX11_undo 30 rfl) fl_X11_82 rfl (by decide) rfl (gx_0_7 hG) is0 ?_
    refine mf_aload_n (mf_dat eX11_undo 31 rfl) rfl rfl ?_
    refine mf_getf (r := (RX11, TX11, 20)) (ci := 11) (k := 9) (t := 2) (v := 102) (mf_dat eX11_undo 32 rfl) fl_X11_89 rfl (by decide) rfl (gx_0_9 hG) is0 ?_
    refine mf_aload_n (mf_dat eX11_undo 33 rfl) rfl rfl ?_
    refine mf_getf (r := (RX11, TX11, 20)) (ci := 11) (k := 16) (t := 0) (v := h2 0 16) (mf_dat eX11_undo 34 rfl) fl_X11_287 rfl (by decide) rfl rfl is0 ?_
    obtain ⟨ck3, hyp⟩ := hyp
    obtain ⟨ck4, hyp⟩ := hyp
    refine mf_aald (mf_dat eX11_undo 35 rfl) is102 len102 ck3 ck4 ?_
    rw [ga_102 hG ck3 ck4]
    refine mf_callV (Yc := YX6_copyAll) (r := (RX6, TX6, 8)) (ci := 6) (mf_dat eX11_undo 36 rfl) ml_X11_127 okX6_copyAll im_X6_copyAll sl_X6_copyAll rfl rfl rfl rfl (Nat.le_of_ble_eq_true rfl) (mf_rr (Nat.le_trans (by decide) hd) (Nat.le_refl _)) (Nat.le_refl _) is88 (hyp hG) (fun r5 g6 h7 hyp => ?_)
    obtain ⟨hG, hyp⟩ := hyp
    refine mf_iconst (v := 1) (mf_dat eX11_undo 37 rfl) (by decide) ?_
    exact mf_ireturn (mf_dat eX11_undo 38 rfl) rfl (Or.inr ⟨rfl, by decide⟩) ⟨hG, hyp⟩
  · replace hyp := hyp.2 hc
    refine mf_aload_n (mf_dat eX11_undo 3 rfl) rfl rfl ?_
    refine mf_getf (r := (RX11, TX11, 20)) (ci := 11) (k := 10) (t := 2) (v := 243) (mf_dat eX11_undo 4 rfl) fl_X11_93 rfl (by decide) rfl (gx_0_10 hG) is0 ?_
    refine mf_iconst (v := 4) (mf_dat eX11_undo 5 rfl) (by decide) ?_
    refine mf_dup2 (mf_dat eX11_undo 6 rfl) (by decide) (by decide) ?_
    refine mf_iald (mf_dat eX11_undo 7 rfl) is243 len243 (by decide) (by decide) ?_
    refine mf_iconst (v := 1) (mf_dat eX11_undo 8 rfl) (by decide) ?_
    refine mf_iadd (mf_dat eX11_undo 9 rfl) ?_
    refine mf_iast (mf_dat eX11_undo 10 rfl) is243 len243 (by decide) (by decide) ?_
    generalize qh8 : mf_up h 243 4 (mf_w32 ((h 243 4) + 1)) = h8
    replace hyp := hyp _ qh8.symm
    refine mf_iconst (v := 0) (mf_dat eX11_undo 11 rfl) (by decide) ?_
    exact mf_ireturn (mf_dat eX11_undo 12 rfl) rfl (Or.inr ⟨rfl, by decide⟩) ⟨hG, hyp⟩
set_option maxRecDepth 100000 in
set_option maxHeartbeats 4000000 in
theorem wX11_seed {C : mf_G} {l : Launch} {d : Nat} {K : mf_Kt} {x1 : Int} {g h : mf_M} (hyp : ((0 ≤ x1 → (∀ h1 : mf_M, h1 = mf_up h 0 19 x1 → K 1 g h1)) ∧ (¬ 0 ≤ x1 → (∀ h2 : mf_M, h2 = mf_up h 243 5 (mf_w32 ((h 243 5) + 1)) → K 0 g h2)))) : xM C l d YX11_seed [(2, 0), (0, x1)] g h K := by
  intro hG
  refine mf_entry (by decide) (Nat.le_of_ble_eq_true rfl) ?_
  refine mf_iload_n (mf_dat eX11_seed 0 rfl) rfl rfl ?_
  refine mf_if_ge (tgt := 16) (mf_dat eX11_seed 1 rfl) (by decide) (fun hc => ?_) (fun hc => ?_)
  · replace hyp := hyp.1 hc
    refine mf_aload_n (mf_dat eX11_seed 12 rfl) rfl rfl ?_
    refine mf_iload_n (mf_dat eX11_seed 13 rfl) rfl rfl ?_
    refine mf_putI (r := (RX11, TX11, 20)) (ci := 11) (k := 19) (kI := 19) (t := 0) (mf_dat eX11_seed 14 rfl) fl_X11_104 rfl rfl (by decide) rfl (by decide) rfl (by decide) (fun h9 => absurd h9 (by decide)) is0 ?_
    generalize qh1 : mf_up h 0 19 x1 = h1
    replace hyp := hyp _ qh1.symm
    refine mf_iconst (v := 1) (mf_dat eX11_seed 15 rfl) (by decide) ?_
    exact mf_ireturn (mf_dat eX11_seed 16 rfl) rfl (Or.inr ⟨rfl, by decide⟩) ⟨hG, hyp⟩
  · replace hyp := hyp.2 hc
    refine mf_aload_n (mf_dat eX11_seed 2 rfl) rfl rfl ?_
    refine mf_getf (r := (RX11, TX11, 20)) (ci := 11) (k := 10) (t := 2) (v := 243) (mf_dat eX11_seed 3 rfl) fl_X11_93 rfl (by decide) rfl (gx_0_10 hG) is0 ?_
    refine mf_iconst (v := 5) (mf_dat eX11_seed 4 rfl) (by decide) ?_
    refine mf_dup2 (mf_dat eX11_seed 5 rfl) (by decide) (by decide) ?_
    refine mf_iald (mf_dat eX11_seed 6 rfl) is243 len243 (by decide) (by decide) ?_
    refine mf_iconst (v := 1) (mf_dat eX11_seed 7 rfl) (by decide) ?_
    refine mf_iadd (mf_dat eX11_seed 8 rfl) ?_
    refine mf_iast (mf_dat eX11_seed 9 rfl) is243 len243 (by decide) (by decide) ?_
    generalize qh2 : mf_up h 243 5 (mf_w32 ((h 243 5) + 1)) = h2
    replace hyp := hyp _ qh2.symm
    refine mf_iconst (v := 0) (mf_dat eX11_seed 10 rfl) (by decide) ?_
    exact mf_ireturn (mf_dat eX11_seed 11 rfl) rfl (Or.inr ⟨rfl, by decide⟩) ⟨hG, hyp⟩
set_option maxRecDepth 100000 in
set_option maxHeartbeats 4000000 in
theorem wX11_ask {C : mf_G} {l : Launch} {d : Nat} {K : mf_Kt} {g h : mf_M} (hd : 127 ≤ d) (hyp : mf_is 319 (g 0 12) 1 ∧ ((¬ h (g 0 12) 8 = 0 → xM C l 126 YX7_readQuestion [(2, 10), (2, 6)] g h (fun r2 g3 h4 => xM C l 0 YX11_takeFault [(2, 0)] g3 h4 (fun r5 g6 h7 => ((h7 0 17 = 0 → xM C l 5 YX11_answer [(2, 0), (0, r2)] g6 h7 (fun r8 g9 h10 => K r8 g9 h10)) ∧ (¬ h7 0 17 = 0 → K (-1000000000000000) g6 h7))))) ∧ (h (g 0 12) 8 = 0 → (∀ h11 : mf_M, h11 = mf_up h 3 1 0 → K (-1000000000000000) g h11)))) : xM C l d YX11_ask [(2, 0)] g h K := by
  intro hG
  refine mf_entry (by decide) (Nat.le_of_ble_eq_true rfl) ?_
  refine mf_aload_n (mf_dat eX11_ask 0 rfl) rfl rfl ?_
  refine mf_getf (r := (RX11, TX11, 20)) (ci := 11) (k := 12) (t := 2) (v := g 0 12) (mf_dat eX11_ask 1 rfl) fl_X11_47 rfl (by decide) rfl rfl is0 ?_
  obtain ⟨ck1, hyp⟩ := hyp
  refine mf_getf (r := (RX1, TX1, 14)) (ci := 1) (k := 8) (t := 0) (v := h (g 0 12) 8) (mf_dat eX11_ask 2 rfl) fl_X11_140 rfl (by decide) rfl rfl ck1 ?_
  refine mf_if_ne (tgt := 22) (mf_dat eX11_ask 3 rfl) (by decide) (fun hc => ?_) (fun hc => ?_)
  · replace hyp := hyp.1 hc
    refine mf_aload_n (mf_dat eX11_ask 10 rfl) rfl rfl ?_
    refine mf_getf (r := (RX11, TX11, 20)) (ci := 11) (k := 2) (t := 2) (v := 10) (mf_dat eX11_ask 11 rfl) fl_X11_40 rfl (by decide) rfl (gx_0_2 hG) is0 ?_
    refine mf_aload_n (mf_dat eX11_ask 12 rfl) rfl rfl ?_
    refine mf_getf (r := (RX11, TX11, 20)) (ci := 11) (k := 6) (t := 2) (v := 6) (mf_dat eX11_ask 13 rfl) fl_X11_31 rfl (by decide) rfl (gx_0_6 hG) is0 ?_
    refine mf_callV (Yc := YX7_readQuestion) (r := (RX7, TX7, 4)) (ci := 7) (mf_dat eX11_ask 14 rfl) ml_X11_292 okX7_readQuestion im_X7_readQuestion sl_X7_readQuestion rfl rfl rfl rfl (Nat.le_of_ble_eq_true rfl) (mf_rr (Nat.le_trans (by decide) hd) (Nat.le_refl _)) (Nat.le_refl _) is10 (hyp hG) (fun r2 g3 h4 hyp => ?_)
    obtain ⟨hG, hyp⟩ := hyp
    refine mf_istore_n (mf_dat eX11_ask 15 rfl) rfl (by decide) ?_
    refine mf_aload_n (mf_dat eX11_ask 16 rfl) rfl rfl ?_
    refine mf_callV (Yc := YX11_takeFault) (r := (RX11, TX11, 20)) (ci := 11) (mf_dat eX11_ask 17 rfl) ml_X11_118 okX11_takeFault im_X11_takeFault sl_X11_takeFault rfl rfl rfl rfl (Nat.le_of_ble_eq_true rfl) (mf_rr (Nat.le_trans (by decide) hd) (Nat.le_refl _)) (Nat.le_refl _) is0 (hyp hG) (fun r5 g6 h7 hyp => ?_)
    obtain ⟨hG, hyp⟩ := hyp
    refine mf_aload_n (mf_dat eX11_ask 18 rfl) rfl rfl ?_
    refine mf_getf (r := (RX11, TX11, 20)) (ci := 11) (k := 17) (t := 0) (v := h7 0 17) (mf_dat eX11_ask 19 rfl) fl_X11_121 rfl (by decide) rfl rfl is0 ?_
    refine mf_if_eq (tgt := 51) (mf_dat eX11_ask 20 rfl) (by decide) (fun hc => ?_) (fun hc => ?_)
    · replace hyp := hyp.1 hc
      refine mf_aload_n (mf_dat eX11_ask 23 rfl) rfl rfl ?_
      refine mf_iload_n (mf_dat eX11_ask 24 rfl) rfl rfl ?_
      refine mf_callV (Yc := YX11_answer) (r := (RX11, TX11, 20)) (ci := 11) (mf_dat eX11_ask 25 rfl) ml_X11_296 okX11_answer im_X11_answer sl_X11_answer rfl rfl rfl rfl (Nat.le_of_ble_eq_true rfl) (mf_rr (Nat.le_trans (by decide) hd) (Nat.le_refl _)) (Nat.le_refl _) is0 (hyp hG) (fun r8 g9 h10 hyp => ?_)
      obtain ⟨hG, hyp⟩ := hyp
      exact mf_lreturn (mf_dat eX11_ask 26 rfl) rfl ⟨hG, hyp⟩
    · replace hyp := hyp.2 hc
      refine mf_ldc2 (v := (-1000000000000000)) cl_X11_290 (mf_dat eX11_ask 21 rfl) (by decide) ?_
      refine mf_goto (tgt := 56) (mf_dat eX11_ask 22 rfl) (by decide) ?_
      exact mf_lreturn (mf_dat eX11_ask 26 rfl) rfl ⟨hG, hyp⟩
  · replace hyp := hyp.2 hc
    refine mf_aload_n (mf_dat eX11_ask 4 rfl) rfl rfl ?_
    refine mf_getf (r := (RX11, TX11, 20)) (ci := 11) (k := 0) (t := 2) (v := 3) (mf_dat eX11_ask 5 rfl) fl_X11_15 rfl (by decide) rfl (gx_0_0 hG) is0 ?_
    refine mf_iconst (v := 0) (mf_dat eX11_ask 6 rfl) (by decide) ?_
    refine mf_putI (r := (RX8, TX8, 2)) (ci := 8) (k := 1) (kI := 1) (t := 0) (mf_dat eX11_ask 7 rfl) fl_X11_107 rfl rfl (by decide) rfl (by decide) rfl (by decide) (fun h9 => absurd h9 (by decide)) is3 ?_
    generalize qh11 : mf_up h 3 1 0 = h11
    replace hyp := hyp _ qh11.symm
    refine mf_ldc2 (v := (-1000000000000000)) cl_X11_290 (mf_dat eX11_ask 8 rfl) (by decide) ?_
    exact mf_lreturn (mf_dat eX11_ask 9 rfl) rfl ⟨hG, hyp⟩
abbrev BX11_image_18 (C : mf_G) (l : Launch) (d : Nat) (K : mf_Kt) (x1 : Int) (g h : mf_M) : Prop := jX C l d YX11_image K 18 [(0, (2, 0)), (1, (0, x1))] [] g h
abbrev BX11_image_50 (C : mf_G) (l : Launch) (d : Nat) (K : mf_Kt) (x1 : Int) (g h : mf_M) : Prop := jX C l d YX11_image K 50 [(0, (2, 0)), (1, (0, x1))] [] g h
abbrev BX11_image_124 (C : mf_G) (l : Launch) (d : Nat) (K : mf_Kt) (x1 x2 : Int) (g h : mf_M) : Prop := jX C l d YX11_image K 124 [(0, (2, 0)), (1, (0, x1)), (2, (0, x2))] [] g h
set_option maxRecDepth 100000 in
set_option maxHeartbeats 4000000 in
theorem vX11_image_18 {C : mf_G} {l : Launch} {d : Nat} {K : mf_Kt} {x1 : Int} {g h : mf_M} (hd : 1 ≤ d) (hyp : mf_is 319 (g 0 12) 1 ∧ ((h (g 0 12) 8 ≤ x1 → BX11_image_50 C l d K 0 g h) ∧ (¬ h (g 0 12) 8 ≤ x1 → 0 ≤ x1 ∧ x1 < 6 ∧ xM C l 0 YX11_addOctet [(2, 0), (0, h 89 x1)] g h (fun r4 g5 h6 => (∀ v7 : Int, v7 = mf_w32 (x1 + 1) → BX11_image_18 C l d K v7 g5 h6))))) : BX11_image_18 C l d K x1 g h := by
  intro hG
  refine mf_iload_n (mf_dat eX11_image_p0 10 rfl) rfl rfl ?_
  refine mf_aload_n (mf_dat eX11_image_p0 11 rfl) rfl rfl ?_
  refine mf_getf (r := (RX11, TX11, 20)) (ci := 11) (k := 12) (t := 2) (v := g 0 12) (mf_dat eX11_image_p0 12 rfl) fl_X11_47 rfl (by decide) rfl rfl is0 ?_
  obtain ⟨ck1, hyp⟩ := hyp
  refine mf_getf (r := (RX1, TX1, 14)) (ci := 1) (k := 8) (t := 0) (v := h (g 0 12) 8) (mf_dat eX11_image_p0 13 rfl) fl_X11_140 rfl (by decide) rfl rfl ck1 ?_
  refine mf_icmp_ge (tgt := 48) (mf_dat eX11_image_p0 14 rfl) (by decide) (fun hc => ?_) (fun hc => ?_)
  · replace hyp := hyp.1 hc
    refine mf_iconst (v := 0) (mf_dat eX11_image_p0 24 rfl) (by decide) ?_
    refine mf_istore_n (mf_dat eX11_image_p0 25 rfl) rfl (by decide) ?_
    exact mf_sub [1, 0] rfl (hyp hG)
  · replace hyp := hyp.2 hc
    refine mf_aload_n (mf_dat eX11_image_p0 15 rfl) rfl rfl ?_
    refine mf_aload_n (mf_dat eX11_image_p0 16 rfl) rfl rfl ?_
    refine mf_getf (r := (RX11, TX11, 20)) (ci := 11) (k := 7) (t := 2) (v := 88) (mf_dat eX11_image_p0 17 rfl) fl_X11_82 rfl (by decide) rfl (gx_0_7 hG) is0 ?_
    refine mf_getf (r := (RX6, TX6, 8)) (ci := 6) (k := 0) (t := 2) (v := 89) (mf_dat eX11_image_p0 18 rfl) fl_X11_306 rfl (by decide) rfl (gs_0 hG is88) is88 ?_
    refine mf_iload_n (mf_dat eX11_image_p0 19 rfl) rfl rfl ?_
    obtain ⟨ck2, hyp⟩ := hyp
    obtain ⟨ck3, hyp⟩ := hyp
    refine mf_iald (mf_dat eX11_image_p0 20 rfl) is89 len89 ck2 ck3 ?_
    refine mf_callV (Yc := YX11_addOctet) (r := (RX11, TX11, 20)) (ci := 11) (mf_dat eX11_image_p0 21 rfl) ml_X11_309 okX11_addOctet im_X11_addOctet sl_X11_addOctet rfl rfl rfl rfl (Nat.le_of_ble_eq_true rfl) (mf_rr (Nat.le_trans (by decide) hd) (Nat.le_refl _)) (Nat.le_refl _) is0 (hyp hG) (fun r4 g5 h6 hyp => ?_)
    obtain ⟨hG, hyp⟩ := hyp
    refine mf_iinc (mf_dat eX11_image_p0 22 rfl) rfl (by decide) (by decide) ?_
    generalize qv7 : mf_w32 (x1 + 1) = v7
    replace hyp := hyp _ qv7.symm
    refine mf_goto (tgt := 18) (mf_dat eX11_image_p0 23 rfl) (by decide) ?_
    exact mf_sub [1, 0] rfl (hyp hG)
set_option maxRecDepth 100000 in
set_option maxHeartbeats 4000000 in
theorem vX11_image_50 {C : mf_G} {l : Launch} {d : Nat} {K : mf_Kt} {x1 : Int} {g h : mf_M} (hd : 2 ≤ d) (hyp : mf_is 319 (g 0 12) 1 ∧ ((h (g 0 12) 12 ≤ x1 → BX11_image_124 C l d K 83 0 g h) ∧ (¬ h (g 0 12) 12 ≤ x1 → 0 ≤ x1 ∧ x1 < 8 ∧ xM C l 0 YX11_addOctet [(2, 0), (0, h 90 x1)] g h (fun r4 g5 h6 => xM C l 0 YX11_addOctet [(2, 0), (0, h6 91 x1)] g5 h6 (fun r7 g8 h9 => xM C l 1 YX11_addOctets [(2, 0), (0, h9 92 x1)] g8 h9 (fun r10 g11 h12 => xM C l 1 YX11_addOctets [(2, 0), (0, h12 93 x1)] g11 h12 (fun r13 g14 h15 => (∀ v16 : Int, v16 = mf_w32 (x1 + 1) → BX11_image_50 C l d K v16 g14 h15)))))))) : BX11_image_50 C l d K x1 g h := by
  intro hG
  refine mf_iload_n (mf_dat eX11_image_p0 26 rfl) rfl rfl ?_
  refine mf_aload_n (mf_dat eX11_image_p0 27 rfl) rfl rfl ?_
  refine mf_getf (r := (RX11, TX11, 20)) (ci := 11) (k := 12) (t := 2) (v := g 0 12) (mf_dat eX11_image_p0 28 rfl) fl_X11_47 rfl (by decide) rfl rfl is0 ?_
  obtain ⟨ck1, hyp⟩ := hyp
  refine mf_getf (r := (RX1, TX1, 14)) (ci := 1) (k := 12) (t := 0) (v := h (g 0 12) 12) (mf_dat eX11_image_p0 29 rfl) fl_X11_153 rfl (by decide) rfl rfl ck1 ?_
  refine mf_icmp_ge (tgt := 119) (mf_dat eX11_image_p0 30 rfl) (by decide) (fun hc => ?_) (fun hc => ?_)
  · replace hyp := hyp.1 hc
    refine mf_bipush (v := 83) (mf_dat eX11_image_p1 1 rfl) (by decide) ?_
    refine mf_istore_n (mf_dat eX11_image_p1 2 rfl) rfl (by decide) ?_
    refine mf_iconst (v := 0) (mf_dat eX11_image_p1 3 rfl) (by decide) ?_
    refine mf_istore_n (mf_dat eX11_image_p1 4 rfl) rfl (by decide) ?_
    exact mf_sub [2, 1, 0] rfl (hyp hG)
  · replace hyp := hyp.2 hc
    refine mf_aload_n (mf_dat eX11_image_p0 31 rfl) rfl rfl ?_
    refine mf_aload_n (mf_dat eX11_image_p0 32 rfl) rfl rfl ?_
    refine mf_getf (r := (RX11, TX11, 20)) (ci := 11) (k := 7) (t := 2) (v := 88) (mf_dat eX11_image_p0 33 rfl) fl_X11_82 rfl (by decide) rfl (gx_0_7 hG) is0 ?_
    refine mf_getf (r := (RX6, TX6, 8)) (ci := 6) (k := 1) (t := 2) (v := 90) (mf_dat eX11_image_p0 34 rfl) fl_X11_180 rfl (by decide) rfl (gs_1 hG is88) is88 ?_
    refine mf_iload_n (mf_dat eX11_image_p0 35 rfl) rfl rfl ?_
    obtain ⟨ck2, hyp⟩ := hyp
    obtain ⟨ck3, hyp⟩ := hyp
    refine mf_iald (mf_dat eX11_image_p0 36 rfl) is90 len90 ck2 ck3 ?_
    refine mf_callV (Yc := YX11_addOctet) (r := (RX11, TX11, 20)) (ci := 11) (mf_dat eX11_image_p0 37 rfl) ml_X11_309 okX11_addOctet im_X11_addOctet sl_X11_addOctet rfl rfl rfl rfl (Nat.le_of_ble_eq_true rfl) (mf_rr (Nat.le_trans (by decide) hd) (Nat.le_refl _)) (Nat.le_refl _) is0 (hyp hG) (fun r4 g5 h6 hyp => ?_)
    obtain ⟨hG, hyp⟩ := hyp
    refine mf_aload_n (mf_dat eX11_image_p0 38 rfl) rfl rfl ?_
    refine mf_aload_n (mf_dat eX11_image_p0 39 rfl) rfl rfl ?_
    refine mf_getf (r := (RX11, TX11, 20)) (ci := 11) (k := 7) (t := 2) (v := 88) (mf_dat eX11_image_p0 40 rfl) fl_X11_82 rfl (by decide) rfl (gx_0_7 hG) is0 ?_
    refine mf_getf (r := (RX6, TX6, 8)) (ci := 6) (k := 2) (t := 2) (v := 91) (mf_dat eX11_image_p0 41 rfl) fl_X11_183 rfl (by decide) rfl (gs_2 hG is88) is88 ?_
    refine mf_iload_n (mf_dat eX11_image_p0 42 rfl) rfl rfl ?_
    refine mf_iald (mf_dat eX11_image_p0 43 rfl) is91 len91 ck2 ck3 ?_
    refine mf_callV (Yc := YX11_addOctet) (r := (RX11, TX11, 20)) (ci := 11) (mf_dat eX11_image_p0 44 rfl) ml_X11_309 okX11_addOctet im_X11_addOctet sl_X11_addOctet rfl rfl rfl rfl (Nat.le_of_ble_eq_true rfl) (mf_rr (Nat.le_trans (by decide) hd) (Nat.le_refl _)) (Nat.le_refl _) is0 (hyp hG) (fun r7 g8 h9 hyp => ?_)
    obtain ⟨hG, hyp⟩ := hyp
    refine mf_aload_n (mf_dat eX11_image_p0 45 rfl) rfl rfl ?_
    refine mf_aload_n (mf_dat eX11_image_p0 46 rfl) rfl rfl ?_
    refine mf_getf (r := (RX11, TX11, 20)) (ci := 11) (k := 7) (t := 2) (v := 88) (mf_dat eX11_image_p0 47 rfl) fl_X11_82 rfl (by decide) rfl (gx_0_7 hG) is0 ?_
    refine mf_getf (r := (RX6, TX6, 8)) (ci := 6) (k := 3) (t := 2) (v := 92) (mf_dat eX11_image_p0 48 rfl) fl_X11_189 rfl (by decide) rfl (gs_3 hG is88) is88 ?_
    refine mf_iload_n (mf_dat eX11_image_p0 49 rfl) rfl rfl ?_
    refine mf_iald (mf_dat eX11_image_p0 50 rfl) is92 len92 ck2 ck3 ?_
    refine mf_callV (Yc := YX11_addOctets) (r := (RX11, TX11, 20)) (ci := 11) (mf_dat eX11_image_p0 51 rfl) ml_X11_303 okX11_addOctets im_X11_addOctets sl_X11_addOctets rfl rfl rfl rfl (Nat.le_of_ble_eq_true rfl) (mf_rr (Nat.le_trans (by decide) hd) (Nat.le_refl _)) (Nat.le_refl _) is0 (hyp hG) (fun r10 g11 h12 hyp => ?_)
    obtain ⟨hG, hyp⟩ := hyp
    refine mf_aload_n (mf_dat eX11_image_p0 52 rfl) rfl rfl ?_
    refine mf_aload_n (mf_dat eX11_image_p0 53 rfl) rfl rfl ?_
    refine mf_getf (r := (RX11, TX11, 20)) (ci := 11) (k := 7) (t := 2) (v := 88) (mf_dat eX11_image_p0 54 rfl) fl_X11_82 rfl (by decide) rfl (gx_0_7 hG) is0 ?_
    refine mf_getf (r := (RX6, TX6, 8)) (ci := 6) (k := 4) (t := 2) (v := 93) (mf_dat eX11_image_p0 55 rfl) fl_X11_192 rfl (by decide) rfl (gs_4 hG is88) is88 ?_
    refine mf_iload_n (mf_dat eX11_image_p0 56 rfl) rfl rfl ?_
    refine mf_iald (mf_dat eX11_image_p0 57 rfl) is93 len93 ck2 ck3 ?_
    refine mf_callV (Yc := YX11_addOctets) (r := (RX11, TX11, 20)) (ci := 11) (mf_dat eX11_image_p0 58 rfl) ml_X11_303 okX11_addOctets im_X11_addOctets sl_X11_addOctets rfl rfl rfl rfl (Nat.le_of_ble_eq_true rfl) (mf_rr (Nat.le_trans (by decide) hd) (Nat.le_refl _)) (Nat.le_refl _) is0 (hyp hG) (fun r13 g14 h15 hyp => ?_)
    obtain ⟨hG, hyp⟩ := hyp
    refine mf_iinc (mf_dat eX11_image_p0 59 rfl) rfl (by decide) (by decide) ?_
    generalize qv16 : mf_w32 (x1 + 1) = v16
    replace hyp := hyp _ qv16.symm
    refine mf_goto (tgt := 50) (mf_dat eX11_image_p1 0 rfl) (by decide) ?_
    exact mf_sub [1, 0] rfl (hyp hG)
set_option maxRecDepth 100000 in
set_option maxHeartbeats 4000000 in
theorem vX11_image_124 {C : mf_G} {l : Launch} {d : Nat} {K : mf_Kt} {x1 x2 : Int} {g h : mf_M} (hd : 1 ≤ d) (hyp : ((h 0 14 ≤ x2 → xM C l 0 YX11_addOctet [(2, 0), (0, x1)] g h (fun r1 g2 h3 => K (h3 0 14) g2 h3)) ∧ (¬ h 0 14 ≤ x2 → ((57 ≤ x2 → xM C l 0 YX11_addOctet [(2, 0), (0, x1)] g h (fun r4 g5 h6 => K (h6 0 14) g5 h6)) ∧ (¬ 57 ≤ x2 → 0 ≤ x2 ∧ x2 < 57 ∧ xM C l 0 YX8_nextCheck [(0, x1), (0, h 244 x2)] g h (fun r9 g10 h11 => (∀ v12 : Int, v12 = mf_w32 (x2 + 1) → BX11_image_124 C l d K r9 v12 g10 h11))))))) : BX11_image_124 C l d K x1 x2 g h := by
  intro hG
  refine mf_iload_n (mf_dat eX11_image_p1 5 rfl) rfl rfl ?_
  refine mf_aload_n (mf_dat eX11_image_p1 6 rfl) rfl rfl ?_
  refine mf_getf (r := (RX11, TX11, 20)) (ci := 11) (k := 14) (t := 0) (v := h 0 14) (mf_dat eX11_image_p1 7 rfl) fl_X11_300 rfl (by decide) rfl rfl is0 ?_
  refine mf_icmp_ge (tgt := 158) (mf_dat eX11_image_p1 8 rfl) (by decide) (fun hc => ?_) (fun hc => ?_)
  · replace hyp := hyp.1 hc
    refine mf_aload_n (mf_dat eX11_image_p1 23 rfl) rfl rfl ?_
    refine mf_iload_n (mf_dat eX11_image_p1 24 rfl) rfl rfl ?_
    refine mf_callV (Yc := YX11_addOctet) (r := (RX11, TX11, 20)) (ci := 11) (mf_dat eX11_image_p1 25 rfl) ml_X11_309 okX11_addOctet im_X11_addOctet sl_X11_addOctet rfl rfl rfl rfl (Nat.le_of_ble_eq_true rfl) (mf_rr (Nat.le_trans (by decide) hd) (Nat.le_refl _)) (Nat.le_refl _) is0 (hyp hG) (fun r1 g2 h3 hyp => ?_)
    obtain ⟨hG, hyp⟩ := hyp
    refine mf_aload_n (mf_dat eX11_image_p1 26 rfl) rfl rfl ?_
    refine mf_getf (r := (RX11, TX11, 20)) (ci := 11) (k := 14) (t := 0) (v := h3 0 14) (mf_dat eX11_image_p1 27 rfl) fl_X11_300 rfl (by decide) rfl rfl is0 ?_
    exact mf_ireturn (mf_dat eX11_image_p1 28 rfl) rfl (Or.inl rfl) ⟨hG, hyp⟩
  · replace hyp := hyp.2 hc
    refine mf_iload_n (mf_dat eX11_image_p1 9 rfl) rfl rfl ?_
    refine mf_aload_n (mf_dat eX11_image_p1 10 rfl) rfl rfl ?_
    refine mf_getf (r := (RX11, TX11, 20)) (ci := 11) (k := 11) (t := 2) (v := 244) (mf_dat eX11_image_p1 11 rfl) fl_X11_97 rfl (by decide) rfl (gx_0_11 hG) is0 ?_
    refine mf_alen (c := 20) (i := 0) (ty := .int) (v := 57) (mf_dat eX11_image_p1 12 rfl) (by decide) rfl is244 len244 (mf_len_small _) ?_
    refine mf_icmp_ge (tgt := 158) (mf_dat eX11_image_p1 13 rfl) (by decide) (fun hc => ?_) (fun hc => ?_)
    · replace hyp := hyp.1 hc
      refine mf_aload_n (mf_dat eX11_image_p1 23 rfl) rfl rfl ?_
      refine mf_iload_n (mf_dat eX11_image_p1 24 rfl) rfl rfl ?_
      refine mf_callV (Yc := YX11_addOctet) (r := (RX11, TX11, 20)) (ci := 11) (mf_dat eX11_image_p1 25 rfl) ml_X11_309 okX11_addOctet im_X11_addOctet sl_X11_addOctet rfl rfl rfl rfl (Nat.le_of_ble_eq_true rfl) (mf_rr (Nat.le_trans (by decide) hd) (Nat.le_refl _)) (Nat.le_refl _) is0 (hyp hG) (fun r4 g5 h6 hyp => ?_)
      obtain ⟨hG, hyp⟩ := hyp
      refine mf_aload_n (mf_dat eX11_image_p1 26 rfl) rfl rfl ?_
      refine mf_getf (r := (RX11, TX11, 20)) (ci := 11) (k := 14) (t := 0) (v := h6 0 14) (mf_dat eX11_image_p1 27 rfl) fl_X11_300 rfl (by decide) rfl rfl is0 ?_
      exact mf_ireturn (mf_dat eX11_image_p1 28 rfl) rfl (Or.inl rfl) ⟨hG, hyp⟩
    · replace hyp := hyp.2 hc
      refine mf_iload_n (mf_dat eX11_image_p1 14 rfl) rfl rfl ?_
      refine mf_aload_n (mf_dat eX11_image_p1 15 rfl) rfl rfl ?_
      refine mf_getf (r := (RX11, TX11, 20)) (ci := 11) (k := 11) (t := 2) (v := 244) (mf_dat eX11_image_p1 16 rfl) fl_X11_97 rfl (by decide) rfl (gx_0_11 hG) is0 ?_
      refine mf_iload_n (mf_dat eX11_image_p1 17 rfl) rfl rfl ?_
      obtain ⟨ck7, hyp⟩ := hyp
      obtain ⟨ck8, hyp⟩ := hyp
      refine mf_iald (mf_dat eX11_image_p1 18 rfl) is244 len244 ck7 ck8 ?_
      refine mf_callS (Yc := YX8_nextCheck) (mf_dat eX11_image_p1 19 rfl) ml_X11_312 okX8_nextCheck sm_X8_nextCheck rfl rfl (Nat.le_of_ble_eq_true rfl) (mf_rr (Nat.le_trans (by decide) hd) (Nat.le_refl _)) (Nat.le_refl _) (hyp hG) (fun r9 g10 h11 hyp => ?_)
      obtain ⟨hG, hyp⟩ := hyp
      refine mf_istore_n (mf_dat eX11_image_p1 20 rfl) rfl (by decide) ?_
      refine mf_iinc (mf_dat eX11_image_p1 21 rfl) rfl (by decide) (by decide) ?_
      generalize qv12 : mf_w32 (x2 + 1) = v12
      replace hyp := hyp _ qv12.symm
      refine mf_goto (tgt := 124) (mf_dat eX11_image_p1 22 rfl) (by decide) ?_
      exact mf_sub [2, 1, 0] rfl (hyp hG)
set_option maxRecDepth 100000 in
set_option maxHeartbeats 4000000 in
theorem wX11_image {C : mf_G} {l : Launch} {d : Nat} {K : mf_Kt} {g h : mf_M} (hd : 2 ≤ d) (hyp : (∀ h1 : mf_M, h1 = mf_up h 0 14 0 → xM C l 1 YX11_addOctets [(2, 0), (0, h1 88 7)] g h1 (fun r2 g3 h4 => BX11_image_18 C l d K 0 g3 h4))) : xM C l d YX11_image [(2, 0)] g h K := by
  intro hG
  refine mf_entry (by decide) (Nat.le_of_ble_eq_true rfl) ?_
  refine mf_aload_n (mf_dat eX11_image_p0 0 rfl) rfl rfl ?_
  refine mf_iconst (v := 0) (mf_dat eX11_image_p0 1 rfl) (by decide) ?_
  refine mf_putI (r := (RX11, TX11, 20)) (ci := 11) (k := 14) (kI := 14) (t := 0) (mf_dat eX11_image_p0 2 rfl) fl_X11_300 rfl rfl (by decide) rfl (by decide) rfl (by decide) (fun h9 => absurd h9 (by decide)) is0 ?_
  generalize qh1 : mf_up h 0 14 0 = h1
  replace hyp := hyp _ qh1.symm
  refine mf_aload_n (mf_dat eX11_image_p0 3 rfl) rfl rfl ?_
  refine mf_aload_n (mf_dat eX11_image_p0 4 rfl) rfl rfl ?_
  refine mf_getf (r := (RX11, TX11, 20)) (ci := 11) (k := 7) (t := 2) (v := 88) (mf_dat eX11_image_p0 5 rfl) fl_X11_82 rfl (by decide) rfl (gx_0_7 hG) is0 ?_
  refine mf_getf (r := (RX6, TX6, 8)) (ci := 6) (k := 7) (t := 0) (v := h1 88 7) (mf_dat eX11_image_p0 6 rfl) fl_X11_156 rfl (by decide) rfl rfl is88 ?_
  refine mf_callV (Yc := YX11_addOctets) (r := (RX11, TX11, 20)) (ci := 11) (mf_dat eX11_image_p0 7 rfl) ml_X11_303 okX11_addOctets im_X11_addOctets sl_X11_addOctets rfl rfl rfl rfl (Nat.le_of_ble_eq_true rfl) (mf_rr (Nat.le_trans (by decide) hd) (Nat.le_refl _)) (Nat.le_refl _) is0 (hyp hG) (fun r2 g3 h4 hyp => ?_)
  obtain ⟨hG, hyp⟩ := hyp
  refine mf_iconst (v := 0) (mf_dat eX11_image_p0 8 rfl) (by decide) ?_
  refine mf_istore_n (mf_dat eX11_image_p0 9 rfl) rfl (by decide) ?_
  exact mf_sub [1, 0] rfl (hyp hG)
set_option maxRecDepth 100000 in
set_option maxHeartbeats 4000000 in
theorem wX11_octet {C : mf_G} {l : Launch} {d : Nat} {K : mf_Kt} {x1 : Int} {g h : mf_M} (hyp : ((x1 < 0 → K (-1) g h) ∧ (¬ x1 < 0 → ((h 0 14 ≤ x1 → K (-1) g h) ∧ (¬ h 0 14 ≤ x1 → ((x1 < 57 → 0 ≤ x1 ∧ x1 < 57 ∧ K (h 244 x1) g h) ∧ (¬ x1 < 57 → K (-1) g h))))))) : xM C l d YX11_octet [(2, 0), (0, x1)] g h K := by
  intro hG
  refine mf_entry (by decide) (Nat.le_of_ble_eq_true rfl) ?_
  refine mf_iload_n (mf_dat eX11_octet 0 rfl) rfl rfl ?_
  refine mf_if_lt (tgt := 21) (mf_dat eX11_octet 1 rfl) (by decide) (fun hc => ?_) (fun hc => ?_)
  · replace hyp := hyp.1 hc
    refine mf_iconst (v := (-1)) (mf_dat eX11_octet 11 rfl) (by decide) ?_
    refine mf_goto (tgt := 31) (mf_dat eX11_octet 12 rfl) (by decide) ?_
    exact mf_ireturn (mf_dat eX11_octet 17 rfl) rfl (Or.inl rfl) ⟨hG, hyp⟩
  · replace hyp := hyp.2 hc
    refine mf_iload_n (mf_dat eX11_octet 2 rfl) rfl rfl ?_
    refine mf_aload_n (mf_dat eX11_octet 3 rfl) rfl rfl ?_
    refine mf_getf (r := (RX11, TX11, 20)) (ci := 11) (k := 14) (t := 0) (v := h 0 14) (mf_dat eX11_octet 4 rfl) fl_X11_300 rfl (by decide) rfl rfl is0 ?_
    refine mf_icmp_ge (tgt := 21) (mf_dat eX11_octet 5 rfl) (by decide) (fun hc => ?_) (fun hc => ?_)
    · replace hyp := hyp.1 hc
      refine mf_iconst (v := (-1)) (mf_dat eX11_octet 11 rfl) (by decide) ?_
      refine mf_goto (tgt := 31) (mf_dat eX11_octet 12 rfl) (by decide) ?_
      exact mf_ireturn (mf_dat eX11_octet 17 rfl) rfl (Or.inl rfl) ⟨hG, hyp⟩
    · replace hyp := hyp.2 hc
      refine mf_iload_n (mf_dat eX11_octet 6 rfl) rfl rfl ?_
      refine mf_aload_n (mf_dat eX11_octet 7 rfl) rfl rfl ?_
      refine mf_getf (r := (RX11, TX11, 20)) (ci := 11) (k := 11) (t := 2) (v := 244) (mf_dat eX11_octet 8 rfl) fl_X11_97 rfl (by decide) rfl (gx_0_11 hG) is0 ?_
      refine mf_alen (c := 20) (i := 0) (ty := .int) (v := 57) (mf_dat eX11_octet 9 rfl) (by decide) rfl is244 len244 (mf_len_small _) ?_
      refine mf_icmp_lt (tgt := 25) (mf_dat eX11_octet 10 rfl) (by decide) (fun hc => ?_) (fun hc => ?_)
      · replace hyp := hyp.1 hc
        refine mf_aload_n (mf_dat eX11_octet 13 rfl) rfl rfl ?_
        refine mf_getf (r := (RX11, TX11, 20)) (ci := 11) (k := 11) (t := 2) (v := 244) (mf_dat eX11_octet 14 rfl) fl_X11_97 rfl (by decide) rfl (gx_0_11 hG) is0 ?_
        refine mf_iload_n (mf_dat eX11_octet 15 rfl) rfl rfl ?_
        obtain ⟨ck1, hyp⟩ := hyp
        obtain ⟨ck2, hyp⟩ := hyp
        refine mf_iald (mf_dat eX11_octet 16 rfl) is244 len244 ck1 ck2 ?_
        exact mf_ireturn (mf_dat eX11_octet 17 rfl) rfl (Or.inl rfl) ⟨hG, hyp⟩
      · replace hyp := hyp.2 hc
        refine mf_iconst (v := (-1)) (mf_dat eX11_octet 11 rfl) (by decide) ?_
        refine mf_goto (tgt := 31) (mf_dat eX11_octet 12 rfl) (by decide) ?_
        exact mf_ireturn (mf_dat eX11_octet 17 rfl) rfl (Or.inl rfl) ⟨hG, hyp⟩
abbrev BX11_on_33 (C : mf_G) (l : Launch) (d : Nat) (K : mf_Kt) (s0 : Int) (g h : mf_M) : Prop := jX C l d YX11_on K 33 [(0, (2, 0))] [(0, s0)] g h
set_option maxRecDepth 100000 in
set_option maxHeartbeats 4000000 in
theorem vX11_on_33 {C : mf_G} {l : Launch} {d : Nat} {K : mf_Kt} {s0 : Int} {g h : mf_M} (hd : 3 ≤ d) (hyp : (∀ h1 : mf_M, h1 = mf_up h 3 1 0 → ((¬ s0 = 0 → xM C l 2 YX6_copyAll [(2, 88), (2, 95)] g h1 (fun r2 g3 h4 => (∀ h5 : mf_M, h5 = mf_up h4 0 15 0 → K 1 g3 h5))) ∧ (s0 = 0 → (∀ h6 : mf_M, h6 = mf_up h1 243 5 (mf_w32 ((h1 243 5) + 1)) → K 0 g h6))))) : BX11_on_33 C l d K s0 g h := by
  intro hG
  refine mf_istore_n (mf_dat eX11_on 15 rfl) rfl (by decide) ?_
  refine mf_aload_n (mf_dat eX11_on 16 rfl) rfl rfl ?_
  refine mf_getf (r := (RX11, TX11, 20)) (ci := 11) (k := 0) (t := 2) (v := 3) (mf_dat eX11_on 17 rfl) fl_X11_15 rfl (by decide) rfl (gx_0_0 hG) is0 ?_
  refine mf_iconst (v := 0) (mf_dat eX11_on 18 rfl) (by decide) ?_
  refine mf_putI (r := (RX8, TX8, 2)) (ci := 8) (k := 1) (kI := 1) (t := 0) (mf_dat eX11_on 19 rfl) fl_X11_107 rfl rfl (by decide) rfl (by decide) rfl (by decide) (fun h9 => absurd h9 (by decide)) is3 ?_
  generalize qh1 : mf_up h 3 1 0 = h1
  replace hyp := hyp _ qh1.symm
  refine mf_iload_n (mf_dat eX11_on 20 rfl) rfl rfl ?_
  refine mf_if_ne (tgt := 58) (mf_dat eX11_on 21 rfl) (by decide) (fun hc => ?_) (fun hc => ?_)
  · replace hyp := hyp.1 hc
    refine mf_aload_n (mf_dat eX11_on 32 rfl) rfl rfl ?_
    refine mf_getf (r := (RX11, TX11, 20)) (ci := 11) (k := 7) (t := 2) (v := 88) (mf_dat eX11_on 33 rfl) fl_X11_82 rfl (by decide) rfl (gx_0_7 hG) is0 ?_
    refine mf_aload_n (mf_dat eX11_on 34 rfl) rfl rfl ?_
    refine mf_getf (r := (RX11, TX11, 20)) (ci := 11) (k := 8) (t := 2) (v := 95) (mf_dat eX11_on 35 rfl) fl_X11_86 rfl (by decide) rfl (gx_0_8 hG) is0 ?_
    refine mf_callV (Yc := YX6_copyAll) (r := (RX6, TX6, 8)) (ci := 6) (mf_dat eX11_on 36 rfl) ml_X11_127 okX6_copyAll im_X6_copyAll sl_X6_copyAll rfl rfl rfl rfl (Nat.le_of_ble_eq_true rfl) (mf_rr (Nat.le_trans (by decide) hd) (Nat.le_refl _)) (Nat.le_refl _) is88 (hyp hG) (fun r2 g3 h4 hyp => ?_)
    obtain ⟨hG, hyp⟩ := hyp
    refine mf_aload_n (mf_dat eX11_on 37 rfl) rfl rfl ?_
    refine mf_iconst (v := 0) (mf_dat eX11_on 38 rfl) (by decide) ?_
    refine mf_putI (r := (RX11, TX11, 20)) (ci := 11) (k := 15) (kI := 15) (t := 0) (mf_dat eX11_on 39 rfl) fl_X11_134 rfl rfl (by decide) rfl (by decide) rfl (by decide) (fun h9 => absurd h9 (by decide)) is0 ?_
    generalize qh5 : mf_up h4 0 15 0 = h5
    replace hyp := hyp _ qh5.symm
    refine mf_iconst (v := 1) (mf_dat eX11_on 40 rfl) (by decide) ?_
    exact mf_ireturn (mf_dat eX11_on 41 rfl) rfl (Or.inr ⟨rfl, by decide⟩) ⟨hG, hyp⟩
  · replace hyp := hyp.2 hc
    refine mf_aload_n (mf_dat eX11_on 22 rfl) rfl rfl ?_
    refine mf_getf (r := (RX11, TX11, 20)) (ci := 11) (k := 10) (t := 2) (v := 243) (mf_dat eX11_on 23 rfl) fl_X11_93 rfl (by decide) rfl (gx_0_10 hG) is0 ?_
    refine mf_iconst (v := 5) (mf_dat eX11_on 24 rfl) (by decide) ?_
    refine mf_dup2 (mf_dat eX11_on 25 rfl) (by decide) (by decide) ?_
    refine mf_iald (mf_dat eX11_on 26 rfl) is243 len243 (by decide) (by decide) ?_
    refine mf_iconst (v := 1) (mf_dat eX11_on 27 rfl) (by decide) ?_
    refine mf_iadd (mf_dat eX11_on 28 rfl) ?_
    refine mf_iast (mf_dat eX11_on 29 rfl) is243 len243 (by decide) (by decide) ?_
    generalize qh6 : mf_up h1 243 5 (mf_w32 ((h1 243 5) + 1)) = h6
    replace hyp := hyp _ qh6.symm
    refine mf_iconst (v := 0) (mf_dat eX11_on 30 rfl) (by decide) ?_
    exact mf_ireturn (mf_dat eX11_on 31 rfl) rfl (Or.inr ⟨rfl, by decide⟩) ⟨hG, hyp⟩
set_option maxRecDepth 100000 in
set_option maxHeartbeats 4000000 in
theorem wX11_on {C : mf_G} {l : Launch} {d : Nat} {K : mf_Kt} {g h : mf_M} (hd : 4 ≤ d) (hyp : mf_is 319 (g 0 12) 1 ∧ ((h (g 0 12) 8 ≤ 0 → BX11_on_33 C l d K 0 g h) ∧ (¬ h (g 0 12) 8 ≤ 0 → xM C l 3 YX6_takeImage [(2, 95), (2, g 0 12), (2, 3)] g h (fun r2 g3 h4 => ((r2 = 0 → BX11_on_33 C l d K 0 g3 h4) ∧ (¬ r2 = 0 → BX11_on_33 C l d K 1 g3 h4)))))) : xM C l d YX11_on [(2, 0)] g h K := by
  intro hG
  refine mf_entry (by decide) (Nat.le_of_ble_eq_true rfl) ?_
  refine mf_aload_n (mf_dat eX11_on 0 rfl) rfl rfl ?_
  refine mf_getf (r := (RX11, TX11, 20)) (ci := 11) (k := 12) (t := 2) (v := g 0 12) (mf_dat eX11_on 1 rfl) fl_X11_47 rfl (by decide) rfl rfl is0 ?_
  obtain ⟨ck1, hyp⟩ := hyp
  refine mf_getf (r := (RX1, TX1, 14)) (ci := 1) (k := 8) (t := 0) (v := h (g 0 12) 8) (mf_dat eX11_on 2 rfl) fl_X11_140 rfl (by decide) rfl rfl ck1 ?_
  refine mf_if_le (tgt := 32) (mf_dat eX11_on 3 rfl) (by decide) (fun hc => ?_) (fun hc => ?_)
  · replace hyp := hyp.1 hc
    refine mf_iconst (v := 0) (mf_dat eX11_on 14 rfl) (by decide) ?_
    exact mf_sub [0] rfl (hyp hG)
  · replace hyp := hyp.2 hc
    refine mf_aload_n (mf_dat eX11_on 4 rfl) rfl rfl ?_
    refine mf_getf (r := (RX11, TX11, 20)) (ci := 11) (k := 8) (t := 2) (v := 95) (mf_dat eX11_on 5 rfl) fl_X11_86 rfl (by decide) rfl (gx_0_8 hG) is0 ?_
    refine mf_aload_n (mf_dat eX11_on 6 rfl) rfl rfl ?_
    refine mf_getf (r := (RX11, TX11, 20)) (ci := 11) (k := 12) (t := 2) (v := g 0 12) (mf_dat eX11_on 7 rfl) fl_X11_47 rfl (by decide) rfl rfl is0 ?_
    refine mf_aload_n (mf_dat eX11_on 8 rfl) rfl rfl ?_
    refine mf_getf (r := (RX11, TX11, 20)) (ci := 11) (k := 0) (t := 2) (v := 3) (mf_dat eX11_on 9 rfl) fl_X11_15 rfl (by decide) rfl (gx_0_0 hG) is0 ?_
    refine mf_callV (Yc := YX6_takeImage) (r := (RX6, TX6, 8)) (ci := 6) (mf_dat eX11_on 10 rfl) ml_X11_315 okX6_takeImage im_X6_takeImage sl_X6_takeImage rfl rfl rfl rfl (Nat.le_of_ble_eq_true rfl) (mf_rr (Nat.le_trans (by decide) hd) (Nat.le_refl _)) (Nat.le_refl _) is95 (hyp hG) (fun r2 g3 h4 hyp => ?_)
    obtain ⟨hG, hyp⟩ := hyp
    refine mf_if_eq (tgt := 32) (mf_dat eX11_on 11 rfl) (by decide) (fun hc => ?_) (fun hc => ?_)
    · replace hyp := hyp.1 hc
      refine mf_iconst (v := 0) (mf_dat eX11_on 14 rfl) (by decide) ?_
      exact mf_sub [0] rfl (hyp hG)
    · replace hyp := hyp.2 hc
      refine mf_iconst (v := 1) (mf_dat eX11_on 12 rfl) (by decide) ?_
      refine mf_goto (tgt := 33) (mf_dat eX11_on 13 rfl) (by decide) ?_
      exact mf_sub [0] rfl (hyp hG)
set_option maxRecDepth 100000 in
set_option maxHeartbeats 4000000 in
theorem wX11_status {C : mf_G} {l : Launch} {d : Nat} {K : mf_Kt} {x1 : Int} {g h : mf_M} (hyp : ((x1 < 0 → K (-1) g h) ∧ (¬ x1 < 0 → ((x1 < 6 → 0 ≤ x1 ∧ x1 < 6 ∧ K (h 243 x1) g h) ∧ (¬ x1 < 6 → K (-1) g h))))) : xM C l d YX11_status [(2, 0), (0, x1)] g h K := by
  intro hG
  refine mf_entry (by decide) (Nat.le_of_ble_eq_true rfl) ?_
  refine mf_iload_n (mf_dat eX11_status 0 rfl) rfl rfl ?_
  refine mf_if_lt (tgt := 13) (mf_dat eX11_status 1 rfl) (by decide) (fun hc => ?_) (fun hc => ?_)
  · replace hyp := hyp.1 hc
    refine mf_iconst (v := (-1)) (mf_dat eX11_status 7 rfl) (by decide) ?_
    refine mf_goto (tgt := 23) (mf_dat eX11_status 8 rfl) (by decide) ?_
    exact mf_ireturn (mf_dat eX11_status 13 rfl) rfl (Or.inl rfl) ⟨hG, hyp⟩
  · replace hyp := hyp.2 hc
    refine mf_iload_n (mf_dat eX11_status 2 rfl) rfl rfl ?_
    refine mf_aload_n (mf_dat eX11_status 3 rfl) rfl rfl ?_
    refine mf_getf (r := (RX11, TX11, 20)) (ci := 11) (k := 10) (t := 2) (v := 243) (mf_dat eX11_status 4 rfl) fl_X11_93 rfl (by decide) rfl (gx_0_10 hG) is0 ?_
    refine mf_alen (c := 20) (i := 0) (ty := .int) (v := 6) (mf_dat eX11_status 5 rfl) (by decide) rfl is243 len243 (mf_len_small _) ?_
    refine mf_icmp_lt (tgt := 17) (mf_dat eX11_status 6 rfl) (by decide) (fun hc => ?_) (fun hc => ?_)
    · replace hyp := hyp.1 hc
      refine mf_aload_n (mf_dat eX11_status 9 rfl) rfl rfl ?_
      refine mf_getf (r := (RX11, TX11, 20)) (ci := 11) (k := 10) (t := 2) (v := 243) (mf_dat eX11_status 10 rfl) fl_X11_93 rfl (by decide) rfl (gx_0_10 hG) is0 ?_
      refine mf_iload_n (mf_dat eX11_status 11 rfl) rfl rfl ?_
      obtain ⟨ck1, hyp⟩ := hyp
      obtain ⟨ck2, hyp⟩ := hyp
      refine mf_iald (mf_dat eX11_status 12 rfl) is243 len243 ck1 ck2 ?_
      exact mf_ireturn (mf_dat eX11_status 13 rfl) rfl (Or.inl rfl) ⟨hG, hyp⟩
    · replace hyp := hyp.2 hc
      refine mf_iconst (v := (-1)) (mf_dat eX11_status 7 rfl) (by decide) ?_
      refine mf_goto (tgt := 23) (mf_dat eX11_status 8 rfl) (by decide) ?_
      exact mf_ireturn (mf_dat eX11_status 13 rfl) rfl (Or.inl rfl) ⟨hG, hyp⟩
set_option maxRecDepth 100000 in
set_option maxHeartbeats 4000000 in
theorem wX11_takeFault {C : mf_G} {l : Launch} {d : Nat} {K : mf_Kt} {g h : mf_M} (hyp : (∀ h1 : mf_M, h1 = mf_up h 0 17 (h 5 8) → ((¬ h1 0 17 = 0 → (∀ h2 : mf_M, h2 = mf_up h1 0 18 (h1 5 9) → (∀ h3 : mf_M, h3 = mf_up h2 3 1 0 → K 0 g h3))) ∧ (h1 0 17 = 0 → (∀ h4 : mf_M, h4 = mf_up h1 0 18 (-1) → (∀ h5 : mf_M, h5 = mf_up h4 3 1 0 → K 0 g h5)))))) : xM C l d YX11_takeFault [(2, 0)] g h K := by
  intro hG
  refine mf_entry (by decide) (Nat.le_of_ble_eq_true rfl) ?_
  refine mf_aload_n (mf_dat eX11_takeFault 0 rfl) rfl rfl ?_
  refine mf_aload_n (mf_dat eX11_takeFault 1 rfl) rfl rfl ?_
  refine mf_getf (r := (RX11, TX11, 20)) (ci := 11) (k := 1) (t := 2) (v := 5) (mf_dat eX11_takeFault 2 rfl) fl_X11_24 rfl (by decide) rfl (gx_0_1 hG) is0 ?_
  refine mf_getf (r := (RX9, TX9, 10)) (ci := 9) (k := 8) (t := 0) (v := h 5 8) (mf_dat eX11_takeFault 3 rfl) fl_X11_318 rfl (by decide) rfl rfl is5 ?_
  refine mf_putI (r := (RX11, TX11, 20)) (ci := 11) (k := 17) (kI := 17) (t := 0) (mf_dat eX11_takeFault 4 rfl) fl_X11_121 rfl rfl (by decide) rfl (by decide) rfl (by decide) (fun h9 => absurd h9 (by decide)) is0 ?_
  generalize qh1 : mf_up h 0 17 (h 5 8) = h1
  replace hyp := hyp _ qh1.symm
  refine mf_aload_n (mf_dat eX11_takeFault 5 rfl) rfl rfl ?_
  refine mf_aload_n (mf_dat eX11_takeFault 6 rfl) rfl rfl ?_
  refine mf_getf (r := (RX11, TX11, 20)) (ci := 11) (k := 17) (t := 0) (v := h1 0 17) (mf_dat eX11_takeFault 7 rfl) fl_X11_121 rfl (by decide) rfl rfl is0 ?_
  refine mf_if_ne (tgt := 23) (mf_dat eX11_takeFault 8 rfl) (by decide) (fun hc => ?_) (fun hc => ?_)
  · replace hyp := hyp.1 hc
    refine mf_aload_n (mf_dat eX11_takeFault 11 rfl) rfl rfl ?_
    refine mf_getf (r := (RX11, TX11, 20)) (ci := 11) (k := 1) (t := 2) (v := 5) (mf_dat eX11_takeFault 12 rfl) fl_X11_24 rfl (by decide) rfl (gx_0_1 hG) is0 ?_
    refine mf_getf (r := (RX9, TX9, 10)) (ci := 9) (k := 9) (t := 0) (v := h1 5 9) (mf_dat eX11_takeFault 13 rfl) fl_X11_319 rfl (by decide) rfl rfl is5 ?_
    refine mf_putI (r := (RX11, TX11, 20)) (ci := 11) (k := 18) (kI := 18) (t := 0) (mf_dat eX11_takeFault 14 rfl) fl_X11_100 rfl rfl (by decide) rfl (by decide) rfl (by decide) (fun h9 => absurd h9 (by decide)) is0 ?_
    generalize qh2 : mf_up h1 0 18 (h1 5 9) = h2
    replace hyp := hyp _ qh2.symm
    refine mf_aload_n (mf_dat eX11_takeFault 15 rfl) rfl rfl ?_
    refine mf_getf (r := (RX11, TX11, 20)) (ci := 11) (k := 0) (t := 2) (v := 3) (mf_dat eX11_takeFault 16 rfl) fl_X11_15 rfl (by decide) rfl (gx_0_0 hG) is0 ?_
    refine mf_iconst (v := 0) (mf_dat eX11_takeFault 17 rfl) (by decide) ?_
    refine mf_putI (r := (RX8, TX8, 2)) (ci := 8) (k := 1) (kI := 1) (t := 0) (mf_dat eX11_takeFault 18 rfl) fl_X11_107 rfl rfl (by decide) rfl (by decide) rfl (by decide) (fun h9 => absurd h9 (by decide)) is3 ?_
    generalize qh3 : mf_up h2 3 1 0 = h3
    replace hyp := hyp _ qh3.symm
    exact mf_return (mf_dat eX11_takeFault 19 rfl) rfl ⟨hG, hyp⟩
  · replace hyp := hyp.2 hc
    refine mf_iconst (v := (-1)) (mf_dat eX11_takeFault 9 rfl) (by decide) ?_
    refine mf_goto (tgt := 30) (mf_dat eX11_takeFault 10 rfl) (by decide) ?_
    refine mf_putI (r := (RX11, TX11, 20)) (ci := 11) (k := 18) (kI := 18) (t := 0) (mf_dat eX11_takeFault 14 rfl) fl_X11_100 rfl rfl (by decide) rfl (by decide) rfl (by decide) (fun h9 => absurd h9 (by decide)) is0 ?_
    generalize qh4 : mf_up h1 0 18 (-1) = h4
    replace hyp := hyp _ qh4.symm
    refine mf_aload_n (mf_dat eX11_takeFault 15 rfl) rfl rfl ?_
    refine mf_getf (r := (RX11, TX11, 20)) (ci := 11) (k := 0) (t := 2) (v := 3) (mf_dat eX11_takeFault 16 rfl) fl_X11_15 rfl (by decide) rfl (gx_0_0 hG) is0 ?_
    refine mf_iconst (v := 0) (mf_dat eX11_takeFault 17 rfl) (by decide) ?_
    refine mf_putI (r := (RX8, TX8, 2)) (ci := 8) (k := 1) (kI := 1) (t := 0) (mf_dat eX11_takeFault 18 rfl) fl_X11_107 rfl rfl (by decide) rfl (by decide) rfl (by decide) (fun h9 => absurd h9 (by decide)) is3 ?_
    generalize qh5 : mf_up h4 3 1 0 = h5
    replace hyp := hyp _ qh5.symm
    exact mf_return (mf_dat eX11_takeFault 19 rfl) rfl ⟨hG, hyp⟩
set_option maxRecDepth 100000 in
set_option maxHeartbeats 4000000 in
theorem wX11_isBeing {C : mf_G} {l : Launch} {d : Nat} {K : mf_Kt} {x1 : Int} {g h : mf_M} (hyp : ((x1 < 0 → K 0 g h) ∧ (¬ x1 < 0 → mf_is 319 (g 0 12) 1 ∧ ((h (g 0 12) 12 ≤ x1 → K 0 g h) ∧ (¬ h (g 0 12) 12 ≤ x1 → K 1 g h))))) : xM C l d YX11_isBeing [(2, 0), (0, x1)] g h K := by
  intro hG
  refine mf_entry (by decide) (Nat.le_of_ble_eq_true rfl) ?_
  refine mf_iload_n (mf_dat eX11_isBeing 0 rfl) rfl rfl ?_
  refine mf_if_lt (tgt := 19) (mf_dat eX11_isBeing 1 rfl) (by decide) (fun hc => ?_) (fun hc => ?_)
  · replace hyp := hyp.1 hc
    refine mf_iconst (v := 0) (mf_dat eX11_isBeing 9 rfl) (by decide) ?_
    exact mf_ireturn (mf_dat eX11_isBeing 10 rfl) rfl (Or.inr ⟨rfl, by decide⟩) ⟨hG, hyp⟩
  · replace hyp := hyp.2 hc
    refine mf_iload_n (mf_dat eX11_isBeing 2 rfl) rfl rfl ?_
    refine mf_aload_n (mf_dat eX11_isBeing 3 rfl) rfl rfl ?_
    refine mf_getf (r := (RX11, TX11, 20)) (ci := 11) (k := 12) (t := 2) (v := g 0 12) (mf_dat eX11_isBeing 4 rfl) fl_X11_47 rfl (by decide) rfl rfl is0 ?_
    obtain ⟨ck1, hyp⟩ := hyp
    refine mf_getf (r := (RX1, TX1, 14)) (ci := 1) (k := 12) (t := 0) (v := h (g 0 12) 12) (mf_dat eX11_isBeing 5 rfl) fl_X11_153 rfl (by decide) rfl rfl ck1 ?_
    refine mf_icmp_ge (tgt := 19) (mf_dat eX11_isBeing 6 rfl) (by decide) (fun hc => ?_) (fun hc => ?_)
    · replace hyp := hyp.1 hc
      refine mf_iconst (v := 0) (mf_dat eX11_isBeing 9 rfl) (by decide) ?_
      exact mf_ireturn (mf_dat eX11_isBeing 10 rfl) rfl (Or.inr ⟨rfl, by decide⟩) ⟨hG, hyp⟩
    · replace hyp := hyp.2 hc
      refine mf_iconst (v := 1) (mf_dat eX11_isBeing 7 rfl) (by decide) ?_
      refine mf_goto (tgt := 20) (mf_dat eX11_isBeing 8 rfl) (by decide) ?_
      exact mf_ireturn (mf_dat eX11_isBeing 10 rfl) rfl (Or.inr ⟨rfl, by decide⟩) ⟨hG, hyp⟩
set_option maxRecDepth 100000 in
set_option maxHeartbeats 4000000 in
theorem wX11_isCell {C : mf_G} {l : Launch} {d : Nat} {K : mf_Kt} {x1 x2 : Int} {g h : mf_M} (hyp : ((x1 < 0 → K 0 g h) ∧ (¬ x1 < 0 → mf_is 319 (g 0 12) 1 ∧ ((h (g 0 12) 8 ≤ x1 → K 0 g h) ∧ (¬ h (g 0 12) 8 ≤ x1 → ((x2 < 0 → K 0 g h) ∧ (¬ x2 < 0 → ((h (g 0 12) 9 ≤ x2 → K 0 g h) ∧ (¬ h (g 0 12) 9 ≤ x2 → K 1 g h))))))))) : xM C l d YX11_isCell [(2, 0), (0, x1), (0, x2)] g h K := by
  intro hG
  refine mf_entry (by decide) (Nat.le_of_ble_eq_true rfl) ?_
  refine mf_iload_n (mf_dat eX11_isCell 0 rfl) rfl rfl ?_
  refine mf_if_lt (tgt := 34) (mf_dat eX11_isCell 1 rfl) (by decide) (fun hc => ?_) (fun hc => ?_)
  · replace hyp := hyp.1 hc
    refine mf_iconst (v := 0) (mf_dat eX11_isCell 16 rfl) (by decide) ?_
    exact mf_ireturn (mf_dat eX11_isCell 17 rfl) rfl (Or.inr ⟨rfl, by decide⟩) ⟨hG, hyp⟩
  · replace hyp := hyp.2 hc
    refine mf_iload_n (mf_dat eX11_isCell 2 rfl) rfl rfl ?_
    refine mf_aload_n (mf_dat eX11_isCell 3 rfl) rfl rfl ?_
    refine mf_getf (r := (RX11, TX11, 20)) (ci := 11) (k := 12) (t := 2) (v := g 0 12) (mf_dat eX11_isCell 4 rfl) fl_X11_47 rfl (by decide) rfl rfl is0 ?_
    obtain ⟨ck1, hyp⟩ := hyp
    refine mf_getf (r := (RX1, TX1, 14)) (ci := 1) (k := 8) (t := 0) (v := h (g 0 12) 8) (mf_dat eX11_isCell 5 rfl) fl_X11_140 rfl (by decide) rfl rfl ck1 ?_
    refine mf_icmp_ge (tgt := 34) (mf_dat eX11_isCell 6 rfl) (by decide) (fun hc => ?_) (fun hc => ?_)
    · replace hyp := hyp.1 hc
      refine mf_iconst (v := 0) (mf_dat eX11_isCell 16 rfl) (by decide) ?_
      exact mf_ireturn (mf_dat eX11_isCell 17 rfl) rfl (Or.inr ⟨rfl, by decide⟩) ⟨hG, hyp⟩
    · replace hyp := hyp.2 hc
      refine mf_iload_n (mf_dat eX11_isCell 7 rfl) rfl rfl ?_
      refine mf_if_lt (tgt := 34) (mf_dat eX11_isCell 8 rfl) (by decide) (fun hc => ?_) (fun hc => ?_)
      · replace hyp := hyp.1 hc
        refine mf_iconst (v := 0) (mf_dat eX11_isCell 16 rfl) (by decide) ?_
        exact mf_ireturn (mf_dat eX11_isCell 17 rfl) rfl (Or.inr ⟨rfl, by decide⟩) ⟨hG, hyp⟩
      · replace hyp := hyp.2 hc
        refine mf_iload_n (mf_dat eX11_isCell 9 rfl) rfl rfl ?_
        refine mf_aload_n (mf_dat eX11_isCell 10 rfl) rfl rfl ?_
        refine mf_getf (r := (RX11, TX11, 20)) (ci := 11) (k := 12) (t := 2) (v := g 0 12) (mf_dat eX11_isCell 11 rfl) fl_X11_47 rfl (by decide) rfl rfl is0 ?_
        refine mf_getf (r := (RX1, TX1, 14)) (ci := 1) (k := 9) (t := 0) (v := h (g 0 12) 9) (mf_dat eX11_isCell 12 rfl) fl_X11_143 rfl (by decide) rfl rfl ck1 ?_
        refine mf_icmp_ge (tgt := 34) (mf_dat eX11_isCell 13 rfl) (by decide) (fun hc => ?_) (fun hc => ?_)
        · replace hyp := hyp.1 hc
          refine mf_iconst (v := 0) (mf_dat eX11_isCell 16 rfl) (by decide) ?_
          exact mf_ireturn (mf_dat eX11_isCell 17 rfl) rfl (Or.inr ⟨rfl, by decide⟩) ⟨hG, hyp⟩
        · replace hyp := hyp.2 hc
          refine mf_iconst (v := 1) (mf_dat eX11_isCell 14 rfl) (by decide) ?_
          refine mf_goto (tgt := 35) (mf_dat eX11_isCell 15 rfl) (by decide) ?_
          exact mf_ireturn (mf_dat eX11_isCell 17 rfl) rfl (Or.inr ⟨rfl, by decide⟩) ⟨hG, hyp⟩
set_option maxRecDepth 100000 in
set_option maxHeartbeats 4000000 in
theorem wX11_canPass {C : mf_G} {l : Launch} {d : Nat} {K : mf_Kt} {x1 : Int} {g h : mf_M} (hyp : mf_is 319 (g 0 12) 1 ∧ ((h (g 0 12) 8 ≤ 0 → K 0 g h) ∧ (¬ h (g 0 12) 8 ≤ 0 → ((999 < mf_w32 ((h 88 7) + x1) → K 0 g h) ∧ (¬ 999 < mf_w32 ((h 88 7) + x1) → K 1 g h))))) : xM C l d YX11_canPass [(2, 0), (0, x1)] g h K := by
  intro hG
  refine mf_entry (by decide) (Nat.le_of_ble_eq_true rfl) ?_
  refine mf_aload_n (mf_dat eX11_canPass 0 rfl) rfl rfl ?_
  refine mf_getf (r := (RX11, TX11, 20)) (ci := 11) (k := 12) (t := 2) (v := g 0 12) (mf_dat eX11_canPass 1 rfl) fl_X11_47 rfl (by decide) rfl rfl is0 ?_
  obtain ⟨ck1, hyp⟩ := hyp
  refine mf_getf (r := (RX1, TX1, 14)) (ci := 1) (k := 8) (t := 0) (v := h (g 0 12) 8) (mf_dat eX11_canPass 2 rfl) fl_X11_140 rfl (by decide) rfl rfl ck1 ?_
  refine mf_if_le (tgt := 29) (mf_dat eX11_canPass 3 rfl) (by decide) (fun hc => ?_) (fun hc => ?_)
  · replace hyp := hyp.1 hc
    refine mf_iconst (v := 0) (mf_dat eX11_canPass 13 rfl) (by decide) ?_
    exact mf_ireturn (mf_dat eX11_canPass 14 rfl) rfl (Or.inr ⟨rfl, by decide⟩) ⟨hG, hyp⟩
  · replace hyp := hyp.2 hc
    refine mf_aload_n (mf_dat eX11_canPass 4 rfl) rfl rfl ?_
    refine mf_getf (r := (RX11, TX11, 20)) (ci := 11) (k := 7) (t := 2) (v := 88) (mf_dat eX11_canPass 5 rfl) fl_X11_82 rfl (by decide) rfl (gx_0_7 hG) is0 ?_
    refine mf_getf (r := (RX6, TX6, 8)) (ci := 6) (k := 7) (t := 0) (v := h 88 7) (mf_dat eX11_canPass 6 rfl) fl_X11_156 rfl (by decide) rfl rfl is88 ?_
    refine mf_iload_n (mf_dat eX11_canPass 7 rfl) rfl rfl ?_
    refine mf_iadd (mf_dat eX11_canPass 8 rfl) ?_
    refine mf_sipush (v := 999) (mf_dat eX11_canPass 9 rfl) (by decide) ?_
    refine mf_icmp_gt (tgt := 29) (mf_dat eX11_canPass 10 rfl) (by decide) (fun hc => ?_) (fun hc => ?_)
    · replace hyp := hyp.1 hc
      refine mf_iconst (v := 0) (mf_dat eX11_canPass 13 rfl) (by decide) ?_
      exact mf_ireturn (mf_dat eX11_canPass 14 rfl) rfl (Or.inr ⟨rfl, by decide⟩) ⟨hG, hyp⟩
    · replace hyp := hyp.2 hc
      refine mf_iconst (v := 1) (mf_dat eX11_canPass 11 rfl) (by decide) ?_
      refine mf_goto (tgt := 30) (mf_dat eX11_canPass 12 rfl) (by decide) ?_
      exact mf_ireturn (mf_dat eX11_canPass 14 rfl) rfl (Or.inr ⟨rfl, by decide⟩) ⟨hG, hyp⟩
abbrev BX11_allPurses_4 (C : mf_G) (l : Launch) (d : Nat) (K : mf_Kt) (x1 x2 : Int) (g h : mf_M) : Prop := jX C l d YX11_allPurses K 4 [(0, (2, 0)), (1, (0, x1)), (2, (0, x2))] [] g h
set_option maxRecDepth 100000 in
set_option maxHeartbeats 4000000 in
theorem vX11_allPurses_4 {C : mf_G} {l : Launch} {d : Nat} {K : mf_Kt} {x1 x2 : Int} {g h : mf_M} (hyp : mf_is 319 (g 0 12) 1 ∧ ((h (g 0 12) 12 ≤ x2 → K x1 g h) ∧ (¬ h (g 0 12) 12 ≤ x2 → 0 ≤ x2 ∧ x2 < 8 ∧ (∀ v4 : Int, v4 = mf_w32 (x1 + (h 92 x2)) → (∀ v5 : Int, v5 = mf_w32 (x2 + 1) → BX11_allPurses_4 C l d K v4 v5 g h))))) : BX11_allPurses_4 C l d K x1 x2 g h := by
  intro hG
  refine mf_iload_n (mf_dat eX11_allPurses 4 rfl) rfl rfl ?_
  refine mf_aload_n (mf_dat eX11_allPurses 5 rfl) rfl rfl ?_
  refine mf_getf (r := (RX11, TX11, 20)) (ci := 11) (k := 12) (t := 2) (v := g 0 12) (mf_dat eX11_allPurses 6 rfl) fl_X11_47 rfl (by decide) rfl rfl is0 ?_
  obtain ⟨ck1, hyp⟩ := hyp
  refine mf_getf (r := (RX1, TX1, 14)) (ci := 1) (k := 12) (t := 0) (v := h (g 0 12) 12) (mf_dat eX11_allPurses 7 rfl) fl_X11_153 rfl (by decide) rfl rfl ck1 ?_
  refine mf_icmp_ge (tgt := 33) (mf_dat eX11_allPurses 8 rfl) (by decide) (fun hc => ?_) (fun hc => ?_)
  · replace hyp := hyp.1 hc
    refine mf_iload_n (mf_dat eX11_allPurses 19 rfl) rfl rfl ?_
    exact mf_ireturn (mf_dat eX11_allPurses 20 rfl) rfl (Or.inl rfl) ⟨hG, hyp⟩
  · replace hyp := hyp.2 hc
    refine mf_iload_n (mf_dat eX11_allPurses 9 rfl) rfl rfl ?_
    refine mf_aload_n (mf_dat eX11_allPurses 10 rfl) rfl rfl ?_
    refine mf_getf (r := (RX11, TX11, 20)) (ci := 11) (k := 7) (t := 2) (v := 88) (mf_dat eX11_allPurses 11 rfl) fl_X11_82 rfl (by decide) rfl (gx_0_7 hG) is0 ?_
    refine mf_getf (r := (RX6, TX6, 8)) (ci := 6) (k := 3) (t := 2) (v := 92) (mf_dat eX11_allPurses 12 rfl) fl_X11_189 rfl (by decide) rfl (gs_3 hG is88) is88 ?_
    refine mf_iload_n (mf_dat eX11_allPurses 13 rfl) rfl rfl ?_
    obtain ⟨ck2, hyp⟩ := hyp
    obtain ⟨ck3, hyp⟩ := hyp
    refine mf_iald (mf_dat eX11_allPurses 14 rfl) is92 len92 ck2 ck3 ?_
    refine mf_iadd (mf_dat eX11_allPurses 15 rfl) ?_
    generalize qv4 : mf_w32 (x1 + (h 92 x2)) = v4
    replace hyp := hyp _ qv4.symm
    refine mf_istore_n (mf_dat eX11_allPurses 16 rfl) rfl (by decide) ?_
    refine mf_iinc (mf_dat eX11_allPurses 17 rfl) rfl (by decide) (by decide) ?_
    generalize qv5 : mf_w32 (x2 + 1) = v5
    replace hyp := hyp _ qv5.symm
    refine mf_goto (tgt := 4) (mf_dat eX11_allPurses 18 rfl) (by decide) ?_
    exact mf_sub [2, 1, 0] rfl (hyp hG)
set_option maxRecDepth 100000 in
set_option maxHeartbeats 4000000 in
theorem wX11_allPurses {C : mf_G} {l : Launch} {d : Nat} {K : mf_Kt} {g h : mf_M} (hyp : BX11_allPurses_4 C l d K 0 0 g h) : xM C l d YX11_allPurses [(2, 0)] g h K := by
  intro hG
  refine mf_entry (by decide) (Nat.le_of_ble_eq_true rfl) ?_
  refine mf_iconst (v := 0) (mf_dat eX11_allPurses 0 rfl) (by decide) ?_
  refine mf_istore_n (mf_dat eX11_allPurses 1 rfl) rfl (by decide) ?_
  refine mf_iconst (v := 0) (mf_dat eX11_allPurses 2 rfl) (by decide) ?_
  refine mf_istore_n (mf_dat eX11_allPurses 3 rfl) rfl (by decide) ?_
  exact mf_sub [2, 1, 0] rfl (hyp hG)
set_option maxRecDepth 100000 in
set_option maxHeartbeats 4000000 in
theorem wX11_leafUpon {C : mf_G} {l : Launch} {d : Nat} {K : mf_Kt} {x1 : Int} {g h : mf_M} (hd : 5 ≤ d) (hyp : xM C l 4 YX0_openingOf [(2, 46), (2, g 0 12), (0, h 88 7)] g h (fun r1 g2 h3 => xM C l 1 YX0_liesOnNext [(2, g2 0 12), (0, r1), (0, mf_w32 (x1 - 1))] g2 h3 (fun r4 g5 h6 => ((r4 = 0 → xM C l 1 YX0_liesOnNext [(2, g5 0 12), (0, r1), (0, x1)] g5 h6 (fun r7 g8 h9 => ((r7 = 0 → K (-1) g8 h9) ∧ (¬ r7 = 0 → K (mf_w32 (x1 + 1)) g8 h9)))) ∧ (¬ r4 = 0 → K (mf_w32 (x1 - 1)) g5 h6))))) : xM C l d YX11_leafUpon [(2, 0), (0, x1)] g h K := by
  intro hG
  refine mf_entry (by decide) (Nat.le_of_ble_eq_true rfl) ?_
  refine mf_aload_n (mf_dat eX11_leafUpon 0 rfl) rfl rfl ?_
  refine mf_getf (r := (RX11, TX11, 20)) (ci := 11) (k := 4) (t := 2) (v := 46) (mf_dat eX11_leafUpon 1 rfl) fl_X11_66 rfl (by decide) rfl (gx_0_4 hG) is0 ?_
  refine mf_aload_n (mf_dat eX11_leafUpon 2 rfl) rfl rfl ?_
  refine mf_getf (r := (RX11, TX11, 20)) (ci := 11) (k := 12) (t := 2) (v := g 0 12) (mf_dat eX11_leafUpon 3 rfl) fl_X11_47 rfl (by decide) rfl rfl is0 ?_
  refine mf_aload_n (mf_dat eX11_leafUpon 4 rfl) rfl rfl ?_
  refine mf_getf (r := (RX11, TX11, 20)) (ci := 11) (k := 7) (t := 2) (v := 88) (mf_dat eX11_leafUpon 5 rfl) fl_X11_82 rfl (by decide) rfl (gx_0_7 hG) is0 ?_
  refine mf_getf (r := (RX6, TX6, 8)) (ci := 6) (k := 7) (t := 0) (v := h 88 7) (mf_dat eX11_leafUpon 6 rfl) fl_X11_156 rfl (by decide) rfl rfl is88 ?_
  refine mf_callV (Yc := YX0_openingOf) (r := (RX0, TX0, 1)) (ci := 0) (mf_dat eX11_leafUpon 7 rfl) ml_X11_159 okX0_openingOf im_X0_openingOf sl_X0_openingOf rfl rfl rfl rfl (Nat.le_of_ble_eq_true rfl) (mf_rr (Nat.le_trans (by decide) hd) (Nat.le_refl _)) (Nat.le_refl _) is46 (hyp hG) (fun r1 g2 h3 hyp => ?_)
  obtain ⟨hG, hyp⟩ := hyp
  refine mf_istore_n (mf_dat eX11_leafUpon 8 rfl) rfl (by decide) ?_
  refine mf_aload_n (mf_dat eX11_leafUpon 9 rfl) rfl rfl ?_
  refine mf_getf (r := (RX11, TX11, 20)) (ci := 11) (k := 12) (t := 2) (v := g2 0 12) (mf_dat eX11_leafUpon 10 rfl) fl_X11_47 rfl (by decide) rfl rfl is0 ?_
  refine mf_iload_n (mf_dat eX11_leafUpon 11 rfl) rfl rfl ?_
  refine mf_iload_n (mf_dat eX11_leafUpon 12 rfl) rfl rfl ?_
  refine mf_iconst (v := 1) (mf_dat eX11_leafUpon 13 rfl) (by decide) ?_
  refine mf_isub (mf_dat eX11_leafUpon 14 rfl) ?_
  refine mf_callS (Yc := YX0_liesOnNext) (mf_dat eX11_leafUpon 15 rfl) ml_X11_320 okX0_liesOnNext sm_X0_liesOnNext rfl rfl (Nat.le_of_ble_eq_true rfl) (mf_rr (Nat.le_trans (by decide) hd) (Nat.le_refl _)) (Nat.le_refl _) (hyp hG) (fun r4 g5 h6 hyp => ?_)
  obtain ⟨hG, hyp⟩ := hyp
  refine mf_if_eq (tgt := 37) (mf_dat eX11_leafUpon 16 rfl) (by decide) (fun hc => ?_) (fun hc => ?_)
  · replace hyp := hyp.1 hc
    refine mf_aload_n (mf_dat eX11_leafUpon 21 rfl) rfl rfl ?_
    refine mf_getf (r := (RX11, TX11, 20)) (ci := 11) (k := 12) (t := 2) (v := g5 0 12) (mf_dat eX11_leafUpon 22 rfl) fl_X11_47 rfl (by decide) rfl rfl is0 ?_
    refine mf_iload_n (mf_dat eX11_leafUpon 23 rfl) rfl rfl ?_
    refine mf_iload_n (mf_dat eX11_leafUpon 24 rfl) rfl rfl ?_
    refine mf_callS (Yc := YX0_liesOnNext) (mf_dat eX11_leafUpon 25 rfl) ml_X11_320 okX0_liesOnNext sm_X0_liesOnNext rfl rfl (Nat.le_of_ble_eq_true rfl) (mf_rr (Nat.le_trans (by decide) hd) (Nat.le_refl _)) (Nat.le_refl _) (hyp hG) (fun r7 g8 h9 hyp => ?_)
    obtain ⟨hG, hyp⟩ := hyp
    refine mf_if_eq (tgt := 55) (mf_dat eX11_leafUpon 26 rfl) (by decide) (fun hc => ?_) (fun hc => ?_)
    · replace hyp := hyp.1 hc
      refine mf_iconst (v := (-1)) (mf_dat eX11_leafUpon 31 rfl) (by decide) ?_
      exact mf_ireturn (mf_dat eX11_leafUpon 32 rfl) rfl (Or.inl rfl) ⟨hG, hyp⟩
    · replace hyp := hyp.2 hc
      refine mf_iload_n (mf_dat eX11_leafUpon 27 rfl) rfl rfl ?_
      refine mf_iconst (v := 1) (mf_dat eX11_leafUpon 28 rfl) (by decide) ?_
      refine mf_iadd (mf_dat eX11_leafUpon 29 rfl) ?_
      refine mf_goto (tgt := 56) (mf_dat eX11_leafUpon 30 rfl) (by decide) ?_
      exact mf_ireturn (mf_dat eX11_leafUpon 32 rfl) rfl (Or.inl rfl) ⟨hG, hyp⟩
  · replace hyp := hyp.2 hc
    refine mf_iload_n (mf_dat eX11_leafUpon 17 rfl) rfl rfl ?_
    refine mf_iconst (v := 1) (mf_dat eX11_leafUpon 18 rfl) (by decide) ?_
    refine mf_isub (mf_dat eX11_leafUpon 19 rfl) ?_
    exact mf_ireturn (mf_dat eX11_leafUpon 20 rfl) rfl (Or.inl rfl) ⟨hG, hyp⟩
abbrev BX11_findRefuge_2 (C : mf_G) (l : Launch) (d : Nat) (K : mf_Kt) (x1 x2 x3 : Int) (g h : mf_M) : Prop := jX C l d YX11_findRefuge K 2 [(0, (2, 0)), (1, (0, x1)), (2, (0, x2)), (3, (0, x3))] [] g h
abbrev BX11_findRefuge_44 (C : mf_G) (l : Launch) (d : Nat) (K : mf_Kt) (x1 x2 x3 : Int) (g h : mf_M) : Prop := jX C l d YX11_findRefuge K 44 [(0, (2, 0)), (1, (0, x1)), (2, (0, x2)), (3, (0, x3))] [] g h
set_option maxRecDepth 100000 in
set_option maxHeartbeats 4000000 in
theorem vX11_findRefuge_2 {C : mf_G} {l : Launch} {d : Nat} {K : mf_Kt} {x1 x2 x3 : Int} {g h : mf_M} (hd : 2 ≤ d) (hyp : mf_is 319 (g 0 12) 1 ∧ ((h (g 0 12) 9 ≤ x3 → K (-1) g h) ∧ (¬ h (g 0 12) 9 ≤ x3 → ((mf_w32 (x2 - x3) < 0 → BX11_findRefuge_44 C l d K x1 x2 x3 g h) ∧ (¬ mf_w32 (x2 - x3) < 0 → xM C l 1 YX6_isFree [(2, 88), (0, x1), (0, mf_w32 (x2 - x3)), (0, h (g 0 12) 12)] g h (fun r2 g3 h4 => ((r2 = 0 → BX11_findRefuge_44 C l d K x1 x2 x3 g3 h4) ∧ (¬ r2 = 0 → K (mf_w32 (x2 - x3)) g3 h4)))))))) : BX11_findRefuge_2 C l d K x1 x2 x3 g h := by
  intro hG
  refine mf_iload_n (mf_dat eX11_findRefuge 2 rfl) rfl rfl ?_
  refine mf_aload_n (mf_dat eX11_findRefuge 3 rfl) rfl rfl ?_
  refine mf_getf (r := (RX11, TX11, 20)) (ci := 11) (k := 12) (t := 2) (v := g 0 12) (mf_dat eX11_findRefuge 4 rfl) fl_X11_47 rfl (by decide) rfl rfl is0 ?_
  obtain ⟨ck1, hyp⟩ := hyp
  refine mf_getf (r := (RX1, TX1, 14)) (ci := 1) (k := 9) (t := 0) (v := h (g 0 12) 9) (mf_dat eX11_findRefuge 5 rfl) fl_X11_143 rfl (by decide) rfl rfl ck1 ?_
  refine mf_icmp_ge (tgt := 88) (mf_dat eX11_findRefuge 6 rfl) (by decide) (fun hc => ?_) (fun hc => ?_)
  · replace hyp := hyp.1 hc
    refine mf_iconst (v := (-1)) (mf_dat eX11_findRefuge 50 rfl) (by decide) ?_
    exact mf_ireturn (mf_dat eX11_findRefuge 51 rfl) rfl (Or.inl rfl) ⟨hG, hyp⟩
  · replace hyp := hyp.2 hc
    refine mf_iload_n (mf_dat eX11_findRefuge 7 rfl) rfl rfl ?_
    refine mf_iload_n (mf_dat eX11_findRefuge 8 rfl) rfl rfl ?_
    refine mf_isub (mf_dat eX11_findRefuge 9 rfl) ?_
    refine mf_if_lt (tgt := 44) (mf_dat eX11_findRefuge 10 rfl) (by decide) (fun hc => ?_) (fun hc => ?_)
    · replace hyp := hyp.1 hc
      exact mf_sub [0, 1, 2, 3] rfl (hyp hG)
    · replace hyp := hyp.2 hc
      refine mf_aload_n (mf_dat eX11_findRefuge 11 rfl) rfl rfl ?_
      refine mf_getf (r := (RX11, TX11, 20)) (ci := 11) (k := 7) (t := 2) (v := 88) (mf_dat eX11_findRefuge 12 rfl) fl_X11_82 rfl (by decide) rfl (gx_0_7 hG) is0 ?_
      refine mf_iload_n (mf_dat eX11_findRefuge 13 rfl) rfl rfl ?_
      refine mf_iload_n (mf_dat eX11_findRefuge 14 rfl) rfl rfl ?_
      refine mf_iload_n (mf_dat eX11_findRefuge 15 rfl) rfl rfl ?_
      refine mf_isub (mf_dat eX11_findRefuge 16 rfl) ?_
      refine mf_aload_n (mf_dat eX11_findRefuge 17 rfl) rfl rfl ?_
      refine mf_getf (r := (RX11, TX11, 20)) (ci := 11) (k := 12) (t := 2) (v := g 0 12) (mf_dat eX11_findRefuge 18 rfl) fl_X11_47 rfl (by decide) rfl rfl is0 ?_
      refine mf_getf (r := (RX1, TX1, 14)) (ci := 1) (k := 12) (t := 0) (v := h (g 0 12) 12) (mf_dat eX11_findRefuge 19 rfl) fl_X11_153 rfl (by decide) rfl rfl ck1 ?_
      refine mf_callV (Yc := YX6_isFree) (r := (RX6, TX6, 8)) (ci := 6) (mf_dat eX11_findRefuge 20 rfl) ml_X11_264 okX6_isFree im_X6_isFree sl_X6_isFree rfl rfl rfl rfl (Nat.le_of_ble_eq_true rfl) (mf_rr (Nat.le_trans (by decide) hd) (Nat.le_refl _)) (Nat.le_refl _) is88 (hyp hG) (fun r2 g3 h4 hyp => ?_)
      obtain ⟨hG, hyp⟩ := hyp
      refine mf_if_eq (tgt := 44) (mf_dat eX11_findRefuge 21 rfl) (by decide) (fun hc => ?_) (fun hc => ?_)
      · replace hyp := hyp.1 hc
        exact mf_sub [0, 1, 2, 3] rfl (hyp hG)
      · replace hyp := hyp.2 hc
        refine mf_iload_n (mf_dat eX11_findRefuge 22 rfl) rfl rfl ?_
        refine mf_iload_n (mf_dat eX11_findRefuge 23 rfl) rfl rfl ?_
        refine mf_isub (mf_dat eX11_findRefuge 24 rfl) ?_
        exact mf_ireturn (mf_dat eX11_findRefuge 25 rfl) rfl (Or.inl rfl) ⟨hG, hyp⟩
set_option maxRecDepth 100000 in
set_option maxHeartbeats 4000000 in
theorem vX11_findRefuge_44 {C : mf_G} {l : Launch} {d : Nat} {K : mf_Kt} {x1 x2 x3 : Int} {g h : mf_M} (hd : 2 ≤ d) (hyp : mf_is 319 (g 0 12) 1 ∧ ((h (g 0 12) 9 ≤ mf_w32 (x2 + x3) → (∀ v2 : Int, v2 = mf_w32 (x3 + 1) → BX11_findRefuge_2 C l d K x1 x2 v2 g h)) ∧ (¬ h (g 0 12) 9 ≤ mf_w32 (x2 + x3) → xM C l 1 YX6_isFree [(2, 88), (0, x1), (0, mf_w32 (x2 + x3)), (0, h (g 0 12) 12)] g h (fun r3 g4 h5 => ((r3 = 0 → (∀ v6 : Int, v6 = mf_w32 (x3 + 1) → BX11_findRefuge_2 C l d K x1 x2 v6 g4 h5)) ∧ (¬ r3 = 0 → K (mf_w32 (x2 + x3)) g4 h5)))))) : BX11_findRefuge_44 C l d K x1 x2 x3 g h := by
  intro hG
  refine mf_iload_n (mf_dat eX11_findRefuge 26 rfl) rfl rfl ?_
  refine mf_iload_n (mf_dat eX11_findRefuge 27 rfl) rfl rfl ?_
  refine mf_iadd (mf_dat eX11_findRefuge 28 rfl) ?_
  refine mf_aload_n (mf_dat eX11_findRefuge 29 rfl) rfl rfl ?_
  refine mf_getf (r := (RX11, TX11, 20)) (ci := 11) (k := 12) (t := 2) (v := g 0 12) (mf_dat eX11_findRefuge 30 rfl) fl_X11_47 rfl (by decide) rfl rfl is0 ?_
  obtain ⟨ck1, hyp⟩ := hyp
  refine mf_getf (r := (RX1, TX1, 14)) (ci := 1) (k := 9) (t := 0) (v := h (g 0 12) 9) (mf_dat eX11_findRefuge 31 rfl) fl_X11_143 rfl (by decide) rfl rfl ck1 ?_
  refine mf_icmp_ge (tgt := 82) (mf_dat eX11_findRefuge 32 rfl) (by decide) (fun hc => ?_) (fun hc => ?_)
  · replace hyp := hyp.1 hc
    refine mf_iinc (mf_dat eX11_findRefuge 48 rfl) rfl (by decide) (by decide) ?_
    generalize qv2 : mf_w32 (x3 + 1) = v2
    replace hyp := hyp _ qv2.symm
    refine mf_goto (tgt := 2) (mf_dat eX11_findRefuge 49 rfl) (by decide) ?_
    exact mf_sub [1, 2, 3, 0] rfl (hyp hG)
  · replace hyp := hyp.2 hc
    refine mf_aload_n (mf_dat eX11_findRefuge 33 rfl) rfl rfl ?_
    refine mf_getf (r := (RX11, TX11, 20)) (ci := 11) (k := 7) (t := 2) (v := 88) (mf_dat eX11_findRefuge 34 rfl) fl_X11_82 rfl (by decide) rfl (gx_0_7 hG) is0 ?_
    refine mf_iload_n (mf_dat eX11_findRefuge 35 rfl) rfl rfl ?_
    refine mf_iload_n (mf_dat eX11_findRefuge 36 rfl) rfl rfl ?_
    refine mf_iload_n (mf_dat eX11_findRefuge 37 rfl) rfl rfl ?_
    refine mf_iadd (mf_dat eX11_findRefuge 38 rfl) ?_
    refine mf_aload_n (mf_dat eX11_findRefuge 39 rfl) rfl rfl ?_
    refine mf_getf (r := (RX11, TX11, 20)) (ci := 11) (k := 12) (t := 2) (v := g 0 12) (mf_dat eX11_findRefuge 40 rfl) fl_X11_47 rfl (by decide) rfl rfl is0 ?_
    refine mf_getf (r := (RX1, TX1, 14)) (ci := 1) (k := 12) (t := 0) (v := h (g 0 12) 12) (mf_dat eX11_findRefuge 41 rfl) fl_X11_153 rfl (by decide) rfl rfl ck1 ?_
    refine mf_callV (Yc := YX6_isFree) (r := (RX6, TX6, 8)) (ci := 6) (mf_dat eX11_findRefuge 42 rfl) ml_X11_264 okX6_isFree im_X6_isFree sl_X6_isFree rfl rfl rfl rfl (Nat.le_of_ble_eq_true rfl) (mf_rr (Nat.le_trans (by decide) hd) (Nat.le_refl _)) (Nat.le_refl _) is88 (hyp hG) (fun r3 g4 h5 hyp => ?_)
    obtain ⟨hG, hyp⟩ := hyp
    refine mf_if_eq (tgt := 82) (mf_dat eX11_findRefuge 43 rfl) (by decide) (fun hc => ?_) (fun hc => ?_)
    · replace hyp := hyp.1 hc
      refine mf_iinc (mf_dat eX11_findRefuge 48 rfl) rfl (by decide) (by decide) ?_
      generalize qv6 : mf_w32 (x3 + 1) = v6
      replace hyp := hyp _ qv6.symm
      refine mf_goto (tgt := 2) (mf_dat eX11_findRefuge 49 rfl) (by decide) ?_
      exact mf_sub [1, 2, 3, 0] rfl (hyp hG)
    · replace hyp := hyp.2 hc
      refine mf_iload_n (mf_dat eX11_findRefuge 44 rfl) rfl rfl ?_
      refine mf_iload_n (mf_dat eX11_findRefuge 45 rfl) rfl rfl ?_
      refine mf_iadd (mf_dat eX11_findRefuge 46 rfl) ?_
      exact mf_ireturn (mf_dat eX11_findRefuge 47 rfl) rfl (Or.inl rfl) ⟨hG, hyp⟩
set_option maxRecDepth 100000 in
set_option maxHeartbeats 4000000 in
theorem wX11_findRefuge {C : mf_G} {l : Launch} {d : Nat} {K : mf_Kt} {x1 x2 : Int} {g h : mf_M} (hyp : BX11_findRefuge_2 C l d K x1 x2 1 g h) : xM C l d YX11_findRefuge [(2, 0), (0, x1), (0, x2)] g h K := by
  intro hG
  refine mf_entry (by decide) (Nat.le_of_ble_eq_true rfl) ?_
  refine mf_iconst (v := 1) (mf_dat eX11_findRefuge 0 rfl) (by decide) ?_
  refine mf_istore_n (mf_dat eX11_findRefuge 1 rfl) rfl (by decide) ?_
  exact mf_sub [1, 2, 3, 0] rfl (hyp hG)
set_option maxRecDepth 100000 in
set_option maxHeartbeats 4000000 in
theorem wX11_saveAct {C : mf_G} {l : Launch} {d : Nat} {K : mf_Kt} {g h : mf_M} (hd : 3 ≤ d) (hyp : 0 ≤ h 0 16 ∧ h 0 16 < 20 ∧ xM C l 2 YX6_copyAll [(2, 103 + 7 * (h 0 16)), (2, 88)] g h (fun r3 g4 h5 => (∀ h6 : mf_M, h6 = mf_up h5 0 16 ((mf_w32 ((h5 0 16) + 1)).tmod 20) → xM C l 0 YJ9_min_7cf53 [(0, 20), (0, mf_w32 ((h6 0 15) + 1))] g4 h6 (fun r7 g8 h9 => (∀ h10 : mf_M, h10 = mf_up h9 0 15 r7 → K 0 g8 h10))))) : xM C l d YX11_saveAct [(2, 0)] g h K := by
  intro hG
  refine mf_entry (by decide) (Nat.le_of_ble_eq_true rfl) ?_
  refine mf_aload_n (mf_dat eX11_saveAct 0 rfl) rfl rfl ?_
  refine mf_getf (r := (RX11, TX11, 20)) (ci := 11) (k := 9) (t := 2) (v := 102) (mf_dat eX11_saveAct 1 rfl) fl_X11_89 rfl (by decide) rfl (gx_0_9 hG) is0 ?_
  refine mf_aload_n (mf_dat eX11_saveAct 2 rfl) rfl rfl ?_
  refine mf_getf (r := (RX11, TX11, 20)) (ci := 11) (k := 16) (t := 0) (v := h 0 16) (mf_dat eX11_saveAct 3 rfl) fl_X11_287 rfl (by decide) rfl rfl is0 ?_
  obtain ⟨ck1, hyp⟩ := hyp
  obtain ⟨ck2, hyp⟩ := hyp
  refine mf_aald (mf_dat eX11_saveAct 4 rfl) is102 len102 ck1 ck2 ?_
  rw [ga_102 hG ck1 ck2]
  refine mf_aload_n (mf_dat eX11_saveAct 5 rfl) rfl rfl ?_
  refine mf_getf (r := (RX11, TX11, 20)) (ci := 11) (k := 7) (t := 2) (v := 88) (mf_dat eX11_saveAct 6 rfl) fl_X11_82 rfl (by decide) rfl (gx_0_7 hG) is0 ?_
  refine mf_callV (Yc := YX6_copyAll) (r := (RX6, TX6, 8)) (ci := 6) (mf_dat eX11_saveAct 7 rfl) ml_X11_127 okX6_copyAll im_X6_copyAll sl_X6_copyAll rfl rfl rfl rfl (Nat.le_of_ble_eq_true rfl) (mf_rr (Nat.le_trans (by decide) hd) (Nat.le_refl _)) (Nat.le_refl _) (act_is ck1 ck2) (hyp hG) (fun r3 g4 h5 hyp => ?_)
  obtain ⟨hG, hyp⟩ := hyp
  refine mf_aload_n (mf_dat eX11_saveAct 8 rfl) rfl rfl ?_
  refine mf_aload_n (mf_dat eX11_saveAct 9 rfl) rfl rfl ?_
  refine mf_getf (r := (RX11, TX11, 20)) (ci := 11) (k := 16) (t := 0) (v := h5 0 16) (mf_dat eX11_saveAct 10 rfl) fl_X11_287 rfl (by decide) rfl rfl is0 ?_
  refine mf_iconst (v := 1) (mf_dat eX11_saveAct 11 rfl) (by decide) ?_
  refine mf_iadd (mf_dat eX11_saveAct 12 rfl) ?_
  refine mf_bipush (v := 20) (mf_dat eX11_saveAct 13 rfl) (by decide) ?_
  refine mf_irem (mf_dat eX11_saveAct 14 rfl) (by decide) ?_
  refine mf_putI (r := (RX11, TX11, 20)) (ci := 11) (k := 16) (kI := 16) (t := 0) (mf_dat eX11_saveAct 15 rfl) fl_X11_287 rfl rfl (by decide) rfl (by decide) rfl (by decide) (fun h9 => absurd h9 (by decide)) is0 ?_
  generalize qh6 : mf_up h5 0 16 ((mf_w32 ((h5 0 16) + 1)).tmod 20) = h6
  replace hyp := hyp _ qh6.symm
  refine mf_aload_n (mf_dat eX11_saveAct 16 rfl) rfl rfl ?_
  refine mf_bipush (v := 20) (mf_dat eX11_saveAct 17 rfl) (by decide) ?_
  refine mf_aload_n (mf_dat eX11_saveAct 18 rfl) rfl rfl ?_
  refine mf_getf (r := (RX11, TX11, 20)) (ci := 11) (k := 15) (t := 0) (v := h6 0 15) (mf_dat eX11_saveAct 19 rfl) fl_X11_134 rfl (by decide) rfl rfl is0 ?_
  refine mf_iconst (v := 1) (mf_dat eX11_saveAct 20 rfl) (by decide) ?_
  refine mf_iadd (mf_dat eX11_saveAct 21 rfl) ?_
  refine mf_callS (Yc := YJ9_min_7cf53) (mf_dat eX11_saveAct 22 rfl) ml_X11_324 okJ9_min_7cf53 sm_J9_min_7cf53 rfl rfl (Nat.le_of_ble_eq_true rfl) (mf_rr (Nat.le_trans (by decide) hd) (Nat.le_refl _)) (Nat.le_refl _) (hyp hG) (fun r7 g8 h9 hyp => ?_)
  obtain ⟨hG, hyp⟩ := hyp
  refine mf_putI (r := (RX11, TX11, 20)) (ci := 11) (k := 15) (kI := 15) (t := 0) (mf_dat eX11_saveAct 23 rfl) fl_X11_134 rfl rfl (by decide) rfl (by decide) rfl (by decide) (fun h9 => absurd h9 (by decide)) is0 ?_
  generalize qh10 : mf_up h9 0 15 r7 = h10
  replace hyp := hyp _ qh10.symm
  exact mf_return (mf_dat eX11_saveAct 24 rfl) rfl ⟨hG, hyp⟩
set_option maxRecDepth 100000 in
set_option maxHeartbeats 4000000 in
theorem wX11_draw {C : mf_G} {l : Launch} {d : Nat} {K : mf_Kt} {x1 : Int} {g h : mf_M} (hyp : (∀ h1 : mf_M, h1 = mf_up h 0 19 (mf_w32 (mf_land_ (mf_w64 ((mf_w64 (1103515245 * (h 0 19))) + 12345)) 2147483647)) → ((x1 ≤ 0 → K 0 g h1) ∧ (¬ x1 ≤ 0 → ¬ x1 = 0 ∧ K ((mf_w32 ((h1 0 19).tdiv 64)).tmod x1) g h1)))) : xM C l d YX11_draw [(2, 0), (0, x1)] g h K := by
  intro hG
  refine mf_entry (by decide) (Nat.le_of_ble_eq_true rfl) ?_
  refine mf_aload_n (mf_dat eX11_draw 0 rfl) rfl rfl ?_
  refine mf_ldc2 (v := 1103515245) cl_X11_329 (mf_dat eX11_draw 1 rfl) (by decide) ?_
  refine mf_aload_n (mf_dat eX11_draw 2 rfl) rfl rfl ?_
  refine mf_getf (r := (RX11, TX11, 20)) (ci := 11) (k := 19) (t := 0) (v := h 0 19) (mf_dat eX11_draw 3 rfl) fl_X11_104 rfl (by decide) rfl rfl is0 ?_
  refine mf_i2l (mf_dat eX11_draw 4 rfl) ?_
  refine mf_lmul (mf_dat eX11_draw 5 rfl) ?_
  refine mf_ldc2 (v := 12345) cl_X11_331 (mf_dat eX11_draw 6 rfl) (by decide) ?_
  refine mf_ladd (mf_dat eX11_draw 7 rfl) ?_
  refine mf_ldc2 (v := 2147483647) cl_X11_333 (mf_dat eX11_draw 8 rfl) (by decide) ?_
  refine mf_land (mf_dat eX11_draw 9 rfl) ?_
  refine mf_l2i (mf_dat eX11_draw 10 rfl) ?_
  refine mf_putI (r := (RX11, TX11, 20)) (ci := 11) (k := 19) (kI := 19) (t := 0) (mf_dat eX11_draw 11 rfl) fl_X11_104 rfl rfl (by decide) rfl (by decide) rfl (by decide) (fun h9 => absurd h9 (by decide)) is0 ?_
  generalize qh1 : mf_up h 0 19 (mf_w32 (mf_land_ (mf_w64 ((mf_w64 (1103515245 * (h 0 19))) + 12345)) 2147483647)) = h1
  replace hyp := hyp _ qh1.symm
  refine mf_iload_n (mf_dat eX11_draw 12 rfl) rfl rfl ?_
  refine mf_if_le (tgt := 38) (mf_dat eX11_draw 13 rfl) (by decide) (fun hc => ?_) (fun hc => ?_)
  · replace hyp := hyp.1 hc
    refine mf_iconst (v := 0) (mf_dat eX11_draw 21 rfl) (by decide) ?_
    exact mf_ireturn (mf_dat eX11_draw 22 rfl) rfl (Or.inl rfl) ⟨hG, hyp⟩
  · replace hyp := hyp.2 hc
    refine mf_aload_n (mf_dat eX11_draw 14 rfl) rfl rfl ?_
    refine mf_getf (r := (RX11, TX11, 20)) (ci := 11) (k := 19) (t := 0) (v := h1 0 19) (mf_dat eX11_draw 15 rfl) fl_X11_104 rfl (by decide) rfl rfl is0 ?_
    refine mf_bipush (v := 64) (mf_dat eX11_draw 16 rfl) (by decide) ?_
    refine mf_idiv (mf_dat eX11_draw 17 rfl) (by decide) ?_
    refine mf_iload_n (mf_dat eX11_draw 18 rfl) rfl rfl ?_
    obtain ⟨ck2, hyp⟩ := hyp
    refine mf_irem (mf_dat eX11_draw 19 rfl) ck2 ?_
    refine mf_goto (tgt := 39) (mf_dat eX11_draw 20 rfl) (by decide) ?_
    exact mf_ireturn (mf_dat eX11_draw 22 rfl) rfl (Or.inl rfl) ⟨hG, hyp⟩
abbrev BX11_answer_35 (C : mf_G) (l : Launch) (d : Nat) (K : mf_Kt) (x1 x2 x3 x5 x7 x9 x11 : Int) (g h : mf_M) : Prop := jX C l d YX11_answer K 35 [(0, (2, 0)), (1, (0, x1)), (2, (0, x2)), (3, (1, x3)), (5, (1, x5)), (7, (1, x7)), (9, (1, x9)), (11, (0, x11))] [] g h
abbrev BX11_answer_96 (C : mf_G) (l : Launch) (d : Nat) (K : mf_Kt) (x1 x2 x3 x5 x7 x9 x11 x12 : Int) (g h : mf_M) : Prop := jX C l d YX11_answer K 96 [(0, (2, 0)), (1, (0, x1)), (2, (0, x2)), (3, (1, x3)), (5, (1, x5)), (7, (1, x7)), (9, (1, x9)), (11, (0, x11)), (12, (0, x12))] [] g h
abbrev BX11_answer_121 (C : mf_G) (l : Launch) (d : Nat) (K : mf_Kt) (x1 x2 x3 x5 x9 x11 x12 s0 : Int) (g h : mf_M) : Prop := jX C l d YX11_answer K 121 [(0, (2, 0)), (1, (0, x1)), (2, (0, x2)), (3, (1, x3)), (5, (1, x5)), (9, (1, x9)), (11, (0, x11)), (12, (0, x12))] [(1, s0)] g h
set_option maxRecDepth 100000 in
set_option maxHeartbeats 4000000 in
theorem vX11_answer_35 {C : mf_G} {l : Launch} {d : Nat} {K : mf_Kt} {x1 x2 x3 x5 x7 x9 x11 : Int} {g h : mf_M} (hd : 5 ≤ d) (hyp : mf_is 319 (g 0 12) 1 ∧ ((h (g 0 12) 12 ≤ x11 → ((x1 = 28 → K x5 g h) ∧ (x1 = 29 → K x5 g h) ∧ (x1 = 30 → K x3 g h) ∧ (x1 = 31 → K x3 g h) ∧ (x1 = 32 → K x7 g h) ∧ (x1 = 33 → K x9 g h) ∧ ((x1 < 28 ∨ 33 < x1) → K x3 g h))) ∧ (¬ h (g 0 12) 12 ≤ x11 → xM C l 4 YX0_reckonOf [(2, 46), (2, 6), (2, g 0 12), (2, 88), (0, x11), (0, x2)] g h (fun r2 g3 h4 => ((r2 = 0 → BX11_answer_96 C l d K x1 x2 x3 x5 x7 x9 x11 r2 g3 h4) ∧ (¬ r2 = 0 → ((x5 = (-1) → BX11_answer_96 C l d K x1 x2 x3 x11 x7 x9 x11 r2 g3 h4) ∧ (¬ x5 = (-1) → ((¬ x1 = 29 → BX11_answer_96 C l d K x1 x2 x3 x5 x7 x9 x11 r2 g3 h4) ∧ (x1 = 29 → BX11_answer_96 C l d K x1 x2 x3 x11 x7 x9 x11 r2 g3 h4)))))))))) : BX11_answer_35 C l d K x1 x2 x3 x5 x7 x9 x11 g h := by
  intro hG
  refine mf_iload (mf_dat eX11_answer_p0 19 rfl) rfl ?_
  refine mf_aload_n (mf_dat eX11_answer_p0 20 rfl) rfl rfl ?_
  refine mf_getf (r := (RX11, TX11, 20)) (ci := 11) (k := 12) (t := 2) (v := g 0 12) (mf_dat eX11_answer_p0 21 rfl) fl_X11_47 rfl (by decide) rfl rfl is0 ?_
  obtain ⟨ck1, hyp⟩ := hyp
  refine mf_getf (r := (RX1, TX1, 14)) (ci := 1) (k := 12) (t := 0) (v := h (g 0 12) 12) (mf_dat eX11_answer_p0 22 rfl) fl_X11_153 rfl (by decide) rfl rfl ck1 ?_
  refine mf_icmp_ge (tgt := 150) (mf_dat eX11_answer_p0 23 rfl) (by decide) (fun hc => ?_) (fun hc => ?_)
  · replace hyp := hyp.1 hc
    refine mf_iload_n (mf_dat eX11_answer_p1 15 rfl) rfl rfl ?_
    refine mf_tsw1 (v := 28) (tgt := 188) (mf_dat eX11_answer_p1 16 rfl) (by decide) (by decide) (off := 37) (by decide) (by decide) (fun hc => ?_) (fun hc0 => ?_)
    · replace hyp := hyp.1 hc
      refine mf_lload (mf_dat eX11_answer_p1 17 rfl) rfl ?_
      exact mf_lreturn (mf_dat eX11_answer_p1 18 rfl) rfl ⟨hG, hyp⟩
    replace hyp := hyp.2
    refine mf_tsw1 (v := 29) (tgt := 191) (mf_dat eX11_answer_p1 16 rfl) (by decide) (by decide) (off := 40) (by decide) (by decide) (fun hc => ?_) (fun hc1 => ?_)
    · replace hyp := hyp.1 hc
      refine mf_lload (mf_dat eX11_answer_p1 19 rfl) rfl ?_
      exact mf_lreturn (mf_dat eX11_answer_p1 20 rfl) rfl ⟨hG, hyp⟩
    replace hyp := hyp.2
    refine mf_tsw1 (v := 30) (tgt := 200) (mf_dat eX11_answer_p1 16 rfl) (by decide) (by decide) (off := 49) (by decide) (by decide) (fun hc => ?_) (fun hc2 => ?_)
    · replace hyp := hyp.1 hc
      refine mf_lload_n (mf_dat eX11_answer_p1 25 rfl) rfl rfl ?_
      exact mf_lreturn (mf_dat eX11_answer_p1 26 rfl) rfl ⟨hG, hyp⟩
    replace hyp := hyp.2
    refine mf_tsw1 (v := 31) (tgt := 200) (mf_dat eX11_answer_p1 16 rfl) (by decide) (by decide) (off := 49) (by decide) (by decide) (fun hc => ?_) (fun hc3 => ?_)
    · replace hyp := hyp.1 hc
      refine mf_lload_n (mf_dat eX11_answer_p1 25 rfl) rfl rfl ?_
      exact mf_lreturn (mf_dat eX11_answer_p1 26 rfl) rfl ⟨hG, hyp⟩
    replace hyp := hyp.2
    refine mf_tsw1 (v := 32) (tgt := 194) (mf_dat eX11_answer_p1 16 rfl) (by decide) (by decide) (off := 43) (by decide) (by decide) (fun hc => ?_) (fun hc4 => ?_)
    · replace hyp := hyp.1 hc
      refine mf_lload (mf_dat eX11_answer_p1 21 rfl) rfl ?_
      exact mf_lreturn (mf_dat eX11_answer_p1 22 rfl) rfl ⟨hG, hyp⟩
    replace hyp := hyp.2
    refine mf_tsw1 (v := 33) (tgt := 197) (mf_dat eX11_answer_p1 16 rfl) (by decide) (by decide) (off := 46) (by decide) (by decide) (fun hc => ?_) (fun hc5 => ?_)
    · replace hyp := hyp.1 hc
      refine mf_lload (mf_dat eX11_answer_p1 23 rfl) rfl ?_
      exact mf_lreturn (mf_dat eX11_answer_p1 24 rfl) rfl ⟨hG, hyp⟩
    replace hyp := hyp.2
    refine mf_tswO (tgt := 200) (mf_dat eX11_answer_p1 16 rfl) (by omega) (by decide) ?_
    replace hyp := hyp (by omega)
    refine mf_lload_n (mf_dat eX11_answer_p1 25 rfl) rfl rfl ?_
    exact mf_lreturn (mf_dat eX11_answer_p1 26 rfl) rfl ⟨hG, hyp⟩
  · replace hyp := hyp.2 hc
    refine mf_aload_n (mf_dat eX11_answer_p0 24 rfl) rfl rfl ?_
    refine mf_getf (r := (RX11, TX11, 20)) (ci := 11) (k := 4) (t := 2) (v := 46) (mf_dat eX11_answer_p0 25 rfl) fl_X11_66 rfl (by decide) rfl (gx_0_4 hG) is0 ?_
    refine mf_aload_n (mf_dat eX11_answer_p0 26 rfl) rfl rfl ?_
    refine mf_getf (r := (RX11, TX11, 20)) (ci := 11) (k := 6) (t := 2) (v := 6) (mf_dat eX11_answer_p0 27 rfl) fl_X11_31 rfl (by decide) rfl (gx_0_6 hG) is0 ?_
    refine mf_aload_n (mf_dat eX11_answer_p0 28 rfl) rfl rfl ?_
    refine mf_getf (r := (RX11, TX11, 20)) (ci := 11) (k := 12) (t := 2) (v := g 0 12) (mf_dat eX11_answer_p0 29 rfl) fl_X11_47 rfl (by decide) rfl rfl is0 ?_
    refine mf_aload_n (mf_dat eX11_answer_p0 30 rfl) rfl rfl ?_
    refine mf_getf (r := (RX11, TX11, 20)) (ci := 11) (k := 7) (t := 2) (v := 88) (mf_dat eX11_answer_p0 31 rfl) fl_X11_82 rfl (by decide) rfl (gx_0_7 hG) is0 ?_
    refine mf_iload (mf_dat eX11_answer_p0 32 rfl) rfl ?_
    refine mf_iload_n (mf_dat eX11_answer_p0 33 rfl) rfl rfl ?_
    refine mf_callV (Yc := YX0_reckonOf) (r := (RX0, TX0, 1)) (ci := 0) (mf_dat eX11_answer_p0 34 rfl) ml_X11_337 okX0_reckonOf im_X0_reckonOf sl_X0_reckonOf rfl rfl rfl rfl (Nat.le_of_ble_eq_true rfl) (mf_rr (Nat.le_trans (by decide) hd) (Nat.le_refl _)) (Nat.le_refl _) is46 (hyp hG) (fun r2 g3 h4 hyp => ?_)
    obtain ⟨hG, hyp⟩ := hyp
    refine mf_istore (mf_dat eX11_answer_p0 35 rfl) (by decide) ?_
    refine mf_iload (mf_dat eX11_answer_p0 36 rfl) rfl ?_
    refine mf_if_eq (tgt := 96) (mf_dat eX11_answer_p0 37 rfl) (by decide) (fun hc => ?_) (fun hc => ?_)
    · replace hyp := hyp.1 hc
      exact mf_sub [1, 2, 3, 4, 5, 6, 7, 8, 0] rfl (hyp hG)
    · replace hyp := hyp.2 hc
      refine mf_lload (mf_dat eX11_answer_p0 38 rfl) rfl ?_
      refine mf_ldc2 (v := (-1)) cl_X11_335 (mf_dat eX11_answer_p0 39 rfl) (by decide) ?_
      refine mf_lcmp_eq (tgt := 91) (mf_dat eX11_answer_p0 40 rfl) (mf_dat eX11_answer_p0 41 rfl) (by decide) (fun hc => ?_) (fun hc => ?_)
      · replace hyp := hyp.1 hc
        refine mf_iload (mf_dat eX11_answer_p0 45 rfl) rfl ?_
        refine mf_i2l (mf_dat eX11_answer_p0 46 rfl) ?_
        refine mf_lstore (mf_dat eX11_answer_p0 47 rfl) (by decide) ?_
        exact mf_sub [2, 3, 4, 5, 0, 6, 7, 8, 1] rfl (hyp hG)
      · replace hyp := hyp.2 hc
        refine mf_iload_n (mf_dat eX11_answer_p0 42 rfl) rfl rfl ?_
        refine mf_bipush (v := 29) (mf_dat eX11_answer_p0 43 rfl) (by decide) ?_
        refine mf_icmp_ne (tgt := 96) (mf_dat eX11_answer_p0 44 rfl) (by decide) (fun hc => ?_) (fun hc => ?_)
        · replace hyp := hyp.1 hc
          exact mf_sub [1, 2, 3, 4, 5, 6, 7, 8, 0] rfl (hyp hG)
        · replace hyp := hyp.2 hc
          refine mf_iload (mf_dat eX11_answer_p0 45 rfl) rfl ?_
          refine mf_i2l (mf_dat eX11_answer_p0 46 rfl) ?_
          refine mf_lstore (mf_dat eX11_answer_p0 47 rfl) (by decide) ?_
          exact mf_sub [2, 3, 4, 5, 0, 6, 7, 8, 1] rfl (hyp hG)
set_option maxRecDepth 100000 in
set_option maxHeartbeats 4000000 in
theorem vX11_answer_96 {C : mf_G} {l : Launch} {d : Nat} {K : mf_Kt} {x1 x2 x3 x5 x7 x9 x11 x12 : Int} {g h : mf_M} (hd : 1 ≤ d) (hyp : (∀ v1 : Int, v1 = mf_w64 (x3 + x12) → ((¬ x11 = 0 → xM C l 0 YJ9_max_f86c9 [(1, x7), (1, x12)] g h (fun r2 g3 h4 => BX11_answer_121 C l d K x1 x2 v1 x5 x9 x11 x12 r2 g3 h4)) ∧ (x11 = 0 → BX11_answer_121 C l d K x1 x2 v1 x5 x9 x11 x12 x12 g h)))) : BX11_answer_96 C l d K x1 x2 x3 x5 x7 x9 x11 x12 g h := by
  intro hG
  refine mf_lload_n (mf_dat eX11_answer_p0 48 rfl) rfl rfl ?_
  refine mf_iload (mf_dat eX11_answer_p0 49 rfl) rfl ?_
  refine mf_i2l (mf_dat eX11_answer_p0 50 rfl) ?_
  refine mf_ladd (mf_dat eX11_answer_p0 51 rfl) ?_
  generalize qv1 : mf_w64 (x3 + x12) = v1
  replace hyp := hyp _ qv1.symm
  refine mf_lstore_n (mf_dat eX11_answer_p0 52 rfl) rfl (by decide) ?_
  refine mf_iload (mf_dat eX11_answer_p0 53 rfl) rfl ?_
  refine mf_if_ne (tgt := 113) (mf_dat eX11_answer_p0 54 rfl) (by decide) (fun hc => ?_) (fun hc => ?_)
  · replace hyp := hyp.1 hc
    refine mf_lload (mf_dat eX11_answer_p0 58 rfl) rfl ?_
    refine mf_iload (mf_dat eX11_answer_p0 59 rfl) rfl ?_
    refine mf_i2l (mf_dat eX11_answer_p1 0 rfl) ?_
    refine mf_callS (Yc := YJ9_max_f86c9) (mf_dat eX11_answer_p1 1 rfl) ml_X11_341 okJ9_max_f86c9 sm_J9_max_f86c9 rfl rfl (Nat.le_of_ble_eq_true rfl) (mf_rr (Nat.le_trans (by decide) hd) (Nat.le_refl _)) (Nat.le_refl _) (hyp hG) (fun r2 g3 h4 hyp => ?_)
    obtain ⟨hG, hyp⟩ := hyp
    exact mf_sub [1, 2, 3, 0, 4, 6, 7, 8] rfl (hyp hG)
  · replace hyp := hyp.2 hc
    refine mf_iload (mf_dat eX11_answer_p0 55 rfl) rfl ?_
    refine mf_i2l (mf_dat eX11_answer_p0 56 rfl) ?_
    refine mf_goto (tgt := 121) (mf_dat eX11_answer_p0 57 rfl) (by decide) ?_
    exact mf_sub [1, 2, 3, 0, 4, 6, 7, 8] rfl (hyp hG)
set_option maxRecDepth 100000 in
set_option maxHeartbeats 4000000 in
theorem vX11_answer_121 {C : mf_G} {l : Launch} {d : Nat} {K : mf_Kt} {x1 x2 x3 x5 x9 x11 x12 s0 : Int} {g h : mf_M} (hd : 1 ≤ d) (hyp : ((¬ x11 = 0 → xM C l 0 YJ9_min_f86c9 [(1, x9), (1, x12)] g h (fun r1 g2 h3 => (∀ v4 : Int, v4 = mf_w32 (x11 + 1) → BX11_answer_35 C l d K x1 x2 x3 x5 s0 r1 v4 g2 h3))) ∧ (x11 = 0 → (∀ v5 : Int, v5 = mf_w32 (x11 + 1) → BX11_answer_35 C l d K x1 x2 x3 x5 s0 x12 v5 g h)))) : BX11_answer_121 C l d K x1 x2 x3 x5 x9 x11 x12 s0 g h := by
  intro hG
  refine mf_lstore (mf_dat eX11_answer_p1 2 rfl) (by decide) ?_
  refine mf_iload (mf_dat eX11_answer_p1 3 rfl) rfl ?_
  refine mf_if_ne (tgt := 134) (mf_dat eX11_answer_p1 4 rfl) (by decide) (fun hc => ?_) (fun hc => ?_)
  · replace hyp := hyp.1 hc
    refine mf_lload (mf_dat eX11_answer_p1 8 rfl) rfl ?_
    refine mf_iload (mf_dat eX11_answer_p1 9 rfl) rfl ?_
    refine mf_i2l (mf_dat eX11_answer_p1 10 rfl) ?_
    refine mf_callS (Yc := YJ9_min_f86c9) (mf_dat eX11_answer_p1 11 rfl) ml_X11_345 okJ9_min_f86c9 sm_J9_min_f86c9 rfl rfl (Nat.le_of_ble_eq_true rfl) (mf_rr (Nat.le_trans (by decide) hd) (Nat.le_refl _)) (Nat.le_refl _) (hyp hG) (fun r1 g2 h3 hyp => ?_)
    obtain ⟨hG, hyp⟩ := hyp
    refine mf_lstore (mf_dat eX11_answer_p1 12 rfl) (by decide) ?_
    refine mf_iinc (mf_dat eX11_answer_p1 13 rfl) rfl (by decide) (by decide) ?_
    generalize qv4 : mf_w32 (x11 + 1) = v4
    replace hyp := hyp _ qv4.symm
    refine mf_goto (tgt := 35) (mf_dat eX11_answer_p1 14 rfl) (by decide) ?_
    exact mf_sub [3, 4, 5, 6, 7, 2, 1, 0] rfl (hyp hG)
  · replace hyp := hyp.2 hc
    refine mf_iload (mf_dat eX11_answer_p1 5 rfl) rfl ?_
    refine mf_i2l (mf_dat eX11_answer_p1 6 rfl) ?_
    refine mf_goto (tgt := 142) (mf_dat eX11_answer_p1 7 rfl) (by decide) ?_
    refine mf_lstore (mf_dat eX11_answer_p1 12 rfl) (by decide) ?_
    refine mf_iinc (mf_dat eX11_answer_p1 13 rfl) rfl (by decide) (by decide) ?_
    generalize qv5 : mf_w32 (x11 + 1) = v5
    replace hyp := hyp _ qv5.symm
    refine mf_goto (tgt := 35) (mf_dat eX11_answer_p1 14 rfl) (by decide) ?_
    exact mf_sub [3, 4, 5, 6, 7, 2, 1, 0] rfl (hyp hG)
set_option maxRecDepth 100000 in
set_option maxHeartbeats 4000000 in
theorem wX11_answer {C : mf_G} {l : Launch} {d : Nat} {K : mf_Kt} {x1 : Int} {g h : mf_M} (hd : 5 ≤ d) (hyp : xM C l 4 YX0_openingOf [(2, 46), (2, g 0 12), (0, h 88 7)] g h (fun r1 g2 h3 => BX11_answer_35 C l d K x1 r1 0 (-1) 0 0 0 g2 h3)) : xM C l d YX11_answer [(2, 0), (0, x1)] g h K := by
  intro hG
  refine mf_entry (by decide) (Nat.le_of_ble_eq_true rfl) ?_
  refine mf_aload_n (mf_dat eX11_answer_p0 0 rfl) rfl rfl ?_
  refine mf_getf (r := (RX11, TX11, 20)) (ci := 11) (k := 4) (t := 2) (v := 46) (mf_dat eX11_answer_p0 1 rfl) fl_X11_66 rfl (by decide) rfl (gx_0_4 hG) is0 ?_
  refine mf_aload_n (mf_dat eX11_answer_p0 2 rfl) rfl rfl ?_
  refine mf_getf (r := (RX11, TX11, 20)) (ci := 11) (k := 12) (t := 2) (v := g 0 12) (mf_dat eX11_answer_p0 3 rfl) fl_X11_47 rfl (by decide) rfl rfl is0 ?_
  refine mf_aload_n (mf_dat eX11_answer_p0 4 rfl) rfl rfl ?_
  refine mf_getf (r := (RX11, TX11, 20)) (ci := 11) (k := 7) (t := 2) (v := 88) (mf_dat eX11_answer_p0 5 rfl) fl_X11_82 rfl (by decide) rfl (gx_0_7 hG) is0 ?_
  refine mf_getf (r := (RX6, TX6, 8)) (ci := 6) (k := 7) (t := 0) (v := h 88 7) (mf_dat eX11_answer_p0 6 rfl) fl_X11_156 rfl (by decide) rfl rfl is88 ?_
  refine mf_callV (Yc := YX0_openingOf) (r := (RX0, TX0, 1)) (ci := 0) (mf_dat eX11_answer_p0 7 rfl) ml_X11_159 okX0_openingOf im_X0_openingOf sl_X0_openingOf rfl rfl rfl rfl (Nat.le_of_ble_eq_true rfl) (mf_rr (Nat.le_trans (by decide) hd) (Nat.le_refl _)) (Nat.le_refl _) is46 (hyp hG) (fun r1 g2 h3 hyp => ?_)
  obtain ⟨hG, hyp⟩ := hyp
  refine mf_istore_n (mf_dat eX11_answer_p0 8 rfl) rfl (by decide) ?_
  refine mf_lconst (v := 0) (mf_dat eX11_answer_p0 9 rfl) (by decide) ?_
  refine mf_lstore_n (mf_dat eX11_answer_p0 10 rfl) rfl (by decide) ?_
  refine mf_ldc2 (v := (-1)) cl_X11_335 (mf_dat eX11_answer_p0 11 rfl) (by decide) ?_
  refine mf_lstore (mf_dat eX11_answer_p0 12 rfl) (by decide) ?_
  refine mf_lconst (v := 0) (mf_dat eX11_answer_p0 13 rfl) (by decide) ?_
  refine mf_lstore (mf_dat eX11_answer_p0 14 rfl) (by decide) ?_
  refine mf_lconst (v := 0) (mf_dat eX11_answer_p0 15 rfl) (by decide) ?_
  refine mf_lstore (mf_dat eX11_answer_p0 16 rfl) (by decide) ?_
  refine mf_iconst (v := 0) (mf_dat eX11_answer_p0 17 rfl) (by decide) ?_
  refine mf_istore (mf_dat eX11_answer_p0 18 rfl) (by decide) ?_
  exact mf_sub [6, 7, 5, 4, 3, 2, 1, 0] rfl (hyp hG)
set_option maxRecDepth 100000 in
set_option maxHeartbeats 4000000 in
theorem wX11_addOctets {C : mf_G} {l : Launch} {d : Nat} {K : mf_Kt} {x1 : Int} {g h : mf_M} (hd : 1 ≤ d) (hyp : xM C l 0 YX11_addOctet [(2, 0), (0, mf_w32 (x1.tdiv 256))] g h (fun r1 g2 h3 => xM C l 0 YX11_addOctet [(2, 0), (0, x1.tmod 256)] g2 h3 (fun r4 g5 h6 => K 0 g5 h6))) : xM C l d YX11_addOctets [(2, 0), (0, x1)] g h K := by
  intro hG
  refine mf_entry (by decide) (Nat.le_of_ble_eq_true rfl) ?_
  refine mf_aload_n (mf_dat eX11_addOctets 0 rfl) rfl rfl ?_
  refine mf_iload_n (mf_dat eX11_addOctets 1 rfl) rfl rfl ?_
  refine mf_sipush (v := 256) (mf_dat eX11_addOctets 2 rfl) (by decide) ?_
  refine mf_idiv (mf_dat eX11_addOctets 3 rfl) (by decide) ?_
  refine mf_callV (Yc := YX11_addOctet) (r := (RX11, TX11, 20)) (ci := 11) (mf_dat eX11_addOctets 4 rfl) ml_X11_309 okX11_addOctet im_X11_addOctet sl_X11_addOctet rfl rfl rfl rfl (Nat.le_of_ble_eq_true rfl) (mf_rr (Nat.le_trans (by decide) hd) (Nat.le_refl _)) (Nat.le_refl _) is0 (hyp hG) (fun r1 g2 h3 hyp => ?_)
  obtain ⟨hG, hyp⟩ := hyp
  refine mf_aload_n (mf_dat eX11_addOctets 5 rfl) rfl rfl ?_
  refine mf_iload_n (mf_dat eX11_addOctets 6 rfl) rfl rfl ?_
  refine mf_sipush (v := 256) (mf_dat eX11_addOctets 7 rfl) (by decide) ?_
  refine mf_irem (mf_dat eX11_addOctets 8 rfl) (by decide) ?_
  refine mf_callV (Yc := YX11_addOctet) (r := (RX11, TX11, 20)) (ci := 11) (mf_dat eX11_addOctets 9 rfl) ml_X11_309 okX11_addOctet im_X11_addOctet sl_X11_addOctet rfl rfl rfl rfl (Nat.le_of_ble_eq_true rfl) (mf_rr (Nat.le_trans (by decide) hd) (Nat.le_refl _)) (Nat.le_refl _) is0 (hyp hG) (fun r4 g5 h6 hyp => ?_)
  obtain ⟨hG, hyp⟩ := hyp
  exact mf_return (mf_dat eX11_addOctets 10 rfl) rfl ⟨hG, hyp⟩
set_option maxRecDepth 100000 in
set_option maxHeartbeats 4000000 in
theorem wX11_addOctet {C : mf_G} {l : Launch} {d : Nat} {K : mf_Kt} {x1 : Int} {g h : mf_M} (hyp : ((57 ≤ h 0 14 → K 0 g h) ∧ (¬ 57 ≤ h 0 14 → 0 ≤ h 0 14 ∧ h 0 14 < 57 ∧ (∀ h3 : mf_M, h3 = mf_up h 244 (h 0 14) x1 → (∀ h4 : mf_M, h4 = mf_up h3 0 14 (mf_w32 ((h3 0 14) + 1)) → K 0 g h4))))) : xM C l d YX11_addOctet [(2, 0), (0, x1)] g h K := by
  intro hG
  refine mf_entry (by decide) (Nat.le_of_ble_eq_true rfl) ?_
  refine mf_aload_n (mf_dat eX11_addOctet 0 rfl) rfl rfl ?_
  refine mf_getf (r := (RX11, TX11, 20)) (ci := 11) (k := 14) (t := 0) (v := h 0 14) (mf_dat eX11_addOctet 1 rfl) fl_X11_300 rfl (by decide) rfl rfl is0 ?_
  refine mf_aload_n (mf_dat eX11_addOctet 2 rfl) rfl rfl ?_
  refine mf_getf (r := (RX11, TX11, 20)) (ci := 11) (k := 11) (t := 2) (v := 244) (mf_dat eX11_addOctet 3 rfl) fl_X11_97 rfl (by decide) rfl (gx_0_11 hG) is0 ?_
  refine mf_alen (c := 20) (i := 0) (ty := .int) (v := 57) (mf_dat eX11_addOctet 4 rfl) (by decide) rfl is244 len244 (mf_len_small _) ?_
  refine mf_icmp_ge (tgt := 32) (mf_dat eX11_addOctet 5 rfl) (by decide) (fun hc => ?_) (fun hc => ?_)
  · replace hyp := hyp.1 hc
    exact mf_return (mf_dat eX11_addOctet 18 rfl) rfl ⟨hG, hyp⟩
  · replace hyp := hyp.2 hc
    refine mf_aload_n (mf_dat eX11_addOctet 6 rfl) rfl rfl ?_
    refine mf_getf (r := (RX11, TX11, 20)) (ci := 11) (k := 11) (t := 2) (v := 244) (mf_dat eX11_addOctet 7 rfl) fl_X11_97 rfl (by decide) rfl (gx_0_11 hG) is0 ?_
    refine mf_aload_n (mf_dat eX11_addOctet 8 rfl) rfl rfl ?_
    refine mf_getf (r := (RX11, TX11, 20)) (ci := 11) (k := 14) (t := 0) (v := h 0 14) (mf_dat eX11_addOctet 9 rfl) fl_X11_300 rfl (by decide) rfl rfl is0 ?_
    refine mf_iload_n (mf_dat eX11_addOctet 10 rfl) rfl rfl ?_
    obtain ⟨ck1, hyp⟩ := hyp
    obtain ⟨ck2, hyp⟩ := hyp
    refine mf_iast (mf_dat eX11_addOctet 11 rfl) is244 len244 ck1 ck2 ?_
    generalize qh3 : mf_up h 244 (h 0 14) x1 = h3
    replace hyp := hyp _ qh3.symm
    refine mf_aload_n (mf_dat eX11_addOctet 12 rfl) rfl rfl ?_
    refine mf_dup (mf_dat eX11_addOctet 13 rfl) (by decide) ?_
    refine mf_getf (r := (RX11, TX11, 20)) (ci := 11) (k := 14) (t := 0) (v := h3 0 14) (mf_dat eX11_addOctet 14 rfl) fl_X11_300 rfl (by decide) rfl rfl is0 ?_
    refine mf_iconst (v := 1) (mf_dat eX11_addOctet 15 rfl) (by decide) ?_
    refine mf_iadd (mf_dat eX11_addOctet 16 rfl) ?_
    refine mf_putI (r := (RX11, TX11, 20)) (ci := 11) (k := 14) (kI := 14) (t := 0) (mf_dat eX11_addOctet 17 rfl) fl_X11_300 rfl rfl (by decide) rfl (by decide) rfl (by decide) (fun h9 => absurd h9 (by decide)) is0 ?_
    generalize qh4 : mf_up h3 0 14 (mf_w32 ((h3 0 14) + 1)) = h4
    replace hyp := hyp _ qh4.symm
    exact mf_return (mf_dat eX11_addOctet 18 rfl) rfl ⟨hG, hyp⟩
