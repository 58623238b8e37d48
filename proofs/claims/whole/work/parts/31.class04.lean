abbrev BX11_answer_35 (C : mf_G) (l : Launch) (d : Nat) (K : mf_Kt) (x1 x2 x3 x5 x7 x9 x11 : Int) (g h : mf_M) : Prop := jX C l d YX11_answer K 35 [(0, (2, 0)), (1, (0, x1)), (2, (0, x2)), (3, (1, x3)), (5, (1, x5)), (7, (1, x7)), (9, (1, x9)), (11, (0, x11))] [] g h
abbrev BX11_answer_96 (C : mf_G) (l : Launch) (d : Nat) (K : mf_Kt) (x1 x2 x3 x5 x7 x9 x11 x12 : Int) (g h : mf_M) : Prop := jX C l d YX11_answer K 96 [(0, (2, 0)), (1, (0, x1)), (2, (0, x2)), (3, (1, x3)), (5, (1, x5)), (7, (1, x7)), (9, (1, x9)), (11, (0, x11)), (12, (0, x12))] [] g h
abbrev BX11_answer_121 (C : mf_G) (l : Launch) (d : Nat) (K : mf_Kt) (x1 x2 x3 x5 x9 x11 x12 s0 : Int) (g h : mf_M) : Prop := jX C l d YX11_answer K 121 [(0, (2, 0)), (1, (0, x1)), (2, (0, x2)), (3, (1, x3)), (5, (1, x5)), (9, (1, x9)), (11, (0, x11)), (12, (0, x12))] [(1, s0)] g h
set_option maxRecDepth 100000 in
set_option maxHeartbeats 4000000 in
theorem vX11_answer_35 {C : mf_G} {l : Launch} {d : Nat} {K : mf_Kt} {x1 x2 x3 x5 x7 x9 x11 : Int} {g h : mf_M} (hd : 5 ≤ d) (hyp : mf_is 319 (g 0 12) 1 ∧ ((h (g 0 12) 12 ≤ x11 → ((x1 = 28 → K x5 g h) ∧ (x1 = 29 → K x5 g h) ∧ (x1 = 30 → K x3 g h) ∧ (x1 = 31 → K x3 g h) ∧ (x1 = 32 → K x7 g h) ∧ (x1 = 33 → K x9 g h) ∧ ((x1 < 28 ∨ 33 < x1) → K x3 g h))) ∧ (¬ h (g 0 12) 12 ≤ x11 → xM C l 4 YX0_reckonOf [(2, 46), (2, 6), (2, g 0 12), (2, 88), (0, x11), (0, x2)] g h (fun r2 g3 h4 => ((r2 = 0 → BX11_answer_96 C l d K x1 x2 x3 x5 x7 x9 x11 r2 g3 h4) ∧ (¬ r2 = 0 → ((x5 = (-1) → BX11_answer_96 C l d K x1 x2 x3 x11 x7 x9 x11 r2 g3 h4) ∧ (¬ x5 = (-1) → ((¬ x1 = 29 → BX11_answer_96 C l d K x1 x2 x3 x5 x7 x9 x11 r2 g3 h4) ∧ (x1 = 29 → BX11_answer_96 C l d K x1 x2 x3 x11 x7 x9 x11 r2 g3 h4)))))))))) : BX11_answer_35 C l d K x1 x2 x3 x5 x7 x9 x11 g h := by
  intro hG
  refine mf_iload (mf_dat eX11_answer_p0 19 rfl) rfl ?_
  refine mf_aload_n (mf_dat eX11_answer_p0 20 rfl) rfl rfl ?_
  refine mf_getf (r := (RX11, TX11, 20)) (ci := 11) (k := 12) (t := 2) (v := g 0 12) (mf_dat eX11_answer_p0 21 rfl) fl_X11_47 rfl (by decide) rfl rfl is0 ?_
  obtain ⟨ck1, hyp⟩ := hyp
  refine mf_getf (r := (RX1, TX1, 14)) (ci := 1) (k := 12) (t := 0) (v := h (g 0 12) 12) (mf_dat eX11_answer_p0 22 rfl) fl_X11_153 rfl (by decide) rfl rfl ck1 ?_
  refine mf_icmp_ge (tgt := 150) (mf_dat eX11_answer_p0 23 rfl) (by decide) (fun hc => ?_) (fun hc => ?_)
  · replace hyp := hyp.1 hc
    refine mf_iload_n (mf_dat eX11_answer_p1 15 rfl) rfl rfl ?_
    refine mf_tsw1 (v := 28) (tgt := 188) (mf_dat eX11_answer_p1 16 rfl) (by decide) (by decide) (off := 37) (by decide) (by decide) (fun hc => ?_) (fun hc0 => ?_)
    · replace hyp := hyp.1 hc
      refine mf_lload (mf_dat eX11_answer_p1 17 rfl) rfl ?_
      exact mf_lreturn (mf_dat eX11_answer_p1 18 rfl) rfl ⟨hG, hyp⟩
    replace hyp := hyp.2
    refine mf_tsw1 (v := 29) (tgt := 191) (mf_dat eX11_answer_p1 16 rfl) (by decide) (by decide) (off := 40) (by decide) (by decide) (fun hc => ?_) (fun hc1 => ?_)
    · replace hyp := hyp.1 hc
      refine mf_lload (mf_dat eX11_answer_p1 19 rfl) rfl ?_
      exact mf_lreturn (mf_dat eX11_answer_p1 20 rfl) rfl ⟨hG, hyp⟩
    replace hyp := hyp.2
    refine mf_tsw1 (v := 30) (tgt := 200) (mf_dat eX11_answer_p1 16 rfl) (by decide) (by decide) (off := 49) (by decide) (by decide) (fun hc => ?_) (fun hc2 => ?_)
    · replace hyp := hyp.1 hc
      refine mf_lload_n (mf_dat eX11_answer_p1 25 rfl) rfl rfl ?_
      exact mf_lreturn (mf_dat eX11_answer_p1 26 rfl) rfl ⟨hG, hyp⟩
    replace hyp := hyp.2
    refine mf_tsw1 (v := 31) (tgt := 200) (mf_dat eX11_answer_p1 16 rfl) (by decide) (by decide) (off := 49) (by decide) (by decide) (fun hc => ?_) (fun hc3 => ?_)
    · replace hyp := hyp.1 hc
      refine mf_lload_n (mf_dat eX11_answer_p1 25 rfl) rfl rfl ?_
      exact mf_lreturn (mf_dat eX11_answer_p1 26 rfl) rfl ⟨hG, hyp⟩
    replace hyp := hyp.2
    refine mf_tsw1 (v := 32) (tgt := 194) (mf_dat eX11_answer_p1 16 rfl) (by decide) (by decide) (off := 43) (by decide) (by decide) (fun hc => ?_) (fun hc4 => ?_)
    · replace hyp := hyp.1 hc
      refine mf_lload (mf_dat eX11_answer_p1 21 rfl) rfl ?_
      exact mf_lreturn (mf_dat eX11_answer_p1 22 rfl) rfl ⟨hG, hyp⟩
    replace hyp := hyp.2
    refine mf_tsw1 (v := 33) (tgt := 197) (mf_dat eX11_answer_p1 16 rfl) (by decide) (by decide) (off := 46) (by decide) (by decide) (fun hc => ?_) (fun hc5 => ?_)
    · replace hyp := hyp.1 hc
      refine mf_lload (mf_dat eX11_answer_p1 23 rfl) rfl ?_
      exact mf_lreturn (mf_dat eX11_answer_p1 24 rfl) rfl ⟨hG, hyp⟩
    replace hyp := hyp.2
    refine mf_tswO (tgt := 200) (mf_dat eX11_answer_p1 16 rfl) (by omega) (by decide) ?_
    replace hyp := hyp (by omega)
    refine mf_lload_n (mf_dat eX11_answer_p1 25 rfl) rfl rfl ?_
    exact mf_lreturn (mf_dat eX11_answer_p1 26 rfl) rfl ⟨hG, hyp⟩
  · replace hyp := hyp.2 hc
    refine mf_aload_n (mf_dat eX11_answer_p0 24 rfl) rfl rfl ?_
    refine mf_getf (r := (RX11, TX11, 20)) (ci := 11) (k := 4) (t := 2) (v := 46) (mf_dat eX11_answer_p0 25 rfl) fl_X11_66 rfl (by decide) rfl (gx_0_4 hG) is0 ?_
    refine mf_aload_n (mf_dat eX11_answer_p0 26 rfl) rfl rfl ?_
    refine mf_getf (r := (RX11, TX11, 20)) (ci := 11) (k := 6) (t := 2) (v := 6) (mf_dat eX11_answer_p0 27 rfl) fl_X11_31 rfl (by decide) rfl (gx_0_6 hG) is0 ?_
    refine mf_aload_n (mf_dat eX11_answer_p0 28 rfl) rfl rfl ?_
    refine mf_getf (r := (RX11, TX11, 20)) (ci := 11) (k := 12) (t := 2) (v := g 0 12) (mf_dat eX11_answer_p0 29 rfl) fl_X11_47 rfl (by decide) rfl rfl is0 ?_
    refine mf_aload_n (mf_dat eX11_answer_p0 30 rfl) rfl rfl ?_
    refine mf_getf (r := (RX11, TX11, 20)) (ci := 11) (k := 7) (t := 2) (v := 88) (mf_dat eX11_answer_p0 31 rfl) fl_X11_82 rfl (by decide) rfl (gx_0_7 hG) is0 ?_
    refine mf_iload (mf_dat eX11_answer_p0 32 rfl) rfl ?_
    refine mf_iload_n (mf_dat eX11_answer_p0 33 rfl) rfl rfl ?_
    refine mf_callV (Yc := YX0_reckonOf) (r := (RX0, TX0, 1)) (ci := 0) (mf_dat eX11_answer_p0 34 rfl) ml_X11_337 okX0_reckonOf im_X0_reckonOf sl_X0_reckonOf rfl rfl rfl rfl (Nat.le_of_ble_eq_true rfl) (mf_rr (Nat.le_trans (by decide) hd) (Nat.le_refl _)) (Nat.le_refl _) is46 (hyp hG) (fun r2 g3 h4 hyp => ?_)
    obtain ⟨hG, hyp⟩ := hyp
    refine mf_istore (mf_dat eX11_answer_p0 35 rfl) (by decide) ?_
    refine mf_iload (mf_dat eX11_answer_p0 36 rfl) rfl ?_
    refine mf_if_eq (tgt := 96) (mf_dat eX11_answer_p0 37 rfl) (by decide) (fun hc => ?_) (fun hc => ?_)
    · replace hyp := hyp.1 hc
      exact mf_sub [1, 2, 3, 4, 5, 6, 7, 8, 0] rfl (hyp hG)
    · replace hyp := hyp.2 hc
      refine mf_lload (mf_dat eX11_answer_p0 38 rfl) rfl ?_
      refine mf_ldc2 (v := (-1)) cl_X11_335 (mf_dat eX11_answer_p0 39 rfl) (by decide) ?_
      refine mf_lcmp_eq (tgt := 91) (mf_dat eX11_answer_p0 40 rfl) (mf_dat eX11_answer_p0 41 rfl) (by decide) (fun hc => ?_) (fun hc => ?_)
      · replace hyp := hyp.1 hc
        refine mf_iload (mf_dat eX11_answer_p0 45 rfl) rfl ?_
        refine mf_i2l (mf_dat eX11_answer_p0 46 rfl) ?_
        refine mf_lstore (mf_dat eX11_answer_p0 47 rfl) (by decide) ?_
        exact mf_sub [2, 3, 4, 5, 0, 6, 7, 8, 1] rfl (hyp hG)
      · replace hyp := hyp.2 hc
        refine mf_iload_n (mf_dat eX11_answer_p0 42 rfl) rfl rfl ?_
        refine mf_bipush (v := 29) (mf_dat eX11_answer_p0 43 rfl) (by decide) ?_
        refine mf_icmp_ne (tgt := 96) (mf_dat eX11_answer_p0 44 rfl) (by decide) (fun hc => ?_) (fun hc => ?_)
        · replace hyp := hyp.1 hc
          exact mf_sub [1, 2, 3, 4, 5, 6, 7, 8, 0] rfl (hyp hG)
        · replace hyp := hyp.2 hc
          refine mf_iload (mf_dat eX11_answer_p0 45 rfl) rfl ?_
          refine mf_i2l (mf_dat eX11_answer_p0 46 rfl) ?_
          refine mf_lstore (mf_dat eX11_answer_p0 47 rfl) (by decide) ?_
          exact mf_sub [2, 3, 4, 5, 0, 6, 7, 8, 1] rfl (hyp hG)
set_option maxRecDepth 100000 in
set_option maxHeartbeats 4000000 in
theorem vX11_answer_96 {C : mf_G} {l : Launch} {d : Nat} {K : mf_Kt} {x1 x2 x3 x5 x7 x9 x11 x12 : Int} {g h : mf_M} (hd : 1 ≤ d) (hyp : (∀ v1 : Int, v1 = mf_w64 (x3 + x12) → ((¬ x11 = 0 → xM C l 0 YJ9_max_f86c9 [(1, x7), (1, x12)] g h (fun r2 g3 h4 => BX11_answer_121 C l d K x1 x2 v1 x5 x9 x11 x12 r2 g3 h4)) ∧ (x11 = 0 → BX11_answer_121 C l d K x1 x2 v1 x5 x9 x11 x12 x12 g h)))) : BX11_answer_96 C l d K x1 x2 x3 x5 x7 x9 x11 x12 g h := by
  intro hG
  refine mf_lload_n (mf_dat eX11_answer_p0 48 rfl) rfl rfl ?_
  refine mf_iload (mf_dat eX11_answer_p0 49 rfl) rfl ?_
  refine mf_i2l (mf_dat eX11_answer_p0 50 rfl) ?_
  refine mf_ladd (mf_dat eX11_answer_p0 51 rfl) ?_
  generalize qv1 : mf_w64 (x3 + x12) = v1
  replace hyp := hyp _ qv1.symm
  refine mf_lstore_n (mf_dat eX11_answer_p0 52 rfl) rfl (by decide) ?_
  refine mf_iload (mf_dat eX11_answer_p0 53 rfl) rfl ?_
  refine mf_if_ne (tgt := 113) (mf_dat eX11_answer_p0 54 rfl) (by decide) (fun hc => ?_) (fun hc => ?_)
  · replace hyp := hyp.1 hc
    refine mf_lload (mf_dat eX11_answer_p0 58 rfl) rfl ?_
    refine mf_iload (mf_dat eX11_answer_p0 59 rfl) rfl ?_
    refine mf_i2l (mf_dat eX11_answer_p1 0 rfl) ?_
    refine mf_callS (Yc := YJ9_max_f86c9) (mf_dat eX11_answer_p1 1 rfl) ml_X11_341 okJ9_max_f86c9 sm_J9_max_f86c9 rfl rfl (Nat.le_of_ble_eq_true rfl) (mf_rr (Nat.le_trans (by decide) hd) (Nat.le_refl _)) (Nat.le_refl _) (hyp hG) (fun r2 g3 h4 hyp => ?_)
    obtain ⟨hG, hyp⟩ := hyp
    exact mf_sub [1, 2, 3, 0, 4, 6, 7, 8] rfl (hyp hG)
  · replace hyp := hyp.2 hc
    refine mf_iload (mf_dat eX11_answer_p0 55 rfl) rfl ?_
    refine mf_i2l (mf_dat eX11_answer_p0 56 rfl) ?_
    refine mf_goto (tgt := 121) (mf_dat eX11_answer_p0 57 rfl) (by decide) ?_
    exact mf_sub [1, 2, 3, 0, 4, 6, 7, 8] rfl (hyp hG)
set_option maxRecDepth 100000 in
set_option maxHeartbeats 4000000 in
theorem vX11_answer_121 {C : mf_G} {l : Launch} {d : Nat} {K : mf_Kt} {x1 x2 x3 x5 x9 x11 x12 s0 : Int} {g h : mf_M} (hd : 1 ≤ d) (hyp : ((¬ x11 = 0 → xM C l 0 YJ9_min_f86c9 [(1, x9), (1, x12)] g h (fun r1 g2 h3 => (∀ v4 : Int, v4 = mf_w32 (x11 + 1) → BX11_answer_35 C l d K x1 x2 x3 x5 s0 r1 v4 g2 h3))) ∧ (x11 = 0 → (∀ v5 : Int, v5 = mf_w32 (x11 + 1) → BX11_answer_35 C l d K x1 x2 x3 x5 s0 x12 v5 g h)))) : BX11_answer_121 C l d K x1 x2 x3 x5 x9 x11 x12 s0 g h := by
  intro hG
  refine mf_lstore (mf_dat eX11_answer_p1 2 rfl) (by decide) ?_
  refine mf_iload (mf_dat eX11_answer_p1 3 rfl) rfl ?_
  refine mf_if_ne (tgt := 134) (mf_dat eX11_answer_p1 4 rfl) (by decide) (fun hc => ?_) (fun hc => ?_)
  · replace hyp := hyp.1 hc
    refine mf_lload (mf_dat eX11_answer_p1 8 rfl) rfl ?_
    refine mf_iload (mf_dat eX11_answer_p1 9 rfl) rfl ?_
    refine mf_i2l (mf_dat eX11_answer_p1 10 rfl) ?_
    refine mf_callS (Yc := YJ9_min_f86c9) (mf_dat eX11_answer_p1 11 rfl) ml_X11_345 okJ9_min_f86c9 sm_J9_min_f86c9 rfl rfl (Nat.le_of_ble_eq_true rfl) (mf_rr (Nat.le_trans (by decide) hd) (Nat.le_refl _)) (Nat.le_refl _) (hyp hG) (fun r1 g2 h3 hyp => ?_)
    obtain ⟨hG, hyp⟩ := hyp
    refine mf_lstore (mf_dat eX11_answer_p1 12 rfl) (by decide) ?_
    refine mf_iinc (mf_dat eX11_answer_p1 13 rfl) rfl (by decide) (by decide) ?_
    generalize qv4 : mf_w32 (x11 + 1) = v4
    replace hyp := hyp _ qv4.symm
    refine mf_goto (tgt := 35) (mf_dat eX11_answer_p1 14 rfl) (by decide) ?_
    exact mf_sub [3, 4, 5, 6, 7, 2, 1, 0] rfl (hyp hG)
  · replace hyp := hyp.2 hc
    refine mf_iload (mf_dat eX11_answer_p1 5 rfl) rfl ?_
    refine mf_i2l (mf_dat eX11_answer_p1 6 rfl) ?_
    refine mf_goto (tgt := 142) (mf_dat eX11_answer_p1 7 rfl) (by decide) ?_
    refine mf_lstore (mf_dat eX11_answer_p1 12 rfl) (by decide) ?_
    refine mf_iinc (mf_dat eX11_answer_p1 13 rfl) rfl (by decide) (by decide) ?_
    generalize qv5 : mf_w32 (x11 + 1) = v5
    replace hyp := hyp _ qv5.symm
    refine mf_goto (tgt := 35) (mf_dat eX11_answer_p1 14 rfl) (by decide) ?_
    exact mf_sub [3, 4, 5, 6, 7, 2, 1, 0] rfl (hyp hG)
set_option maxRecDepth 100000 in
set_option maxHeartbeats 4000000 in
theorem wX11_answer {C : mf_G} {l : Launch} {d : Nat} {K : mf_Kt} {x1 : Int} {g h : mf_M} (hd : 5 ≤ d) (hyp : xM C l 4 YX0_openingOf [(2, 46), (2, g 0 12), (0, h 88 7)] g h (fun r1 g2 h3 => BX11_answer_35 C l d K x1 r1 0 (-1) 0 0 0 g2 h3)) : xM C l d YX11_answer [(2, 0), (0, x1)] g h K := by
  intro hG
  refine mf_entry (by decide) (Nat.le_of_ble_eq_true rfl) ?_
  refine mf_aload_n (mf_dat eX11_answer_p0 0 rfl) rfl rfl ?_
  refine mf_getf (r := (RX11, TX11, 20)) (ci := 11) (k := 4) (t := 2) (v := 46) (mf_dat eX11_answer_p0 1 rfl) fl_X11_66 rfl (by decide) rfl (gx_0_4 hG) is0 ?_
  refine mf_aload_n (mf_dat eX11_answer_p0 2 rfl) rfl rfl ?_
  refine mf_getf (r := (RX11, TX11, 20)) (ci := 11) (k := 12) (t := 2) (v := g 0 12) (mf_dat eX11_answer_p0 3 rfl) fl_X11_47 rfl (by decide) rfl rfl is0 ?_
  refine mf_aload_n (mf_dat eX11_answer_p0 4 rfl) rfl rfl ?_
  refine mf_getf (r := (RX11, TX11, 20)) (ci := 11) (k := 7) (t := 2) (v := 88) (mf_dat eX11_answer_p0 5 rfl) fl_X11_82 rfl (by decide) rfl (gx_0_7 hG) is0 ?_
  refine mf_getf (r := (RX6, TX6, 8)) (ci := 6) (k := 7) (t := 0) (v := h 88 7) (mf_dat eX11_answer_p0 6 rfl) fl_X11_156 rfl (by decide) rfl rfl is88 ?_
  refine mf_callV (Yc := YX0_openingOf) (r := (RX0, TX0, 1)) (ci := 0) (mf_dat eX11_answer_p0 7 rfl) ml_X11_159 okX0_openingOf im_X0_openingOf sl_X0_openingOf rfl rfl rfl rfl (Nat.le_of_ble_eq_true rfl) (mf_rr (Nat.le_trans (by decide) hd) (Nat.le_refl _)) (Nat.le_refl _) is46 (hyp hG) (fun r1 g2 h3 hyp => ?_)
  obtain ⟨hG, hyp⟩ := hyp
  refine mf_istore_n (mf_dat eX11_answer_p0 8 rfl) rfl (by decide) ?_
  refine mf_lconst (v := 0) (mf_dat eX11_answer_p0 9 rfl) (by decide) ?_
  refine mf_lstore_n (mf_dat eX11_answer_p0 10 rfl) rfl (by decide) ?_
  refine mf_ldc2 (v := (-1)) cl_X11_335 (mf_dat eX11_answer_p0 11 rfl) (by decide) ?_
  refine mf_lstore (mf_dat eX11_answer_p0 12 rfl) (by decide) ?_
  refine mf_lconst (v := 0) (mf_dat eX11_answer_p0 13 rfl) (by decide) ?_
  refine mf_lstore (mf_dat eX11_answer_p0 14 rfl) (by decide) ?_
  refine mf_lconst (v := 0) (mf_dat eX11_answer_p0 15 rfl) (by decide) ?_
  refine mf_lstore (mf_dat eX11_answer_p0 16 rfl) (by decide) ?_
  refine mf_iconst (v := 0) (mf_dat eX11_answer_p0 17 rfl) (by decide) ?_
  refine mf_istore (mf_dat eX11_answer_p0 18 rfl) (by decide) ?_
  exact mf_sub [6, 7, 5, 4, 3, 2, 1, 0] rfl (hyp hG)
set_option maxRecDepth 100000 in
set_option maxHeartbeats 4000000 in
theorem wX11_addOctets {C : mf_G} {l : Launch} {d : Nat} {K : mf_Kt} {x1 : Int} {g h : mf_M} (hd : 1 ≤ d) (hyp : xM C l 0 YX11_addOctet [(2, 0), (0, mf_w32 (x1.tdiv 256))] g h (fun r1 g2 h3 => xM C l 0 YX11_addOctet [(2, 0), (0, x1.tmod 256)] g2 h3 (fun r4 g5 h6 => K 0 g5 h6))) : xM C l d YX11_addOctets [(2, 0), (0, x1)] g h K := by
  intro hG
  refine mf_entry (by decide) (Nat.le_of_ble_eq_true rfl) ?_
  refine mf_aload_n (mf_dat eX11_addOctets 0 rfl) rfl rfl ?_
  refine mf_iload_n (mf_dat eX11_addOctets 1 rfl) rfl rfl ?_
  refine mf_sipush (v := 256) (mf_dat eX11_addOctets 2 rfl) (by decide) ?_
  refine mf_idiv (mf_dat eX11_addOctets 3 rfl) (by decide) ?_
  refine mf_callV (Yc := YX11_addOctet) (r := (RX11, TX11, 20)) (ci := 11) (mf_dat eX11_addOctets 4 rfl) ml_X11_309 okX11_addOctet im_X11_addOctet sl_X11_addOctet rfl rfl rfl rfl (Nat.le_of_ble_eq_true rfl) (mf_rr (Nat.le_trans (by decide) hd) (Nat.le_refl _)) (Nat.le_refl _) is0 (hyp hG) (fun r1 g2 h3 hyp => ?_)
  obtain ⟨hG, hyp⟩ := hyp
  refine mf_aload_n (mf_dat eX11_addOctets 5 rfl) rfl rfl ?_
  refine mf_iload_n (mf_dat eX11_addOctets 6 rfl) rfl rfl ?_
  refine mf_sipush (v := 256) (mf_dat eX11_addOctets 7 rfl) (by decide) ?_
  refine mf_irem (mf_dat eX11_addOctets 8 rfl) (by decide) ?_
  refine mf_callV (Yc := YX11_addOctet) (r := (RX11, TX11, 20)) (ci := 11) (mf_dat eX11_addOctets 9 rfl) ml_X11_309 okX11_addOctet im_X11_addOctet sl_X11_addOctet rfl rfl rfl rfl (Nat.le_of_ble_eq_true rfl) (mf_rr (Nat.le_trans (by decide) hd) (Nat.le_refl _)) (Nat.le_refl _) is0 (hyp hG) (fun r4 g5 h6 hyp => ?_)
  obtain ⟨hG, hyp⟩ := hyp
  exact mf_return (mf_dat eX11_addOctets 10 rfl) rfl ⟨hG, hyp⟩
set_option maxRecDepth 100000 in
set_option maxHeartbeats 4000000 in
theorem wX11_addOctet {C : mf_G} {l : Launch} {d : Nat} {K : mf_Kt} {x1 : Int} {g h : mf_M} (hyp : ((57 ≤ h 0 14 → K 0 g h) ∧ (¬ 57 ≤ h 0 14 → 0 ≤ h 0 14 ∧ h 0 14 < 57 ∧ (∀ h3 : mf_M, h3 = mf_up h 244 (h 0 14) x1 → (∀ h4 : mf_M, h4 = mf_up h3 0 14 (mf_w32 ((h3 0 14) + 1)) → K 0 g h4))))) : xM C l d YX11_addOctet [(2, 0), (0, x1)] g h K := by
  intro hG
  refine mf_entry (by decide) (Nat.le_of_ble_eq_true rfl) ?_
  refine mf_aload_n (mf_dat eX11_addOctet 0 rfl) rfl rfl ?_
  refine mf_getf (r := (RX11, TX11, 20)) (ci := 11) (k := 14) (t := 0) (v := h 0 14) (mf_dat eX11_addOctet 1 rfl) fl_X11_300 rfl (by decide) rfl rfl is0 ?_
  refine mf_aload_n (mf_dat eX11_addOctet 2 rfl) rfl rfl ?_
  refine mf_getf (r := (RX11, TX11, 20)) (ci := 11) (k := 11) (t := 2) (v := 244) (mf_dat eX11_addOctet 3 rfl) fl_X11_97 rfl (by decide) rfl (gx_0_11 hG) is0 ?_
  refine mf_alen (c := 20) (i := 0) (ty := .int) (v := 57) (mf_dat eX11_addOctet 4 rfl) (by decide) rfl is244 len244 (mf_len_small _) ?_
  refine mf_icmp_ge (tgt := 32) (mf_dat eX11_addOctet 5 rfl) (by decide) (fun hc => ?_) (fun hc => ?_)
  · replace hyp := hyp.1 hc
    exact mf_return (mf_dat eX11_addOctet 18 rfl) rfl ⟨hG, hyp⟩
  · replace hyp := hyp.2 hc
    refine mf_aload_n (mf_dat eX11_addOctet 6 rfl) rfl rfl ?_
    refine mf_getf (r := (RX11, TX11, 20)) (ci := 11) (k := 11) (t := 2) (v := 244) (mf_dat eX11_addOctet 7 rfl) fl_X11_97 rfl (by decide) rfl (gx_0_11 hG) is0 ?_
    refine mf_aload_n (mf_dat eX11_addOctet 8 rfl) rfl rfl ?_
    refine mf_getf (r := (RX11, TX11, 20)) (ci := 11) (k := 14) (t := 0) (v := h 0 14) (mf_dat eX11_addOctet 9 rfl) fl_X11_300 rfl (by decide) rfl rfl is0 ?_
    refine mf_iload_n (mf_dat eX11_addOctet 10 rfl) rfl rfl ?_
    obtain ⟨ck1, hyp⟩ := hyp
    obtain ⟨ck2, hyp⟩ := hyp
    refine mf_iast (mf_dat eX11_addOctet 11 rfl) is244 len244 ck1 ck2 ?_
    generalize qh3 : mf_up h 244 (h 0 14) x1 = h3
    replace hyp := hyp _ qh3.symm
    refine mf_aload_n (mf_dat eX11_addOctet 12 rfl) rfl rfl ?_
    refine mf_dup (mf_dat eX11_addOctet 13 rfl) (by decide) ?_
    refine mf_getf (r := (RX11, TX11, 20)) (ci := 11) (k := 14) (t := 0) (v := h3 0 14) (mf_dat eX11_addOctet 14 rfl) fl_X11_300 rfl (by decide) rfl rfl is0 ?_
    refine mf_iconst (v := 1) (mf_dat eX11_addOctet 15 rfl) (by decide) ?_
    refine mf_iadd (mf_dat eX11_addOctet 16 rfl) ?_
    refine mf_putI (r := (RX11, TX11, 20)) (ci := 11) (k := 14) (kI := 14) (t := 0) (mf_dat eX11_addOctet 17 rfl) fl_X11_300 rfl rfl (by decide) rfl (by decide) rfl (by decide) (fun h9 => absurd h9 (by decide)) is0 ?_
    generalize qh4 : mf_up h3 0 14 (mf_w32 ((h3 0 14) + 1)) = h4
    replace hyp := hyp _ qh4.symm
    exact mf_return (mf_dat eX11_addOctet 18 rfl) rfl ⟨hG, hyp⟩
set_option maxRecDepth 100000 in
set_option maxHeartbeats 4000000 in
theorem wJ6_bitCount_0f7a4 {C : mf_G} {l : Launch} {d : Nat} {K : mf_Kt} {x0 : Int} {g h : mf_M} (hyp : (∀ v1 : Int, v1 = mf_w32 (x0 - (mf_and (mf_ushr x0 1) 1431655765)) → (∀ v2 : Int, v2 = mf_w32 ((mf_and v1 858993459) + (mf_and (mf_ushr v1 2) 858993459)) → (∀ v3 : Int, v3 = mf_and (mf_w32 (v2 + (mf_ushr v2 4))) 252645135 → (∀ v4 : Int, v4 = mf_w32 (v3 + (mf_ushr v3 8)) → (∀ v5 : Int, v5 = mf_w32 (v4 + (mf_ushr v4 16)) → K (mf_and v5 63) g h)))))) : xM C l d YJ6_bitCount_0f7a4 [(0, x0)] g h K := by
  intro hG
  refine mf_entry (by decide) (Nat.le_of_ble_eq_true rfl) ?_
  refine mf_iload_n (mf_dat eJ6_bitCount_0f7a4 0 rfl) rfl rfl ?_
  refine mf_iload_n (mf_dat eJ6_bitCount_0f7a4 1 rfl) rfl rfl ?_
  refine mf_iconst (v := 1) (mf_dat eJ6_bitCount_0f7a4 2 rfl) (by decide) ?_
  refine mf_iushr (mf_dat eJ6_bitCount_0f7a4 3 rfl) ?_
  refine mf_ldcw (v := 1431655765) cl_J6_265 (mf_dat eJ6_bitCount_0f7a4 4 rfl) (by decide) ?_
  refine mf_iand (mf_dat eJ6_bitCount_0f7a4 5 rfl) ?_
  refine mf_isub (mf_dat eJ6_bitCount_0f7a4 6 rfl) ?_
  generalize qv1 : mf_w32 (x0 - (mf_and (mf_ushr x0 1) 1431655765)) = v1
  replace hyp := hyp _ qv1.symm
  refine mf_istore_n (mf_dat eJ6_bitCount_0f7a4 7 rfl) rfl (by decide) ?_
  refine mf_iload_n (mf_dat eJ6_bitCount_0f7a4 8 rfl) rfl rfl ?_
  refine mf_ldcw (v := 858993459) cl_J6_266 (mf_dat eJ6_bitCount_0f7a4 9 rfl) (by decide) ?_
  refine mf_iand (mf_dat eJ6_bitCount_0f7a4 10 rfl) ?_
  refine mf_iload_n (mf_dat eJ6_bitCount_0f7a4 11 rfl) rfl rfl ?_
  refine mf_iconst (v := 2) (mf_dat eJ6_bitCount_0f7a4 12 rfl) (by decide) ?_
  refine mf_iushr (mf_dat eJ6_bitCount_0f7a4 13 rfl) ?_
  refine mf_ldcw (v := 858993459) cl_J6_266 (mf_dat eJ6_bitCount_0f7a4 14 rfl) (by decide) ?_
  refine mf_iand (mf_dat eJ6_bitCount_0f7a4 15 rfl) ?_
  refine mf_iadd (mf_dat eJ6_bitCount_0f7a4 16 rfl) ?_
  generalize qv2 : mf_w32 ((mf_and v1 858993459) + (mf_and (mf_ushr v1 2) 858993459)) = v2
  replace hyp := hyp _ qv2.symm
  refine mf_istore_n (mf_dat eJ6_bitCount_0f7a4 17 rfl) rfl (by decide) ?_
  refine mf_iload_n (mf_dat eJ6_bitCount_0f7a4 18 rfl) rfl rfl ?_
  refine mf_iload_n (mf_dat eJ6_bitCount_0f7a4 19 rfl) rfl rfl ?_
  refine mf_iconst (v := 4) (mf_dat eJ6_bitCount_0f7a4 20 rfl) (by decide) ?_
  refine mf_iushr (mf_dat eJ6_bitCount_0f7a4 21 rfl) ?_
  refine mf_iadd (mf_dat eJ6_bitCount_0f7a4 22 rfl) ?_
  refine mf_ldcw (v := 252645135) cl_J6_267 (mf_dat eJ6_bitCount_0f7a4 23 rfl) (by decide) ?_
  refine mf_iand (mf_dat eJ6_bitCount_0f7a4 24 rfl) ?_
  generalize qv3 : mf_and (mf_w32 (v2 + (mf_ushr v2 4))) 252645135 = v3
  replace hyp := hyp _ qv3.symm
  refine mf_istore_n (mf_dat eJ6_bitCount_0f7a4 25 rfl) rfl (by decide) ?_
  refine mf_iload_n (mf_dat eJ6_bitCount_0f7a4 26 rfl) rfl rfl ?_
  refine mf_iload_n (mf_dat eJ6_bitCount_0f7a4 27 rfl) rfl rfl ?_
  refine mf_bipush (v := 8) (mf_dat eJ6_bitCount_0f7a4 28 rfl) (by decide) ?_
  refine mf_iushr (mf_dat eJ6_bitCount_0f7a4 29 rfl) ?_
  refine mf_iadd (mf_dat eJ6_bitCount_0f7a4 30 rfl) ?_
  generalize qv4 : mf_w32 (v3 + (mf_ushr v3 8)) = v4
  replace hyp := hyp _ qv4.symm
  refine mf_istore_n (mf_dat eJ6_bitCount_0f7a4 31 rfl) rfl (by decide) ?_
  refine mf_iload_n (mf_dat eJ6_bitCount_0f7a4 32 rfl) rfl rfl ?_
  refine mf_iload_n (mf_dat eJ6_bitCount_0f7a4 33 rfl) rfl rfl ?_
  refine mf_bipush (v := 16) (mf_dat eJ6_bitCount_0f7a4 34 rfl) (by decide) ?_
  refine mf_iushr (mf_dat eJ6_bitCount_0f7a4 35 rfl) ?_
  refine mf_iadd (mf_dat eJ6_bitCount_0f7a4 36 rfl) ?_
  generalize qv5 : mf_w32 (v4 + (mf_ushr v4 16)) = v5
  replace hyp := hyp _ qv5.symm
  refine mf_istore_n (mf_dat eJ6_bitCount_0f7a4 37 rfl) rfl (by decide) ?_
  refine mf_iload_n (mf_dat eJ6_bitCount_0f7a4 38 rfl) rfl rfl ?_
  refine mf_bipush (v := 63) (mf_dat eJ6_bitCount_0f7a4 39 rfl) (by decide) ?_
  refine mf_iand (mf_dat eJ6_bitCount_0f7a4 40 rfl) ?_
  exact mf_ireturn (mf_dat eJ6_bitCount_0f7a4 41 rfl) rfl (Or.inl rfl) ⟨hG, hyp⟩
set_option maxRecDepth 100000 in
set_option maxHeartbeats 4000000 in
theorem wJ9_floorDiv_7cf53 {C : mf_G} {l : Launch} {d : Nat} {K : mf_Kt} {x0 x1 : Int} {g h : mf_M} (hyp : ¬ x1 = 0 ∧ (∀ v2 : Int, v2 = mf_w32 (x0.tdiv x1) → ((0 ≤ mf_xor x0 x1 → K v2 g h) ∧ (¬ 0 ≤ mf_xor x0 x1 → ((mf_w32 (v2 * x1) = x0 → K v2 g h) ∧ (¬ mf_w32 (v2 * x1) = x0 → K (mf_w32 (v2 - 1)) g h)))))) : xM C l d YJ9_floorDiv_7cf53 [(0, x0), (0, x1)] g h K := by
  intro hG
  refine mf_entryF (by decide +kernel) (Nat.le_of_ble_eq_true rfl) ?_
  refine mf_iload_n (mf_dat eJ9_floorDiv_7cf53 0 rfl) rfl rfl ?_
  refine mf_iload_n (mf_dat eJ9_floorDiv_7cf53 1 rfl) rfl rfl ?_
  obtain ⟨ck1, hyp⟩ := hyp
  refine mf_idiv (mf_dat eJ9_floorDiv_7cf53 2 rfl) ck1 ?_
  generalize qv2 : mf_w32 (x0.tdiv x1) = v2
  replace hyp := hyp _ qv2.symm
  refine mf_istore_n (mf_dat eJ9_floorDiv_7cf53 3 rfl) rfl (by decide) ?_
  refine mf_iload_n (mf_dat eJ9_floorDiv_7cf53 4 rfl) rfl rfl ?_
  refine mf_iload_n (mf_dat eJ9_floorDiv_7cf53 5 rfl) rfl rfl ?_
  refine mf_ixor (mf_dat eJ9_floorDiv_7cf53 6 rfl) ?_
  refine mf_if_ge (tgt := 21) (mf_dat eJ9_floorDiv_7cf53 7 rfl) (by decide) (fun hc => ?_) (fun hc => ?_)
  · replace hyp := hyp.1 hc
    refine mf_iload_n (mf_dat eJ9_floorDiv_7cf53 17 rfl) rfl rfl ?_
    exact mf_ireturn (mf_dat eJ9_floorDiv_7cf53 18 rfl) rfl (Or.inl rfl) ⟨hG, hyp⟩
  · replace hyp := hyp.2 hc
    refine mf_iload_n (mf_dat eJ9_floorDiv_7cf53 8 rfl) rfl rfl ?_
    refine mf_iload_n (mf_dat eJ9_floorDiv_7cf53 9 rfl) rfl rfl ?_
    refine mf_imul (mf_dat eJ9_floorDiv_7cf53 10 rfl) ?_
    refine mf_iload_n (mf_dat eJ9_floorDiv_7cf53 11 rfl) rfl rfl ?_
    refine mf_icmp_eq (tgt := 21) (mf_dat eJ9_floorDiv_7cf53 12 rfl) (by decide) (fun hc => ?_) (fun hc => ?_)
    · replace hyp := hyp.1 hc
      refine mf_iload_n (mf_dat eJ9_floorDiv_7cf53 17 rfl) rfl rfl ?_
      exact mf_ireturn (mf_dat eJ9_floorDiv_7cf53 18 rfl) rfl (Or.inl rfl) ⟨hG, hyp⟩
    · replace hyp := hyp.2 hc
      refine mf_iload_n (mf_dat eJ9_floorDiv_7cf53 13 rfl) rfl rfl ?_
      refine mf_iconst (v := 1) (mf_dat eJ9_floorDiv_7cf53 14 rfl) (by decide) ?_
      refine mf_isub (mf_dat eJ9_floorDiv_7cf53 15 rfl) ?_
      exact mf_ireturn (mf_dat eJ9_floorDiv_7cf53 16 rfl) rfl (Or.inl rfl) ⟨hG, hyp⟩
set_option maxRecDepth 100000 in
set_option maxHeartbeats 4000000 in
theorem wJ9_floorMod_7cf53 {C : mf_G} {l : Launch} {d : Nat} {K : mf_Kt} {x0 x1 : Int} {g h : mf_M} (hyp : ¬ x1 = 0 ∧ (∀ v2 : Int, v2 = x0.tmod x1 → ((0 ≤ mf_xor x0 x1 → K v2 g h) ∧ (¬ 0 ≤ mf_xor x0 x1 → ((v2 = 0 → K v2 g h) ∧ (¬ v2 = 0 → K (mf_w32 (v2 + x1)) g h)))))) : xM C l d YJ9_floorMod_7cf53 [(0, x0), (0, x1)] g h K := by
  intro hG
  refine mf_entryF (by decide +kernel) (Nat.le_of_ble_eq_true rfl) ?_
  refine mf_iload_n (mf_dat eJ9_floorMod_7cf53 0 rfl) rfl rfl ?_
  refine mf_iload_n (mf_dat eJ9_floorMod_7cf53 1 rfl) rfl rfl ?_
  obtain ⟨ck1, hyp⟩ := hyp
  refine mf_irem (mf_dat eJ9_floorMod_7cf53 2 rfl) ck1 ?_
  generalize qv2 : x0.tmod x1 = v2
  replace hyp := hyp _ qv2.symm
  refine mf_istore_n (mf_dat eJ9_floorMod_7cf53 3 rfl) rfl (by decide) ?_
  refine mf_iload_n (mf_dat eJ9_floorMod_7cf53 4 rfl) rfl rfl ?_
  refine mf_iload_n (mf_dat eJ9_floorMod_7cf53 5 rfl) rfl rfl ?_
  refine mf_ixor (mf_dat eJ9_floorMod_7cf53 6 rfl) ?_
  refine mf_if_ge (tgt := 18) (mf_dat eJ9_floorMod_7cf53 7 rfl) (by decide) (fun hc => ?_) (fun hc => ?_)
  · replace hyp := hyp.1 hc
    refine mf_iload_n (mf_dat eJ9_floorMod_7cf53 14 rfl) rfl rfl ?_
    exact mf_ireturn (mf_dat eJ9_floorMod_7cf53 15 rfl) rfl (Or.inl rfl) ⟨hG, hyp⟩
  · replace hyp := hyp.2 hc
    refine mf_iload_n (mf_dat eJ9_floorMod_7cf53 8 rfl) rfl rfl ?_
    refine mf_if_eq (tgt := 18) (mf_dat eJ9_floorMod_7cf53 9 rfl) (by decide) (fun hc => ?_) (fun hc => ?_)
    · replace hyp := hyp.1 hc
      refine mf_iload_n (mf_dat eJ9_floorMod_7cf53 14 rfl) rfl rfl ?_
      exact mf_ireturn (mf_dat eJ9_floorMod_7cf53 15 rfl) rfl (Or.inl rfl) ⟨hG, hyp⟩
    · replace hyp := hyp.2 hc
      refine mf_iload_n (mf_dat eJ9_floorMod_7cf53 10 rfl) rfl rfl ?_
      refine mf_iload_n (mf_dat eJ9_floorMod_7cf53 11 rfl) rfl rfl ?_
      refine mf_iadd (mf_dat eJ9_floorMod_7cf53 12 rfl) ?_
      exact mf_ireturn (mf_dat eJ9_floorMod_7cf53 13 rfl) rfl (Or.inl rfl) ⟨hG, hyp⟩
set_option maxRecDepth 100000 in
set_option maxHeartbeats 4000000 in
theorem wJ9_abs_0f7a4 {C : mf_G} {l : Launch} {d : Nat} {K : mf_Kt} {x0 : Int} {g h : mf_M} (hyp : ((0 ≤ x0 → K x0 g h) ∧ (¬ 0 ≤ x0 → K (mf_w32 (-x0)) g h))) : xM C l d YJ9_abs_0f7a4 [(0, x0)] g h K := by
  intro hG
  refine mf_entryF (by decide +kernel) (Nat.le_of_ble_eq_true rfl) ?_
  refine mf_iload_n (mf_dat eJ9_abs_0f7a4 0 rfl) rfl rfl ?_
  refine mf_if_ge (tgt := 9) (mf_dat eJ9_abs_0f7a4 1 rfl) (by decide) (fun hc => ?_) (fun hc => ?_)
  · replace hyp := hyp.1 hc
    refine mf_iload_n (mf_dat eJ9_abs_0f7a4 5 rfl) rfl rfl ?_
    exact mf_ireturn (mf_dat eJ9_abs_0f7a4 6 rfl) rfl (Or.inl rfl) ⟨hG, hyp⟩
  · replace hyp := hyp.2 hc
    refine mf_iload_n (mf_dat eJ9_abs_0f7a4 2 rfl) rfl rfl ?_
    refine mf_ineg (mf_dat eJ9_abs_0f7a4 3 rfl) ?_
    refine mf_goto (tgt := 10) (mf_dat eJ9_abs_0f7a4 4 rfl) (by decide) ?_
    exact mf_ireturn (mf_dat eJ9_abs_0f7a4 6 rfl) rfl (Or.inl rfl) ⟨hG, hyp⟩
set_option maxRecDepth 100000 in
set_option maxHeartbeats 4000000 in
theorem wJ9_max_7cf53 {C : mf_G} {l : Launch} {d : Nat} {K : mf_Kt} {x0 x1 : Int} {g h : mf_M} (hyp : ((x0 < x1 → K x1 g h) ∧ (¬ x0 < x1 → K x0 g h))) : xM C l d YJ9_max_7cf53 [(0, x0), (0, x1)] g h K := by
  intro hG
  refine mf_entryF (by decide +kernel) (Nat.le_of_ble_eq_true rfl) ?_
  refine mf_iload_n (mf_dat eJ9_max_7cf53 0 rfl) rfl rfl ?_
  refine mf_iload_n (mf_dat eJ9_max_7cf53 1 rfl) rfl rfl ?_
  refine mf_icmp_lt (tgt := 9) (mf_dat eJ9_max_7cf53 2 rfl) (by decide) (fun hc => ?_) (fun hc => ?_)
  · replace hyp := hyp.1 hc
    refine mf_iload_n (mf_dat eJ9_max_7cf53 5 rfl) rfl rfl ?_
    exact mf_ireturn (mf_dat eJ9_max_7cf53 6 rfl) rfl (Or.inl rfl) ⟨hG, hyp⟩
  · replace hyp := hyp.2 hc
    refine mf_iload_n (mf_dat eJ9_max_7cf53 3 rfl) rfl rfl ?_
    refine mf_goto (tgt := 10) (mf_dat eJ9_max_7cf53 4 rfl) (by decide) ?_
    exact mf_ireturn (mf_dat eJ9_max_7cf53 6 rfl) rfl (Or.inl rfl) ⟨hG, hyp⟩
set_option maxRecDepth 100000 in
set_option maxHeartbeats 4000000 in
theorem wJ9_max_f86c9 {C : mf_G} {l : Launch} {d : Nat} {K : mf_Kt} {x0 x2 : Int} {g h : mf_M} (hyp : ((x0 < x2 → K x2 g h) ∧ (¬ x0 < x2 → K x0 g h))) : xM C l d YJ9_max_f86c9 [(1, x0), (1, x2)] g h K := by
  intro hG
  refine mf_entryF (by decide +kernel) (Nat.le_of_ble_eq_true rfl) ?_
  refine mf_lload_n (mf_dat eJ9_max_f86c9 0 rfl) rfl rfl ?_
  refine mf_lload_n (mf_dat eJ9_max_f86c9 1 rfl) rfl rfl ?_
  refine mf_lcmp_lt (tgt := 10) (mf_dat eJ9_max_f86c9 2 rfl) (mf_dat eJ9_max_f86c9 3 rfl) (by decide) (fun hc => ?_) (fun hc => ?_)
  · replace hyp := hyp.1 hc
    refine mf_lload_n (mf_dat eJ9_max_f86c9 6 rfl) rfl rfl ?_
    exact mf_lreturn (mf_dat eJ9_max_f86c9 7 rfl) rfl ⟨hG, hyp⟩
  · replace hyp := hyp.2 hc
    refine mf_lload_n (mf_dat eJ9_max_f86c9 4 rfl) rfl rfl ?_
    refine mf_goto (tgt := 11) (mf_dat eJ9_max_f86c9 5 rfl) (by decide) ?_
    exact mf_lreturn (mf_dat eJ9_max_f86c9 7 rfl) rfl ⟨hG, hyp⟩
set_option maxRecDepth 100000 in
set_option maxHeartbeats 4000000 in
theorem wJ9_min_7cf53 {C : mf_G} {l : Launch} {d : Nat} {K : mf_Kt} {x0 x1 : Int} {g h : mf_M} (hyp : ((x1 < x0 → K x1 g h) ∧ (¬ x1 < x0 → K x0 g h))) : xM C l d YJ9_min_7cf53 [(0, x0), (0, x1)] g h K := by
  intro hG
  refine mf_entryF (by decide +kernel) (Nat.le_of_ble_eq_true rfl) ?_
  refine mf_iload_n (mf_dat eJ9_min_7cf53 0 rfl) rfl rfl ?_
  refine mf_iload_n (mf_dat eJ9_min_7cf53 1 rfl) rfl rfl ?_
  refine mf_icmp_gt (tgt := 9) (mf_dat eJ9_min_7cf53 2 rfl) (by decide) (fun hc => ?_) (fun hc => ?_)
  · replace hyp := hyp.1 hc
    refine mf_iload_n (mf_dat eJ9_min_7cf53 5 rfl) rfl rfl ?_
    exact mf_ireturn (mf_dat eJ9_min_7cf53 6 rfl) rfl (Or.inl rfl) ⟨hG, hyp⟩
  · replace hyp := hyp.2 hc
    refine mf_iload_n (mf_dat eJ9_min_7cf53 3 rfl) rfl rfl ?_
    refine mf_goto (tgt := 10) (mf_dat eJ9_min_7cf53 4 rfl) (by decide) ?_
    exact mf_ireturn (mf_dat eJ9_min_7cf53 6 rfl) rfl (Or.inl rfl) ⟨hG, hyp⟩
set_option maxRecDepth 100000 in
set_option maxHeartbeats 4000000 in
theorem wJ9_min_f86c9 {C : mf_G} {l : Launch} {d : Nat} {K : mf_Kt} {x0 x2 : Int} {g h : mf_M} (hyp : ((x2 < x0 → K x2 g h) ∧ (¬ x2 < x0 → K x0 g h))) : xM C l d YJ9_min_f86c9 [(1, x0), (1, x2)] g h K := by
  intro hG
  refine mf_entryF (by decide +kernel) (Nat.le_of_ble_eq_true rfl) ?_
  refine mf_lload_n (mf_dat eJ9_min_f86c9 0 rfl) rfl rfl ?_
  refine mf_lload_n (mf_dat eJ9_min_f86c9 1 rfl) rfl rfl ?_
  refine mf_lcmp_gt (tgt := 10) (mf_dat eJ9_min_f86c9 2 rfl) (mf_dat eJ9_min_f86c9 3 rfl) (by decide) (fun hc => ?_) (fun hc => ?_)
  · replace hyp := hyp.1 hc
    refine mf_lload_n (mf_dat eJ9_min_f86c9 6 rfl) rfl rfl ?_
    exact mf_lreturn (mf_dat eJ9_min_f86c9 7 rfl) rfl ⟨hG, hyp⟩
  · replace hyp := hyp.2 hc
    refine mf_lload_n (mf_dat eJ9_min_f86c9 4 rfl) rfl rfl ?_
    refine mf_goto (tgt := 11) (mf_dat eJ9_min_f86c9 5 rfl) (by decide) ?_
    exact mf_lreturn (mf_dat eJ9_min_f86c9 7 rfl) rfl ⟨hG, hyp⟩
