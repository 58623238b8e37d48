abbrev BX12_gloss_47 (C : mf_G) (l : Launch) (d : Nat) (K : Int → mf_M → Prop) (x1 x2 x3 s0 : Int) (h : mf_M) : Prop := jM C l d YX12_gloss K 47 [(0, (2, 245)), (1, (0, x1)), (2, (0, x2)), (3, (0, x3))] [(0, s0)] h
set_option maxRecDepth 100000 in
set_option maxHeartbeats 4000000 in
theorem vX12_gloss_47 {C : mf_G} {l : Launch} {d : Nat} {K : Int → mf_M → Prop} {x1 x2 x3 s0 : Int} {h : mf_M} (hd : 1 ≤ d) (hyp : ((¬ s0 = (-1) → mM C l 0 YX12_keeps [(2, 245)] h (fun r1 h3 => 0 ≤ mf_w32 (1 + x1) ∧ mf_w32 (1 + x1) < 160 ∧ (∀ h6 : mf_M, h6 = mf_up h3 286 (mf_w32 (1 + x1)) (mf_or (h3 286 (mf_w32 (1 + x1))) (mf_shl 1 x2)) → ((x3 = (-1) → K s0 h6) ∧ (¬ x3 = (-1) → 0 ≤ mf_w32 ((mf_w32 (7 + (mf_w32 (4 * x3)))) + 1) ∧ mf_w32 ((mf_w32 (7 + (mf_w32 (4 * x3)))) + 1) < 160 ∧ (∀ h9 : mf_M, h9 = mf_up h6 286 (mf_w32 ((mf_w32 (7 + (mf_w32 (4 * x3)))) + 1)) s0 → K s0 h9)))))) ∧ (s0 = (-1) → mM C l 0 YX12_refuses [(2, 245), (0, 2)] h (fun r10 h12 => K r10 h12)))) : BX12_gloss_47 C l d K x1 x2 x3 s0 h := by
  intro g hG
  refine mf_istore (mf_dat eX12_gloss_p0 28 rfl) (by decide) ?_
  refine mf_iload (mf_dat eX12_gloss_p0 29 rfl) rfl ?_
  refine mf_iconst (v := (-1)) (mf_dat eX12_gloss_p0 30 rfl) (by decide) ?_
  refine mf_icmp_ne (tgt := 61) (mf_dat eX12_gloss_p0 31 rfl) (by decide) (fun hc => ?_) (fun hc => ?_)
  · replace hyp := hyp.1 hc
    refine mf_aload_n (mf_dat eX12_gloss_p0 36 rfl) rfl rfl ?_
    refine mf_callV (Yc := YX12_keeps) (r := (RX12, TX12, 106)) (ci := 12) (mf_dat eX12_gloss_p0 37 rfl) ml_X12_558 okX12_keeps im_X12_keeps sl_X12_keeps rfl rfl rfl rfl (Nat.le_of_ble_eq_true rfl) (mf_rr (Nat.le_trans (by decide) hd) (Nat.le_refl _)) (Nat.le_refl _) is245 (hyp g hG) (fun r1 g2 h3 hyp => ?_)
    obtain ⟨hgg, hyp⟩ := hyp
    subst hgg
    refine mf_aload_n (mf_dat eX12_gloss_p0 38 rfl) rfl rfl ?_
    refine mf_getf (r := (RX12, TX12, 106)) (ci := 12) (k := 56) (t := 2) (v := 286) (mf_dat eX12_gloss_p0 39 rfl) fl_X12_136 rfl (by decide) rfl (gm_56 hG) is245 ?_
    refine mf_iconst (v := 1) (mf_dat eX12_gloss_p0 40 rfl) (by decide) ?_
    refine mf_iload_n (mf_dat eX12_gloss_p0 41 rfl) rfl rfl ?_
    refine mf_iadd (mf_dat eX12_gloss_p0 42 rfl) ?_
    refine mf_dup2 (mf_dat eX12_gloss_p0 43 rfl) (by decide) (by decide) ?_
    obtain ⟨ck4, hyp⟩ := hyp
    obtain ⟨ck5, hyp⟩ := hyp
    refine mf_iald (mf_dat eX12_gloss_p0 44 rfl) is286 len286 ck4 ck5 ?_
    refine mf_iconst (v := 1) (mf_dat eX12_gloss_p0 45 rfl) (by decide) ?_
    refine mf_iload_n (mf_dat eX12_gloss_p0 46 rfl) rfl rfl ?_
    refine mf_ishl (mf_dat eX12_gloss_p0 47 rfl) ?_
    refine mf_ior (mf_dat eX12_gloss_p0 48 rfl) ?_
    refine mf_iast (mf_dat eX12_gloss_p0 49 rfl) is286 len286 ck4 ck5 ?_
    generalize qh6 : mf_up h3 286 (mf_w32 (1 + x1)) (mf_or (h3 286 (mf_w32 (1 + x1))) (mf_shl 1 x2)) = h6
    replace hyp := hyp _ qh6.symm
    refine mf_iload_n (mf_dat eX12_gloss_p0 50 rfl) rfl rfl ?_
    refine mf_iconst (v := (-1)) (mf_dat eX12_gloss_p0 51 rfl) (by decide) ?_
    refine mf_icmp_eq (tgt := 99) (mf_dat eX12_gloss_p0 52 rfl) (by decide) (fun hc => ?_) (fun hc => ?_)
    · replace hyp := hyp.1 hc
      refine mf_iload (mf_dat eX12_gloss_p1 4 rfl) rfl ?_
      exact mf_ireturn (mf_dat eX12_gloss_p1 5 rfl) rfl (Or.inl rfl) ⟨rfl, hyp⟩
    · replace hyp := hyp.2 hc
      refine mf_aload_n (mf_dat eX12_gloss_p0 53 rfl) rfl rfl ?_
      refine mf_getf (r := (RX12, TX12, 106)) (ci := 12) (k := 56) (t := 2) (v := 286) (mf_dat eX12_gloss_p0 54 rfl) fl_X12_136 rfl (by decide) rfl (gm_56 hG) is245 ?_
      refine mf_bipush (v := 7) (mf_dat eX12_gloss_p0 55 rfl) (by decide) ?_
      refine mf_iconst (v := 4) (mf_dat eX12_gloss_p0 56 rfl) (by decide) ?_
      refine mf_iload_n (mf_dat eX12_gloss_p0 57 rfl) rfl rfl ?_
      refine mf_imul (mf_dat eX12_gloss_p0 58 rfl) ?_
      refine mf_iadd (mf_dat eX12_gloss_p0 59 rfl) ?_
      refine mf_iconst (v := 1) (mf_dat eX12_gloss_p1 0 rfl) (by decide) ?_
      refine mf_iadd (mf_dat eX12_gloss_p1 1 rfl) ?_
      refine mf_iload (mf_dat eX12_gloss_p1 2 rfl) rfl ?_
      obtain ⟨ck7, hyp⟩ := hyp
      obtain ⟨ck8, hyp⟩ := hyp
      refine mf_iast (mf_dat eX12_gloss_p1 3 rfl) is286 len286 ck7 ck8 ?_
      generalize qh9 : mf_up h6 286 (mf_w32 ((mf_w32 (7 + (mf_w32 (4 * x3)))) + 1)) s0 = h9
      replace hyp := hyp _ qh9.symm
      refine mf_iload (mf_dat eX12_gloss_p1 4 rfl) rfl ?_
      exact mf_ireturn (mf_dat eX12_gloss_p1 5 rfl) rfl (Or.inl rfl) ⟨rfl, hyp⟩
  · replace hyp := hyp.2 hc
    refine mf_aload_n (mf_dat eX12_gloss_p0 32 rfl) rfl rfl ?_
    refine mf_iconst (v := 2) (mf_dat eX12_gloss_p0 33 rfl) (by decide) ?_
    refine mf_callV (Yc := YX12_refuses) (r := (RX12, TX12, 106)) (ci := 12) (mf_dat eX12_gloss_p0 34 rfl) ml_X12_546 okX12_refuses im_X12_refuses sl_X12_refuses rfl rfl rfl rfl (Nat.le_of_ble_eq_true rfl) (mf_rr (Nat.le_trans (by decide) hd) (Nat.le_refl _)) (Nat.le_refl _) is245 (hyp g hG) (fun r10 g11 h12 hyp => ?_)
    obtain ⟨hgg, hyp⟩ := hyp
    subst hgg
    exact mf_ireturn (mf_dat eX12_gloss_p0 35 rfl) rfl (Or.inl rfl) ⟨rfl, hyp⟩
set_option maxRecDepth 100000 in
set_option maxHeartbeats 4000000 in
theorem wX12_gloss {C : mf_G} {l : Launch} {d : Nat} {K : Int → mf_M → Prop} {x1 x2 : Int} {h : mf_M} (hd : 4 ≤ d) (hyp : mM C l 1 YX12_isCell [(2, 245), (0, x1), (0, x2)] h (fun r1 h3 => ((r1 = 0 → mM C l 0 YX12_refuses [(2, 245), (0, 2)] h3 (fun r4 h6 => K r4 h6)) ∧ (¬ r1 = 0 → mM C l 0 YX12_hasGloss [(2, 245), (0, x1), (0, x2)] h3 (fun r7 h9 => ((r7 = 0 → mM C l 1 YX12_standsOn [(2, 245), (0, x1), (0, x2)] h9 (fun r10 h12 => ((¬ r10 = (-1) → mM C l 3 YX12_refuge [(2, 245), (0, x1), (0, x2)] h12 (fun r13 h15 => BX12_gloss_47 C l d K x1 x2 r10 r13 h15)) ∧ (r10 = (-1) → BX12_gloss_47 C l d K x1 x2 r10 100 h12)))) ∧ (¬ r7 = 0 → mM C l 0 YX12_refuses [(2, 245), (0, 2)] h9 (fun r16 h18 => K r16 h18)))))))) : mM C l d YX12_gloss [(2, 245), (0, x1), (0, x2)] h K := by
  intro g hG
  refine mf_entry (by decide) (Nat.le_of_ble_eq_true rfl) ?_
  refine mf_aload_n (mf_dat eX12_gloss_p0 0 rfl) rfl rfl ?_
  refine mf_iload_n (mf_dat eX12_gloss_p0 1 rfl) rfl rfl ?_
  refine mf_iload_n (mf_dat eX12_gloss_p0 2 rfl) rfl rfl ?_
  refine mf_callV (Yc := YX12_isCell) (r := (RX12, TX12, 106)) (ci := 12) (mf_dat eX12_gloss_p0 3 rfl) ml_X12_507 okX12_isCell im_X12_isCell sl_X12_isCell rfl rfl rfl rfl (Nat.le_of_ble_eq_true rfl) (mf_rr (Nat.le_trans (by decide) hd) (Nat.le_refl _)) (Nat.le_refl _) is245 (hyp g hG) (fun r1 g2 h3 hyp => ?_)
  obtain ⟨hgg, hyp⟩ := hyp
  subst hgg
  refine mf_if_eq (tgt := 18) (mf_dat eX12_gloss_p0 4 rfl) (by decide) (fun hc => ?_) (fun hc => ?_)
  · replace hyp := hyp.1 hc
    refine mf_aload_n (mf_dat eX12_gloss_p0 10 rfl) rfl rfl ?_
    refine mf_iconst (v := 2) (mf_dat eX12_gloss_p0 11 rfl) (by decide) ?_
    refine mf_callV (Yc := YX12_refuses) (r := (RX12, TX12, 106)) (ci := 12) (mf_dat eX12_gloss_p0 12 rfl) ml_X12_546 okX12_refuses im_X12_refuses sl_X12_refuses rfl rfl rfl rfl (Nat.le_of_ble_eq_true rfl) (mf_rr (Nat.le_trans (by decide) hd) (Nat.le_refl _)) (Nat.le_refl _) is245 (hyp g2 hG) (fun r4 g5 h6 hyp => ?_)
    obtain ⟨hgg, hyp⟩ := hyp
    subst hgg
    exact mf_ireturn (mf_dat eX12_gloss_p0 13 rfl) rfl (Or.inl rfl) ⟨rfl, hyp⟩
  · replace hyp := hyp.2 hc
    refine mf_aload_n (mf_dat eX12_gloss_p0 5 rfl) rfl rfl ?_
    refine mf_iload_n (mf_dat eX12_gloss_p0 6 rfl) rfl rfl ?_
    refine mf_iload_n (mf_dat eX12_gloss_p0 7 rfl) rfl rfl ?_
    refine mf_callV (Yc := YX12_hasGloss) (r := (RX12, TX12, 106)) (ci := 12) (mf_dat eX12_gloss_p0 8 rfl) ml_X12_481 okX12_hasGloss im_X12_hasGloss sl_X12_hasGloss rfl rfl rfl rfl (Nat.le_of_ble_eq_true rfl) (mf_rr (Nat.le_trans (by decide) hd) (Nat.le_refl _)) (Nat.le_refl _) is245 (hyp g2 hG) (fun r7 g8 h9 hyp => ?_)
    obtain ⟨hgg, hyp⟩ := hyp
    subst hgg
    refine mf_if_eq (tgt := 24) (mf_dat eX12_gloss_p0 9 rfl) (by decide) (fun hc => ?_) (fun hc => ?_)
    · replace hyp := hyp.1 hc
      refine mf_aload_n (mf_dat eX12_gloss_p0 14 rfl) rfl rfl ?_
      refine mf_iload_n (mf_dat eX12_gloss_p0 15 rfl) rfl rfl ?_
      refine mf_iload_n (mf_dat eX12_gloss_p0 16 rfl) rfl rfl ?_
      refine mf_callV (Yc := YX12_standsOn) (r := (RX12, TX12, 106)) (ci := 12) (mf_dat eX12_gloss_p0 17 rfl) ml_X12_484 okX12_standsOn im_X12_standsOn sl_X12_standsOn rfl rfl rfl rfl (Nat.le_of_ble_eq_true rfl) (mf_rr (Nat.le_trans (by decide) hd) (Nat.le_refl _)) (Nat.le_refl _) is245 (hyp g8 hG) (fun r10 g11 h12 hyp => ?_)
      obtain ⟨hgg, hyp⟩ := hyp
      subst hgg
      refine mf_istore_n (mf_dat eX12_gloss_p0 18 rfl) rfl (by decide) ?_
      refine mf_iload_n (mf_dat eX12_gloss_p0 19 rfl) rfl rfl ?_
      refine mf_iconst (v := (-1)) (mf_dat eX12_gloss_p0 20 rfl) (by decide) ?_
      refine mf_icmp_ne (tgt := 41) (mf_dat eX12_gloss_p0 21 rfl) (by decide) (fun hc => ?_) (fun hc => ?_)
      · replace hyp := hyp.1 hc
        refine mf_aload_n (mf_dat eX12_gloss_p0 24 rfl) rfl rfl ?_
        refine mf_iload_n (mf_dat eX12_gloss_p0 25 rfl) rfl rfl ?_
        refine mf_iload_n (mf_dat eX12_gloss_p0 26 rfl) rfl rfl ?_
        refine mf_callV (Yc := YX12_refuge) (r := (RX12, TX12, 106)) (ci := 12) (mf_dat eX12_gloss_p0 27 rfl) ml_X12_564 okX12_refuge im_X12_refuge sl_X12_refuge rfl rfl rfl rfl (Nat.le_of_ble_eq_true rfl) (mf_rr (Nat.le_trans (by decide) hd) (Nat.le_refl _)) (Nat.le_refl _) is245 (hyp g11 hG) (fun r13 g14 h15 hyp => ?_)
        obtain ⟨hgg, hyp⟩ := hyp
        subst hgg
        exact mf_sub [1, 2, 3, 0] rfl (hyp g14 hG)
      · replace hyp := hyp.2 hc
        refine mf_bipush (v := 100) (mf_dat eX12_gloss_p0 22 rfl) (by decide) ?_
        refine mf_goto (tgt := 47) (mf_dat eX12_gloss_p0 23 rfl) (by decide) ?_
        exact mf_sub [1, 2, 3, 0] rfl (hyp g11 hG)
    · replace hyp := hyp.2 hc
      refine mf_aload_n (mf_dat eX12_gloss_p0 10 rfl) rfl rfl ?_
      refine mf_iconst (v := 2) (mf_dat eX12_gloss_p0 11 rfl) (by decide) ?_
      refine mf_callV (Yc := YX12_refuses) (r := (RX12, TX12, 106)) (ci := 12) (mf_dat eX12_gloss_p0 12 rfl) ml_X12_546 okX12_refuses im_X12_refuses sl_X12_refuses rfl rfl rfl rfl (Nat.le_of_ble_eq_true rfl) (mf_rr (Nat.le_trans (by decide) hd) (Nat.le_refl _)) (Nat.le_refl _) is245 (hyp g8 hG) (fun r16 g17 h18 hyp => ?_)
      obtain ⟨hgg, hyp⟩ := hyp
      subst hgg
      exact mf_ireturn (mf_dat eX12_gloss_p0 13 rfl) rfl (Or.inl rfl) ⟨rfl, hyp⟩
set_option maxRecDepth 100000 in
set_option maxHeartbeats 4000000 in
theorem wX12_days {C : mf_G} {l : Launch} {d : Nat} {K : Int → mf_M → Prop} {x1 : Int} {h : mf_M} (hd : 6 ≤ d) (hyp : mM C l 1 YX12_isAhead [(2, 245), (0, x1), (0, 1), (0, 100)] h (fun r1 h3 => ((¬ r1 = 0 → mM C l 0 YX12_keeps [(2, 245)] h3 (fun r4 h6 => (∀ h7 : mf_M, h7 = mf_up h6 245 62 0 → mM C l 5 YX12_daysGo [(2, 245), (0, x1)] h7 (fun r8 h10 => K (h10 245 62) h10)))) ∧ (r1 = 0 → mM C l 0 YX12_refuses [(2, 245), (0, 3)] h3 (fun r11 h13 => K r11 h13))))) : mM C l d YX12_days [(2, 245), (0, x1)] h K := by
  intro g hG
  refine mf_entry (by decide) (Nat.le_of_ble_eq_true rfl) ?_
  refine mf_aload_n (mf_dat eX12_days 0 rfl) rfl rfl ?_
  refine mf_iload_n (mf_dat eX12_days 1 rfl) rfl rfl ?_
  refine mf_iconst (v := 1) (mf_dat eX12_days 2 rfl) (by decide) ?_
  refine mf_bipush (v := 100) (mf_dat eX12_days 3 rfl) (by decide) ?_
  refine mf_callV (Yc := YX12_isAhead) (r := (RX12, TX12, 106)) (ci := 12) (mf_dat eX12_days 4 rfl) ml_X12_520 okX12_isAhead im_X12_isAhead sl_X12_isAhead rfl rfl rfl rfl (Nat.le_of_ble_eq_true rfl) (mf_rr (Nat.le_trans (by decide) hd) (Nat.le_refl _)) (Nat.le_refl _) is245 (hyp g hG) (fun r1 g2 h3 hyp => ?_)
  obtain ⟨hgg, hyp⟩ := hyp
  subst hgg
  refine mf_if_ne (tgt := 17) (mf_dat eX12_days 5 rfl) (by decide) (fun hc => ?_) (fun hc => ?_)
  · replace hyp := hyp.1 hc
    refine mf_aload_n (mf_dat eX12_days 10 rfl) rfl rfl ?_
    refine mf_callV (Yc := YX12_keeps) (r := (RX12, TX12, 106)) (ci := 12) (mf_dat eX12_days 11 rfl) ml_X12_558 okX12_keeps im_X12_keeps sl_X12_keeps rfl rfl rfl rfl (Nat.le_of_ble_eq_true rfl) (mf_rr (Nat.le_trans (by decide) hd) (Nat.le_refl _)) (Nat.le_refl _) is245 (hyp g2 hG) (fun r4 g5 h6 hyp => ?_)
    obtain ⟨hgg, hyp⟩ := hyp
    subst hgg
    refine mf_aload_n (mf_dat eX12_days 12 rfl) rfl rfl ?_
    refine mf_iconst (v := 0) (mf_dat eX12_days 13 rfl) (by decide) ?_
    refine mf_putI (r := (RX12, TX12, 106)) (ci := 12) (k := 62) (kI := 62) (t := 0) (mf_dat eX12_days 14 rfl) fl_X12_452 rfl rfl (by decide) rfl (by decide) rfl (by decide) (fun h9 => absurd h9 (by decide)) is245 ?_
    generalize qh7 : mf_up h6 245 62 0 = h7
    replace hyp := hyp _ qh7.symm
    refine mf_aload_n (mf_dat eX12_days 15 rfl) rfl rfl ?_
    refine mf_iload_n (mf_dat eX12_days 16 rfl) rfl rfl ?_
    refine mf_callV (Yc := YX12_daysGo) (r := (RX12, TX12, 106)) (ci := 12) (mf_dat eX12_days 17 rfl) ml_X12_536 okX12_daysGo im_X12_daysGo sl_X12_daysGo rfl rfl rfl rfl (Nat.le_of_ble_eq_true rfl) (mf_rr (Nat.le_trans (by decide) hd) (Nat.le_refl _)) (Nat.le_refl _) is245 (hyp g5 hG) (fun r8 g9 h10 hyp => ?_)
    obtain ⟨hgg, hyp⟩ := hyp
    subst hgg
    refine mf_aload_n (mf_dat eX12_days 18 rfl) rfl rfl ?_
    refine mf_getf (r := (RX12, TX12, 106)) (ci := 12) (k := 62) (t := 0) (v := h10 245 62) (mf_dat eX12_days 19 rfl) fl_X12_452 rfl (by decide) rfl rfl is245 ?_
    exact mf_ireturn (mf_dat eX12_days 20 rfl) rfl (Or.inl rfl) ⟨rfl, hyp⟩
  · replace hyp := hyp.2 hc
    refine mf_aload_n (mf_dat eX12_days 6 rfl) rfl rfl ?_
    refine mf_iconst (v := 3) (mf_dat eX12_days 7 rfl) (by decide) ?_
    refine mf_callV (Yc := YX12_refuses) (r := (RX12, TX12, 106)) (ci := 12) (mf_dat eX12_days 8 rfl) ml_X12_546 okX12_refuses im_X12_refuses sl_X12_refuses rfl rfl rfl rfl (Nat.le_of_ble_eq_true rfl) (mf_rr (Nat.le_trans (by decide) hd) (Nat.le_refl _)) (Nat.le_refl _) is245 (hyp g2 hG) (fun r11 g12 h13 hyp => ?_)
    obtain ⟨hgg, hyp⟩ := hyp
    subst hgg
    exact mf_ireturn (mf_dat eX12_days 9 rfl) rfl (Or.inl rfl) ⟨rfl, hyp⟩
set_option maxRecDepth 100000 in
set_option maxHeartbeats 4000000 in
theorem wX12_seed {C : mf_G} {l : Launch} {d : Nat} {K : Int → mf_M → Prop} {x1 : Int} {h : mf_M} (hyp : ((0 ≤ x1 → (∀ h1 : mf_M, h1 = mf_up h 245 71 x1 → K 1 h1)) ∧ (¬ 0 ≤ x1 → (∀ h2 : mf_M, h2 = mf_up h 247 5 (mf_w32 ((h 247 5) + 1)) → K 0 h2)))) : mM C l d YX12_seed [(2, 245), (0, x1)] h K := by
  intro g hG
  refine mf_entry (by decide) (Nat.le_of_ble_eq_true rfl) ?_
  refine mf_iload_n (mf_dat eX12_seed 0 rfl) rfl rfl ?_
  refine mf_if_ge (tgt := 16) (mf_dat eX12_seed 1 rfl) (by decide) (fun hc => ?_) (fun hc => ?_)
  · replace hyp := hyp.1 hc
    refine mf_aload_n (mf_dat eX12_seed 12 rfl) rfl rfl ?_
    refine mf_iload_n (mf_dat eX12_seed 13 rfl) rfl rfl ?_
    refine mf_i2l (mf_dat eX12_seed 14 rfl) ?_
    refine mf_putI (r := (RX12, TX12, 106)) (ci := 12) (k := 71) (kI := 71) (t := 1) (mf_dat eX12_seed 15 rfl) fl_X12_158 rfl rfl (by decide) rfl (by decide) rfl (by decide) (fun h9 => absurd h9 (by decide)) is245 ?_
    generalize qh1 : mf_up h 245 71 x1 = h1
    replace hyp := hyp _ qh1.symm
    refine mf_iconst (v := 1) (mf_dat eX12_seed 16 rfl) (by decide) ?_
    exact mf_ireturn (mf_dat eX12_seed 17 rfl) rfl (Or.inr ⟨rfl, by decide⟩) ⟨rfl, hyp⟩
  · replace hyp := hyp.2 hc
    refine mf_aload_n (mf_dat eX12_seed 2 rfl) rfl rfl ?_
    refine mf_getf (r := (RX12, TX12, 106)) (ci := 12) (k := 9) (t := 2) (v := 247) (mf_dat eX12_seed 3 rfl) fl_X12_17 rfl (by decide) rfl (gm_9 hG) is245 ?_
    refine mf_iconst (v := 5) (mf_dat eX12_seed 4 rfl) (by decide) ?_
    refine mf_dup2 (mf_dat eX12_seed 5 rfl) (by decide) (by decide) ?_
    refine mf_iald (mf_dat eX12_seed 6 rfl) is247 len247 (by decide) (by decide) ?_
    refine mf_iconst (v := 1) (mf_dat eX12_seed 7 rfl) (by decide) ?_
    refine mf_iadd (mf_dat eX12_seed 8 rfl) ?_
    refine mf_iast (mf_dat eX12_seed 9 rfl) is247 len247 (by decide) (by decide) ?_
    generalize qh2 : mf_up h 247 5 (mf_w32 ((h 247 5) + 1)) = h2
    replace hyp := hyp _ qh2.symm
    refine mf_iconst (v := 0) (mf_dat eX12_seed 10 rfl) (by decide) ?_
    exact mf_ireturn (mf_dat eX12_seed 11 rfl) rfl (Or.inr ⟨rfl, by decide⟩) ⟨rfl, hyp⟩
set_option maxRecDepth 100000 in
set_option maxHeartbeats 4000000 in
theorem wX12_drawOf {C : mf_G} {l : Launch} {d : Nat} {K : Int → mf_M → Prop} {x1 : Int} {h : mf_M} (hyp : (∀ h1 : mf_M, h1 = mf_up h 245 71 ((mf_w64 ((mf_w64 (1103515245 * (h 245 71))) + 12345)).tmod 2147483648) → ¬ x1 = 0 ∧ K (mf_w32 ((mf_w64 ((h1 245 71).tdiv 64)).tmod x1)) h1)) : mM C l d YX12_drawOf [(2, 245), (0, x1)] h K := by
  intro g hG
  refine mf_entry (by decide) (Nat.le_of_ble_eq_true rfl) ?_
  refine mf_aload_n (mf_dat eX12_drawOf 0 rfl) rfl rfl ?_
  refine mf_ldc2 (v := 1103515245) cl_X12_567 (mf_dat eX12_drawOf 1 rfl) (by decide) ?_
  refine mf_aload_n (mf_dat eX12_drawOf 2 rfl) rfl rfl ?_
  refine mf_getf (r := (RX12, TX12, 106)) (ci := 12) (k := 71) (t := 1) (v := h 245 71) (mf_dat eX12_drawOf 3 rfl) fl_X12_158 rfl (by decide) rfl rfl is245 ?_
  refine mf_lmul (mf_dat eX12_drawOf 4 rfl) ?_
  refine mf_ldc2 (v := 12345) cl_X12_569 (mf_dat eX12_drawOf 5 rfl) (by decide) ?_
  refine mf_ladd (mf_dat eX12_drawOf 6 rfl) ?_
  refine mf_ldc2 (v := 2147483648) cl_X12_571 (mf_dat eX12_drawOf 7 rfl) (by decide) ?_
  refine mf_lrem (mf_dat eX12_drawOf 8 rfl) (by decide) ?_
  refine mf_putI (r := (RX12, TX12, 106)) (ci := 12) (k := 71) (kI := 71) (t := 1) (mf_dat eX12_drawOf 9 rfl) fl_X12_158 rfl rfl (by decide) rfl (by decide) rfl (by decide) (fun h9 => absurd h9 (by decide)) is245 ?_
  generalize qh1 : mf_up h 245 71 ((mf_w64 ((mf_w64 (1103515245 * (h 245 71))) + 12345)).tmod 2147483648) = h1
  replace hyp := hyp _ qh1.symm
  refine mf_aload_n (mf_dat eX12_drawOf 10 rfl) rfl rfl ?_
  refine mf_getf (r := (RX12, TX12, 106)) (ci := 12) (k := 71) (t := 1) (v := h1 245 71) (mf_dat eX12_drawOf 11 rfl) fl_X12_158 rfl (by decide) rfl rfl is245 ?_
  refine mf_ldc2 (v := 64) cl_X12_573 (mf_dat eX12_drawOf 12 rfl) (by decide) ?_
  refine mf_ldiv (mf_dat eX12_drawOf 13 rfl) (by decide) ?_
  refine mf_iload_n (mf_dat eX12_drawOf 14 rfl) rfl rfl ?_
  refine mf_i2l (mf_dat eX12_drawOf 15 rfl) ?_
  obtain ⟨ck2, hyp⟩ := hyp
  refine mf_lrem (mf_dat eX12_drawOf 16 rfl) ck2 ?_
  refine mf_l2i (mf_dat eX12_drawOf 17 rfl) ?_
  exact mf_ireturn (mf_dat eX12_drawOf 18 rfl) rfl (Or.inl rfl) ⟨rfl, hyp⟩
abbrev BX12_chance_25 (C : mf_G) (l : Launch) (d : Nat) (K : Int → mf_M → Prop) (x1 x2 x3 : Int) (h : mf_M) : Prop := jM C l d YX12_chance K 25 [(0, (2, 245)), (1, (0, x1)), (2, (0, x2)), (3, (0, x3))] [] h
set_option maxRecDepth 100000 in
set_option maxHeartbeats 4000000 in
theorem vX12_chance_25 {C : mf_G} {l : Launch} {d : Nat} {K : Int → mf_M → Prop} {x1 x2 x3 : Int} {h : mf_M} (hd : 5 ≤ d) (hyp : ((x1 ≤ x3 → K x2 h) ∧ (¬ x1 ≤ x3 → mM C l 0 YX12_drawOf [(2, 245), (0, 100)] h (fun r1 h3 => ((h3 245 48 ≤ r1 → mM C l 3 YX12_openingOn [(2, 245), (0, h3 286 0)] h3 (fun r4 h6 => mM C l 4 YX12_dayBy [(2, 245), (0, r4)] h6 (fun r7 h9 => (∀ v10 : Int, v10 = mf_w32 (x3 + 1) → BX12_chance_25 C l d K x1 x2 v10 h9)))) ∧ (¬ h3 245 48 ≤ r1 → mM C l 0 YX12_beingMany [(2, 245)] h3 (fun r11 h13 => ((r11 ≤ 0 → mM C l 3 YX12_openingOn [(2, 245), (0, h13 286 0)] h13 (fun r14 h16 => mM C l 4 YX12_dayBy [(2, 245), (0, r14)] h16 (fun r17 h19 => (∀ v20 : Int, v20 = mf_w32 (x3 + 1) → BX12_chance_25 C l d K x1 x2 v20 h19)))) ∧ (¬ r11 ≤ 0 → mM C l 0 YX12_beingMany [(2, 245)] h13 (fun r21 h23 => mM C l 0 YX12_drawOf [(2, 245), (0, r21)] h23 (fun r24 h26 => mM C l 0 YX12_purseOf [(2, 245), (0, r24)] h26 (fun r27 h29 => mM C l 0 YX12_purseIs [(2, 245), (0, r24), (1, mf_w32 (r27.tdiv 2))] h29 (fun r30 h32 => (∀ v33 : Int, v33 = mf_w32 (x2 + 1) → mM C l 3 YX12_openingOn [(2, 245), (0, h32 286 0)] h32 (fun r34 h36 => mM C l 4 YX12_dayBy [(2, 245), (0, r34)] h36 (fun r37 h39 => (∀ v40 : Int, v40 = mf_w32 (x3 + 1) → BX12_chance_25 C l d K x1 v33 v40 h39))))))))))))))))) : BX12_chance_25 C l d K x1 x2 x3 h := by
  intro g hG
  refine mf_iload_n (mf_dat eX12_chance 16 rfl) rfl rfl ?_
  refine mf_iload_n (mf_dat eX12_chance 17 rfl) rfl rfl ?_
  refine mf_icmp_ge (tgt := 98) (mf_dat eX12_chance 18 rfl) (by decide) (fun hc => ?_) (fun hc => ?_)
  · replace hyp := hyp.1 hc
    refine mf_iload_n (mf_dat eX12_chance 53 rfl) rfl rfl ?_
    exact mf_ireturn (mf_dat eX12_chance 54 rfl) rfl (Or.inl rfl) ⟨rfl, hyp⟩
  · replace hyp := hyp.2 hc
    refine mf_aload_n (mf_dat eX12_chance 19 rfl) rfl rfl ?_
    refine mf_bipush (v := 100) (mf_dat eX12_chance 20 rfl) (by decide) ?_
    refine mf_callV (Yc := YX12_drawOf) (r := (RX12, TX12, 106)) (ci := 12) (mf_dat eX12_chance 21 rfl) ml_X12_575 okX12_drawOf im_X12_drawOf sl_X12_drawOf rfl rfl rfl rfl (Nat.le_of_ble_eq_true rfl) (mf_rr (Nat.le_trans (by decide) hd) (Nat.le_refl _)) (Nat.le_refl _) is245 (hyp g hG) (fun r1 g2 h3 hyp => ?_)
    obtain ⟨hgg, hyp⟩ := hyp
    subst hgg
    refine mf_aload_n (mf_dat eX12_chance 22 rfl) rfl rfl ?_
    refine mf_getf (r := (RX12, TX12, 106)) (ci := 12) (k := 48) (t := 0) (v := h3 245 48) (mf_dat eX12_chance 23 rfl) fl_X12_393 rfl (by decide) rfl rfl is245 ?_
    refine mf_icmp_ge (tgt := 78) (mf_dat eX12_chance 24 rfl) (by decide) (fun hc => ?_) (fun hc => ?_)
    · replace hyp := hyp.1 hc
      refine mf_aload_n (mf_dat eX12_chance 43 rfl) rfl rfl ?_
      refine mf_aload_n (mf_dat eX12_chance 44 rfl) rfl rfl ?_
      refine mf_aload_n (mf_dat eX12_chance 45 rfl) rfl rfl ?_
      refine mf_getf (r := (RX12, TX12, 106)) (ci := 12) (k := 56) (t := 2) (v := 286) (mf_dat eX12_chance 46 rfl) fl_X12_136 rfl (by decide) rfl (gm_56 hG) is245 ?_
      refine mf_iconst (v := 0) (mf_dat eX12_chance 47 rfl) (by decide) ?_
      refine mf_iald (mf_dat eX12_chance 48 rfl) is286 len286 (by decide) (by decide) ?_
      refine mf_callV (Yc := YX12_openingOn) (r := (RX12, TX12, 106)) (ci := 12) (mf_dat eX12_chance 49 rfl) ml_X12_487 okX12_openingOn im_X12_openingOn sl_X12_openingOn rfl rfl rfl rfl (Nat.le_of_ble_eq_true rfl) (mf_rr (Nat.le_trans (by decide) hd) (Nat.le_refl _)) (Nat.le_refl _) is245 (hyp g2 hG) (fun r4 g5 h6 hyp => ?_)
      obtain ⟨hgg, hyp⟩ := hyp
      subst hgg
      refine mf_callV (Yc := YX12_dayBy) (r := (RX12, TX12, 106)) (ci := 12) (mf_dat eX12_chance 50 rfl) ml_X12_490 okX12_dayBy im_X12_dayBy sl_X12_dayBy rfl rfl rfl rfl (Nat.le_of_ble_eq_true rfl) (mf_rr (Nat.le_trans (by decide) hd) (Nat.le_refl _)) (Nat.le_refl _) is245 (hyp g5 hG) (fun r7 g8 h9 hyp => ?_)
      obtain ⟨hgg, hyp⟩ := hyp
      subst hgg
      refine mf_iinc (mf_dat eX12_chance 51 rfl) rfl (by decide) (by decide) ?_
      generalize qv10 : mf_w32 (x3 + 1) = v10
      replace hyp := hyp _ qv10.symm
      refine mf_goto (tgt := 25) (mf_dat eX12_chance 52 rfl) (by decide) ?_
      exact mf_sub [1, 2, 3, 0] rfl (hyp g8 hG)
    · replace hyp := hyp.2 hc
      refine mf_aload_n (mf_dat eX12_chance 25 rfl) rfl rfl ?_
      refine mf_callV (Yc := YX12_beingMany) (r := (RX12, TX12, 106)) (ci := 12) (mf_dat eX12_chance 26 rfl) ml_X12_402 okX12_beingMany im_X12_beingMany sl_X12_beingMany rfl rfl rfl rfl (Nat.le_of_ble_eq_true rfl) (mf_rr (Nat.le_trans (by decide) hd) (Nat.le_refl _)) (Nat.le_refl _) is245 (hyp g2 hG) (fun r11 g12 h13 hyp => ?_)
      obtain ⟨hgg, hyp⟩ := hyp
      subst hgg
      refine mf_if_le (tgt := 78) (mf_dat eX12_chance 27 rfl) (by decide) (fun hc => ?_) (fun hc => ?_)
      · replace hyp := hyp.1 hc
        refine mf_aload_n (mf_dat eX12_chance 43 rfl) rfl rfl ?_
        refine mf_aload_n (mf_dat eX12_chance 44 rfl) rfl rfl ?_
        refine mf_aload_n (mf_dat eX12_chance 45 rfl) rfl rfl ?_
        refine mf_getf (r := (RX12, TX12, 106)) (ci := 12) (k := 56) (t := 2) (v := 286) (mf_dat eX12_chance 46 rfl) fl_X12_136 rfl (by decide) rfl (gm_56 hG) is245 ?_
        refine mf_iconst (v := 0) (mf_dat eX12_chance 47 rfl) (by decide) ?_
        refine mf_iald (mf_dat eX12_chance 48 rfl) is286 len286 (by decide) (by decide) ?_
        refine mf_callV (Yc := YX12_openingOn) (r := (RX12, TX12, 106)) (ci := 12) (mf_dat eX12_chance 49 rfl) ml_X12_487 okX12_openingOn im_X12_openingOn sl_X12_openingOn rfl rfl rfl rfl (Nat.le_of_ble_eq_true rfl) (mf_rr (Nat.le_trans (by decide) hd) (Nat.le_refl _)) (Nat.le_refl _) is245 (hyp g12 hG) (fun r14 g15 h16 hyp => ?_)
        obtain ⟨hgg, hyp⟩ := hyp
        subst hgg
        refine mf_callV (Yc := YX12_dayBy) (r := (RX12, TX12, 106)) (ci := 12) (mf_dat eX12_chance 50 rfl) ml_X12_490 okX12_dayBy im_X12_dayBy sl_X12_dayBy rfl rfl rfl rfl (Nat.le_of_ble_eq_true rfl) (mf_rr (Nat.le_trans (by decide) hd) (Nat.le_refl _)) (Nat.le_refl _) is245 (hyp g15 hG) (fun r17 g18 h19 hyp => ?_)
        obtain ⟨hgg, hyp⟩ := hyp
        subst hgg
        refine mf_iinc (mf_dat eX12_chance 51 rfl) rfl (by decide) (by decide) ?_
        generalize qv20 : mf_w32 (x3 + 1) = v20
        replace hyp := hyp _ qv20.symm
        refine mf_goto (tgt := 25) (mf_dat eX12_chance 52 rfl) (by decide) ?_
        exact mf_sub [1, 2, 3, 0] rfl (hyp g18 hG)
      · replace hyp := hyp.2 hc
        refine mf_aload_n (mf_dat eX12_chance 28 rfl) rfl rfl ?_
        refine mf_aload_n (mf_dat eX12_chance 29 rfl) rfl rfl ?_
        refine mf_callV (Yc := YX12_beingMany) (r := (RX12, TX12, 106)) (ci := 12) (mf_dat eX12_chance 30 rfl) ml_X12_402 okX12_beingMany im_X12_beingMany sl_X12_beingMany rfl rfl rfl rfl (Nat.le_of_ble_eq_true rfl) (mf_rr (Nat.le_trans (by decide) hd) (Nat.le_refl _)) (Nat.le_refl _) is245 (hyp g12 hG) (fun r21 g22 h23 hyp => ?_)
        obtain ⟨hgg, hyp⟩ := hyp
        subst hgg
        refine mf_callV (Yc := YX12_drawOf) (r := (RX12, TX12, 106)) (ci := 12) (mf_dat eX12_chance 31 rfl) ml_X12_575 okX12_drawOf im_X12_drawOf sl_X12_drawOf rfl rfl rfl rfl (Nat.le_of_ble_eq_true rfl) (mf_rr (Nat.le_trans (by decide) hd) (Nat.le_refl _)) (Nat.le_refl _) is245 (hyp g22 hG) (fun r24 g25 h26 hyp => ?_)
        obtain ⟨hgg, hyp⟩ := hyp
        subst hgg
        refine mf_istore (mf_dat eX12_chance 32 rfl) (by decide) ?_
        refine mf_aload_n (mf_dat eX12_chance 33 rfl) rfl rfl ?_
        refine mf_iload (mf_dat eX12_chance 34 rfl) rfl ?_
        refine mf_aload_n (mf_dat eX12_chance 35 rfl) rfl rfl ?_
        refine mf_iload (mf_dat eX12_chance 36 rfl) rfl ?_
        refine mf_callV (Yc := YX12_purseOf) (r := (RX12, TX12, 106)) (ci := 12) (mf_dat eX12_chance 37 rfl) ml_X12_445 okX12_purseOf im_X12_purseOf sl_X12_purseOf rfl rfl rfl rfl (Nat.le_of_ble_eq_true rfl) (mf_rr (Nat.le_trans (by decide) hd) (Nat.le_refl _)) (Nat.le_refl _) is245 (hyp g25 hG) (fun r27 g28 h29 hyp => ?_)
        obtain ⟨hgg, hyp⟩ := hyp
        subst hgg
        refine mf_iconst (v := 2) (mf_dat eX12_chance 38 rfl) (by decide) ?_
        refine mf_idiv (mf_dat eX12_chance 39 rfl) (by decide) ?_
        refine mf_i2l (mf_dat eX12_chance 40 rfl) ?_
        refine mf_callV (Yc := YX12_purseIs) (r := (RX12, TX12, 106)) (ci := 12) (mf_dat eX12_chance 41 rfl) ml_X12_448 okX12_purseIs im_X12_purseIs sl_X12_purseIs rfl rfl rfl rfl (Nat.le_of_ble_eq_true rfl) (mf_rr (Nat.le_trans (by decide) hd) (Nat.le_refl _)) (Nat.le_refl _) is245 (hyp g28 hG) (fun r30 g31 h32 hyp => ?_)
        obtain ⟨hgg, hyp⟩ := hyp
        subst hgg
        refine mf_iinc (mf_dat eX12_chance 42 rfl) rfl (by decide) (by decide) ?_
        generalize qv33 : mf_w32 (x2 + 1) = v33
        replace hyp := hyp _ qv33.symm
        refine mf_aload_n (mf_dat eX12_chance 43 rfl) rfl rfl ?_
        refine mf_aload_n (mf_dat eX12_chance 44 rfl) rfl rfl ?_
        refine mf_aload_n (mf_dat eX12_chance 45 rfl) rfl rfl ?_
        refine mf_getf (r := (RX12, TX12, 106)) (ci := 12) (k := 56) (t := 2) (v := 286) (mf_dat eX12_chance 46 rfl) fl_X12_136 rfl (by decide) rfl (gm_56 hG) is245 ?_
        refine mf_iconst (v := 0) (mf_dat eX12_chance 47 rfl) (by decide) ?_
        refine mf_iald (mf_dat eX12_chance 48 rfl) is286 len286 (by decide) (by decide) ?_
        refine mf_callV (Yc := YX12_openingOn) (r := (RX12, TX12, 106)) (ci := 12) (mf_dat eX12_chance 49 rfl) ml_X12_487 okX12_openingOn im_X12_openingOn sl_X12_openingOn rfl rfl rfl rfl (Nat.le_of_ble_eq_true rfl) (mf_rr (Nat.le_trans (by decide) hd) (Nat.le_refl _)) (Nat.le_refl _) is245 (hyp g31 hG) (fun r34 g35 h36 hyp => ?_)
        obtain ⟨hgg, hyp⟩ := hyp
        subst hgg
        refine mf_callV (Yc := YX12_dayBy) (r := (RX12, TX12, 106)) (ci := 12) (mf_dat eX12_chance 50 rfl) ml_X12_490 okX12_dayBy im_X12_dayBy sl_X12_dayBy rfl rfl rfl rfl (Nat.le_of_ble_eq_true rfl) (mf_rr (Nat.le_trans (by decide) hd) (Nat.le_refl _)) (Nat.le_refl _) is245 (hyp g35 hG) (fun r37 g38 h39 hyp => ?_)
        obtain ⟨hgg, hyp⟩ := hyp
        subst hgg
        refine mf_iinc (mf_dat eX12_chance 51 rfl) rfl (by decide) (by decide) ?_
        generalize qv40 : mf_w32 (x3 + 1) = v40
        replace hyp := hyp _ qv40.symm
        refine mf_goto (tgt := 25) (mf_dat eX12_chance 52 rfl) (by decide) ?_
        exact mf_sub [3, 4, 1, 0] rfl (hyp g38 hG)
set_option maxRecDepth 100000 in
set_option maxHeartbeats 4000000 in
theorem wX12_chance {C : mf_G} {l : Launch} {d : Nat} {K : Int → mf_M → Prop} {x1 : Int} {h : mf_M} (hd : 2 ≤ d) (hyp : mM C l 1 YX12_isAhead [(2, 245), (0, x1), (0, 1), (0, 100)] h (fun r1 h3 => ((¬ r1 = 0 → mM C l 0 YX12_keeps [(2, 245)] h3 (fun r4 h6 => BX12_chance_25 C l d K x1 0 0 h6)) ∧ (r1 = 0 → mM C l 0 YX12_refuses [(2, 245), (0, 3)] h3 (fun r7 h9 => K r7 h9))))) : mM C l d YX12_chance [(2, 245), (0, x1)] h K := by
  intro g hG
  refine mf_entry (by decide) (Nat.le_of_ble_eq_true rfl) ?_
  refine mf_aload_n (mf_dat eX12_chance 0 rfl) rfl rfl ?_
  refine mf_iload_n (mf_dat eX12_chance 1 rfl) rfl rfl ?_
  refine mf_iconst (v := 1) (mf_dat eX12_chance 2 rfl) (by decide) ?_
  refine mf_bipush (v := 100) (mf_dat eX12_chance 3 rfl) (by decide) ?_
  refine mf_callV (Yc := YX12_isAhead) (r := (RX12, TX12, 106)) (ci := 12) (mf_dat eX12_chance 4 rfl) ml_X12_520 okX12_isAhead im_X12_isAhead sl_X12_isAhead rfl rfl rfl rfl (Nat.le_of_ble_eq_true rfl) (mf_rr (Nat.le_trans (by decide) hd) (Nat.le_refl _)) (Nat.le_refl _) is245 (hyp g hG) (fun r1 g2 h3 hyp => ?_)
  obtain ⟨hgg, hyp⟩ := hyp
  subst hgg
  refine mf_if_ne (tgt := 17) (mf_dat eX12_chance 5 rfl) (by decide) (fun hc => ?_) (fun hc => ?_)
  · replace hyp := hyp.1 hc
    refine mf_aload_n (mf_dat eX12_chance 10 rfl) rfl rfl ?_
    refine mf_callV (Yc := YX12_keeps) (r := (RX12, TX12, 106)) (ci := 12) (mf_dat eX12_chance 11 rfl) ml_X12_558 okX12_keeps im_X12_keeps sl_X12_keeps rfl rfl rfl rfl (Nat.le_of_ble_eq_true rfl) (mf_rr (Nat.le_trans (by decide) hd) (Nat.le_refl _)) (Nat.le_refl _) is245 (hyp g2 hG) (fun r4 g5 h6 hyp => ?_)
    obtain ⟨hgg, hyp⟩ := hyp
    subst hgg
    refine mf_iconst (v := 0) (mf_dat eX12_chance 12 rfl) (by decide) ?_
    refine mf_istore_n (mf_dat eX12_chance 13 rfl) rfl (by decide) ?_
    refine mf_iconst (v := 0) (mf_dat eX12_chance 14 rfl) (by decide) ?_
    refine mf_istore_n (mf_dat eX12_chance 15 rfl) rfl (by decide) ?_
    exact mf_sub [2, 3, 1, 0] rfl (hyp g5 hG)
  · replace hyp := hyp.2 hc
    refine mf_aload_n (mf_dat eX12_chance 6 rfl) rfl rfl ?_
    refine mf_iconst (v := 3) (mf_dat eX12_chance 7 rfl) (by decide) ?_
    refine mf_callV (Yc := YX12_refuses) (r := (RX12, TX12, 106)) (ci := 12) (mf_dat eX12_chance 8 rfl) ml_X12_546 okX12_refuses im_X12_refuses sl_X12_refuses rfl rfl rfl rfl (Nat.le_of_ble_eq_true rfl) (mf_rr (Nat.le_trans (by decide) hd) (Nat.le_refl _)) (Nat.le_refl _) is245 (hyp g2 hG) (fun r7 g8 h9 hyp => ?_)
    obtain ⟨hgg, hyp⟩ := hyp
    subst hgg
    exact mf_ireturn (mf_dat eX12_chance 9 rfl) rfl (Or.inl rfl) ⟨rfl, hyp⟩
set_option maxRecDepth 100000 in
set_option maxHeartbeats 4000000 in
theorem wX12_qCode {C : mf_G} {l : Launch} {d : Nat} {K : Int → mf_M → Prop} {x1 : Int} {h : mf_M} (hyp : 0 ≤ h 245 95 ∧ h 245 95 < 1700 ∧ (∀ h3 : mf_M, h3 = mf_up h 315 (h 245 95) x1 → (∀ h4 : mf_M, h4 = mf_up h3 245 95 (mf_w32 ((h3 245 95) + 1)) → K 0 h4))) : mM C l d YX12_qCode [(2, 245), (0, x1)] h K := by
  intro g hG
  refine mf_entry (by decide) (Nat.le_of_ble_eq_true rfl) ?_
  refine mf_aload_n (mf_dat eX12_qCode 0 rfl) rfl rfl ?_
  refine mf_getf (r := (RX12, TX12, 106)) (ci := 12) (k := 94) (t := 2) (v := 315) (mf_dat eX12_qCode 1 rfl) fl_X12_228 rfl (by decide) rfl (gm_94 hG) is245 ?_
  refine mf_aload_n (mf_dat eX12_qCode 2 rfl) rfl rfl ?_
  refine mf_getf (r := (RX12, TX12, 106)) (ci := 12) (k := 95) (t := 0) (v := h 245 95) (mf_dat eX12_qCode 3 rfl) fl_X12_338 rfl (by decide) rfl rfl is245 ?_
  refine mf_iload_n (mf_dat eX12_qCode 4 rfl) rfl rfl ?_
  obtain ⟨ck1, hyp⟩ := hyp
  obtain ⟨ck2, hyp⟩ := hyp
  refine mf_iast (mf_dat eX12_qCode 5 rfl) is315 len315 ck1 ck2 ?_
  generalize qh3 : mf_up h 315 (h 245 95) x1 = h3
  replace hyp := hyp _ qh3.symm
  refine mf_aload_n (mf_dat eX12_qCode 6 rfl) rfl rfl ?_
  refine mf_dup (mf_dat eX12_qCode 7 rfl) (by decide) ?_
  refine mf_getf (r := (RX12, TX12, 106)) (ci := 12) (k := 95) (t := 0) (v := h3 245 95) (mf_dat eX12_qCode 8 rfl) fl_X12_338 rfl (by decide) rfl rfl is245 ?_
  refine mf_iconst (v := 1) (mf_dat eX12_qCode 9 rfl) (by decide) ?_
  refine mf_iadd (mf_dat eX12_qCode 10 rfl) ?_
  refine mf_putI (r := (RX12, TX12, 106)) (ci := 12) (k := 95) (kI := 95) (t := 0) (mf_dat eX12_qCode 11 rfl) fl_X12_338 rfl rfl (by decide) rfl (by decide) rfl (by decide) (fun h9 => absurd h9 (by decide)) is245 ?_
  generalize qh4 : mf_up h3 245 95 (mf_w32 ((h3 245 95) + 1)) = h4
  replace hyp := hyp _ qh4.symm
  exact mf_return (mf_dat eX12_qCode 12 rfl) rfl ⟨rfl, hyp⟩
set_option maxRecDepth 100000 in
set_option maxHeartbeats 4000000 in
theorem wX12_qOpens {C : mf_G} {l : Launch} {d : Nat} {K : Int → mf_M → Prop} {x1 x2 : Int} {h : mf_M} (hd : 1 ≤ d) (hyp : ((h 245 5 = 0 → ((¬ h 245 98 = 6 → (∀ h1 : mf_M, h1 = mf_up h 245 98 (mf_w32 ((h 245 98) + 1)) → 0 ≤ h1 245 97 ∧ h1 245 97 < 1700 ∧ (∀ h4 : mf_M, h4 = mf_up h1 316 (h1 245 97) x1 → (∀ h5 : mf_M, h5 = mf_up h4 245 97 (mf_w32 ((h4 245 97) + 1)) → K 0 h5)))) ∧ (h 245 98 = 6 → mM C l 0 YX12_fail [(2, 245), (0, 4), (0, x2)] h (fun r6 h8 => K 0 h8)))) ∧ (¬ h 245 5 = 0 → K 0 h))) : mM C l d YX12_qOpens [(2, 245), (0, x1), (0, x2)] h K := by
  intro g hG
  refine mf_entry (by decide) (Nat.le_of_ble_eq_true rfl) ?_
  refine mf_aload_n (mf_dat eX12_qOpens 0 rfl) rfl rfl ?_
  refine mf_getf (r := (RX12, TX12, 106)) (ci := 12) (k := 5) (t := 0) (v := h 245 5) (mf_dat eX12_qOpens 1 rfl) fl_X12_243 rfl (by decide) rfl rfl is245 ?_
  refine mf_if_eq (tgt := 8) (mf_dat eX12_qOpens 2 rfl) (by decide) (fun hc => ?_) (fun hc => ?_)
  · replace hyp := hyp.1 hc
    refine mf_aload_n (mf_dat eX12_qOpens 4 rfl) rfl rfl ?_
    refine mf_getf (r := (RX12, TX12, 106)) (ci := 12) (k := 98) (t := 0) (v := h 245 98) (mf_dat eX12_qOpens 5 rfl) fl_X12_344 rfl (by decide) rfl rfl is245 ?_
    refine mf_bipush (v := 6) (mf_dat eX12_qOpens 6 rfl) (by decide) ?_
    refine mf_icmp_ne (tgt := 24) (mf_dat eX12_qOpens 7 rfl) (by decide) (fun hc => ?_) (fun hc => ?_)
    · replace hyp := hyp.1 hc
      refine mf_aload_n (mf_dat eX12_qOpens 13 rfl) rfl rfl ?_
      refine mf_dup (mf_dat eX12_qOpens 14 rfl) (by decide) ?_
      refine mf_getf (r := (RX12, TX12, 106)) (ci := 12) (k := 98) (t := 0) (v := h 245 98) (mf_dat eX12_qOpens 15 rfl) fl_X12_344 rfl (by decide) rfl rfl is245 ?_
      refine mf_iconst (v := 1) (mf_dat eX12_qOpens 16 rfl) (by decide) ?_
      refine mf_iadd (mf_dat eX12_qOpens 17 rfl) ?_
      refine mf_putI (r := (RX12, TX12, 106)) (ci := 12) (k := 98) (kI := 98) (t := 0) (mf_dat eX12_qOpens 18 rfl) fl_X12_344 rfl rfl (by decide) rfl (by decide) rfl (by decide) (fun h9 => absurd h9 (by decide)) is245 ?_
      generalize qh1 : mf_up h 245 98 (mf_w32 ((h 245 98) + 1)) = h1
      replace hyp := hyp _ qh1.symm
      refine mf_aload_n (mf_dat eX12_qOpens 19 rfl) rfl rfl ?_
      refine mf_getf (r := (RX12, TX12, 106)) (ci := 12) (k := 96) (t := 2) (v := 316) (mf_dat eX12_qOpens 20 rfl) fl_X12_231 rfl (by decide) rfl (gm_96 hG) is245 ?_
      refine mf_aload_n (mf_dat eX12_qOpens 21 rfl) rfl rfl ?_
      refine mf_getf (r := (RX12, TX12, 106)) (ci := 12) (k := 97) (t := 0) (v := h1 245 97) (mf_dat eX12_qOpens 22 rfl) fl_X12_341 rfl (by decide) rfl rfl is245 ?_
      refine mf_iload_n (mf_dat eX12_qOpens 23 rfl) rfl rfl ?_
      obtain ⟨ck2, hyp⟩ := hyp
      obtain ⟨ck3, hyp⟩ := hyp
      refine mf_iast (mf_dat eX12_qOpens 24 rfl) is316 len316 ck2 ck3 ?_
      generalize qh4 : mf_up h1 316 (h1 245 97) x1 = h4
      replace hyp := hyp _ qh4.symm
      refine mf_aload_n (mf_dat eX12_qOpens 25 rfl) rfl rfl ?_
      refine mf_dup (mf_dat eX12_qOpens 26 rfl) (by decide) ?_
      refine mf_getf (r := (RX12, TX12, 106)) (ci := 12) (k := 97) (t := 0) (v := h4 245 97) (mf_dat eX12_qOpens 27 rfl) fl_X12_341 rfl (by decide) rfl rfl is245 ?_
      refine mf_iconst (v := 1) (mf_dat eX12_qOpens 28 rfl) (by decide) ?_
      refine mf_iadd (mf_dat eX12_qOpens 29 rfl) ?_
      refine mf_putI (r := (RX12, TX12, 106)) (ci := 12) (k := 97) (kI := 97) (t := 0) (mf_dat eX12_qOpens 30 rfl) fl_X12_341 rfl rfl (by decide) rfl (by decide) rfl (by decide) (fun h9 => absurd h9 (by decide)) is245 ?_
      generalize qh5 : mf_up h4 245 97 (mf_w32 ((h4 245 97) + 1)) = h5
      replace hyp := hyp _ qh5.symm
      exact mf_return (mf_dat eX12_qOpens 31 rfl) rfl ⟨rfl, hyp⟩
    · replace hyp := hyp.2 hc
      refine mf_aload_n (mf_dat eX12_qOpens 8 rfl) rfl rfl ?_
      refine mf_iconst (v := 4) (mf_dat eX12_qOpens 9 rfl) (by decide) ?_
      refine mf_iload_n (mf_dat eX12_qOpens 10 rfl) rfl rfl ?_
      refine mf_callV (Yc := YX12_fail) (r := (RX12, TX12, 106)) (ci := 12) (mf_dat eX12_qOpens 11 rfl) ml_X12_273 okX12_fail im_X12_fail sl_X12_fail rfl rfl rfl rfl (Nat.le_of_ble_eq_true rfl) (mf_rr (Nat.le_trans (by decide) hd) (Nat.le_refl _)) (Nat.le_refl _) is245 (hyp g hG) (fun r6 g7 h8 hyp => ?_)
      obtain ⟨hgg, hyp⟩ := hyp
      subst hgg
      exact mf_return (mf_dat eX12_qOpens 12 rfl) rfl ⟨rfl, hyp⟩
  · replace hyp := hyp.2 hc
    exact mf_return (mf_dat eX12_qOpens 3 rfl) rfl ⟨rfl, hyp⟩
set_option maxRecDepth 100000 in
set_option maxHeartbeats 4000000 in
theorem wX12_qIsOn {C : mf_G} {l : Launch} {d : Nat} {K : Int → mf_M → Prop} {x1 : Int} {h : mf_M} (hyp : ((h 245 97 ≤ 0 → K 0 h) ∧ (¬ h 245 97 ≤ 0 → 0 ≤ mf_w32 ((h 245 97) - 1) ∧ mf_w32 ((h 245 97) - 1) < 1700 ∧ ((¬ h 316 (mf_w32 ((h 245 97) - 1)) = x1 → K 0 h) ∧ (h 316 (mf_w32 ((h 245 97) - 1)) = x1 → K 1 h))))) : mM C l d YX12_qIsOn [(2, 245), (0, x1)] h K := by
  intro g hG
  refine mf_entry (by decide) (Nat.le_of_ble_eq_true rfl) ?_
  refine mf_aload_n (mf_dat eX12_qIsOn 0 rfl) rfl rfl ?_
  refine mf_getf (r := (RX12, TX12, 106)) (ci := 12) (k := 97) (t := 0) (v := h 245 97) (mf_dat eX12_qIsOn 1 rfl) fl_X12_341 rfl (by decide) rfl rfl is245 ?_
  refine mf_if_le (tgt := 26) (mf_dat eX12_qIsOn 2 rfl) (by decide) (fun hc => ?_) (fun hc => ?_)
  · replace hyp := hyp.1 hc
    refine mf_iconst (v := 0) (mf_dat eX12_qIsOn 14 rfl) (by decide) ?_
    exact mf_ireturn (mf_dat eX12_qIsOn 15 rfl) rfl (Or.inr ⟨rfl, by decide⟩) ⟨rfl, hyp⟩
  · replace hyp := hyp.2 hc
    refine mf_aload_n (mf_dat eX12_qIsOn 3 rfl) rfl rfl ?_
    refine mf_getf (r := (RX12, TX12, 106)) (ci := 12) (k := 96) (t := 2) (v := 316) (mf_dat eX12_qIsOn 4 rfl) fl_X12_231 rfl (by decide) rfl (gm_96 hG) is245 ?_
    refine mf_aload_n (mf_dat eX12_qIsOn 5 rfl) rfl rfl ?_
    refine mf_getf (r := (RX12, TX12, 106)) (ci := 12) (k := 97) (t := 0) (v := h 245 97) (mf_dat eX12_qIsOn 6 rfl) fl_X12_341 rfl (by decide) rfl rfl is245 ?_
    refine mf_iconst (v := 1) (mf_dat eX12_qIsOn 7 rfl) (by decide) ?_
    refine mf_isub (mf_dat eX12_qIsOn 8 rfl) ?_
    obtain ⟨ck1, hyp⟩ := hyp
    obtain ⟨ck2, hyp⟩ := hyp
    refine mf_iald (mf_dat eX12_qIsOn 9 rfl) is316 len316 ck1 ck2 ?_
    refine mf_iload_n (mf_dat eX12_qIsOn 10 rfl) rfl rfl ?_
    refine mf_icmp_ne (tgt := 26) (mf_dat eX12_qIsOn 11 rfl) (by decide) (fun hc => ?_) (fun hc => ?_)
    · replace hyp := hyp.1 hc
      refine mf_iconst (v := 0) (mf_dat eX12_qIsOn 14 rfl) (by decide) ?_
      exact mf_ireturn (mf_dat eX12_qIsOn 15 rfl) rfl (Or.inr ⟨rfl, by decide⟩) ⟨rfl, hyp⟩
    · replace hyp := hyp.2 hc
      refine mf_iconst (v := 1) (mf_dat eX12_qIsOn 12 rfl) (by decide) ?_
      refine mf_goto (tgt := 27) (mf_dat eX12_qIsOn 13 rfl) (by decide) ?_
      exact mf_ireturn (mf_dat eX12_qIsOn 15 rfl) rfl (Or.inr ⟨rfl, by decide⟩) ⟨rfl, hyp⟩
set_option maxRecDepth 100000 in
set_option maxHeartbeats 4000000 in
theorem wX12_qDrops {C : mf_G} {l : Launch} {d : Nat} {K : Int → mf_M → Prop} {h : mf_M} (hd : 1 ≤ d) (hyp : (∀ h1 : mf_M, h1 = mf_up h 245 97 (mf_w32 ((h 245 97) - 1)) → 0 ≤ h1 245 97 ∧ h1 245 97 < 1700 ∧ mM C l 0 YX12_qCode [(2, 245), (0, h1 316 (h1 245 97))] h1 (fun r4 h6 => K 0 h6))) : mM C l d YX12_qDrops [(2, 245)] h K := by
  intro g hG
  refine mf_entry (by decide) (Nat.le_of_ble_eq_true rfl) ?_
  refine mf_aload_n (mf_dat eX12_qDrops 0 rfl) rfl rfl ?_
  refine mf_dup (mf_dat eX12_qDrops 1 rfl) (by decide) ?_
  refine mf_getf (r := (RX12, TX12, 106)) (ci := 12) (k := 97) (t := 0) (v := h 245 97) (mf_dat eX12_qDrops 2 rfl) fl_X12_341 rfl (by decide) rfl rfl is245 ?_
  refine mf_iconst (v := 1) (mf_dat eX12_qDrops 3 rfl) (by decide) ?_
  refine mf_isub (mf_dat eX12_qDrops 4 rfl) ?_
  refine mf_putI (r := (RX12, TX12, 106)) (ci := 12) (k := 97) (kI := 97) (t := 0) (mf_dat eX12_qDrops 5 rfl) fl_X12_341 rfl rfl (by decide) rfl (by decide) rfl (by decide) (fun h9 => absurd h9 (by decide)) is245 ?_
  generalize qh1 : mf_up h 245 97 (mf_w32 ((h 245 97) - 1)) = h1
  replace hyp := hyp _ qh1.symm
  refine mf_aload_n (mf_dat eX12_qDrops 6 rfl) rfl rfl ?_
  refine mf_aload_n (mf_dat eX12_qDrops 7 rfl) rfl rfl ?_
  refine mf_getf (r := (RX12, TX12, 106)) (ci := 12) (k := 96) (t := 2) (v := 316) (mf_dat eX12_qDrops 8 rfl) fl_X12_231 rfl (by decide) rfl (gm_96 hG) is245 ?_
  refine mf_aload_n (mf_dat eX12_qDrops 9 rfl) rfl rfl ?_
  refine mf_getf (r := (RX12, TX12, 106)) (ci := 12) (k := 97) (t := 0) (v := h1 245 97) (mf_dat eX12_qDrops 10 rfl) fl_X12_341 rfl (by decide) rfl rfl is245 ?_
  obtain ⟨ck2, hyp⟩ := hyp
  obtain ⟨ck3, hyp⟩ := hyp
  refine mf_iald (mf_dat eX12_qDrops 11 rfl) is316 len316 ck2 ck3 ?_
  refine mf_callV (Yc := YX12_qCode) (r := (RX12, TX12, 106)) (ci := 12) (mf_dat eX12_qDrops 12 rfl) ml_X12_578 okX12_qCode im_X12_qCode sl_X12_qCode rfl rfl rfl rfl (Nat.le_of_ble_eq_true rfl) (mf_rr (Nat.le_trans (by decide) hd) (Nat.le_refl _)) (Nat.le_refl _) is245 (hyp g hG) (fun r4 g5 h6 hyp => ?_)
  obtain ⟨hgg, hyp⟩ := hyp
  subst hgg
  exact mf_return (mf_dat eX12_qDrops 13 rfl) rfl ⟨rfl, hyp⟩
set_option maxRecDepth 100000 in
set_option maxHeartbeats 4000000 in
theorem wX12_qIsBracket {C : mf_G} {l : Launch} {d : Nat} {K : Int → mf_M → Prop} {x0 : Int} {h : mf_M} (hyp : ((x0 < 20 → K 0 h) ∧ (¬ x0 < 20 → ((24 < x0 → K 0 h) ∧ (¬ 24 < x0 → K 1 h))))) : mM C l d YX12_qIsBracket [(0, x0)] h K := by
  intro g hG
  refine mf_entry (by decide) (Nat.le_of_ble_eq_true rfl) ?_
  refine mf_iload_n (mf_dat eX12_qIsBracket 0 rfl) rfl rfl ?_
  refine mf_bipush (v := 20) (mf_dat eX12_qIsBracket 1 rfl) (by decide) ?_
  refine mf_icmp_lt (tgt := 16) (mf_dat eX12_qIsBracket 2 rfl) (by decide) (fun hc => ?_) (fun hc => ?_)
  · replace hyp := hyp.1 hc
    refine mf_iconst (v := 0) (mf_dat eX12_qIsBracket 8 rfl) (by decide) ?_
    exact mf_ireturn (mf_dat eX12_qIsBracket 9 rfl) rfl (Or.inr ⟨rfl, by decide⟩) ⟨rfl, hyp⟩
  · replace hyp := hyp.2 hc
    refine mf_iload_n (mf_dat eX12_qIsBracket 3 rfl) rfl rfl ?_
    refine mf_bipush (v := 24) (mf_dat eX12_qIsBracket 4 rfl) (by decide) ?_
    refine mf_icmp_gt (tgt := 16) (mf_dat eX12_qIsBracket 5 rfl) (by decide) (fun hc => ?_) (fun hc => ?_)
    · replace hyp := hyp.1 hc
      refine mf_iconst (v := 0) (mf_dat eX12_qIsBracket 8 rfl) (by decide) ?_
      exact mf_ireturn (mf_dat eX12_qIsBracket 9 rfl) rfl (Or.inr ⟨rfl, by decide⟩) ⟨rfl, hyp⟩
    · replace hyp := hyp.2 hc
      refine mf_iconst (v := 1) (mf_dat eX12_qIsBracket 6 rfl) (by decide) ?_
      refine mf_goto (tgt := 17) (mf_dat eX12_qIsBracket 7 rfl) (by decide) ?_
      exact mf_ireturn (mf_dat eX12_qIsBracket 9 rfl) rfl (Or.inr ⟨rfl, by decide⟩) ⟨rfl, hyp⟩
abbrev BX12_qBracket_7 (C : mf_G) (l : Launch) (d : Nat) (K : Int → mf_M → Prop) (x1 : Int) (h : mf_M) : Prop := jM C l d YX12_qBracket K 7 [(0, (2, 245)), (1, (0, x1))] [] h
set_option maxRecDepth 100000 in
set_option maxHeartbeats 4000000 in
theorem vX12_qBracket_7 {C : mf_G} {l : Launch} {d : Nat} {K : Int → mf_M → Prop} {x1 : Int} {h : mf_M} (hd : 1 ≤ d) (hyp : ((x1 < h 245 99 → ((x1 < h 245 99 → K (-1) h) ∧ (¬ x1 < h 245 99 → 0 ≤ x1 ∧ x1 < 1700 ∧ K (h 316 x1) h))) ∧ (¬ x1 < h 245 99 → 0 ≤ x1 ∧ x1 < 1700 ∧ mM C l 0 YX12_qIsBracket [(0, h 316 x1)] h (fun r5 h7 => ((¬ r5 = 0 → ((x1 < h7 245 99 → K (-1) h7) ∧ (¬ x1 < h7 245 99 → K (h7 316 x1) h7))) ∧ (r5 = 0 → (∀ v8 : Int, v8 = mf_w32 (x1 + (-1)) → BX12_qBracket_7 C l d K v8 h7))))))) : BX12_qBracket_7 C l d K x1 h := by
  intro g hG
  refine mf_iload_n (mf_dat eX12_qBracket 5 rfl) rfl rfl ?_
  refine mf_aload_n (mf_dat eX12_qBracket 6 rfl) rfl rfl ?_
  refine mf_getf (r := (RX12, TX12, 106)) (ci := 12) (k := 99) (t := 0) (v := h 245 99) (mf_dat eX12_qBracket 7 rfl) fl_X12_347 rfl (by decide) rfl rfl is245 ?_
  refine mf_icmp_lt (tgt := 33) (mf_dat eX12_qBracket 8 rfl) (by decide) (fun hc => ?_) (fun hc => ?_)
  · replace hyp := hyp.1 hc
    refine mf_iload_n (mf_dat eX12_qBracket 17 rfl) rfl rfl ?_
    refine mf_aload_n (mf_dat eX12_qBracket 18 rfl) rfl rfl ?_
    refine mf_getf (r := (RX12, TX12, 106)) (ci := 12) (k := 99) (t := 0) (v := h 245 99) (mf_dat eX12_qBracket 19 rfl) fl_X12_347 rfl (by decide) rfl rfl is245 ?_
    refine mf_icmp_lt (tgt := 50) (mf_dat eX12_qBracket 20 rfl) (by decide) (fun hc => ?_) (fun hc => ?_)
    · replace hyp := hyp.1 hc
      refine mf_iconst (v := (-1)) (mf_dat eX12_qBracket 26 rfl) (by decide) ?_
      exact mf_ireturn (mf_dat eX12_qBracket 27 rfl) rfl (Or.inl rfl) ⟨rfl, hyp⟩
    · replace hyp := hyp.2 hc
      refine mf_aload_n (mf_dat eX12_qBracket 21 rfl) rfl rfl ?_
      refine mf_getf (r := (RX12, TX12, 106)) (ci := 12) (k := 96) (t := 2) (v := 316) (mf_dat eX12_qBracket 22 rfl) fl_X12_231 rfl (by decide) rfl (gm_96 hG) is245 ?_
      refine mf_iload_n (mf_dat eX12_qBracket 23 rfl) rfl rfl ?_
      obtain ⟨ck1, hyp⟩ := hyp
      obtain ⟨ck2, hyp⟩ := hyp
      refine mf_iald (mf_dat eX12_qBracket 24 rfl) is316 len316 ck1 ck2 ?_
      refine mf_goto (tgt := 51) (mf_dat eX12_qBracket 25 rfl) (by decide) ?_
      exact mf_ireturn (mf_dat eX12_qBracket 27 rfl) rfl (Or.inl rfl) ⟨rfl, hyp⟩
  · replace hyp := hyp.2 hc
    refine mf_aload_n (mf_dat eX12_qBracket 9 rfl) rfl rfl ?_
    refine mf_getf (r := (RX12, TX12, 106)) (ci := 12) (k := 96) (t := 2) (v := 316) (mf_dat eX12_qBracket 10 rfl) fl_X12_231 rfl (by decide) rfl (gm_96 hG) is245 ?_
    refine mf_iload_n (mf_dat eX12_qBracket 11 rfl) rfl rfl ?_
    obtain ⟨ck3, hyp⟩ := hyp
    obtain ⟨ck4, hyp⟩ := hyp
    refine mf_iald (mf_dat eX12_qBracket 12 rfl) is316 len316 ck3 ck4 ?_
    refine mf_callS (Yc := YX12_qIsBracket) (mf_dat eX12_qBracket 13 rfl) ml_X12_581 okX12_qIsBracket sm_X12_qIsBracket rfl rfl (Nat.le_of_ble_eq_true rfl) (mf_rr (Nat.le_trans (by decide) hd) (Nat.le_refl _)) (Nat.le_refl _) (hyp g hG) (fun r5 g6 h7 hyp => ?_)
    obtain ⟨hgg, hyp⟩ := hyp
    subst hgg
    refine mf_if_ne (tgt := 33) (mf_dat eX12_qBracket 14 rfl) (by decide) (fun hc => ?_) (fun hc => ?_)
    · replace hyp := hyp.1 hc
      refine mf_iload_n (mf_dat eX12_qBracket 17 rfl) rfl rfl ?_
      refine mf_aload_n (mf_dat eX12_qBracket 18 rfl) rfl rfl ?_
      refine mf_getf (r := (RX12, TX12, 106)) (ci := 12) (k := 99) (t := 0) (v := h7 245 99) (mf_dat eX12_qBracket 19 rfl) fl_X12_347 rfl (by decide) rfl rfl is245 ?_
      refine mf_icmp_lt (tgt := 50) (mf_dat eX12_qBracket 20 rfl) (by decide) (fun hc => ?_) (fun hc => ?_)
      · replace hyp := hyp.1 hc
        refine mf_iconst (v := (-1)) (mf_dat eX12_qBracket 26 rfl) (by decide) ?_
        exact mf_ireturn (mf_dat eX12_qBracket 27 rfl) rfl (Or.inl rfl) ⟨rfl, hyp⟩
      · replace hyp := hyp.2 hc
        refine mf_aload_n (mf_dat eX12_qBracket 21 rfl) rfl rfl ?_
        refine mf_getf (r := (RX12, TX12, 106)) (ci := 12) (k := 96) (t := 2) (v := 316) (mf_dat eX12_qBracket 22 rfl) fl_X12_231 rfl (by decide) rfl (gm_96 hG) is245 ?_
        refine mf_iload_n (mf_dat eX12_qBracket 23 rfl) rfl rfl ?_
        refine mf_iald (mf_dat eX12_qBracket 24 rfl) is316 len316 ck3 ck4 ?_
        refine mf_goto (tgt := 51) (mf_dat eX12_qBracket 25 rfl) (by decide) ?_
        exact mf_ireturn (mf_dat eX12_qBracket 27 rfl) rfl (Or.inl rfl) ⟨rfl, hyp⟩
    · replace hyp := hyp.2 hc
      refine mf_iinc (mf_dat eX12_qBracket 15 rfl) rfl (by decide) (by decide) ?_
      generalize qv8 : mf_w32 (x1 + (-1)) = v8
      replace hyp := hyp _ qv8.symm
      refine mf_goto (tgt := 7) (mf_dat eX12_qBracket 16 rfl) (by decide) ?_
      exact mf_sub [1, 0] rfl (hyp g6 hG)
set_option maxRecDepth 100000 in
set_option maxHeartbeats 4000000 in
theorem wX12_qBracket {C : mf_G} {l : Launch} {d : Nat} {K : Int → mf_M → Prop} {h : mf_M} (hyp : (∀ v1 : Int, v1 = mf_w32 ((h 245 97) - 1) → BX12_qBracket_7 C l d K v1 h)) : mM C l d YX12_qBracket [(2, 245)] h K := by
  intro g hG
  refine mf_entry (by decide) (Nat.le_of_ble_eq_true rfl) ?_
  refine mf_aload_n (mf_dat eX12_qBracket 0 rfl) rfl rfl ?_
  refine mf_getf (r := (RX12, TX12, 106)) (ci := 12) (k := 97) (t := 0) (v := h 245 97) (mf_dat eX12_qBracket 1 rfl) fl_X12_341 rfl (by decide) rfl rfl is245 ?_
  refine mf_iconst (v := 1) (mf_dat eX12_qBracket 2 rfl) (by decide) ?_
  refine mf_isub (mf_dat eX12_qBracket 3 rfl) ?_
  generalize qv1 : mf_w32 ((h 245 97) - 1) = v1
  replace hyp := hyp _ qv1.symm
  refine mf_istore_n (mf_dat eX12_qBracket 4 rfl) rfl (by decide) ?_
  exact mf_sub [1, 0] rfl (hyp g hG)
abbrev BX12_qDropsToBracket_0 (C : mf_G) (l : Launch) (d : Nat) (K : Int → mf_M → Prop) (h : mf_M) : Prop := jM C l d YX12_qDropsToBracket K 0 [(0, (2, 245))] [] h
set_option maxRecDepth 100000 in
set_option maxHeartbeats 4000000 in
theorem vX12_qDropsToBracket_0 {C : mf_G} {l : Launch} {d : Nat} {K : Int → mf_M → Prop} {h : mf_M} (hd : 2 ≤ d) (hyp : ((h 245 97 ≤ h 245 99 → K 0 h) ∧ (¬ h 245 97 ≤ h 245 99 → 0 ≤ mf_w32 ((h 245 97) - 1) ∧ mf_w32 ((h 245 97) - 1) < 1700 ∧ mM C l 0 YX12_qIsBracket [(0, h 316 (mf_w32 ((h 245 97) - 1)))] h (fun r3 h5 => ((¬ r3 = 0 → K 0 h5) ∧ (r3 = 0 → mM C l 1 YX12_qDrops [(2, 245)] h5 (fun r6 h8 => BX12_qDropsToBracket_0 C l d K h8))))))) : BX12_qDropsToBracket_0 C l d K h := by
  intro g hG
  refine mf_aload_n (mf_dat eX12_qDropsToBracket 0 rfl) rfl rfl ?_
  refine mf_getf (r := (RX12, TX12, 106)) (ci := 12) (k := 97) (t := 0) (v := h 245 97) (mf_dat eX12_qDropsToBracket 1 rfl) fl_X12_341 rfl (by decide) rfl rfl is245 ?_
  refine mf_aload_n (mf_dat eX12_qDropsToBracket 2 rfl) rfl rfl ?_
  refine mf_getf (r := (RX12, TX12, 106)) (ci := 12) (k := 99) (t := 0) (v := h 245 99) (mf_dat eX12_qDropsToBracket 3 rfl) fl_X12_347 rfl (by decide) rfl rfl is245 ?_
  refine mf_icmp_le (tgt := 35) (mf_dat eX12_qDropsToBracket 4 rfl) (by decide) (fun hc => ?_) (fun hc => ?_)
  · replace hyp := hyp.1 hc
    exact mf_return (mf_dat eX12_qDropsToBracket 17 rfl) rfl ⟨rfl, hyp⟩
  · replace hyp := hyp.2 hc
    refine mf_aload_n (mf_dat eX12_qDropsToBracket 5 rfl) rfl rfl ?_
    refine mf_getf (r := (RX12, TX12, 106)) (ci := 12) (k := 96) (t := 2) (v := 316) (mf_dat eX12_qDropsToBracket 6 rfl) fl_X12_231 rfl (by decide) rfl (gm_96 hG) is245 ?_
    refine mf_aload_n (mf_dat eX12_qDropsToBracket 7 rfl) rfl rfl ?_
    refine mf_getf (r := (RX12, TX12, 106)) (ci := 12) (k := 97) (t := 0) (v := h 245 97) (mf_dat eX12_qDropsToBracket 8 rfl) fl_X12_341 rfl (by decide) rfl rfl is245 ?_
    refine mf_iconst (v := 1) (mf_dat eX12_qDropsToBracket 9 rfl) (by decide) ?_
    refine mf_isub (mf_dat eX12_qDropsToBracket 10 rfl) ?_
    obtain ⟨ck1, hyp⟩ := hyp
    obtain ⟨ck2, hyp⟩ := hyp
    refine mf_iald (mf_dat eX12_qDropsToBracket 11 rfl) is316 len316 ck1 ck2 ?_
    refine mf_callS (Yc := YX12_qIsBracket) (mf_dat eX12_qDropsToBracket 12 rfl) ml_X12_581 okX12_qIsBracket sm_X12_qIsBracket rfl rfl (Nat.le_of_ble_eq_true rfl) (mf_rr (Nat.le_trans (by decide) hd) (Nat.le_refl _)) (Nat.le_refl _) (hyp g hG) (fun r3 g4 h5 hyp => ?_)
    obtain ⟨hgg, hyp⟩ := hyp
    subst hgg
    refine mf_if_ne (tgt := 35) (mf_dat eX12_qDropsToBracket 13 rfl) (by decide) (fun hc => ?_) (fun hc => ?_)
    · replace hyp := hyp.1 hc
      exact mf_return (mf_dat eX12_qDropsToBracket 17 rfl) rfl ⟨rfl, hyp⟩
    · replace hyp := hyp.2 hc
      refine mf_aload_n (mf_dat eX12_qDropsToBracket 14 rfl) rfl rfl ?_
      refine mf_callV (Yc := YX12_qDrops) (r := (RX12, TX12, 106)) (ci := 12) (mf_dat eX12_qDropsToBracket 15 rfl) ml_X12_584 okX12_qDrops im_X12_qDrops sl_X12_qDrops rfl rfl rfl rfl (Nat.le_of_ble_eq_true rfl) (mf_rr (Nat.le_trans (by decide) hd) (Nat.le_refl _)) (Nat.le_refl _) is245 (hyp g4 hG) (fun r6 g7 h8 hyp => ?_)
      obtain ⟨hgg, hyp⟩ := hyp
      subst hgg
      refine mf_goto (tgt := 0) (mf_dat eX12_qDropsToBracket 16 rfl) (by decide) ?_
      exact mf_sub [0] rfl (hyp g7 hG)
set_option maxRecDepth 100000 in
set_option maxHeartbeats 4000000 in
theorem wX12_qDropsToBracket {C : mf_G} {l : Launch} {d : Nat} {K : Int → mf_M → Prop} {h : mf_M} (hyp : BX12_qDropsToBracket_0 C l d K h) : mM C l d YX12_qDropsToBracket [(2, 245)] h K := by
  intro g hG
  refine mf_entry (by decide) (Nat.le_of_ble_eq_true rfl) ?_
  exact mf_sub [0] rfl (hyp g hG)
set_option maxRecDepth 100000 in
set_option maxHeartbeats 4000000 in
theorem wX12_qWordHere {C : mf_G} {l : Launch} {d : Nat} {K : Int → mf_M → Prop} {h : mf_M} (hd : 2 ≤ d) (hyp : mM C l 1 YX12_isHere [(2, 245), (2, 305)] h (fun r1 h3 => ((r1 = 0 → mM C l 1 YX12_isHere [(2, 245), (2, 306)] h3 (fun r4 h6 => ((r4 = 0 → mM C l 1 YX12_isHere [(2, 245), (2, 307)] h6 (fun r7 h9 => ((r7 = 0 → mM C l 1 YX12_isHere [(2, 245), (2, 308)] h9 (fun r10 h12 => ((r10 = 0 → mM C l 1 YX12_isHere [(2, 245), (2, 309)] h12 (fun r13 h15 => ((r13 = 0 → mM C l 1 YX12_isHere [(2, 245), (2, 310)] h15 (fun r16 h18 => ((r16 = 0 → mM C l 1 YX12_isHere [(2, 245), (2, 311)] h18 (fun r19 h21 => ((r19 = 0 → mM C l 1 YX12_isHere [(2, 245), (2, 312)] h21 (fun r22 h24 => ((r22 = 0 → mM C l 1 YX12_isHere [(2, 245), (2, 313)] h24 (fun r25 h27 => ((r25 = 0 → mM C l 1 YX12_isHere [(2, 245), (2, 314)] h27 (fun r28 h30 => ((r28 = 0 → K (-1) h30) ∧ (¬ r28 = 0 → K 9 h30)))) ∧ (¬ r25 = 0 → K 8 h27)))) ∧ (¬ r22 = 0 → K 7 h24)))) ∧ (¬ r19 = 0 → K 6 h21)))) ∧ (¬ r16 = 0 → K 5 h18)))) ∧ (¬ r13 = 0 → K 4 h15)))) ∧ (¬ r10 = 0 → K 3 h12)))) ∧ (¬ r7 = 0 → K 2 h9)))) ∧ (¬ r4 = 0 → K 1 h6)))) ∧ (¬ r1 = 0 → K 0 h3)))) : mM C l d YX12_qWordHere [(2, 245)] h K := by
  intro g hG
  refine mf_entry (by decide) (Nat.le_of_ble_eq_true rfl) ?_
  refine mf_aload_n (mf_dat eX12_qWordHere_p0 0 rfl) rfl rfl ?_
  refine mf_aload_n (mf_dat eX12_qWordHere_p0 1 rfl) rfl rfl ?_
  refine mf_getf (r := (RX12, TX12, 106)) (ci := 12) (k := 84) (t := 2) (v := 305) (mf_dat eX12_qWordHere_p0 2 rfl) fl_X12_198 rfl (by decide) rfl (gm_84 hG) is245 ?_
  refine mf_callV (Yc := YX12_isHere) (r := (RX12, TX12, 106)) (ci := 12) (mf_dat eX12_qWordHere_p0 3 rfl) ml_X12_266 okX12_isHere im_X12_isHere sl_X12_isHere rfl rfl rfl rfl (Nat.le_of_ble_eq_true rfl) (mf_rr (Nat.le_trans (by decide) hd) (Nat.le_refl _)) (Nat.le_refl _) is245 (hyp g hG) (fun r1 g2 h3 hyp => ?_)
  obtain ⟨hgg, hyp⟩ := hyp
  subst hgg
  refine mf_if_eq (tgt := 13) (mf_dat eX12_qWordHere_p0 4 rfl) (by decide) (fun hc => ?_) (fun hc => ?_)
  · replace hyp := hyp.1 hc
    refine mf_aload_n (mf_dat eX12_qWordHere_p0 7 rfl) rfl rfl ?_
    refine mf_aload_n (mf_dat eX12_qWordHere_p0 8 rfl) rfl rfl ?_
    refine mf_getf (r := (RX12, TX12, 106)) (ci := 12) (k := 85) (t := 2) (v := 306) (mf_dat eX12_qWordHere_p0 9 rfl) fl_X12_201 rfl (by decide) rfl (gm_85 hG) is245 ?_
    refine mf_callV (Yc := YX12_isHere) (r := (RX12, TX12, 106)) (ci := 12) (mf_dat eX12_qWordHere_p0 10 rfl) ml_X12_266 okX12_isHere im_X12_isHere sl_X12_isHere rfl rfl rfl rfl (Nat.le_of_ble_eq_true rfl) (mf_rr (Nat.le_trans (by decide) hd) (Nat.le_refl _)) (Nat.le_refl _) is245 (hyp g2 hG) (fun r4 g5 h6 hyp => ?_)
    obtain ⟨hgg, hyp⟩ := hyp
    subst hgg
    refine mf_if_eq (tgt := 26) (mf_dat eX12_qWordHere_p0 11 rfl) (by decide) (fun hc => ?_) (fun hc => ?_)
    · replace hyp := hyp.1 hc
      refine mf_aload_n (mf_dat eX12_qWordHere_p0 14 rfl) rfl rfl ?_
      refine mf_aload_n (mf_dat eX12_qWordHere_p0 15 rfl) rfl rfl ?_
      refine mf_getf (r := (RX12, TX12, 106)) (ci := 12) (k := 86) (t := 2) (v := 307) (mf_dat eX12_qWordHere_p0 16 rfl) fl_X12_204 rfl (by decide) rfl (gm_86 hG) is245 ?_
      refine mf_callV (Yc := YX12_isHere) (r := (RX12, TX12, 106)) (ci := 12) (mf_dat eX12_qWordHere_p0 17 rfl) ml_X12_266 okX12_isHere im_X12_isHere sl_X12_isHere rfl rfl rfl rfl (Nat.le_of_ble_eq_true rfl) (mf_rr (Nat.le_trans (by decide) hd) (Nat.le_refl _)) (Nat.le_refl _) is245 (hyp g5 hG) (fun r7 g8 h9 hyp => ?_)
      obtain ⟨hgg, hyp⟩ := hyp
      subst hgg
      refine mf_if_eq (tgt := 39) (mf_dat eX12_qWordHere_p0 18 rfl) (by decide) (fun hc => ?_) (fun hc => ?_)
      · replace hyp := hyp.1 hc
        refine mf_aload_n (mf_dat eX12_qWordHere_p0 21 rfl) rfl rfl ?_
        refine mf_aload_n (mf_dat eX12_qWordHere_p0 22 rfl) rfl rfl ?_
        refine mf_getf (r := (RX12, TX12, 106)) (ci := 12) (k := 87) (t := 2) (v := 308) (mf_dat eX12_qWordHere_p0 23 rfl) fl_X12_207 rfl (by decide) rfl (gm_87 hG) is245 ?_
        refine mf_callV (Yc := YX12_isHere) (r := (RX12, TX12, 106)) (ci := 12) (mf_dat eX12_qWordHere_p0 24 rfl) ml_X12_266 okX12_isHere im_X12_isHere sl_X12_isHere rfl rfl rfl rfl (Nat.le_of_ble_eq_true rfl) (mf_rr (Nat.le_trans (by decide) hd) (Nat.le_refl _)) (Nat.le_refl _) is245 (hyp g8 hG) (fun r10 g11 h12 hyp => ?_)
        obtain ⟨hgg, hyp⟩ := hyp
        subst hgg
        refine mf_if_eq (tgt := 52) (mf_dat eX12_qWordHere_p0 25 rfl) (by decide) (fun hc => ?_) (fun hc => ?_)
        · replace hyp := hyp.1 hc
          refine mf_aload_n (mf_dat eX12_qWordHere_p0 28 rfl) rfl rfl ?_
          refine mf_aload_n (mf_dat eX12_qWordHere_p0 29 rfl) rfl rfl ?_
          refine mf_getf (r := (RX12, TX12, 106)) (ci := 12) (k := 88) (t := 2) (v := 309) (mf_dat eX12_qWordHere_p0 30 rfl) fl_X12_210 rfl (by decide) rfl (gm_88 hG) is245 ?_
          refine mf_callV (Yc := YX12_isHere) (r := (RX12, TX12, 106)) (ci := 12) (mf_dat eX12_qWordHere_p0 31 rfl) ml_X12_266 okX12_isHere im_X12_isHere sl_X12_isHere rfl rfl rfl rfl (Nat.le_of_ble_eq_true rfl) (mf_rr (Nat.le_trans (by decide) hd) (Nat.le_refl _)) (Nat.le_refl _) is245 (hyp g11 hG) (fun r13 g14 h15 hyp => ?_)
          obtain ⟨hgg, hyp⟩ := hyp
          subst hgg
          refine mf_if_eq (tgt := 65) (mf_dat eX12_qWordHere_p0 32 rfl) (by decide) (fun hc => ?_) (fun hc => ?_)
          · replace hyp := hyp.1 hc
            refine mf_aload_n (mf_dat eX12_qWordHere_p0 35 rfl) rfl rfl ?_
            refine mf_aload_n (mf_dat eX12_qWordHere_p0 36 rfl) rfl rfl ?_
            refine mf_getf (r := (RX12, TX12, 106)) (ci := 12) (k := 89) (t := 2) (v := 310) (mf_dat eX12_qWordHere_p0 37 rfl) fl_X12_213 rfl (by decide) rfl (gm_89 hG) is245 ?_
            refine mf_callV (Yc := YX12_isHere) (r := (RX12, TX12, 106)) (ci := 12) (mf_dat eX12_qWordHere_p0 38 rfl) ml_X12_266 okX12_isHere im_X12_isHere sl_X12_isHere rfl rfl rfl rfl (Nat.le_of_ble_eq_true rfl) (mf_rr (Nat.le_trans (by decide) hd) (Nat.le_refl _)) (Nat.le_refl _) is245 (hyp g14 hG) (fun r16 g17 h18 hyp => ?_)
            obtain ⟨hgg, hyp⟩ := hyp
            subst hgg
            refine mf_if_eq (tgt := 78) (mf_dat eX12_qWordHere_p0 39 rfl) (by decide) (fun hc => ?_) (fun hc => ?_)
            · replace hyp := hyp.1 hc
              refine mf_aload_n (mf_dat eX12_qWordHere_p0 42 rfl) rfl rfl ?_
              refine mf_aload_n (mf_dat eX12_qWordHere_p0 43 rfl) rfl rfl ?_
              refine mf_getf (r := (RX12, TX12, 106)) (ci := 12) (k := 90) (t := 2) (v := 311) (mf_dat eX12_qWordHere_p0 44 rfl) fl_X12_216 rfl (by decide) rfl (gm_90 hG) is245 ?_
              refine mf_callV (Yc := YX12_isHere) (r := (RX12, TX12, 106)) (ci := 12) (mf_dat eX12_qWordHere_p0 45 rfl) ml_X12_266 okX12_isHere im_X12_isHere sl_X12_isHere rfl rfl rfl rfl (Nat.le_of_ble_eq_true rfl) (mf_rr (Nat.le_trans (by decide) hd) (Nat.le_refl _)) (Nat.le_refl _) is245 (hyp g17 hG) (fun r19 g20 h21 hyp => ?_)
              obtain ⟨hgg, hyp⟩ := hyp
              subst hgg
              refine mf_if_eq (tgt := 92) (mf_dat eX12_qWordHere_p0 46 rfl) (by decide) (fun hc => ?_) (fun hc => ?_)
              · replace hyp := hyp.1 hc
                refine mf_aload_n (mf_dat eX12_qWordHere_p0 49 rfl) rfl rfl ?_
                refine mf_aload_n (mf_dat eX12_qWordHere_p0 50 rfl) rfl rfl ?_
                refine mf_getf (r := (RX12, TX12, 106)) (ci := 12) (k := 91) (t := 2) (v := 312) (mf_dat eX12_qWordHere_p0 51 rfl) fl_X12_219 rfl (by decide) rfl (gm_91 hG) is245 ?_
                refine mf_callV (Yc := YX12_isHere) (r := (RX12, TX12, 106)) (ci := 12) (mf_dat eX12_qWordHere_p0 52 rfl) ml_X12_266 okX12_isHere im_X12_isHere sl_X12_isHere rfl rfl rfl rfl (Nat.le_of_ble_eq_true rfl) (mf_rr (Nat.le_trans (by decide) hd) (Nat.le_refl _)) (Nat.le_refl _) is245 (hyp g20 hG) (fun r22 g23 h24 hyp => ?_)
                obtain ⟨hgg, hyp⟩ := hyp
                subst hgg
                refine mf_if_eq (tgt := 106) (mf_dat eX12_qWordHere_p0 53 rfl) (by decide) (fun hc => ?_) (fun hc => ?_)
                · replace hyp := hyp.1 hc
                  refine mf_aload_n (mf_dat eX12_qWordHere_p0 56 rfl) rfl rfl ?_
                  refine mf_aload_n (mf_dat eX12_qWordHere_p0 57 rfl) rfl rfl ?_
                  refine mf_getf (r := (RX12, TX12, 106)) (ci := 12) (k := 92) (t := 2) (v := 313) (mf_dat eX12_qWordHere_p0 58 rfl) fl_X12_222 rfl (by decide) rfl (gm_92 hG) is245 ?_
                  refine mf_callV (Yc := YX12_isHere) (r := (RX12, TX12, 106)) (ci := 12) (mf_dat eX12_qWordHere_p0 59 rfl) ml_X12_266 okX12_isHere im_X12_isHere sl_X12_isHere rfl rfl rfl rfl (Nat.le_of_ble_eq_true rfl) (mf_rr (Nat.le_trans (by decide) hd) (Nat.le_refl _)) (Nat.le_refl _) is245 (hyp g23 hG) (fun r25 g26 h27 hyp => ?_)
                  obtain ⟨hgg, hyp⟩ := hyp
                  subst hgg
                  refine mf_if_eq (tgt := 120) (mf_dat eX12_qWordHere_p1 0 rfl) (by decide) (fun hc => ?_) (fun hc => ?_)
                  · replace hyp := hyp.1 hc
                    refine mf_aload_n (mf_dat eX12_qWordHere_p1 3 rfl) rfl rfl ?_
                    refine mf_aload_n (mf_dat eX12_qWordHere_p1 4 rfl) rfl rfl ?_
                    refine mf_getf (r := (RX12, TX12, 106)) (ci := 12) (k := 93) (t := 2) (v := 314) (mf_dat eX12_qWordHere_p1 5 rfl) fl_X12_225 rfl (by decide) rfl (gm_93 hG) is245 ?_
                    refine mf_callV (Yc := YX12_isHere) (r := (RX12, TX12, 106)) (ci := 12) (mf_dat eX12_qWordHere_p1 6 rfl) ml_X12_266 okX12_isHere im_X12_isHere sl_X12_isHere rfl rfl rfl rfl (Nat.le_of_ble_eq_true rfl) (mf_rr (Nat.le_trans (by decide) hd) (Nat.le_refl _)) (Nat.le_refl _) is245 (hyp g26 hG) (fun r28 g29 h30 hyp => ?_)
                    obtain ⟨hgg, hyp⟩ := hyp
                    subst hgg
                    refine mf_if_eq (tgt := 134) (mf_dat eX12_qWordHere_p1 7 rfl) (by decide) (fun hc => ?_) (fun hc => ?_)
                    · replace hyp := hyp.1 hc
                      refine mf_iconst (v := (-1)) (mf_dat eX12_qWordHere_p1 10 rfl) (by decide) ?_
                      exact mf_ireturn (mf_dat eX12_qWordHere_p1 11 rfl) rfl (Or.inl rfl) ⟨rfl, hyp⟩
                    · replace hyp := hyp.2 hc
                      refine mf_bipush (v := 9) (mf_dat eX12_qWordHere_p1 8 rfl) (by decide) ?_
                      exact mf_ireturn (mf_dat eX12_qWordHere_p1 9 rfl) rfl (Or.inl rfl) ⟨rfl, hyp⟩
                  · replace hyp := hyp.2 hc
                    refine mf_bipush (v := 8) (mf_dat eX12_qWordHere_p1 1 rfl) (by decide) ?_
                    exact mf_ireturn (mf_dat eX12_qWordHere_p1 2 rfl) rfl (Or.inl rfl) ⟨rfl, hyp⟩
                · replace hyp := hyp.2 hc
                  refine mf_bipush (v := 7) (mf_dat eX12_qWordHere_p0 54 rfl) (by decide) ?_
                  exact mf_ireturn (mf_dat eX12_qWordHere_p0 55 rfl) rfl (Or.inl rfl) ⟨rfl, hyp⟩
              · replace hyp := hyp.2 hc
                refine mf_bipush (v := 6) (mf_dat eX12_qWordHere_p0 47 rfl) (by decide) ?_
                exact mf_ireturn (mf_dat eX12_qWordHere_p0 48 rfl) rfl (Or.inl rfl) ⟨rfl, hyp⟩
            · replace hyp := hyp.2 hc
              refine mf_iconst (v := 5) (mf_dat eX12_qWordHere_p0 40 rfl) (by decide) ?_
              exact mf_ireturn (mf_dat eX12_qWordHere_p0 41 rfl) rfl (Or.inl rfl) ⟨rfl, hyp⟩
          · replace hyp := hyp.2 hc
            refine mf_iconst (v := 4) (mf_dat eX12_qWordHere_p0 33 rfl) (by decide) ?_
            exact mf_ireturn (mf_dat eX12_qWordHere_p0 34 rfl) rfl (Or.inl rfl) ⟨rfl, hyp⟩
        · replace hyp := hyp.2 hc
          refine mf_iconst (v := 3) (mf_dat eX12_qWordHere_p0 26 rfl) (by decide) ?_
          exact mf_ireturn (mf_dat eX12_qWordHere_p0 27 rfl) rfl (Or.inl rfl) ⟨rfl, hyp⟩
      · replace hyp := hyp.2 hc
        refine mf_iconst (v := 2) (mf_dat eX12_qWordHere_p0 19 rfl) (by decide) ?_
        exact mf_ireturn (mf_dat eX12_qWordHere_p0 20 rfl) rfl (Or.inl rfl) ⟨rfl, hyp⟩
    · replace hyp := hyp.2 hc
      refine mf_iconst (v := 1) (mf_dat eX12_qWordHere_p0 12 rfl) (by decide) ?_
      exact mf_ireturn (mf_dat eX12_qWordHere_p0 13 rfl) rfl (Or.inl rfl) ⟨rfl, hyp⟩
  · replace hyp := hyp.2 hc
    refine mf_iconst (v := 0) (mf_dat eX12_qWordHere_p0 5 rfl) (by decide) ?_
    exact mf_ireturn (mf_dat eX12_qWordHere_p0 6 rfl) rfl (Or.inl rfl) ⟨rfl, hyp⟩
set_option maxRecDepth 100000 in
set_option maxHeartbeats 4000000 in
theorem wX12_qWordOf {C : mf_G} {l : Launch} {d : Nat} {K : Int → mf_M → Prop} {x1 x2 : Int} {h : mf_M} (hd : 3 ≤ d) (hyp : mM C l 2 YX12_qWordHere [(2, 245)] h (fun r1 h3 => ((r1 < x1 → K (-1) h3) ∧ (¬ r1 < x1 → ((x2 ≤ r1 → K (-1) h3) ∧ (¬ x2 ≤ r1 → mM C l 0 YX12_isAllowed [(2, 245), (0, r1)] h3 (fun r4 h6 => ((r4 = 0 → K (-1) h6) ∧ (¬ r4 = 0 → K r1 h6))))))))) : mM C l d YX12_qWordOf [(2, 245), (0, x1), (0, x2)] h K := by
  intro g hG
  refine mf_entry (by decide) (Nat.le_of_ble_eq_true rfl) ?_
  refine mf_aload_n (mf_dat eX12_qWordOf 0 rfl) rfl rfl ?_
  refine mf_callV (Yc := YX12_qWordHere) (r := (RX12, TX12, 106)) (ci := 12) (mf_dat eX12_qWordOf 1 rfl) ml_X12_587 okX12_qWordHere im_X12_qWordHere sl_X12_qWordHere rfl rfl rfl rfl (Nat.le_of_ble_eq_true rfl) (mf_rr (Nat.le_trans (by decide) hd) (Nat.le_refl _)) (Nat.le_refl _) is245 (hyp g hG) (fun r1 g2 h3 hyp => ?_)
  obtain ⟨hgg, hyp⟩ := hyp
  subst hgg
  refine mf_istore_n (mf_dat eX12_qWordOf 2 rfl) rfl (by decide) ?_
  refine mf_iload_n (mf_dat eX12_qWordOf 3 rfl) rfl rfl ?_
  refine mf_iload_n (mf_dat eX12_qWordOf 4 rfl) rfl rfl ?_
  refine mf_icmp_lt (tgt := 27) (mf_dat eX12_qWordOf 5 rfl) (by decide) (fun hc => ?_) (fun hc => ?_)
  · replace hyp := hyp.1 hc
    refine mf_iconst (v := (-1)) (mf_dat eX12_qWordOf 15 rfl) (by decide) ?_
    exact mf_ireturn (mf_dat eX12_qWordOf 16 rfl) rfl (Or.inl rfl) ⟨rfl, hyp⟩
  · replace hyp := hyp.2 hc
    refine mf_iload_n (mf_dat eX12_qWordOf 6 rfl) rfl rfl ?_
    refine mf_iload_n (mf_dat eX12_qWordOf 7 rfl) rfl rfl ?_
    refine mf_icmp_ge (tgt := 27) (mf_dat eX12_qWordOf 8 rfl) (by decide) (fun hc => ?_) (fun hc => ?_)
    · replace hyp := hyp.1 hc
      refine mf_iconst (v := (-1)) (mf_dat eX12_qWordOf 15 rfl) (by decide) ?_
      exact mf_ireturn (mf_dat eX12_qWordOf 16 rfl) rfl (Or.inl rfl) ⟨rfl, hyp⟩
    · replace hyp := hyp.2 hc
      refine mf_aload_n (mf_dat eX12_qWordOf 9 rfl) rfl rfl ?_
      refine mf_iload_n (mf_dat eX12_qWordOf 10 rfl) rfl rfl ?_
      refine mf_callV (Yc := YX12_isAllowed) (r := (RX12, TX12, 106)) (ci := 12) (mf_dat eX12_qWordOf 11 rfl) ml_X12_590 okX12_isAllowed im_X12_isAllowed sl_X12_isAllowed rfl rfl rfl rfl (Nat.le_of_ble_eq_true rfl) (mf_rr (Nat.le_trans (by decide) hd) (Nat.le_refl _)) (Nat.le_refl _) is245 (hyp g2 hG) (fun r4 g5 h6 hyp => ?_)
      obtain ⟨hgg, hyp⟩ := hyp
      subst hgg
      refine mf_if_eq (tgt := 27) (mf_dat eX12_qWordOf 12 rfl) (by decide) (fun hc => ?_) (fun hc => ?_)
      · replace hyp := hyp.1 hc
        refine mf_iconst (v := (-1)) (mf_dat eX12_qWordOf 15 rfl) (by decide) ?_
        exact mf_ireturn (mf_dat eX12_qWordOf 16 rfl) rfl (Or.inl rfl) ⟨rfl, hyp⟩
      · replace hyp := hyp.2 hc
        refine mf_iload_n (mf_dat eX12_qWordOf 13 rfl) rfl rfl ?_
        refine mf_goto (tgt := 28) (mf_dat eX12_qWordOf 14 rfl) (by decide) ?_
        exact mf_ireturn (mf_dat eX12_qWordOf 16 rfl) rfl (Or.inl rfl) ⟨rfl, hyp⟩
set_option maxRecDepth 100000 in
set_option maxHeartbeats 4000000 in
theorem wX12_qAsksWord {C : mf_G} {l : Launch} {d : Nat} {K : Int → mf_M → Prop} {x1 : Int} {h : mf_M} (hd : 4 ≤ d) (hyp : ((x1 = 0 → mM C l 3 YX12_asks [(2, 245), (2, 305)] h (fun r1 h3 => K 0 h3)) ∧ (x1 = 1 → mM C l 3 YX12_asks [(2, 245), (2, 306)] h (fun r4 h6 => K 0 h6)) ∧ (x1 = 2 → mM C l 3 YX12_asks [(2, 245), (2, 307)] h (fun r7 h9 => K 0 h9)) ∧ (x1 = 3 → mM C l 3 YX12_asks [(2, 245), (2, 308)] h (fun r10 h12 => K 0 h12)) ∧ (x1 = 4 → mM C l 3 YX12_asks [(2, 245), (2, 309)] h (fun r13 h15 => K 0 h15)) ∧ (x1 = 5 → mM C l 3 YX12_asks [(2, 245), (2, 310)] h (fun r16 h18 => K 0 h18)) ∧ (x1 = 6 → mM C l 3 YX12_asks [(2, 245), (2, 311)] h (fun r19 h21 => K 0 h21)) ∧ (x1 = 7 → mM C l 3 YX12_asks [(2, 245), (2, 312)] h (fun r22 h24 => K 0 h24)) ∧ (x1 = 8 → mM C l 3 YX12_asks [(2, 245), (2, 313)] h (fun r25 h27 => K 0 h27)) ∧ ((x1 < 0 ∨ 8 < x1) → mM C l 3 YX12_asks [(2, 245), (2, 314)] h (fun r28 h30 => K 0 h30)))) : mM C l d YX12_qAsksWord [(2, 245), (0, x1)] h K := by
  intro g hG
  refine mf_entry (by decide) (Nat.le_of_ble_eq_true rfl) ?_
  refine mf_iload_n (mf_dat eX12_qAsksWord 0 rfl) rfl rfl ?_
  refine mf_tsw1 (v := 0) (tgt := 52) (mf_dat eX12_qAsksWord 1 rfl) (by decide) (by decide) (off := 51) (by decide) (by decide) (fun hc => ?_) (fun hc0 => ?_)
  · replace hyp := hyp.1 hc
    refine mf_aload_n (mf_dat eX12_qAsksWord 2 rfl) rfl rfl ?_
    refine mf_aload_n (mf_dat eX12_qAsksWord 3 rfl) rfl rfl ?_
    refine mf_getf (r := (RX12, TX12, 106)) (ci := 12) (k := 84) (t := 2) (v := 305) (mf_dat eX12_qAsksWord 4 rfl) fl_X12_198 rfl (by decide) rfl (gm_84 hG) is245 ?_
    refine mf_callV (Yc := YX12_asks) (r := (RX12, TX12, 106)) (ci := 12) (mf_dat eX12_qAsksWord 5 rfl) ml_X12_304 okX12_asks im_X12_asks sl_X12_asks rfl rfl rfl rfl (Nat.le_of_ble_eq_true rfl) (mf_rr (Nat.le_trans (by decide) hd) (Nat.le_refl _)) (Nat.le_refl _) is245 (hyp g hG) (fun r1 g2 h3 hyp => ?_)
    obtain ⟨hgg, hyp⟩ := hyp
    subst hgg
    refine mf_goto (tgt := 159) (mf_dat eX12_qAsksWord 6 rfl) (by decide) ?_
    exact mf_return (mf_dat eX12_qAsksWord 51 rfl) rfl ⟨rfl, hyp⟩
  replace hyp := hyp.2
  refine mf_tsw1 (v := 1) (tgt := 63) (mf_dat eX12_qAsksWord 1 rfl) (by decide) (by decide) (off := 62) (by decide) (by decide) (fun hc => ?_) (fun hc1 => ?_)
  · replace hyp := hyp.1 hc
    refine mf_aload_n (mf_dat eX12_qAsksWord 7 rfl) rfl rfl ?_
    refine mf_aload_n (mf_dat eX12_qAsksWord 8 rfl) rfl rfl ?_
    refine mf_getf (r := (RX12, TX12, 106)) (ci := 12) (k := 85) (t := 2) (v := 306) (mf_dat eX12_qAsksWord 9 rfl) fl_X12_201 rfl (by decide) rfl (gm_85 hG) is245 ?_
    refine mf_callV (Yc := YX12_asks) (r := (RX12, TX12, 106)) (ci := 12) (mf_dat eX12_qAsksWord 10 rfl) ml_X12_304 okX12_asks im_X12_asks sl_X12_asks rfl rfl rfl rfl (Nat.le_of_ble_eq_true rfl) (mf_rr (Nat.le_trans (by decide) hd) (Nat.le_refl _)) (Nat.le_refl _) is245 (hyp g hG) (fun r4 g5 h6 hyp => ?_)
    obtain ⟨hgg, hyp⟩ := hyp
    subst hgg
    refine mf_goto (tgt := 159) (mf_dat eX12_qAsksWord 11 rfl) (by decide) ?_
    exact mf_return (mf_dat eX12_qAsksWord 51 rfl) rfl ⟨rfl, hyp⟩
  replace hyp := hyp.2
  refine mf_tsw1 (v := 2) (tgt := 74) (mf_dat eX12_qAsksWord 1 rfl) (by decide) (by decide) (off := 73) (by decide) (by decide) (fun hc => ?_) (fun hc2 => ?_)
  · replace hyp := hyp.1 hc
    refine mf_aload_n (mf_dat eX12_qAsksWord 12 rfl) rfl rfl ?_
    refine mf_aload_n (mf_dat eX12_qAsksWord 13 rfl) rfl rfl ?_
    refine mf_getf (r := (RX12, TX12, 106)) (ci := 12) (k := 86) (t := 2) (v := 307) (mf_dat eX12_qAsksWord 14 rfl) fl_X12_204 rfl (by decide) rfl (gm_86 hG) is245 ?_
    refine mf_callV (Yc := YX12_asks) (r := (RX12, TX12, 106)) (ci := 12) (mf_dat eX12_qAsksWord 15 rfl) ml_X12_304 okX12_asks im_X12_asks sl_X12_asks rfl rfl rfl rfl (Nat.le_of_ble_eq_true rfl) (mf_rr (Nat.le_trans (by decide) hd) (Nat.le_refl _)) (Nat.le_refl _) is245 (hyp g hG) (fun r7 g8 h9 hyp => ?_)
    obtain ⟨hgg, hyp⟩ := hyp
    subst hgg
    refine mf_goto (tgt := 159) (mf_dat eX12_qAsksWord 16 rfl) (by decide) ?_
    exact mf_return (mf_dat eX12_qAsksWord 51 rfl) rfl ⟨rfl, hyp⟩
  replace hyp := hyp.2
  refine mf_tsw1 (v := 3) (tgt := 85) (mf_dat eX12_qAsksWord 1 rfl) (by decide) (by decide) (off := 84) (by decide) (by decide) (fun hc => ?_) (fun hc3 => ?_)
  · replace hyp := hyp.1 hc
    refine mf_aload_n (mf_dat eX12_qAsksWord 17 rfl) rfl rfl ?_
    refine mf_aload_n (mf_dat eX12_qAsksWord 18 rfl) rfl rfl ?_
    refine mf_getf (r := (RX12, TX12, 106)) (ci := 12) (k := 87) (t := 2) (v := 308) (mf_dat eX12_qAsksWord 19 rfl) fl_X12_207 rfl (by decide) rfl (gm_87 hG) is245 ?_
    refine mf_callV (Yc := YX12_asks) (r := (RX12, TX12, 106)) (ci := 12) (mf_dat eX12_qAsksWord 20 rfl) ml_X12_304 okX12_asks im_X12_asks sl_X12_asks rfl rfl rfl rfl (Nat.le_of_ble_eq_true rfl) (mf_rr (Nat.le_trans (by decide) hd) (Nat.le_refl _)) (Nat.le_refl _) is245 (hyp g hG) (fun r10 g11 h12 hyp => ?_)
    obtain ⟨hgg, hyp⟩ := hyp
    subst hgg
    refine mf_goto (tgt := 159) (mf_dat eX12_qAsksWord 21 rfl) (by decide) ?_
    exact mf_return (mf_dat eX12_qAsksWord 51 rfl) rfl ⟨rfl, hyp⟩
  replace hyp := hyp.2
  refine mf_tsw1 (v := 4) (tgt := 96) (mf_dat eX12_qAsksWord 1 rfl) (by decide) (by decide) (off := 95) (by decide) (by decide) (fun hc => ?_) (fun hc4 => ?_)
  · replace hyp := hyp.1 hc
    refine mf_aload_n (mf_dat eX12_qAsksWord 22 rfl) rfl rfl ?_
    refine mf_aload_n (mf_dat eX12_qAsksWord 23 rfl) rfl rfl ?_
    refine mf_getf (r := (RX12, TX12, 106)) (ci := 12) (k := 88) (t := 2) (v := 309) (mf_dat eX12_qAsksWord 24 rfl) fl_X12_210 rfl (by decide) rfl (gm_88 hG) is245 ?_
    refine mf_callV (Yc := YX12_asks) (r := (RX12, TX12, 106)) (ci := 12) (mf_dat eX12_qAsksWord 25 rfl) ml_X12_304 okX12_asks im_X12_asks sl_X12_asks rfl rfl rfl rfl (Nat.le_of_ble_eq_true rfl) (mf_rr (Nat.le_trans (by decide) hd) (Nat.le_refl _)) (Nat.le_refl _) is245 (hyp g hG) (fun r13 g14 h15 hyp => ?_)
    obtain ⟨hgg, hyp⟩ := hyp
    subst hgg
    refine mf_goto (tgt := 159) (mf_dat eX12_qAsksWord 26 rfl) (by decide) ?_
    exact mf_return (mf_dat eX12_qAsksWord 51 rfl) rfl ⟨rfl, hyp⟩
  replace hyp := hyp.2
  refine mf_tsw1 (v := 5) (tgt := 107) (mf_dat eX12_qAsksWord 1 rfl) (by decide) (by decide) (off := 106) (by decide) (by decide) (fun hc => ?_) (fun hc5 => ?_)
  · replace hyp := hyp.1 hc
    refine mf_aload_n (mf_dat eX12_qAsksWord 27 rfl) rfl rfl ?_
    refine mf_aload_n (mf_dat eX12_qAsksWord 28 rfl) rfl rfl ?_
    refine mf_getf (r := (RX12, TX12, 106)) (ci := 12) (k := 89) (t := 2) (v := 310) (mf_dat eX12_qAsksWord 29 rfl) fl_X12_213 rfl (by decide) rfl (gm_89 hG) is245 ?_
    refine mf_callV (Yc := YX12_asks) (r := (RX12, TX12, 106)) (ci := 12) (mf_dat eX12_qAsksWord 30 rfl) ml_X12_304 okX12_asks im_X12_asks sl_X12_asks rfl rfl rfl rfl (Nat.le_of_ble_eq_true rfl) (mf_rr (Nat.le_trans (by decide) hd) (Nat.le_refl _)) (Nat.le_refl _) is245 (hyp g hG) (fun r16 g17 h18 hyp => ?_)
    obtain ⟨hgg, hyp⟩ := hyp
    subst hgg
    refine mf_goto (tgt := 159) (mf_dat eX12_qAsksWord 31 rfl) (by decide) ?_
    exact mf_return (mf_dat eX12_qAsksWord 51 rfl) rfl ⟨rfl, hyp⟩
  replace hyp := hyp.2
  refine mf_tsw1 (v := 6) (tgt := 118) (mf_dat eX12_qAsksWord 1 rfl) (by decide) (by decide) (off := 117) (by decide) (by decide) (fun hc => ?_) (fun hc6 => ?_)
  · replace hyp := hyp.1 hc
    refine mf_aload_n (mf_dat eX12_qAsksWord 32 rfl) rfl rfl ?_
    refine mf_aload_n (mf_dat eX12_qAsksWord 33 rfl) rfl rfl ?_
    refine mf_getf (r := (RX12, TX12, 106)) (ci := 12) (k := 90) (t := 2) (v := 311) (mf_dat eX12_qAsksWord 34 rfl) fl_X12_216 rfl (by decide) rfl (gm_90 hG) is245 ?_
    refine mf_callV (Yc := YX12_asks) (r := (RX12, TX12, 106)) (ci := 12) (mf_dat eX12_qAsksWord 35 rfl) ml_X12_304 okX12_asks im_X12_asks sl_X12_asks rfl rfl rfl rfl (Nat.le_of_ble_eq_true rfl) (mf_rr (Nat.le_trans (by decide) hd) (Nat.le_refl _)) (Nat.le_refl _) is245 (hyp g hG) (fun r19 g20 h21 hyp => ?_)
    obtain ⟨hgg, hyp⟩ := hyp
    subst hgg
    refine mf_goto (tgt := 159) (mf_dat eX12_qAsksWord 36 rfl) (by decide) ?_
    exact mf_return (mf_dat eX12_qAsksWord 51 rfl) rfl ⟨rfl, hyp⟩
  replace hyp := hyp.2
  refine mf_tsw1 (v := 7) (tgt := 129) (mf_dat eX12_qAsksWord 1 rfl) (by decide) (by decide) (off := 128) (by decide) (by decide) (fun hc => ?_) (fun hc7 => ?_)
  · replace hyp := hyp.1 hc
    refine mf_aload_n (mf_dat eX12_qAsksWord 37 rfl) rfl rfl ?_
    refine mf_aload_n (mf_dat eX12_qAsksWord 38 rfl) rfl rfl ?_
    refine mf_getf (r := (RX12, TX12, 106)) (ci := 12) (k := 91) (t := 2) (v := 312) (mf_dat eX12_qAsksWord 39 rfl) fl_X12_219 rfl (by decide) rfl (gm_91 hG) is245 ?_
    refine mf_callV (Yc := YX12_asks) (r := (RX12, TX12, 106)) (ci := 12) (mf_dat eX12_qAsksWord 40 rfl) ml_X12_304 okX12_asks im_X12_asks sl_X12_asks rfl rfl rfl rfl (Nat.le_of_ble_eq_true rfl) (mf_rr (Nat.le_trans (by decide) hd) (Nat.le_refl _)) (Nat.le_refl _) is245 (hyp g hG) (fun r22 g23 h24 hyp => ?_)
    obtain ⟨hgg, hyp⟩ := hyp
    subst hgg
    refine mf_goto (tgt := 159) (mf_dat eX12_qAsksWord 41 rfl) (by decide) ?_
    exact mf_return (mf_dat eX12_qAsksWord 51 rfl) rfl ⟨rfl, hyp⟩
  replace hyp := hyp.2
  refine mf_tsw1 (v := 8) (tgt := 140) (mf_dat eX12_qAsksWord 1 rfl) (by decide) (by decide) (off := 139) (by decide) (by decide) (fun hc => ?_) (fun hc8 => ?_)
  · replace hyp := hyp.1 hc
    refine mf_aload_n (mf_dat eX12_qAsksWord 42 rfl) rfl rfl ?_
    refine mf_aload_n (mf_dat eX12_qAsksWord 43 rfl) rfl rfl ?_
    refine mf_getf (r := (RX12, TX12, 106)) (ci := 12) (k := 92) (t := 2) (v := 313) (mf_dat eX12_qAsksWord 44 rfl) fl_X12_222 rfl (by decide) rfl (gm_92 hG) is245 ?_
    refine mf_callV (Yc := YX12_asks) (r := (RX12, TX12, 106)) (ci := 12) (mf_dat eX12_qAsksWord 45 rfl) ml_X12_304 okX12_asks im_X12_asks sl_X12_asks rfl rfl rfl rfl (Nat.le_of_ble_eq_true rfl) (mf_rr (Nat.le_trans (by decide) hd) (Nat.le_refl _)) (Nat.le_refl _) is245 (hyp g hG) (fun r25 g26 h27 hyp => ?_)
    obtain ⟨hgg, hyp⟩ := hyp
    subst hgg
    refine mf_goto (tgt := 159) (mf_dat eX12_qAsksWord 46 rfl) (by decide) ?_
    exact mf_return (mf_dat eX12_qAsksWord 51 rfl) rfl ⟨rfl, hyp⟩
  replace hyp := hyp.2
  refine mf_tswO (tgt := 151) (mf_dat eX12_qAsksWord 1 rfl) (by omega) (by decide) ?_
  replace hyp := hyp (by omega)
  refine mf_aload_n (mf_dat eX12_qAsksWord 47 rfl) rfl rfl ?_
  refine mf_aload_n (mf_dat eX12_qAsksWord 48 rfl) rfl rfl ?_
  refine mf_getf (r := (RX12, TX12, 106)) (ci := 12) (k := 93) (t := 2) (v := 314) (mf_dat eX12_qAsksWord 49 rfl) fl_X12_225 rfl (by decide) rfl (gm_93 hG) is245 ?_
  refine mf_callV (Yc := YX12_asks) (r := (RX12, TX12, 106)) (ci := 12) (mf_dat eX12_qAsksWord 50 rfl) ml_X12_304 okX12_asks im_X12_asks sl_X12_asks rfl rfl rfl rfl (Nat.le_of_ble_eq_true rfl) (mf_rr (Nat.le_trans (by decide) hd) (Nat.le_refl _)) (Nat.le_refl _) is245 (hyp g hG) (fun r28 g29 h30 hyp => ?_)
  obtain ⟨hgg, hyp⟩ := hyp
  subst hgg
  exact mf_return (mf_dat eX12_qAsksWord 51 rfl) rfl ⟨rfl, hyp⟩
abbrev BX12_qEndsPart_0 (C : mf_G) (l : Launch) (d : Nat) (K : Int → mf_M → Prop) (h : mf_M) : Prop := jM C l d YX12_qEndsPart K 0 [(0, (2, 245))] [] h
set_option maxRecDepth 100000 in
set_option maxHeartbeats 4000000 in
theorem vX12_qEndsPart_0 {C : mf_G} {l : Launch} {d : Nat} {K : Int → mf_M → Prop} {h : mf_M} (hd : 2 ≤ d) (hyp : ((¬ h 245 5 = 0 → K 0 h) ∧ (h 245 5 = 0 → ((h 245 97 ≤ h 245 99 → K 0 h) ∧ (¬ h 245 97 ≤ h 245 99 → 0 ≤ mf_w32 ((h 245 97) - 1) ∧ mf_w32 ((h 245 97) - 1) < 1700 ∧ ((h 316 (mf_w32 ((h 245 97) - 1)) < 60 → K 0 h) ∧ (¬ h 316 (mf_w32 ((h 245 97) - 1)) < 60 → (∀ h3 : mf_M, h3 = mf_up h 245 98 (mf_w32 ((h 245 98) - 1)) → mM C l 1 YX12_qDrops [(2, 245)] h3 (fun r4 h6 => BX12_qEndsPart_0 C l d K h6))))))))) : BX12_qEndsPart_0 C l d K h := by
  intro g hG
  refine mf_aload_n (mf_dat eX12_qEndsPart 0 rfl) rfl rfl ?_
  refine mf_getf (r := (RX12, TX12, 106)) (ci := 12) (k := 5) (t := 0) (v := h 245 5) (mf_dat eX12_qEndsPart 1 rfl) fl_X12_243 rfl (by decide) rfl rfl is245 ?_
  refine mf_if_ne (tgt := 51) (mf_dat eX12_qEndsPart 2 rfl) (by decide) (fun hc => ?_) (fun hc => ?_)
  · replace hyp := hyp.1 hc
    exact mf_return (mf_dat eX12_qEndsPart 26 rfl) rfl ⟨rfl, hyp⟩
  · replace hyp := hyp.2 hc
    refine mf_aload_n (mf_dat eX12_qEndsPart 3 rfl) rfl rfl ?_
    refine mf_getf (r := (RX12, TX12, 106)) (ci := 12) (k := 97) (t := 0) (v := h 245 97) (mf_dat eX12_qEndsPart 4 rfl) fl_X12_341 rfl (by decide) rfl rfl is245 ?_
    refine mf_aload_n (mf_dat eX12_qEndsPart 5 rfl) rfl rfl ?_
    refine mf_getf (r := (RX12, TX12, 106)) (ci := 12) (k := 99) (t := 0) (v := h 245 99) (mf_dat eX12_qEndsPart 6 rfl) fl_X12_347 rfl (by decide) rfl rfl is245 ?_
    refine mf_icmp_le (tgt := 51) (mf_dat eX12_qEndsPart 7 rfl) (by decide) (fun hc => ?_) (fun hc => ?_)
    · replace hyp := hyp.1 hc
      exact mf_return (mf_dat eX12_qEndsPart 26 rfl) rfl ⟨rfl, hyp⟩
    · replace hyp := hyp.2 hc
      refine mf_aload_n (mf_dat eX12_qEndsPart 8 rfl) rfl rfl ?_
      refine mf_getf (r := (RX12, TX12, 106)) (ci := 12) (k := 96) (t := 2) (v := 316) (mf_dat eX12_qEndsPart 9 rfl) fl_X12_231 rfl (by decide) rfl (gm_96 hG) is245 ?_
      refine mf_aload_n (mf_dat eX12_qEndsPart 10 rfl) rfl rfl ?_
      refine mf_getf (r := (RX12, TX12, 106)) (ci := 12) (k := 97) (t := 0) (v := h 245 97) (mf_dat eX12_qEndsPart 11 rfl) fl_X12_341 rfl (by decide) rfl rfl is245 ?_
      refine mf_iconst (v := 1) (mf_dat eX12_qEndsPart 12 rfl) (by decide) ?_
      refine mf_isub (mf_dat eX12_qEndsPart 13 rfl) ?_
      obtain ⟨ck1, hyp⟩ := hyp
      obtain ⟨ck2, hyp⟩ := hyp
      refine mf_iald (mf_dat eX12_qEndsPart 14 rfl) is316 len316 ck1 ck2 ?_
      refine mf_bipush (v := 60) (mf_dat eX12_qEndsPart 15 rfl) (by decide) ?_
      refine mf_icmp_lt (tgt := 51) (mf_dat eX12_qEndsPart 16 rfl) (by decide) (fun hc => ?_) (fun hc => ?_)
      · replace hyp := hyp.1 hc
        exact mf_return (mf_dat eX12_qEndsPart 26 rfl) rfl ⟨rfl, hyp⟩
      · replace hyp := hyp.2 hc
        refine mf_aload_n (mf_dat eX12_qEndsPart 17 rfl) rfl rfl ?_
        refine mf_dup (mf_dat eX12_qEndsPart 18 rfl) (by decide) ?_
        refine mf_getf (r := (RX12, TX12, 106)) (ci := 12) (k := 98) (t := 0) (v := h 245 98) (mf_dat eX12_qEndsPart 19 rfl) fl_X12_344 rfl (by decide) rfl rfl is245 ?_
        refine mf_iconst (v := 1) (mf_dat eX12_qEndsPart 20 rfl) (by decide) ?_
        refine mf_isub (mf_dat eX12_qEndsPart 21 rfl) ?_
        refine mf_putI (r := (RX12, TX12, 106)) (ci := 12) (k := 98) (kI := 98) (t := 0) (mf_dat eX12_qEndsPart 22 rfl) fl_X12_344 rfl rfl (by decide) rfl (by decide) rfl (by decide) (fun h9 => absurd h9 (by decide)) is245 ?_
        generalize qh3 : mf_up h 245 98 (mf_w32 ((h 245 98) - 1)) = h3
        replace hyp := hyp _ qh3.symm
        refine mf_aload_n (mf_dat eX12_qEndsPart 23 rfl) rfl rfl ?_
        refine mf_callV (Yc := YX12_qDrops) (r := (RX12, TX12, 106)) (ci := 12) (mf_dat eX12_qEndsPart 24 rfl) ml_X12_584 okX12_qDrops im_X12_qDrops sl_X12_qDrops rfl rfl rfl rfl (Nat.le_of_ble_eq_true rfl) (mf_rr (Nat.le_trans (by decide) hd) (Nat.le_refl _)) (Nat.le_refl _) is245 (hyp g hG) (fun r4 g5 h6 hyp => ?_)
        obtain ⟨hgg, hyp⟩ := hyp
        subst hgg
        refine mf_goto (tgt := 0) (mf_dat eX12_qEndsPart 25 rfl) (by decide) ?_
        exact mf_sub [0] rfl (hyp g5 hG)
set_option maxRecDepth 100000 in
set_option maxHeartbeats 4000000 in
theorem wX12_qEndsPart {C : mf_G} {l : Launch} {d : Nat} {K : Int → mf_M → Prop} {h : mf_M} (hyp : BX12_qEndsPart_0 C l d K h) : mM C l d YX12_qEndsPart [(2, 245)] h K := by
  intro g hG
  refine mf_entry (by decide) (Nat.le_of_ble_eq_true rfl) ?_
  exact mf_sub [0] rfl (hyp g hG)
abbrev BX12_qPartTold_2 (C : mf_G) (l : Launch) (d : Nat) (K : Int → mf_M → Prop) (x1 : Int) (h : mf_M) : Prop := jM C l d YX12_qPartTold K 2 [(0, (2, 245)), (1, (0, x1))] [] h
abbrev BX12_qPartTold_78 (C : mf_G) (l : Launch) (d : Nat) (K : Int → mf_M → Prop) (x1 : Int) (h : mf_M) : Prop := jM C l d YX12_qPartTold K 78 [(0, (2, 245)), (1, (0, x1))] [] h
abbrev BX12_qPartTold_118 (C : mf_G) (l : Launch) (d : Nat) (K : Int → mf_M → Prop) (x1 x4 s0 : Int) (h : mf_M) : Prop := jM C l d YX12_qPartTold K 118 [(0, (2, 245)), (1, (0, x1)), (4, (0, x4))] [(0, s0)] h
abbrev BX12_qPartTold_186 (C : mf_G) (l : Launch) (d : Nat) (K : Int → mf_M → Prop) (h : mf_M) : Prop := jM C l d YX12_qPartTold K 186 [(0, (2, 245))] [] h
abbrev BX12_qPartTold_212 (C : mf_G) (l : Launch) (d : Nat) (K : Int → mf_M → Prop) (x2 : Int) (h : mf_M) : Prop := jM C l d YX12_qPartTold K 212 [(0, (2, 245)), (2, (0, x2))] [] h
set_option maxRecDepth 100000 in
set_option maxHeartbeats 4000000 in
theorem vX12_qPartTold_2 {C : mf_G} {l : Launch} {d : Nat} {K : Int → mf_M → Prop} {x1 : Int} {h : mf_M} (hd : 5 ≤ d) (hyp : ((x1 = 0 → BX12_qPartTold_186 C l d K h) ∧ (¬ x1 = 0 → ((¬ h 245 5 = 0 → BX12_qPartTold_186 C l d K h) ∧ (h 245 5 = 0 → mM C l 0 YX12_look [(2, 245)] h (fun r1 h3 => mM C l 3 YX12_qWordOf [(2, 245), (0, 9), (0, 10)] h3 (fun r4 h6 => ((¬ r1 = 40 → mM C l 1 YX12_isHere [(2, 245), (2, 303)] h6 (fun r7 h9 => ((¬ r7 = 0 → BX12_qPartTold_78 C l d K x1 h9) ∧ (r7 = 0 → mM C l 1 YX12_isHere [(2, 245), (2, 304)] h9 (fun r10 h12 => ((r10 = 0 → ((r4 = (-1) → BX12_qPartTold_2 C l d K 0 h12) ∧ (¬ r4 = (-1) → mM C l 1 YX12_qOpens [(2, 245), (0, mf_w32 ((mf_w32 (60 + r4)) - 9)), (0, h12 245 2)] h12 (fun r13 h15 => mM C l 4 YX12_qAsksWord [(2, 245), (0, r4)] h15 (fun r16 h18 => BX12_qPartTold_2 C l d K x1 h18))))) ∧ (¬ r10 = 0 → BX12_qPartTold_78 C l d K x1 h12))))))) ∧ (r1 = 40 → mM C l 1 YX12_qOpens [(2, 245), (0, 20), (0, h6 245 2)] h6 (fun r19 h21 => (∀ h22 : mf_M, h22 = mf_up h21 245 2 (mf_w32 ((h21 245 2) + 1)) → BX12_qPartTold_2 C l d K x1 h22))))))))))) : BX12_qPartTold_2 C l d K x1 h := by
  intro g hG
  refine mf_iload_n (mf_dat eX12_qPartTold_p0 2 rfl) rfl rfl ?_
  refine mf_if_eq (tgt := 186) (mf_dat eX12_qPartTold_p0 3 rfl) (by decide) (fun hc => ?_) (fun hc => ?_)
  · replace hyp := hyp.1 hc
    exact mf_sub [0] rfl (hyp g hG)
  · replace hyp := hyp.2 hc
    refine mf_aload_n (mf_dat eX12_qPartTold_p0 4 rfl) rfl rfl ?_
    refine mf_getf (r := (RX12, TX12, 106)) (ci := 12) (k := 5) (t := 0) (v := h 245 5) (mf_dat eX12_qPartTold_p0 5 rfl) fl_X12_243 rfl (by decide) rfl rfl is245 ?_
    refine mf_if_ne (tgt := 186) (mf_dat eX12_qPartTold_p0 6 rfl) (by decide) (fun hc => ?_) (fun hc => ?_)
    · replace hyp := hyp.1 hc
      exact mf_sub [0] rfl (hyp g hG)
    · replace hyp := hyp.2 hc
      refine mf_aload_n (mf_dat eX12_qPartTold_p0 7 rfl) rfl rfl ?_
      refine mf_callV (Yc := YX12_look) (r := (RX12, TX12, 106)) (ci := 12) (mf_dat eX12_qPartTold_p0 8 rfl) ml_X12_255 okX12_look im_X12_look sl_X12_look rfl rfl rfl rfl (Nat.le_of_ble_eq_true rfl) (mf_rr (Nat.le_trans (by decide) hd) (Nat.le_refl _)) (Nat.le_refl _) is245 (hyp g hG) (fun r1 g2 h3 hyp => ?_)
      obtain ⟨hgg, hyp⟩ := hyp
      subst hgg
      refine mf_istore_n (mf_dat eX12_qPartTold_p0 9 rfl) rfl (by decide) ?_
      refine mf_aload_n (mf_dat eX12_qPartTold_p0 10 rfl) rfl rfl ?_
      refine mf_bipush (v := 9) (mf_dat eX12_qPartTold_p0 11 rfl) (by decide) ?_
      refine mf_bipush (v := 10) (mf_dat eX12_qPartTold_p0 12 rfl) (by decide) ?_
      refine mf_callV (Yc := YX12_qWordOf) (r := (RX12, TX12, 106)) (ci := 12) (mf_dat eX12_qPartTold_p0 13 rfl) ml_X12_593 okX12_qWordOf im_X12_qWordOf sl_X12_qWordOf rfl rfl rfl rfl (Nat.le_of_ble_eq_true rfl) (mf_rr (Nat.le_trans (by decide) hd) (Nat.le_refl _)) (Nat.le_refl _) is245 (hyp g2 hG) (fun r4 g5 h6 hyp => ?_)
      obtain ⟨hgg, hyp⟩ := hyp
      subst hgg
      refine mf_istore_n (mf_dat eX12_qPartTold_p0 14 rfl) rfl (by decide) ?_
      refine mf_iload_n (mf_dat eX12_qPartTold_p0 15 rfl) rfl rfl ?_
      refine mf_bipush (v := 40) (mf_dat eX12_qPartTold_p0 16 rfl) (by decide) ?_
      refine mf_icmp_ne (tgt := 56) (mf_dat eX12_qPartTold_p0 17 rfl) (by decide) (fun hc => ?_) (fun hc => ?_)
      · replace hyp := hyp.1 hc
        refine mf_aload_n (mf_dat eX12_qPartTold_p0 30 rfl) rfl rfl ?_
        refine mf_aload_n (mf_dat eX12_qPartTold_p0 31 rfl) rfl rfl ?_
        refine mf_getf (r := (RX12, TX12, 106)) (ci := 12) (k := 82) (t := 2) (v := 303) (mf_dat eX12_qPartTold_p0 32 rfl) fl_X12_192 rfl (by decide) rfl (gm_82 hG) is245 ?_
        refine mf_callV (Yc := YX12_isHere) (r := (RX12, TX12, 106)) (ci := 12) (mf_dat eX12_qPartTold_p0 33 rfl) ml_X12_266 okX12_isHere im_X12_isHere sl_X12_isHere rfl rfl rfl rfl (Nat.le_of_ble_eq_true rfl) (mf_rr (Nat.le_trans (by decide) hd) (Nat.le_refl _)) (Nat.le_refl _) is245 (hyp g5 hG) (fun r7 g8 h9 hyp => ?_)
        obtain ⟨hgg, hyp⟩ := hyp
        subst hgg
        refine mf_if_ne (tgt := 78) (mf_dat eX12_qPartTold_p0 34 rfl) (by decide) (fun hc => ?_) (fun hc => ?_)
        · replace hyp := hyp.1 hc
          exact mf_sub [2, 3] rfl (hyp g8 hG)
        · replace hyp := hyp.2 hc
          refine mf_aload_n (mf_dat eX12_qPartTold_p0 35 rfl) rfl rfl ?_
          refine mf_aload_n (mf_dat eX12_qPartTold_p0 36 rfl) rfl rfl ?_
          refine mf_getf (r := (RX12, TX12, 106)) (ci := 12) (k := 83) (t := 2) (v := 304) (mf_dat eX12_qPartTold_p0 37 rfl) fl_X12_195 rfl (by decide) rfl (gm_83 hG) is245 ?_
          refine mf_callV (Yc := YX12_isHere) (r := (RX12, TX12, 106)) (ci := 12) (mf_dat eX12_qPartTold_p0 38 rfl) ml_X12_266 okX12_isHere im_X12_isHere sl_X12_isHere rfl rfl rfl rfl (Nat.le_of_ble_eq_true rfl) (mf_rr (Nat.le_trans (by decide) hd) (Nat.le_refl _)) (Nat.le_refl _) is245 (hyp g8 hG) (fun r10 g11 h12 hyp => ?_)
          obtain ⟨hgg, hyp⟩ := hyp
          subst hgg
          refine mf_if_eq (tgt := 153) (mf_dat eX12_qPartTold_p0 39 rfl) (by decide) (fun hc => ?_) (fun hc => ?_)
          · replace hyp := hyp.1 hc
            refine mf_iload_n (mf_dat eX12_qPartTold_p1 15 rfl) rfl rfl ?_
            refine mf_iconst (v := (-1)) (mf_dat eX12_qPartTold_p1 16 rfl) (by decide) ?_
            refine mf_icmp_eq (tgt := 181) (mf_dat eX12_qPartTold_p1 17 rfl) (by decide) (fun hc => ?_) (fun hc => ?_)
            · replace hyp := hyp.1 hc
              refine mf_iconst (v := 0) (mf_dat eX12_qPartTold_p1 31 rfl) (by decide) ?_
              refine mf_istore_n (mf_dat eX12_qPartTold_p1 32 rfl) rfl (by decide) ?_
              refine mf_goto (tgt := 2) (mf_dat eX12_qPartTold_p1 33 rfl) (by decide) ?_
              exact mf_sub [3, 0] rfl (hyp g11 hG)
            · replace hyp := hyp.2 hc
              refine mf_aload_n (mf_dat eX12_qPartTold_p1 18 rfl) rfl rfl ?_
              refine mf_bipush (v := 60) (mf_dat eX12_qPartTold_p1 19 rfl) (by decide) ?_
              refine mf_iload_n (mf_dat eX12_qPartTold_p1 20 rfl) rfl rfl ?_
              refine mf_iadd (mf_dat eX12_qPartTold_p1 21 rfl) ?_
              refine mf_bipush (v := 9) (mf_dat eX12_qPartTold_p1 22 rfl) (by decide) ?_
              refine mf_isub (mf_dat eX12_qPartTold_p1 23 rfl) ?_
              refine mf_aload_n (mf_dat eX12_qPartTold_p1 24 rfl) rfl rfl ?_
              refine mf_getf (r := (RX12, TX12, 106)) (ci := 12) (k := 2) (t := 0) (v := h12 245 2) (mf_dat eX12_qPartTold_p1 25 rfl) fl_X12_249 rfl (by decide) rfl rfl is245 ?_
              refine mf_callV (Yc := YX12_qOpens) (r := (RX12, TX12, 106)) (ci := 12) (mf_dat eX12_qPartTold_p1 26 rfl) ml_X12_596 okX12_qOpens im_X12_qOpens sl_X12_qOpens rfl rfl rfl rfl (Nat.le_of_ble_eq_true rfl) (mf_rr (Nat.le_trans (by decide) hd) (Nat.le_refl _)) (Nat.le_refl _) is245 (hyp g11 hG) (fun r13 g14 h15 hyp => ?_)
              obtain ⟨hgg, hyp⟩ := hyp
              subst hgg
              refine mf_aload_n (mf_dat eX12_qPartTold_p1 27 rfl) rfl rfl ?_
              refine mf_iload_n (mf_dat eX12_qPartTold_p1 28 rfl) rfl rfl ?_
              refine mf_callV (Yc := YX12_qAsksWord) (r := (RX12, TX12, 106)) (ci := 12) (mf_dat eX12_qPartTold_p1 29 rfl) ml_X12_599 okX12_qAsksWord im_X12_qAsksWord sl_X12_qAsksWord rfl rfl rfl rfl (Nat.le_of_ble_eq_true rfl) (mf_rr (Nat.le_trans (by decide) hd) (Nat.le_refl _)) (Nat.le_refl _) is245 (hyp g14 hG) (fun r16 g17 h18 hyp => ?_)
              obtain ⟨hgg, hyp⟩ := hyp
              subst hgg
              refine mf_goto (tgt := 183) (mf_dat eX12_qPartTold_p1 30 rfl) (by decide) ?_
              refine mf_goto (tgt := 2) (mf_dat eX12_qPartTold_p1 33 rfl) (by decide) ?_
              exact mf_sub [2, 3] rfl (hyp g17 hG)
          · replace hyp := hyp.2 hc
            exact mf_sub [2, 3] rfl (hyp g11 hG)
      · replace hyp := hyp.2 hc
        refine mf_aload_n (mf_dat eX12_qPartTold_p0 18 rfl) rfl rfl ?_
        refine mf_bipush (v := 20) (mf_dat eX12_qPartTold_p0 19 rfl) (by decide) ?_
        refine mf_aload_n (mf_dat eX12_qPartTold_p0 20 rfl) rfl rfl ?_
        refine mf_getf (r := (RX12, TX12, 106)) (ci := 12) (k := 2) (t := 0) (v := h6 245 2) (mf_dat eX12_qPartTold_p0 21 rfl) fl_X12_249 rfl (by decide) rfl rfl is245 ?_
        refine mf_callV (Yc := YX12_qOpens) (r := (RX12, TX12, 106)) (ci := 12) (mf_dat eX12_qPartTold_p0 22 rfl) ml_X12_596 okX12_qOpens im_X12_qOpens sl_X12_qOpens rfl rfl rfl rfl (Nat.le_of_ble_eq_true rfl) (mf_rr (Nat.le_trans (by decide) hd) (Nat.le_refl _)) (Nat.le_refl _) is245 (hyp g5 hG) (fun r19 g20 h21 hyp => ?_)
        obtain ⟨hgg, hyp⟩ := hyp
        subst hgg
        refine mf_aload_n (mf_dat eX12_qPartTold_p0 23 rfl) rfl rfl ?_
        refine mf_dup (mf_dat eX12_qPartTold_p0 24 rfl) (by decide) ?_
        refine mf_getf (r := (RX12, TX12, 106)) (ci := 12) (k := 2) (t := 0) (v := h21 245 2) (mf_dat eX12_qPartTold_p0 25 rfl) fl_X12_249 rfl (by decide) rfl rfl is245 ?_
        refine mf_iconst (v := 1) (mf_dat eX12_qPartTold_p0 26 rfl) (by decide) ?_
        refine mf_iadd (mf_dat eX12_qPartTold_p0 27 rfl) ?_
        refine mf_putI (r := (RX12, TX12, 106)) (ci := 12) (k := 2) (kI := 2) (t := 0) (mf_dat eX12_qPartTold_p0 28 rfl) fl_X12_249 rfl rfl (by decide) rfl (by decide) rfl (by decide) (fun h9 => absurd h9 (by decide)) is245 ?_
        generalize qh22 : mf_up h21 245 2 (mf_w32 ((h21 245 2) + 1)) = h22
        replace hyp := hyp _ qh22.symm
        refine mf_goto (tgt := 183) (mf_dat eX12_qPartTold_p0 29 rfl) (by decide) ?_
        refine mf_goto (tgt := 2) (mf_dat eX12_qPartTold_p1 33 rfl) (by decide) ?_
        exact mf_sub [2, 3] rfl (hyp g20 hG)
set_option maxRecDepth 100000 in
set_option maxHeartbeats 4000000 in
theorem vX12_qPartTold_78 {C : mf_G} {l : Launch} {d : Nat} {K : Int → mf_M → Prop} {x1 : Int} {h : mf_M} (hd : 4 ≤ d) (hyp : mM C l 2 YX12_takes [(2, 245), (2, 303)] h (fun r1 h3 => ((¬ r1 = 0 → mM C l 0 YX12_look [(2, 245)] h3 (fun r4 h6 => ((¬ r4 = 40 → BX12_qPartTold_118 C l d K x1 r1 (-1) h6) ∧ (r4 = 40 → BX12_qPartTold_118 C l d K x1 r1 (h6 245 2) h6)))) ∧ (r1 = 0 → mM C l 3 YX12_asks [(2, 245), (2, 304)] h3 (fun r7 h9 => mM C l 0 YX12_look [(2, 245)] h9 (fun r10 h12 => ((¬ r10 = 40 → BX12_qPartTold_118 C l d K x1 r1 (-1) h12) ∧ (r10 = 40 → BX12_qPartTold_118 C l d K x1 r1 (h12 245 2) h12)))))))) : BX12_qPartTold_78 C l d K x1 h := by
  intro g hG
  refine mf_aload_n (mf_dat eX12_qPartTold_p0 40 rfl) rfl rfl ?_
  refine mf_aload_n (mf_dat eX12_qPartTold_p0 41 rfl) rfl rfl ?_
  refine mf_getf (r := (RX12, TX12, 106)) (ci := 12) (k := 82) (t := 2) (v := 303) (mf_dat eX12_qPartTold_p0 42 rfl) fl_X12_192 rfl (by decide) rfl (gm_82 hG) is245 ?_
  refine mf_callV (Yc := YX12_takes) (r := (RX12, TX12, 106)) (ci := 12) (mf_dat eX12_qPartTold_p0 43 rfl) ml_X12_270 okX12_takes im_X12_takes sl_X12_takes rfl rfl rfl rfl (Nat.le_of_ble_eq_true rfl) (mf_rr (Nat.le_trans (by decide) hd) (Nat.le_refl _)) (Nat.le_refl _) is245 (hyp g hG) (fun r1 g2 h3 hyp => ?_)
  obtain ⟨hgg, hyp⟩ := hyp
  subst hgg
  refine mf_istore (mf_dat eX12_qPartTold_p0 44 rfl) (by decide) ?_
  refine mf_iload (mf_dat eX12_qPartTold_p0 45 rfl) rfl ?_
  refine mf_if_ne (tgt := 101) (mf_dat eX12_qPartTold_p0 46 rfl) (by decide) (fun hc => ?_) (fun hc => ?_)
  · replace hyp := hyp.1 hc
    refine mf_aload_n (mf_dat eX12_qPartTold_p0 51 rfl) rfl rfl ?_
    refine mf_callV (Yc := YX12_look) (r := (RX12, TX12, 106)) (ci := 12) (mf_dat eX12_qPartTold_p0 52 rfl) ml_X12_255 okX12_look im_X12_look sl_X12_look rfl rfl rfl rfl (Nat.le_of_ble_eq_true rfl) (mf_rr (Nat.le_trans (by decide) hd) (Nat.le_refl _)) (Nat.le_refl _) is245 (hyp g2 hG) (fun r4 g5 h6 hyp => ?_)
    obtain ⟨hgg, hyp⟩ := hyp
    subst hgg
    refine mf_bipush (v := 40) (mf_dat eX12_qPartTold_p0 53 rfl) (by decide) ?_
    refine mf_icmp_ne (tgt := 117) (mf_dat eX12_qPartTold_p0 54 rfl) (by decide) (fun hc => ?_) (fun hc => ?_)
    · replace hyp := hyp.1 hc
      refine mf_iconst (v := (-1)) (mf_dat eX12_qPartTold_p0 58 rfl) (by decide) ?_
      exact mf_sub [1, 2, 0] rfl (hyp g5 hG)
    · replace hyp := hyp.2 hc
      refine mf_aload_n (mf_dat eX12_qPartTold_p0 55 rfl) rfl rfl ?_
      refine mf_getf (r := (RX12, TX12, 106)) (ci := 12) (k := 2) (t := 0) (v := h6 245 2) (mf_dat eX12_qPartTold_p0 56 rfl) fl_X12_249 rfl (by decide) rfl rfl is245 ?_
      refine mf_goto (tgt := 118) (mf_dat eX12_qPartTold_p0 57 rfl) (by decide) ?_
      exact mf_sub [1, 2, 0] rfl (hyp g5 hG)
  · replace hyp := hyp.2 hc
    refine mf_aload_n (mf_dat eX12_qPartTold_p0 47 rfl) rfl rfl ?_
    refine mf_aload_n (mf_dat eX12_qPartTold_p0 48 rfl) rfl rfl ?_
    refine mf_getf (r := (RX12, TX12, 106)) (ci := 12) (k := 83) (t := 2) (v := 304) (mf_dat eX12_qPartTold_p0 49 rfl) fl_X12_195 rfl (by decide) rfl (gm_83 hG) is245 ?_
    refine mf_callV (Yc := YX12_asks) (r := (RX12, TX12, 106)) (ci := 12) (mf_dat eX12_qPartTold_p0 50 rfl) ml_X12_304 okX12_asks im_X12_asks sl_X12_asks rfl rfl rfl rfl (Nat.le_of_ble_eq_true rfl) (mf_rr (Nat.le_trans (by decide) hd) (Nat.le_refl _)) (Nat.le_refl _) is245 (hyp g2 hG) (fun r7 g8 h9 hyp => ?_)
    obtain ⟨hgg, hyp⟩ := hyp
    subst hgg
    refine mf_aload_n (mf_dat eX12_qPartTold_p0 51 rfl) rfl rfl ?_
    refine mf_callV (Yc := YX12_look) (r := (RX12, TX12, 106)) (ci := 12) (mf_dat eX12_qPartTold_p0 52 rfl) ml_X12_255 okX12_look im_X12_look sl_X12_look rfl rfl rfl rfl (Nat.le_of_ble_eq_true rfl) (mf_rr (Nat.le_trans (by decide) hd) (Nat.le_refl _)) (Nat.le_refl _) is245 (hyp g8 hG) (fun r10 g11 h12 hyp => ?_)
    obtain ⟨hgg, hyp⟩ := hyp
    subst hgg
    refine mf_bipush (v := 40) (mf_dat eX12_qPartTold_p0 53 rfl) (by decide) ?_
    refine mf_icmp_ne (tgt := 117) (mf_dat eX12_qPartTold_p0 54 rfl) (by decide) (fun hc => ?_) (fun hc => ?_)
    · replace hyp := hyp.1 hc
      refine mf_iconst (v := (-1)) (mf_dat eX12_qPartTold_p0 58 rfl) (by decide) ?_
      exact mf_sub [1, 2, 0] rfl (hyp g11 hG)
    · replace hyp := hyp.2 hc
      refine mf_aload_n (mf_dat eX12_qPartTold_p0 55 rfl) rfl rfl ?_
      refine mf_getf (r := (RX12, TX12, 106)) (ci := 12) (k := 2) (t := 0) (v := h12 245 2) (mf_dat eX12_qPartTold_p0 56 rfl) fl_X12_249 rfl (by decide) rfl rfl is245 ?_
      refine mf_goto (tgt := 118) (mf_dat eX12_qPartTold_p0 57 rfl) (by decide) ?_
      exact mf_sub [1, 2, 0] rfl (hyp g11 hG)
set_option maxRecDepth 100000 in
set_option maxHeartbeats 4000000 in
theorem vX12_qPartTold_118 {C : mf_G} {l : Launch} {d : Nat} {K : Int → mf_M → Prop} {x1 x4 s0 : Int} {h : mf_M} (hd : 3 ≤ d) (hyp : ((s0 = (-1) → mM C l 2 YX12_asksSign [(2, 245), (0, 40)] h (fun r1 h3 => BX12_qPartTold_2 C l d K x1 h3)) ∧ (¬ s0 = (-1) → ((x4 = 0 → mM C l 1 YX12_qOpens [(2, 245), (0, 22), (0, s0)] h (fun r4 h6 => mM C l 2 YX12_asksSign [(2, 245), (0, 40)] h6 (fun r7 h9 => BX12_qPartTold_2 C l d K x1 h9))) ∧ (¬ x4 = 0 → mM C l 1 YX12_qOpens [(2, 245), (0, 21), (0, s0)] h (fun r10 h12 => mM C l 2 YX12_asksSign [(2, 245), (0, 40)] h12 (fun r13 h15 => BX12_qPartTold_2 C l d K x1 h15))))))) : BX12_qPartTold_118 C l d K x1 x4 s0 h := by
  intro g hG
  refine mf_istore (mf_dat eX12_qPartTold_p0 59 rfl) (by decide) ?_
  refine mf_iload (mf_dat eX12_qPartTold_p1 0 rfl) rfl ?_
  refine mf_iconst (v := (-1)) (mf_dat eX12_qPartTold_p1 1 rfl) (by decide) ?_
  refine mf_icmp_eq (tgt := 144) (mf_dat eX12_qPartTold_p1 2 rfl) (by decide) (fun hc => ?_) (fun hc => ?_)
  · replace hyp := hyp.1 hc
    refine mf_aload_n (mf_dat eX12_qPartTold_p1 11 rfl) rfl rfl ?_
    refine mf_bipush (v := 40) (mf_dat eX12_qPartTold_p1 12 rfl) (by decide) ?_
    refine mf_callV (Yc := YX12_asksSign) (r := (RX12, TX12, 106)) (ci := 12) (mf_dat eX12_qPartTold_p1 13 rfl) ml_X12_312 okX12_asksSign im_X12_asksSign sl_X12_asksSign rfl rfl rfl rfl (Nat.le_of_ble_eq_true rfl) (mf_rr (Nat.le_trans (by decide) hd) (Nat.le_refl _)) (Nat.le_refl _) is245 (hyp g hG) (fun r1 g2 h3 hyp => ?_)
    obtain ⟨hgg, hyp⟩ := hyp
    subst hgg
    refine mf_goto (tgt := 183) (mf_dat eX12_qPartTold_p1 14 rfl) (by decide) ?_
    refine mf_goto (tgt := 2) (mf_dat eX12_qPartTold_p1 33 rfl) (by decide) ?_
    exact mf_sub [1, 2] rfl (hyp g2 hG)
  · replace hyp := hyp.2 hc
    refine mf_aload_n (mf_dat eX12_qPartTold_p1 3 rfl) rfl rfl ?_
    refine mf_iload (mf_dat eX12_qPartTold_p1 4 rfl) rfl ?_
    refine mf_if_eq (tgt := 137) (mf_dat eX12_qPartTold_p1 5 rfl) (by decide) (fun hc => ?_) (fun hc => ?_)
    · replace hyp := hyp.1 hc
      refine mf_bipush (v := 22) (mf_dat eX12_qPartTold_p1 8 rfl) (by decide) ?_
      refine mf_iload (mf_dat eX12_qPartTold_p1 9 rfl) rfl ?_
      refine mf_callV (Yc := YX12_qOpens) (r := (RX12, TX12, 106)) (ci := 12) (mf_dat eX12_qPartTold_p1 10 rfl) ml_X12_596 okX12_qOpens im_X12_qOpens sl_X12_qOpens rfl rfl rfl rfl (Nat.le_of_ble_eq_true rfl) (mf_rr (Nat.le_trans (by decide) hd) (Nat.le_refl _)) (Nat.le_refl _) is245 (hyp g hG) (fun r4 g5 h6 hyp => ?_)
      obtain ⟨hgg, hyp⟩ := hyp
      subst hgg
      refine mf_aload_n (mf_dat eX12_qPartTold_p1 11 rfl) rfl rfl ?_
      refine mf_bipush (v := 40) (mf_dat eX12_qPartTold_p1 12 rfl) (by decide) ?_
      refine mf_callV (Yc := YX12_asksSign) (r := (RX12, TX12, 106)) (ci := 12) (mf_dat eX12_qPartTold_p1 13 rfl) ml_X12_312 okX12_asksSign im_X12_asksSign sl_X12_asksSign rfl rfl rfl rfl (Nat.le_of_ble_eq_true rfl) (mf_rr (Nat.le_trans (by decide) hd) (Nat.le_refl _)) (Nat.le_refl _) is245 (hyp g5 hG) (fun r7 g8 h9 hyp => ?_)
      obtain ⟨hgg, hyp⟩ := hyp
      subst hgg
      refine mf_goto (tgt := 183) (mf_dat eX12_qPartTold_p1 14 rfl) (by decide) ?_
      refine mf_goto (tgt := 2) (mf_dat eX12_qPartTold_p1 33 rfl) (by decide) ?_
      exact mf_sub [1, 2] rfl (hyp g8 hG)
    · replace hyp := hyp.2 hc
      refine mf_bipush (v := 21) (mf_dat eX12_qPartTold_p1 6 rfl) (by decide) ?_
      refine mf_goto (tgt := 139) (mf_dat eX12_qPartTold_p1 7 rfl) (by decide) ?_
      refine mf_iload (mf_dat eX12_qPartTold_p1 9 rfl) rfl ?_
      refine mf_callV (Yc := YX12_qOpens) (r := (RX12, TX12, 106)) (ci := 12) (mf_dat eX12_qPartTold_p1 10 rfl) ml_X12_596 okX12_qOpens im_X12_qOpens sl_X12_qOpens rfl rfl rfl rfl (Nat.le_of_ble_eq_true rfl) (mf_rr (Nat.le_trans (by decide) hd) (Nat.le_refl _)) (Nat.le_refl _) is245 (hyp g hG) (fun r10 g11 h12 hyp => ?_)
      obtain ⟨hgg, hyp⟩ := hyp
      subst hgg
      refine mf_aload_n (mf_dat eX12_qPartTold_p1 11 rfl) rfl rfl ?_
      refine mf_bipush (v := 40) (mf_dat eX12_qPartTold_p1 12 rfl) (by decide) ?_
      refine mf_callV (Yc := YX12_asksSign) (r := (RX12, TX12, 106)) (ci := 12) (mf_dat eX12_qPartTold_p1 13 rfl) ml_X12_312 okX12_asksSign im_X12_asksSign sl_X12_asksSign rfl rfl rfl rfl (Nat.le_of_ble_eq_true rfl) (mf_rr (Nat.le_trans (by decide) hd) (Nat.le_refl _)) (Nat.le_refl _) is245 (hyp g11 hG) (fun r13 g14 h15 hyp => ?_)
      obtain ⟨hgg, hyp⟩ := hyp
      subst hgg
      refine mf_goto (tgt := 183) (mf_dat eX12_qPartTold_p1 14 rfl) (by decide) ?_
      refine mf_goto (tgt := 2) (mf_dat eX12_qPartTold_p1 33 rfl) (by decide) ?_
      exact mf_sub [1, 2] rfl (hyp g14 hG)
set_option maxRecDepth 100000 in
set_option maxHeartbeats 4000000 in
theorem vX12_qPartTold_186 {C : mf_G} {l : Launch} {d : Nat} {K : Int → mf_M → Prop} {h : mf_M} (hd : 5 ≤ d) (hyp : ((h 245 5 = 0 → mM C l 3 YX12_qWordOf [(2, 245), (0, 0), (0, 9)] h (fun r1 h3 => ((r1 = (-1) → BX12_qPartTold_212 C l d K r1 h3) ∧ (¬ r1 = (-1) → mM C l 4 YX12_qAsksWord [(2, 245), (0, r1)] h3 (fun r4 h6 => BX12_qPartTold_212 C l d K r1 h6))))) ∧ (¬ h 245 5 = 0 → K 0 h))) : BX12_qPartTold_186 C l d K h := by
  intro g hG
  refine mf_aload_n (mf_dat eX12_qPartTold_p1 34 rfl) rfl rfl ?_
  refine mf_getf (r := (RX12, TX12, 106)) (ci := 12) (k := 5) (t := 0) (v := h 245 5) (mf_dat eX12_qPartTold_p1 35 rfl) fl_X12_243 rfl (by decide) rfl rfl is245 ?_
  refine mf_if_eq (tgt := 194) (mf_dat eX12_qPartTold_p1 36 rfl) (by decide) (fun hc => ?_) (fun hc => ?_)
  · replace hyp := hyp.1 hc
    refine mf_aload_n (mf_dat eX12_qPartTold_p1 38 rfl) rfl rfl ?_
    refine mf_iconst (v := 0) (mf_dat eX12_qPartTold_p1 39 rfl) (by decide) ?_
    refine mf_bipush (v := 9) (mf_dat eX12_qPartTold_p1 40 rfl) (by decide) ?_
    refine mf_callV (Yc := YX12_qWordOf) (r := (RX12, TX12, 106)) (ci := 12) (mf_dat eX12_qPartTold_p1 41 rfl) ml_X12_593 okX12_qWordOf im_X12_qWordOf sl_X12_qWordOf rfl rfl rfl rfl (Nat.le_of_ble_eq_true rfl) (mf_rr (Nat.le_trans (by decide) hd) (Nat.le_refl _)) (Nat.le_refl _) is245 (hyp g hG) (fun r1 g2 h3 hyp => ?_)
    obtain ⟨hgg, hyp⟩ := hyp
    subst hgg
    refine mf_istore_n (mf_dat eX12_qPartTold_p1 42 rfl) rfl (by decide) ?_
    refine mf_iload_n (mf_dat eX12_qPartTold_p1 43 rfl) rfl rfl ?_
    refine mf_iconst (v := (-1)) (mf_dat eX12_qPartTold_p1 44 rfl) (by decide) ?_
    refine mf_icmp_eq (tgt := 212) (mf_dat eX12_qPartTold_p1 45 rfl) (by decide) (fun hc => ?_) (fun hc => ?_)
    · replace hyp := hyp.1 hc
      exact mf_sub [1, 0] rfl (hyp g2 hG)
    · replace hyp := hyp.2 hc
      refine mf_aload_n (mf_dat eX12_qPartTold_p1 46 rfl) rfl rfl ?_
      refine mf_iload_n (mf_dat eX12_qPartTold_p1 47 rfl) rfl rfl ?_
      refine mf_callV (Yc := YX12_qAsksWord) (r := (RX12, TX12, 106)) (ci := 12) (mf_dat eX12_qPartTold_p1 48 rfl) ml_X12_599 okX12_qAsksWord im_X12_qAsksWord sl_X12_qAsksWord rfl rfl rfl rfl (Nat.le_of_ble_eq_true rfl) (mf_rr (Nat.le_trans (by decide) hd) (Nat.le_refl _)) (Nat.le_refl _) is245 (hyp g2 hG) (fun r4 g5 h6 hyp => ?_)
      obtain ⟨hgg, hyp⟩ := hyp
      subst hgg
      exact mf_sub [1, 0] rfl (hyp g5 hG)
  · replace hyp := hyp.2 hc
    exact mf_return (mf_dat eX12_qPartTold_p1 37 rfl) rfl ⟨rfl, hyp⟩
set_option maxRecDepth 100000 in
set_option maxHeartbeats 4000000 in
theorem vX12_qPartTold_212 {C : mf_G} {l : Launch} {d : Nat} {K : Int → mf_M → Prop} {x2 : Int} {h : mf_M} (hd : 3 ≤ d) (hyp : ((x2 = (-1) → mM C l 1 YX12_number [(2, 245), (0, 0), (0, 9999)] h (fun r1 h3 => mM C l 0 YX12_qCode [(2, 245), (0, mf_w32 (1000 + r1))] h3 (fun r4 h6 => mM C l 2 YX12_qEndsPart [(2, 245)] h6 (fun r7 h9 => K 0 h9)))) ∧ (¬ x2 = (-1) → mM C l 0 YX12_qCode [(2, 245), (0, mf_w32 (40 + x2))] h (fun r10 h12 => mM C l 2 YX12_qEndsPart [(2, 245)] h12 (fun r13 h15 => K 0 h15))))) : BX12_qPartTold_212 C l d K x2 h := by
  intro g hG
  refine mf_aload_n (mf_dat eX12_qPartTold_p1 49 rfl) rfl rfl ?_
  refine mf_iload_n (mf_dat eX12_qPartTold_p1 50 rfl) rfl rfl ?_
  refine mf_iconst (v := (-1)) (mf_dat eX12_qPartTold_p1 51 rfl) (by decide) ?_
  refine mf_icmp_eq (tgt := 225) (mf_dat eX12_qPartTold_p1 52 rfl) (by decide) (fun hc => ?_) (fun hc => ?_)
  · replace hyp := hyp.1 hc
    refine mf_sipush (v := 1000) (mf_dat eX12_qPartTold_p1 57 rfl) (by decide) ?_
    refine mf_aload_n (mf_dat eX12_qPartTold_p1 58 rfl) rfl rfl ?_
    refine mf_iconst (v := 0) (mf_dat eX12_qPartTold_p1 59 rfl) (by decide) ?_
    refine mf_sipush (v := 9999) (mf_dat eX12_qPartTold_p2 0 rfl) (by decide) ?_
    refine mf_callV (Yc := YX12_number) (r := (RX12, TX12, 106)) (ci := 12) (mf_dat eX12_qPartTold_p2 1 rfl) ml_X12_308 okX12_number im_X12_number sl_X12_number rfl rfl rfl rfl (Nat.le_of_ble_eq_true rfl) (mf_rr (Nat.le_trans (by decide) hd) (Nat.le_refl _)) (Nat.le_refl _) is245 (hyp g hG) (fun r1 g2 h3 hyp => ?_)
    obtain ⟨hgg, hyp⟩ := hyp
    subst hgg
    refine mf_iadd (mf_dat eX12_qPartTold_p2 2 rfl) ?_
    refine mf_callV (Yc := YX12_qCode) (r := (RX12, TX12, 106)) (ci := 12) (mf_dat eX12_qPartTold_p2 3 rfl) ml_X12_578 okX12_qCode im_X12_qCode sl_X12_qCode rfl rfl rfl rfl (Nat.le_of_ble_eq_true rfl) (mf_rr (Nat.le_trans (by decide) hd) (Nat.le_refl _)) (Nat.le_refl _) is245 (hyp g2 hG) (fun r4 g5 h6 hyp => ?_)
    obtain ⟨hgg, hyp⟩ := hyp
    subst hgg
    refine mf_aload_n (mf_dat eX12_qPartTold_p2 4 rfl) rfl rfl ?_
    refine mf_callV (Yc := YX12_qEndsPart) (r := (RX12, TX12, 106)) (ci := 12) (mf_dat eX12_qPartTold_p2 5 rfl) ml_X12_602 okX12_qEndsPart im_X12_qEndsPart sl_X12_qEndsPart rfl rfl rfl rfl (Nat.le_of_ble_eq_true rfl) (mf_rr (Nat.le_trans (by decide) hd) (Nat.le_refl _)) (Nat.le_refl _) is245 (hyp g5 hG) (fun r7 g8 h9 hyp => ?_)
    obtain ⟨hgg, hyp⟩ := hyp
    subst hgg
    exact mf_return (mf_dat eX12_qPartTold_p2 6 rfl) rfl ⟨rfl, hyp⟩
  · replace hyp := hyp.2 hc
    refine mf_bipush (v := 40) (mf_dat eX12_qPartTold_p1 53 rfl) (by decide) ?_
    refine mf_iload_n (mf_dat eX12_qPartTold_p1 54 rfl) rfl rfl ?_
    refine mf_iadd (mf_dat eX12_qPartTold_p1 55 rfl) ?_
    refine mf_goto (tgt := 237) (mf_dat eX12_qPartTold_p1 56 rfl) (by decide) ?_
    refine mf_callV (Yc := YX12_qCode) (r := (RX12, TX12, 106)) (ci := 12) (mf_dat eX12_qPartTold_p2 3 rfl) ml_X12_578 okX12_qCode im_X12_qCode sl_X12_qCode rfl rfl rfl rfl (Nat.le_of_ble_eq_true rfl) (mf_rr (Nat.le_trans (by decide) hd) (Nat.le_refl _)) (Nat.le_refl _) is245 (hyp g hG) (fun r10 g11 h12 hyp => ?_)
    obtain ⟨hgg, hyp⟩ := hyp
    subst hgg
    refine mf_aload_n (mf_dat eX12_qPartTold_p2 4 rfl) rfl rfl ?_
    refine mf_callV (Yc := YX12_qEndsPart) (r := (RX12, TX12, 106)) (ci := 12) (mf_dat eX12_qPartTold_p2 5 rfl) ml_X12_602 okX12_qEndsPart im_X12_qEndsPart sl_X12_qEndsPart rfl rfl rfl rfl (Nat.le_of_ble_eq_true rfl) (mf_rr (Nat.le_trans (by decide) hd) (Nat.le_refl _)) (Nat.le_refl _) is245 (hyp g11 hG) (fun r13 g14 h15 hyp => ?_)
    obtain ⟨hgg, hyp⟩ := hyp
    subst hgg
    exact mf_return (mf_dat eX12_qPartTold_p2 6 rfl) rfl ⟨rfl, hyp⟩
set_option maxRecDepth 100000 in
set_option maxHeartbeats 4000000 in
theorem wX12_qPartTold {C : mf_G} {l : Launch} {d : Nat} {K : Int → mf_M → Prop} {h : mf_M} (hyp : BX12_qPartTold_2 C l d K 1 h) : mM C l d YX12_qPartTold [(2, 245)] h K := by
  intro g hG
  refine mf_entry (by decide) (Nat.le_of_ble_eq_true rfl) ?_
  refine mf_iconst (v := 1) (mf_dat eX12_qPartTold_p0 0 rfl) (by decide) ?_
  refine mf_istore_n (mf_dat eX12_qPartTold_p0 1 rfl) rfl (by decide) ?_
  exact mf_sub [1, 0] rfl (hyp g hG)
abbrev BX12_qGoesOn_0 (C : mf_G) (l : Launch) (d : Nat) (K : Int → mf_M → Prop) (h : mf_M) : Prop := jM C l d YX12_qGoesOn K 0 [(0, (2, 245))] [] h
abbrev BX12_qGoesOn_43 (C : mf_G) (l : Launch) (d : Nat) (K : Int → mf_M → Prop) (h : mf_M) : Prop := jM C l d YX12_qGoesOn K 43 [(0, (2, 245))] [] h
abbrev BX12_qGoesOn_122 (C : mf_G) (l : Launch) (d : Nat) (K : Int → mf_M → Prop) (h : mf_M) : Prop := jM C l d YX12_qGoesOn K 122 [(0, (2, 245))] [] h
abbrev BX12_qGoesOn_140 (C : mf_G) (l : Launch) (d : Nat) (K : Int → mf_M → Prop) (h : mf_M) : Prop := jM C l d YX12_qGoesOn K 140 [(0, (2, 245))] [] h
abbrev BX12_qGoesOn_162 (C : mf_G) (l : Launch) (d : Nat) (K : Int → mf_M → Prop) (x1 : Int) (h : mf_M) : Prop := jM C l d YX12_qGoesOn K 162 [(0, (2, 245)), (1, (0, x1))] [] h
abbrev BX12_qGoesOn_225 (C : mf_G) (l : Launch) (d : Nat) (K : Int → mf_M → Prop) (h : mf_M) : Prop := jM C l d YX12_qGoesOn K 225 [(0, (2, 245))] [] h
abbrev BX12_qGoesOn_247 (C : mf_G) (l : Launch) (d : Nat) (K : Int → mf_M → Prop) (x1 : Int) (h : mf_M) : Prop := jM C l d YX12_qGoesOn K 247 [(0, (2, 245)), (1, (0, x1))] [] h
abbrev BX12_qGoesOn_326 (C : mf_G) (l : Launch) (d : Nat) (K : Int → mf_M → Prop) (h : mf_M) : Prop := jM C l d YX12_qGoesOn K 326 [(0, (2, 245))] [] h
set_option maxRecDepth 100000 in
set_option maxHeartbeats 4000000 in
theorem vX12_qGoesOn_0 {C : mf_G} {l : Launch} {d : Nat} {K : Int → mf_M → Prop} {h : mf_M} (hd : 2 ≤ d) (hyp : ((¬ h 245 5 = 0 → BX12_qGoesOn_122 C l d K h) ∧ (h 245 5 = 0 → mM C l 0 YX12_look [(2, 245)] h (fun r1 h3 => ((¬ r1 = 41 → BX12_qGoesOn_122 C l d K h3) ∧ (r1 = 41 → mM C l 1 YX12_qBracket [(2, 245)] h3 (fun r4 h6 => ((r4 = 20 → BX12_qGoesOn_43 C l d K h6) ∧ (¬ r4 = 20 → mM C l 1 YX12_qBracket [(2, 245)] h6 (fun r7 h9 => ((r7 = 23 → BX12_qGoesOn_43 C l d K h9) ∧ (¬ r7 = 23 → mM C l 1 YX12_qBracket [(2, 245)] h9 (fun r10 h12 => ((¬ r10 = 24 → BX12_qGoesOn_122 C l d K h12) ∧ (r10 = 24 → BX12_qGoesOn_43 C l d K h12))))))))))))))) : BX12_qGoesOn_0 C l d K h := by
  intro g hG
  refine mf_aload_n (mf_dat eX12_qGoesOn_p0 0 rfl) rfl rfl ?_
  refine mf_getf (r := (RX12, TX12, 106)) (ci := 12) (k := 5) (t := 0) (v := h 245 5) (mf_dat eX12_qGoesOn_p0 1 rfl) fl_X12_243 rfl (by decide) rfl rfl is245 ?_
  refine mf_if_ne (tgt := 122) (mf_dat eX12_qGoesOn_p0 2 rfl) (by decide) (fun hc => ?_) (fun hc => ?_)
  · replace hyp := hyp.1 hc
    exact mf_sub [0] rfl (hyp g hG)
  · replace hyp := hyp.2 hc
    refine mf_aload_n (mf_dat eX12_qGoesOn_p0 3 rfl) rfl rfl ?_
    refine mf_callV (Yc := YX12_look) (r := (RX12, TX12, 106)) (ci := 12) (mf_dat eX12_qGoesOn_p0 4 rfl) ml_X12_255 okX12_look im_X12_look sl_X12_look rfl rfl rfl rfl (Nat.le_of_ble_eq_true rfl) (mf_rr (Nat.le_trans (by decide) hd) (Nat.le_refl _)) (Nat.le_refl _) is245 (hyp g hG) (fun r1 g2 h3 hyp => ?_)
    obtain ⟨hgg, hyp⟩ := hyp
    subst hgg
    refine mf_bipush (v := 41) (mf_dat eX12_qGoesOn_p0 5 rfl) (by decide) ?_
    refine mf_icmp_ne (tgt := 122) (mf_dat eX12_qGoesOn_p0 6 rfl) (by decide) (fun hc => ?_) (fun hc => ?_)
    · replace hyp := hyp.1 hc
      exact mf_sub [0] rfl (hyp g2 hG)
    · replace hyp := hyp.2 hc
      refine mf_aload_n (mf_dat eX12_qGoesOn_p0 7 rfl) rfl rfl ?_
      refine mf_callV (Yc := YX12_qBracket) (r := (RX12, TX12, 106)) (ci := 12) (mf_dat eX12_qGoesOn_p0 8 rfl) ml_X12_605 okX12_qBracket im_X12_qBracket sl_X12_qBracket rfl rfl rfl rfl (Nat.le_of_ble_eq_true rfl) (mf_rr (Nat.le_trans (by decide) hd) (Nat.le_refl _)) (Nat.le_refl _) is245 (hyp g2 hG) (fun r4 g5 h6 hyp => ?_)
      obtain ⟨hgg, hyp⟩ := hyp
      subst hgg
      refine mf_bipush (v := 20) (mf_dat eX12_qGoesOn_p0 9 rfl) (by decide) ?_
      refine mf_icmp_eq (tgt := 43) (mf_dat eX12_qGoesOn_p0 10 rfl) (by decide) (fun hc => ?_) (fun hc => ?_)
      · replace hyp := hyp.1 hc
        exact mf_sub [0] rfl (hyp g5 hG)
      · replace hyp := hyp.2 hc
        refine mf_aload_n (mf_dat eX12_qGoesOn_p0 11 rfl) rfl rfl ?_
        refine mf_callV (Yc := YX12_qBracket) (r := (RX12, TX12, 106)) (ci := 12) (mf_dat eX12_qGoesOn_p0 12 rfl) ml_X12_605 okX12_qBracket im_X12_qBracket sl_X12_qBracket rfl rfl rfl rfl (Nat.le_of_ble_eq_true rfl) (mf_rr (Nat.le_trans (by decide) hd) (Nat.le_refl _)) (Nat.le_refl _) is245 (hyp g5 hG) (fun r7 g8 h9 hyp => ?_)
        obtain ⟨hgg, hyp⟩ := hyp
        subst hgg
        refine mf_bipush (v := 23) (mf_dat eX12_qGoesOn_p0 13 rfl) (by decide) ?_
        refine mf_icmp_eq (tgt := 43) (mf_dat eX12_qGoesOn_p0 14 rfl) (by decide) (fun hc => ?_) (fun hc => ?_)
        · replace hyp := hyp.1 hc
          exact mf_sub [0] rfl (hyp g8 hG)
        · replace hyp := hyp.2 hc
          refine mf_aload_n (mf_dat eX12_qGoesOn_p0 15 rfl) rfl rfl ?_
          refine mf_callV (Yc := YX12_qBracket) (r := (RX12, TX12, 106)) (ci := 12) (mf_dat eX12_qGoesOn_p0 16 rfl) ml_X12_605 okX12_qBracket im_X12_qBracket sl_X12_qBracket rfl rfl rfl rfl (Nat.le_of_ble_eq_true rfl) (mf_rr (Nat.le_trans (by decide) hd) (Nat.le_refl _)) (Nat.le_refl _) is245 (hyp g8 hG) (fun r10 g11 h12 hyp => ?_)
          obtain ⟨hgg, hyp⟩ := hyp
          subst hgg
          refine mf_bipush (v := 24) (mf_dat eX12_qGoesOn_p0 17 rfl) (by decide) ?_
          refine mf_icmp_ne (tgt := 122) (mf_dat eX12_qGoesOn_p0 18 rfl) (by decide) (fun hc => ?_) (fun hc => ?_)
          · replace hyp := hyp.1 hc
            exact mf_sub [0] rfl (hyp g11 hG)
          · replace hyp := hyp.2 hc
            exact mf_sub [0] rfl (hyp g11 hG)
set_option maxRecDepth 100000 in
set_option maxHeartbeats 4000000 in
theorem vX12_qGoesOn_43 {C : mf_G} {l : Launch} {d : Nat} {K : Int → mf_M → Prop} {h : mf_M} (hd : 3 ≤ d) (hyp : (∀ h1 : mf_M, h1 = mf_up h 245 2 (mf_w32 ((h 245 2) + 1)) → mM C l 2 YX12_qDropsToBracket [(2, 245)] h1 (fun r2 h4 => (∀ h5 : mf_M, h5 = mf_up h4 245 97 (mf_w32 ((h4 245 97) - 1)) → (∀ h6 : mf_M, h6 = mf_up h5 245 98 (mf_w32 ((h5 245 98) - 1)) → 0 ≤ h6 245 97 ∧ h6 245 97 < 1700 ∧ ((h6 316 (h6 245 97) = 20 → mM C l 2 YX12_qEndsPart [(2, 245)] h6 (fun r9 h11 => BX12_qGoesOn_0 C l d K h11)) ∧ (¬ h6 316 (h6 245 97) = 20 → ((¬ h6 316 (h6 245 97) = 23 → mM C l 0 YX12_qCode [(2, 245), (0, 6)] h6 (fun r12 h14 => mM C l 2 YX12_qEndsPart [(2, 245)] h14 (fun r15 h17 => BX12_qGoesOn_0 C l d K h17))) ∧ (h6 316 (h6 245 97) = 23 → mM C l 0 YX12_qCode [(2, 245), (0, 5)] h6 (fun r18 h20 => mM C l 2 YX12_qEndsPart [(2, 245)] h20 (fun r21 h23 => BX12_qGoesOn_0 C l d K h23))))))))))) : BX12_qGoesOn_43 C l d K h := by
  intro g hG
  refine mf_aload_n (mf_dat eX12_qGoesOn_p0 19 rfl) rfl rfl ?_
  refine mf_dup (mf_dat eX12_qGoesOn_p0 20 rfl) (by decide) ?_
  refine mf_getf (r := (RX12, TX12, 106)) (ci := 12) (k := 2) (t := 0) (v := h 245 2) (mf_dat eX12_qGoesOn_p0 21 rfl) fl_X12_249 rfl (by decide) rfl rfl is245 ?_
  refine mf_iconst (v := 1) (mf_dat eX12_qGoesOn_p0 22 rfl) (by decide) ?_
  refine mf_iadd (mf_dat eX12_qGoesOn_p0 23 rfl) ?_
  refine mf_putI (r := (RX12, TX12, 106)) (ci := 12) (k := 2) (kI := 2) (t := 0) (mf_dat eX12_qGoesOn_p0 24 rfl) fl_X12_249 rfl rfl (by decide) rfl (by decide) rfl (by decide) (fun h9 => absurd h9 (by decide)) is245 ?_
  generalize qh1 : mf_up h 245 2 (mf_w32 ((h 245 2) + 1)) = h1
  replace hyp := hyp _ qh1.symm
  refine mf_aload_n (mf_dat eX12_qGoesOn_p0 25 rfl) rfl rfl ?_
  refine mf_callV (Yc := YX12_qDropsToBracket) (r := (RX12, TX12, 106)) (ci := 12) (mf_dat eX12_qGoesOn_p0 26 rfl) ml_X12_608 okX12_qDropsToBracket im_X12_qDropsToBracket sl_X12_qDropsToBracket rfl rfl rfl rfl (Nat.le_of_ble_eq_true rfl) (mf_rr (Nat.le_trans (by decide) hd) (Nat.le_refl _)) (Nat.le_refl _) is245 (hyp g hG) (fun r2 g3 h4 hyp => ?_)
  obtain ⟨hgg, hyp⟩ := hyp
  subst hgg
  refine mf_aload_n (mf_dat eX12_qGoesOn_p0 27 rfl) rfl rfl ?_
  refine mf_dup (mf_dat eX12_qGoesOn_p0 28 rfl) (by decide) ?_
  refine mf_getf (r := (RX12, TX12, 106)) (ci := 12) (k := 97) (t := 0) (v := h4 245 97) (mf_dat eX12_qGoesOn_p0 29 rfl) fl_X12_341 rfl (by decide) rfl rfl is245 ?_
  refine mf_iconst (v := 1) (mf_dat eX12_qGoesOn_p0 30 rfl) (by decide) ?_
  refine mf_isub (mf_dat eX12_qGoesOn_p0 31 rfl) ?_
  refine mf_putI (r := (RX12, TX12, 106)) (ci := 12) (k := 97) (kI := 97) (t := 0) (mf_dat eX12_qGoesOn_p0 32 rfl) fl_X12_341 rfl rfl (by decide) rfl (by decide) rfl (by decide) (fun h9 => absurd h9 (by decide)) is245 ?_
  generalize qh5 : mf_up h4 245 97 (mf_w32 ((h4 245 97) - 1)) = h5
  replace hyp := hyp _ qh5.symm
  refine mf_aload_n (mf_dat eX12_qGoesOn_p0 33 rfl) rfl rfl ?_
  refine mf_dup (mf_dat eX12_qGoesOn_p0 34 rfl) (by decide) ?_
  refine mf_getf (r := (RX12, TX12, 106)) (ci := 12) (k := 98) (t := 0) (v := h5 245 98) (mf_dat eX12_qGoesOn_p0 35 rfl) fl_X12_344 rfl (by decide) rfl rfl is245 ?_
  refine mf_iconst (v := 1) (mf_dat eX12_qGoesOn_p0 36 rfl) (by decide) ?_
  refine mf_isub (mf_dat eX12_qGoesOn_p0 37 rfl) ?_
  refine mf_putI (r := (RX12, TX12, 106)) (ci := 12) (k := 98) (kI := 98) (t := 0) (mf_dat eX12_qGoesOn_p0 38 rfl) fl_X12_344 rfl rfl (by decide) rfl (by decide) rfl (by decide) (fun h9 => absurd h9 (by decide)) is245 ?_
  generalize qh6 : mf_up h5 245 98 (mf_w32 ((h5 245 98) - 1)) = h6
  replace hyp := hyp _ qh6.symm
  refine mf_aload_n (mf_dat eX12_qGoesOn_p0 39 rfl) rfl rfl ?_
  refine mf_getf (r := (RX12, TX12, 106)) (ci := 12) (k := 96) (t := 2) (v := 316) (mf_dat eX12_qGoesOn_p0 40 rfl) fl_X12_231 rfl (by decide) rfl (gm_96 hG) is245 ?_
  refine mf_aload_n (mf_dat eX12_qGoesOn_p0 41 rfl) rfl rfl ?_
  refine mf_getf (r := (RX12, TX12, 106)) (ci := 12) (k := 97) (t := 0) (v := h6 245 97) (mf_dat eX12_qGoesOn_p0 42 rfl) fl_X12_341 rfl (by decide) rfl rfl is245 ?_
  obtain ⟨ck7, hyp⟩ := hyp
  obtain ⟨ck8, hyp⟩ := hyp
  refine mf_iald (mf_dat eX12_qGoesOn_p0 43 rfl) is316 len316 ck7 ck8 ?_
  refine mf_bipush (v := 20) (mf_dat eX12_qGoesOn_p0 44 rfl) (by decide) ?_
  refine mf_icmp_eq (tgt := 115) (mf_dat eX12_qGoesOn_p0 45 rfl) (by decide) (fun hc => ?_) (fun hc => ?_)
  · replace hyp := hyp.1 hc
    refine mf_aload_n (mf_dat eX12_qGoesOn_p0 58 rfl) rfl rfl ?_
    refine mf_callV (Yc := YX12_qEndsPart) (r := (RX12, TX12, 106)) (ci := 12) (mf_dat eX12_qGoesOn_p0 59 rfl) ml_X12_602 okX12_qEndsPart im_X12_qEndsPart sl_X12_qEndsPart rfl rfl rfl rfl (Nat.le_of_ble_eq_true rfl) (mf_rr (Nat.le_trans (by decide) hd) (Nat.le_refl _)) (Nat.le_refl _) is245 (hyp g3 hG) (fun r9 g10 h11 hyp => ?_)
    obtain ⟨hgg, hyp⟩ := hyp
    subst hgg
    refine mf_goto (tgt := 0) (mf_dat eX12_qGoesOn_p1 0 rfl) (by decide) ?_
    exact mf_sub [0] rfl (hyp g10 hG)
  · replace hyp := hyp.2 hc
    refine mf_aload_n (mf_dat eX12_qGoesOn_p0 46 rfl) rfl rfl ?_
    refine mf_aload_n (mf_dat eX12_qGoesOn_p0 47 rfl) rfl rfl ?_
    refine mf_getf (r := (RX12, TX12, 106)) (ci := 12) (k := 96) (t := 2) (v := 316) (mf_dat eX12_qGoesOn_p0 48 rfl) fl_X12_231 rfl (by decide) rfl (gm_96 hG) is245 ?_
    refine mf_aload_n (mf_dat eX12_qGoesOn_p0 49 rfl) rfl rfl ?_
    refine mf_getf (r := (RX12, TX12, 106)) (ci := 12) (k := 97) (t := 0) (v := h6 245 97) (mf_dat eX12_qGoesOn_p0 50 rfl) fl_X12_341 rfl (by decide) rfl rfl is245 ?_
    refine mf_iald (mf_dat eX12_qGoesOn_p0 51 rfl) is316 len316 ck7 ck8 ?_
    refine mf_bipush (v := 23) (mf_dat eX12_qGoesOn_p0 52 rfl) (by decide) ?_
    refine mf_icmp_ne (tgt := 110) (mf_dat eX12_qGoesOn_p0 53 rfl) (by decide) (fun hc => ?_) (fun hc => ?_)
    · replace hyp := hyp.1 hc
      refine mf_bipush (v := 6) (mf_dat eX12_qGoesOn_p0 56 rfl) (by decide) ?_
      refine mf_callV (Yc := YX12_qCode) (r := (RX12, TX12, 106)) (ci := 12) (mf_dat eX12_qGoesOn_p0 57 rfl) ml_X12_578 okX12_qCode im_X12_qCode sl_X12_qCode rfl rfl rfl rfl (Nat.le_of_ble_eq_true rfl) (mf_rr (Nat.le_trans (by decide) hd) (Nat.le_refl _)) (Nat.le_refl _) is245 (hyp g3 hG) (fun r12 g13 h14 hyp => ?_)
      obtain ⟨hgg, hyp⟩ := hyp
      subst hgg
      refine mf_aload_n (mf_dat eX12_qGoesOn_p0 58 rfl) rfl rfl ?_
      refine mf_callV (Yc := YX12_qEndsPart) (r := (RX12, TX12, 106)) (ci := 12) (mf_dat eX12_qGoesOn_p0 59 rfl) ml_X12_602 okX12_qEndsPart im_X12_qEndsPart sl_X12_qEndsPart rfl rfl rfl rfl (Nat.le_of_ble_eq_true rfl) (mf_rr (Nat.le_trans (by decide) hd) (Nat.le_refl _)) (Nat.le_refl _) is245 (hyp g13 hG) (fun r15 g16 h17 hyp => ?_)
      obtain ⟨hgg, hyp⟩ := hyp
      subst hgg
      refine mf_goto (tgt := 0) (mf_dat eX12_qGoesOn_p1 0 rfl) (by decide) ?_
      exact mf_sub [0] rfl (hyp g16 hG)
    · replace hyp := hyp.2 hc
      refine mf_iconst (v := 5) (mf_dat eX12_qGoesOn_p0 54 rfl) (by decide) ?_
      refine mf_goto (tgt := 112) (mf_dat eX12_qGoesOn_p0 55 rfl) (by decide) ?_
      refine mf_callV (Yc := YX12_qCode) (r := (RX12, TX12, 106)) (ci := 12) (mf_dat eX12_qGoesOn_p0 57 rfl) ml_X12_578 okX12_qCode im_X12_qCode sl_X12_qCode rfl rfl rfl rfl (Nat.le_of_ble_eq_true rfl) (mf_rr (Nat.le_trans (by decide) hd) (Nat.le_refl _)) (Nat.le_refl _) is245 (hyp g3 hG) (fun r18 g19 h20 hyp => ?_)
      obtain ⟨hgg, hyp⟩ := hyp
      subst hgg
      refine mf_aload_n (mf_dat eX12_qGoesOn_p0 58 rfl) rfl rfl ?_
      refine mf_callV (Yc := YX12_qEndsPart) (r := (RX12, TX12, 106)) (ci := 12) (mf_dat eX12_qGoesOn_p0 59 rfl) ml_X12_602 okX12_qEndsPart im_X12_qEndsPart sl_X12_qEndsPart rfl rfl rfl rfl (Nat.le_of_ble_eq_true rfl) (mf_rr (Nat.le_trans (by decide) hd) (Nat.le_refl _)) (Nat.le_refl _) is245 (hyp g19 hG) (fun r21 g22 h23 hyp => ?_)
      obtain ⟨hgg, hyp⟩ := hyp
      subst hgg
      refine mf_goto (tgt := 0) (mf_dat eX12_qGoesOn_p1 0 rfl) (by decide) ?_
      exact mf_sub [0] rfl (hyp g22 hG)
set_option maxRecDepth 100000 in
set_option maxHeartbeats 4000000 in
theorem vX12_qGoesOn_122 {C : mf_G} {l : Launch} {d : Nat} {K : Int → mf_M → Prop} {h : mf_M} (hd : 2 ≤ d) (hyp : mM C l 1 YX12_takesSign [(2, 245), (0, 42)] h (fun r1 h3 => ((¬ r1 = 0 → BX12_qGoesOn_140 C l d K h3) ∧ (r1 = 0 → mM C l 1 YX12_takesSign [(2, 245), (0, 47)] h3 (fun r4 h6 => ((r4 = 0 → mM C l 1 YX12_takesSign [(2, 245), (0, 43)] h6 (fun r7 h9 => ((¬ r7 = 0 → BX12_qGoesOn_225 C l d K h9) ∧ (r7 = 0 → mM C l 1 YX12_takesSign [(2, 245), (0, 45)] h9 (fun r10 h12 => ((r10 = 0 → mM C l 1 YX12_qBracket [(2, 245)] h12 (fun r13 h15 => ((r13 = 21 → BX12_qGoesOn_326 C l d K h15) ∧ (¬ r13 = 21 → mM C l 1 YX12_qBracket [(2, 245)] h15 (fun r16 h18 => ((¬ r16 = 22 → mM C l 1 YX12_qBracket [(2, 245)] h18 (fun r19 h21 => ((r19 = (-1) → K 0 h21) ∧ (¬ r19 = (-1) → ((¬ h21 245 5 = 0 → K 0 h21) ∧ (h21 245 5 = 0 → mM C l 0 YX12_fail [(2, 245), (0, 1), (0, h21 245 2)] h21 (fun r22 h24 => K 0 h24))))))) ∧ (r16 = 22 → BX12_qGoesOn_326 C l d K h18))))))) ∧ (¬ r10 = 0 → BX12_qGoesOn_225 C l d K h12))))))) ∧ (¬ r4 = 0 → BX12_qGoesOn_140 C l d K h6))))))) : BX12_qGoesOn_122 C l d K h := by
  intro g hG
  refine mf_aload_n (mf_dat eX12_qGoesOn_p1 1 rfl) rfl rfl ?_
  refine mf_bipush (v := 42) (mf_dat eX12_qGoesOn_p1 2 rfl) (by decide) ?_
  refine mf_callV (Yc := YX12_takesSign) (r := (RX12, TX12, 106)) (ci := 12) (mf_dat eX12_qGoesOn_p1 3 rfl) ml_X12_277 okX12_takesSign im_X12_takesSign sl_X12_takesSign rfl rfl rfl rfl (Nat.le_of_ble_eq_true rfl) (mf_rr (Nat.le_trans (by decide) hd) (Nat.le_refl _)) (Nat.le_refl _) is245 (hyp g hG) (fun r1 g2 h3 hyp => ?_)
  obtain ⟨hgg, hyp⟩ := hyp
  subst hgg
  refine mf_if_ne (tgt := 140) (mf_dat eX12_qGoesOn_p1 4 rfl) (by decide) (fun hc => ?_) (fun hc => ?_)
  · replace hyp := hyp.1 hc
    exact mf_sub [0] rfl (hyp g2 hG)
  · replace hyp := hyp.2 hc
    refine mf_aload_n (mf_dat eX12_qGoesOn_p1 5 rfl) rfl rfl ?_
    refine mf_bipush (v := 47) (mf_dat eX12_qGoesOn_p1 6 rfl) (by decide) ?_
    refine mf_callV (Yc := YX12_takesSign) (r := (RX12, TX12, 106)) (ci := 12) (mf_dat eX12_qGoesOn_p1 7 rfl) ml_X12_277 okX12_takesSign im_X12_takesSign sl_X12_takesSign rfl rfl rfl rfl (Nat.le_of_ble_eq_true rfl) (mf_rr (Nat.le_trans (by decide) hd) (Nat.le_refl _)) (Nat.le_refl _) is245 (hyp g2 hG) (fun r4 g5 h6 hyp => ?_)
    obtain ⟨hgg, hyp⟩ := hyp
    subst hgg
    refine mf_if_eq (tgt := 207) (mf_dat eX12_qGoesOn_p1 8 rfl) (by decide) (fun hc => ?_) (fun hc => ?_)
    · replace hyp := hyp.1 hc
      refine mf_aload_n (mf_dat eX12_qGoesOn_p1 47 rfl) rfl rfl ?_
      refine mf_bipush (v := 43) (mf_dat eX12_qGoesOn_p1 48 rfl) (by decide) ?_
      refine mf_callV (Yc := YX12_takesSign) (r := (RX12, TX12, 106)) (ci := 12) (mf_dat eX12_qGoesOn_p1 49 rfl) ml_X12_277 okX12_takesSign im_X12_takesSign sl_X12_takesSign rfl rfl rfl rfl (Nat.le_of_ble_eq_true rfl) (mf_rr (Nat.le_trans (by decide) hd) (Nat.le_refl _)) (Nat.le_refl _) is245 (hyp g5 hG) (fun r7 g8 h9 hyp => ?_)
      obtain ⟨hgg, hyp⟩ := hyp
      subst hgg
      refine mf_if_ne (tgt := 225) (mf_dat eX12_qGoesOn_p1 50 rfl) (by decide) (fun hc => ?_) (fun hc => ?_)
      · replace hyp := hyp.1 hc
        exact mf_sub [0] rfl (hyp g8 hG)
      · replace hyp := hyp.2 hc
        refine mf_aload_n (mf_dat eX12_qGoesOn_p1 51 rfl) rfl rfl ?_
        refine mf_bipush (v := 45) (mf_dat eX12_qGoesOn_p1 52 rfl) (by decide) ?_
        refine mf_callV (Yc := YX12_takesSign) (r := (RX12, TX12, 106)) (ci := 12) (mf_dat eX12_qGoesOn_p1 53 rfl) ml_X12_277 okX12_takesSign im_X12_takesSign sl_X12_takesSign rfl rfl rfl rfl (Nat.le_of_ble_eq_true rfl) (mf_rr (Nat.le_trans (by decide) hd) (Nat.le_refl _)) (Nat.le_refl _) is245 (hyp g8 hG) (fun r10 g11 h12 hyp => ?_)
        obtain ⟨hgg, hyp⟩ := hyp
        subst hgg
        refine mf_if_eq (tgt := 308) (mf_dat eX12_qGoesOn_p1 54 rfl) (by decide) (fun hc => ?_) (fun hc => ?_)
        · replace hyp := hyp.1 hc
          refine mf_aload_n (mf_dat eX12_qGoesOn_p2 41 rfl) rfl rfl ?_
          refine mf_callV (Yc := YX12_qBracket) (r := (RX12, TX12, 106)) (ci := 12) (mf_dat eX12_qGoesOn_p2 42 rfl) ml_X12_605 okX12_qBracket im_X12_qBracket sl_X12_qBracket rfl rfl rfl rfl (Nat.le_of_ble_eq_true rfl) (mf_rr (Nat.le_trans (by decide) hd) (Nat.le_refl _)) (Nat.le_refl _) is245 (hyp g11 hG) (fun r13 g14 h15 hyp => ?_)
          obtain ⟨hgg, hyp⟩ := hyp
          subst hgg
          refine mf_bipush (v := 21) (mf_dat eX12_qGoesOn_p2 43 rfl) (by decide) ?_
          refine mf_icmp_eq (tgt := 326) (mf_dat eX12_qGoesOn_p2 44 rfl) (by decide) (fun hc => ?_) (fun hc => ?_)
          · replace hyp := hyp.1 hc
            exact mf_sub [0] rfl (hyp g14 hG)
          · replace hyp := hyp.2 hc
            refine mf_aload_n (mf_dat eX12_qGoesOn_p2 45 rfl) rfl rfl ?_
            refine mf_callV (Yc := YX12_qBracket) (r := (RX12, TX12, 106)) (ci := 12) (mf_dat eX12_qGoesOn_p2 46 rfl) ml_X12_605 okX12_qBracket im_X12_qBracket sl_X12_qBracket rfl rfl rfl rfl (Nat.le_of_ble_eq_true rfl) (mf_rr (Nat.le_trans (by decide) hd) (Nat.le_refl _)) (Nat.le_refl _) is245 (hyp g14 hG) (fun r16 g17 h18 hyp => ?_)
            obtain ⟨hgg, hyp⟩ := hyp
            subst hgg
            refine mf_bipush (v := 22) (mf_dat eX12_qGoesOn_p2 47 rfl) (by decide) ?_
            refine mf_icmp_ne (tgt := 362) (mf_dat eX12_qGoesOn_p2 48 rfl) (by decide) (fun hc => ?_) (fun hc => ?_)
            · replace hyp := hyp.1 hc
              refine mf_aload_n (mf_dat eX12_qGoesOn_p3 12 rfl) rfl rfl ?_
              refine mf_callV (Yc := YX12_qBracket) (r := (RX12, TX12, 106)) (ci := 12) (mf_dat eX12_qGoesOn_p3 13 rfl) ml_X12_605 okX12_qBracket im_X12_qBracket sl_X12_qBracket rfl rfl rfl rfl (Nat.le_of_ble_eq_true rfl) (mf_rr (Nat.le_trans (by decide) hd) (Nat.le_refl _)) (Nat.le_refl _) is245 (hyp g17 hG) (fun r19 g20 h21 hyp => ?_)
              obtain ⟨hgg, hyp⟩ := hyp
              subst hgg
              refine mf_iconst (v := (-1)) (mf_dat eX12_qGoesOn_p3 14 rfl) (by decide) ?_
              refine mf_icmp_eq (tgt := 386) (mf_dat eX12_qGoesOn_p3 15 rfl) (by decide) (fun hc => ?_) (fun hc => ?_)
              · replace hyp := hyp.1 hc
                refine mf_iconst (v := 0) (mf_dat eX12_qGoesOn_p3 24 rfl) (by decide) ?_
                exact mf_ireturn (mf_dat eX12_qGoesOn_p3 25 rfl) rfl (Or.inr ⟨rfl, by decide⟩) ⟨rfl, hyp⟩
              · replace hyp := hyp.2 hc
                refine mf_aload_n (mf_dat eX12_qGoesOn_p3 16 rfl) rfl rfl ?_
                refine mf_getf (r := (RX12, TX12, 106)) (ci := 12) (k := 5) (t := 0) (v := h21 245 5) (mf_dat eX12_qGoesOn_p3 17 rfl) fl_X12_243 rfl (by decide) rfl rfl is245 ?_
                refine mf_if_ne (tgt := 386) (mf_dat eX12_qGoesOn_p3 18 rfl) (by decide) (fun hc => ?_) (fun hc => ?_)
                · replace hyp := hyp.1 hc
                  refine mf_iconst (v := 0) (mf_dat eX12_qGoesOn_p3 24 rfl) (by decide) ?_
                  exact mf_ireturn (mf_dat eX12_qGoesOn_p3 25 rfl) rfl (Or.inr ⟨rfl, by decide⟩) ⟨rfl, hyp⟩
                · replace hyp := hyp.2 hc
                  refine mf_aload_n (mf_dat eX12_qGoesOn_p3 19 rfl) rfl rfl ?_
                  refine mf_iconst (v := 1) (mf_dat eX12_qGoesOn_p3 20 rfl) (by decide) ?_
                  refine mf_aload_n (mf_dat eX12_qGoesOn_p3 21 rfl) rfl rfl ?_
                  refine mf_getf (r := (RX12, TX12, 106)) (ci := 12) (k := 2) (t := 0) (v := h21 245 2) (mf_dat eX12_qGoesOn_p3 22 rfl) fl_X12_249 rfl (by decide) rfl rfl is245 ?_
                  refine mf_callV (Yc := YX12_fail) (r := (RX12, TX12, 106)) (ci := 12) (mf_dat eX12_qGoesOn_p3 23 rfl) ml_X12_273 okX12_fail im_X12_fail sl_X12_fail rfl rfl rfl rfl (Nat.le_of_ble_eq_true rfl) (mf_rr (Nat.le_trans (by decide) hd) (Nat.le_refl _)) (Nat.le_refl _) is245 (hyp g20 hG) (fun r22 g23 h24 hyp => ?_)
                  obtain ⟨hgg, hyp⟩ := hyp
                  subst hgg
                  refine mf_iconst (v := 0) (mf_dat eX12_qGoesOn_p3 24 rfl) (by decide) ?_
                  exact mf_ireturn (mf_dat eX12_qGoesOn_p3 25 rfl) rfl (Or.inr ⟨rfl, by decide⟩) ⟨rfl, hyp⟩
            · replace hyp := hyp.2 hc
              exact mf_sub [0] rfl (hyp g17 hG)
        · replace hyp := hyp.2 hc
          exact mf_sub [0] rfl (hyp g11 hG)
    · replace hyp := hyp.2 hc
      exact mf_sub [0] rfl (hyp g5 hG)
set_option maxRecDepth 100000 in
set_option maxHeartbeats 4000000 in
theorem vX12_qGoesOn_140 {C : mf_G} {l : Launch} {d : Nat} {K : Int → mf_M → Prop} {h : mf_M} (hyp : 0 ≤ mf_w32 ((h 245 2) - 1) ∧ mf_w32 ((h 245 2) - 1) < 1600 ∧ ((¬ h 246 (mf_w32 ((h 245 2) - 1)) = 42 → BX12_qGoesOn_162 C l d K 4 h) ∧ (h 246 (mf_w32 ((h 245 2) - 1)) = 42 → BX12_qGoesOn_162 C l d K 3 h))) : BX12_qGoesOn_140 C l d K h := by
  intro g hG
  refine mf_aload_n (mf_dat eX12_qGoesOn_p1 9 rfl) rfl rfl ?_
  refine mf_getf (r := (RX12, TX12, 106)) (ci := 12) (k := 0) (t := 2) (v := 246) (mf_dat eX12_qGoesOn_p1 10 rfl) fl_X12_7 rfl (by decide) rfl (gm_0 hG) is245 ?_
  refine mf_aload_n (mf_dat eX12_qGoesOn_p1 11 rfl) rfl rfl ?_
  refine mf_getf (r := (RX12, TX12, 106)) (ci := 12) (k := 2) (t := 0) (v := h 245 2) (mf_dat eX12_qGoesOn_p1 12 rfl) fl_X12_249 rfl (by decide) rfl rfl is245 ?_
  refine mf_iconst (v := 1) (mf_dat eX12_qGoesOn_p1 13 rfl) (by decide) ?_
  refine mf_isub (mf_dat eX12_qGoesOn_p1 14 rfl) ?_
  obtain ⟨ck1, hyp⟩ := hyp
  obtain ⟨ck2, hyp⟩ := hyp
  refine mf_iald (mf_dat eX12_qGoesOn_p1 15 rfl) is246 len246 ck1 ck2 ?_
  refine mf_bipush (v := 42) (mf_dat eX12_qGoesOn_p1 16 rfl) (by decide) ?_
  refine mf_icmp_ne (tgt := 160) (mf_dat eX12_qGoesOn_p1 17 rfl) (by decide) (fun hc => ?_) (fun hc => ?_)
  · replace hyp := hyp.1 hc
    refine mf_iconst (v := 4) (mf_dat eX12_qGoesOn_p1 20 rfl) (by decide) ?_
    refine mf_istore_n (mf_dat eX12_qGoesOn_p1 21 rfl) rfl (by decide) ?_
    exact mf_sub [1, 0] rfl (hyp g hG)
  · replace hyp := hyp.2 hc
    refine mf_iconst (v := 3) (mf_dat eX12_qGoesOn_p1 18 rfl) (by decide) ?_
    refine mf_goto (tgt := 161) (mf_dat eX12_qGoesOn_p1 19 rfl) (by decide) ?_
    refine mf_istore_n (mf_dat eX12_qGoesOn_p1 21 rfl) rfl (by decide) ?_
    exact mf_sub [1, 0] rfl (hyp g hG)
set_option maxRecDepth 100000 in
set_option maxHeartbeats 4000000 in
theorem vX12_qGoesOn_162 {C : mf_G} {l : Launch} {d : Nat} {K : Int → mf_M → Prop} {x1 : Int} {h : mf_M} (hd : 2 ≤ d) (hyp : mM C l 0 YX12_qIsOn [(2, 245), (0, 3)] h (fun r1 h3 => ((¬ r1 = 0 → mM C l 1 YX12_qDrops [(2, 245)] h3 (fun r4 h6 => BX12_qGoesOn_162 C l d K x1 h6)) ∧ (r1 = 0 → mM C l 0 YX12_qIsOn [(2, 245), (0, 4)] h3 (fun r7 h9 => ((r7 = 0 → 0 ≤ h9 245 97 ∧ h9 245 97 < 1700 ∧ (∀ h12 : mf_M, h12 = mf_up h9 316 (h9 245 97) x1 → (∀ h13 : mf_M, h13 = mf_up h12 245 97 (mf_w32 ((h12 245 97) + 1)) → K 1 h13))) ∧ (¬ r7 = 0 → mM C l 1 YX12_qDrops [(2, 245)] h9 (fun r14 h16 => BX12_qGoesOn_162 C l d K x1 h16)))))))) : BX12_qGoesOn_162 C l d K x1 h := by
  intro g hG
  refine mf_aload_n (mf_dat eX12_qGoesOn_p1 22 rfl) rfl rfl ?_
  refine mf_iconst (v := 3) (mf_dat eX12_qGoesOn_p1 23 rfl) (by decide) ?_
  refine mf_callV (Yc := YX12_qIsOn) (r := (RX12, TX12, 106)) (ci := 12) (mf_dat eX12_qGoesOn_p1 24 rfl) ml_X12_611 okX12_qIsOn im_X12_qIsOn sl_X12_qIsOn rfl rfl rfl rfl (Nat.le_of_ble_eq_true rfl) (mf_rr (Nat.le_trans (by decide) hd) (Nat.le_refl _)) (Nat.le_refl _) is245 (hyp g hG) (fun r1 g2 h3 hyp => ?_)
  obtain ⟨hgg, hyp⟩ := hyp
  subst hgg
  refine mf_if_ne (tgt := 178) (mf_dat eX12_qGoesOn_p1 25 rfl) (by decide) (fun hc => ?_) (fun hc => ?_)
  · replace hyp := hyp.1 hc
    refine mf_aload_n (mf_dat eX12_qGoesOn_p1 30 rfl) rfl rfl ?_
    refine mf_callV (Yc := YX12_qDrops) (r := (RX12, TX12, 106)) (ci := 12) (mf_dat eX12_qGoesOn_p1 31 rfl) ml_X12_584 okX12_qDrops im_X12_qDrops sl_X12_qDrops rfl rfl rfl rfl (Nat.le_of_ble_eq_true rfl) (mf_rr (Nat.le_trans (by decide) hd) (Nat.le_refl _)) (Nat.le_refl _) is245 (hyp g2 hG) (fun r4 g5 h6 hyp => ?_)
    obtain ⟨hgg, hyp⟩ := hyp
    subst hgg
    refine mf_goto (tgt := 162) (mf_dat eX12_qGoesOn_p1 32 rfl) (by decide) ?_
    exact mf_sub [0, 1] rfl (hyp g5 hG)
  · replace hyp := hyp.2 hc
    refine mf_aload_n (mf_dat eX12_qGoesOn_p1 26 rfl) rfl rfl ?_
    refine mf_iconst (v := 4) (mf_dat eX12_qGoesOn_p1 27 rfl) (by decide) ?_
    refine mf_callV (Yc := YX12_qIsOn) (r := (RX12, TX12, 106)) (ci := 12) (mf_dat eX12_qGoesOn_p1 28 rfl) ml_X12_611 okX12_qIsOn im_X12_qIsOn sl_X12_qIsOn rfl rfl rfl rfl (Nat.le_of_ble_eq_true rfl) (mf_rr (Nat.le_trans (by decide) hd) (Nat.le_refl _)) (Nat.le_refl _) is245 (hyp g2 hG) (fun r7 g8 h9 hyp => ?_)
    obtain ⟨hgg, hyp⟩ := hyp
    subst hgg
    refine mf_if_eq (tgt := 185) (mf_dat eX12_qGoesOn_p1 29 rfl) (by decide) (fun hc => ?_) (fun hc => ?_)
    · replace hyp := hyp.1 hc
      refine mf_aload_n (mf_dat eX12_qGoesOn_p1 33 rfl) rfl rfl ?_
      refine mf_getf (r := (RX12, TX12, 106)) (ci := 12) (k := 96) (t := 2) (v := 316) (mf_dat eX12_qGoesOn_p1 34 rfl) fl_X12_231 rfl (by decide) rfl (gm_96 hG) is245 ?_
      refine mf_aload_n (mf_dat eX12_qGoesOn_p1 35 rfl) rfl rfl ?_
      refine mf_getf (r := (RX12, TX12, 106)) (ci := 12) (k := 97) (t := 0) (v := h9 245 97) (mf_dat eX12_qGoesOn_p1 36 rfl) fl_X12_341 rfl (by decide) rfl rfl is245 ?_
      refine mf_iload_n (mf_dat eX12_qGoesOn_p1 37 rfl) rfl rfl ?_
      obtain ⟨ck10, hyp⟩ := hyp
      obtain ⟨ck11, hyp⟩ := hyp
      refine mf_iast (mf_dat eX12_qGoesOn_p1 38 rfl) is316 len316 ck10 ck11 ?_
      generalize qh12 : mf_up h9 316 (h9 245 97) x1 = h12
      replace hyp := hyp _ qh12.symm
      refine mf_aload_n (mf_dat eX12_qGoesOn_p1 39 rfl) rfl rfl ?_
      refine mf_dup (mf_dat eX12_qGoesOn_p1 40 rfl) (by decide) ?_
      refine mf_getf (r := (RX12, TX12, 106)) (ci := 12) (k := 97) (t := 0) (v := h12 245 97) (mf_dat eX12_qGoesOn_p1 41 rfl) fl_X12_341 rfl (by decide) rfl rfl is245 ?_
      refine mf_iconst (v := 1) (mf_dat eX12_qGoesOn_p1 42 rfl) (by decide) ?_
      refine mf_iadd (mf_dat eX12_qGoesOn_p1 43 rfl) ?_
      refine mf_putI (r := (RX12, TX12, 106)) (ci := 12) (k := 97) (kI := 97) (t := 0) (mf_dat eX12_qGoesOn_p1 44 rfl) fl_X12_341 rfl rfl (by decide) rfl (by decide) rfl (by decide) (fun h9 => absurd h9 (by decide)) is245 ?_
      generalize qh13 : mf_up h12 245 97 (mf_w32 ((h12 245 97) + 1)) = h13
      replace hyp := hyp _ qh13.symm
      refine mf_iconst (v := 1) (mf_dat eX12_qGoesOn_p1 45 rfl) (by decide) ?_
      exact mf_ireturn (mf_dat eX12_qGoesOn_p1 46 rfl) rfl (Or.inr ⟨rfl, by decide⟩) ⟨rfl, hyp⟩
    · replace hyp := hyp.2 hc
      refine mf_aload_n (mf_dat eX12_qGoesOn_p1 30 rfl) rfl rfl ?_
      refine mf_callV (Yc := YX12_qDrops) (r := (RX12, TX12, 106)) (ci := 12) (mf_dat eX12_qGoesOn_p1 31 rfl) ml_X12_584 okX12_qDrops im_X12_qDrops sl_X12_qDrops rfl rfl rfl rfl (Nat.le_of_ble_eq_true rfl) (mf_rr (Nat.le_trans (by decide) hd) (Nat.le_refl _)) (Nat.le_refl _) is245 (hyp g8 hG) (fun r14 g15 h16 hyp => ?_)
      obtain ⟨hgg, hyp⟩ := hyp
      subst hgg
      refine mf_goto (tgt := 162) (mf_dat eX12_qGoesOn_p1 32 rfl) (by decide) ?_
      exact mf_sub [0, 1] rfl (hyp g15 hG)
set_option maxRecDepth 100000 in
set_option maxHeartbeats 4000000 in
theorem vX12_qGoesOn_225 {C : mf_G} {l : Launch} {d : Nat} {K : Int → mf_M → Prop} {h : mf_M} (hyp : 0 ≤ mf_w32 ((h 245 2) - 1) ∧ mf_w32 ((h 245 2) - 1) < 1600 ∧ ((¬ h 246 (mf_w32 ((h 245 2) - 1)) = 43 → BX12_qGoesOn_247 C l d K 2 h) ∧ (h 246 (mf_w32 ((h 245 2) - 1)) = 43 → BX12_qGoesOn_247 C l d K 1 h))) : BX12_qGoesOn_225 C l d K h := by
  intro g hG
  refine mf_aload_n (mf_dat eX12_qGoesOn_p1 55 rfl) rfl rfl ?_
  refine mf_getf (r := (RX12, TX12, 106)) (ci := 12) (k := 0) (t := 2) (v := 246) (mf_dat eX12_qGoesOn_p1 56 rfl) fl_X12_7 rfl (by decide) rfl (gm_0 hG) is245 ?_
  refine mf_aload_n (mf_dat eX12_qGoesOn_p1 57 rfl) rfl rfl ?_
  refine mf_getf (r := (RX12, TX12, 106)) (ci := 12) (k := 2) (t := 0) (v := h 245 2) (mf_dat eX12_qGoesOn_p1 58 rfl) fl_X12_249 rfl (by decide) rfl rfl is245 ?_
  refine mf_iconst (v := 1) (mf_dat eX12_qGoesOn_p1 59 rfl) (by decide) ?_
  refine mf_isub (mf_dat eX12_qGoesOn_p2 0 rfl) ?_
  obtain ⟨ck1, hyp⟩ := hyp
  obtain ⟨ck2, hyp⟩ := hyp
  refine mf_iald (mf_dat eX12_qGoesOn_p2 1 rfl) is246 len246 ck1 ck2 ?_
  refine mf_bipush (v := 43) (mf_dat eX12_qGoesOn_p2 2 rfl) (by decide) ?_
  refine mf_icmp_ne (tgt := 245) (mf_dat eX12_qGoesOn_p2 3 rfl) (by decide) (fun hc => ?_) (fun hc => ?_)
  · replace hyp := hyp.1 hc
    refine mf_iconst (v := 2) (mf_dat eX12_qGoesOn_p2 6 rfl) (by decide) ?_
    refine mf_istore_n (mf_dat eX12_qGoesOn_p2 7 rfl) rfl (by decide) ?_
    exact mf_sub [1, 0] rfl (hyp g hG)
  · replace hyp := hyp.2 hc
    refine mf_iconst (v := 1) (mf_dat eX12_qGoesOn_p2 4 rfl) (by decide) ?_
    refine mf_goto (tgt := 246) (mf_dat eX12_qGoesOn_p2 5 rfl) (by decide) ?_
    refine mf_istore_n (mf_dat eX12_qGoesOn_p2 7 rfl) rfl (by decide) ?_
    exact mf_sub [1, 0] rfl (hyp g hG)
set_option maxRecDepth 100000 in
set_option maxHeartbeats 4000000 in
theorem vX12_qGoesOn_247 {C : mf_G} {l : Launch} {d : Nat} {K : Int → mf_M → Prop} {x1 : Int} {h : mf_M} (hd : 2 ≤ d) (hyp : mM C l 0 YX12_qIsOn [(2, 245), (0, 3)] h (fun r1 h3 => ((¬ r1 = 0 → mM C l 1 YX12_qDrops [(2, 245)] h3 (fun r4 h6 => BX12_qGoesOn_247 C l d K x1 h6)) ∧ (r1 = 0 → mM C l 0 YX12_qIsOn [(2, 245), (0, 4)] h3 (fun r7 h9 => ((¬ r7 = 0 → mM C l 1 YX12_qDrops [(2, 245)] h9 (fun r10 h12 => BX12_qGoesOn_247 C l d K x1 h12)) ∧ (r7 = 0 → mM C l 0 YX12_qIsOn [(2, 245), (0, 1)] h9 (fun r13 h15 => ((¬ r13 = 0 → mM C l 1 YX12_qDrops [(2, 245)] h15 (fun r16 h18 => BX12_qGoesOn_247 C l d K x1 h18)) ∧ (r13 = 0 → mM C l 0 YX12_qIsOn [(2, 245), (0, 2)] h15 (fun r19 h21 => ((r19 = 0 → 0 ≤ h21 245 97 ∧ h21 245 97 < 1700 ∧ (∀ h24 : mf_M, h24 = mf_up h21 316 (h21 245 97) x1 → (∀ h25 : mf_M, h25 = mf_up h24 245 97 (mf_w32 ((h24 245 97) + 1)) → K 1 h25))) ∧ (¬ r19 = 0 → mM C l 1 YX12_qDrops [(2, 245)] h21 (fun r26 h28 => BX12_qGoesOn_247 C l d K x1 h28)))))))))))))) : BX12_qGoesOn_247 C l d K x1 h := by
  intro g hG
  refine mf_aload_n (mf_dat eX12_qGoesOn_p2 8 rfl) rfl rfl ?_
  refine mf_iconst (v := 3) (mf_dat eX12_qGoesOn_p2 9 rfl) (by decide) ?_
  refine mf_callV (Yc := YX12_qIsOn) (r := (RX12, TX12, 106)) (ci := 12) (mf_dat eX12_qGoesOn_p2 10 rfl) ml_X12_611 okX12_qIsOn im_X12_qIsOn sl_X12_qIsOn rfl rfl rfl rfl (Nat.le_of_ble_eq_true rfl) (mf_rr (Nat.le_trans (by decide) hd) (Nat.le_refl _)) (Nat.le_refl _) is245 (hyp g hG) (fun r1 g2 h3 hyp => ?_)
  obtain ⟨hgg, hyp⟩ := hyp
  subst hgg
  refine mf_if_ne (tgt := 279) (mf_dat eX12_qGoesOn_p2 11 rfl) (by decide) (fun hc => ?_) (fun hc => ?_)
  · replace hyp := hyp.1 hc
    refine mf_aload_n (mf_dat eX12_qGoesOn_p2 24 rfl) rfl rfl ?_
    refine mf_callV (Yc := YX12_qDrops) (r := (RX12, TX12, 106)) (ci := 12) (mf_dat eX12_qGoesOn_p2 25 rfl) ml_X12_584 okX12_qDrops im_X12_qDrops sl_X12_qDrops rfl rfl rfl rfl (Nat.le_of_ble_eq_true rfl) (mf_rr (Nat.le_trans (by decide) hd) (Nat.le_refl _)) (Nat.le_refl _) is245 (hyp g2 hG) (fun r4 g5 h6 hyp => ?_)
    obtain ⟨hgg, hyp⟩ := hyp
    subst hgg
    refine mf_goto (tgt := 247) (mf_dat eX12_qGoesOn_p2 26 rfl) (by decide) ?_
    exact mf_sub [0, 1] rfl (hyp g5 hG)
  · replace hyp := hyp.2 hc
    refine mf_aload_n (mf_dat eX12_qGoesOn_p2 12 rfl) rfl rfl ?_
    refine mf_iconst (v := 4) (mf_dat eX12_qGoesOn_p2 13 rfl) (by decide) ?_
    refine mf_callV (Yc := YX12_qIsOn) (r := (RX12, TX12, 106)) (ci := 12) (mf_dat eX12_qGoesOn_p2 14 rfl) ml_X12_611 okX12_qIsOn im_X12_qIsOn sl_X12_qIsOn rfl rfl rfl rfl (Nat.le_of_ble_eq_true rfl) (mf_rr (Nat.le_trans (by decide) hd) (Nat.le_refl _)) (Nat.le_refl _) is245 (hyp g2 hG) (fun r7 g8 h9 hyp => ?_)
    obtain ⟨hgg, hyp⟩ := hyp
    subst hgg
    refine mf_if_ne (tgt := 279) (mf_dat eX12_qGoesOn_p2 15 rfl) (by decide) (fun hc => ?_) (fun hc => ?_)
    · replace hyp := hyp.1 hc
      refine mf_aload_n (mf_dat eX12_qGoesOn_p2 24 rfl) rfl rfl ?_
      refine mf_callV (Yc := YX12_qDrops) (r := (RX12, TX12, 106)) (ci := 12) (mf_dat eX12_qGoesOn_p2 25 rfl) ml_X12_584 okX12_qDrops im_X12_qDrops sl_X12_qDrops rfl rfl rfl rfl (Nat.le_of_ble_eq_true rfl) (mf_rr (Nat.le_trans (by decide) hd) (Nat.le_refl _)) (Nat.le_refl _) is245 (hyp g8 hG) (fun r10 g11 h12 hyp => ?_)
      obtain ⟨hgg, hyp⟩ := hyp
      subst hgg
      refine mf_goto (tgt := 247) (mf_dat eX12_qGoesOn_p2 26 rfl) (by decide) ?_
      exact mf_sub [0, 1] rfl (hyp g11 hG)
    · replace hyp := hyp.2 hc
      refine mf_aload_n (mf_dat eX12_qGoesOn_p2 16 rfl) rfl rfl ?_
      refine mf_iconst (v := 1) (mf_dat eX12_qGoesOn_p2 17 rfl) (by decide) ?_
      refine mf_callV (Yc := YX12_qIsOn) (r := (RX12, TX12, 106)) (ci := 12) (mf_dat eX12_qGoesOn_p2 18 rfl) ml_X12_611 okX12_qIsOn im_X12_qIsOn sl_X12_qIsOn rfl rfl rfl rfl (Nat.le_of_ble_eq_true rfl) (mf_rr (Nat.le_trans (by decide) hd) (Nat.le_refl _)) (Nat.le_refl _) is245 (hyp g8 hG) (fun r13 g14 h15 hyp => ?_)
      obtain ⟨hgg, hyp⟩ := hyp
      subst hgg
      refine mf_if_ne (tgt := 279) (mf_dat eX12_qGoesOn_p2 19 rfl) (by decide) (fun hc => ?_) (fun hc => ?_)
      · replace hyp := hyp.1 hc
        refine mf_aload_n (mf_dat eX12_qGoesOn_p2 24 rfl) rfl rfl ?_
        refine mf_callV (Yc := YX12_qDrops) (r := (RX12, TX12, 106)) (ci := 12) (mf_dat eX12_qGoesOn_p2 25 rfl) ml_X12_584 okX12_qDrops im_X12_qDrops sl_X12_qDrops rfl rfl rfl rfl (Nat.le_of_ble_eq_true rfl) (mf_rr (Nat.le_trans (by decide) hd) (Nat.le_refl _)) (Nat.le_refl _) is245 (hyp g14 hG) (fun r16 g17 h18 hyp => ?_)
        obtain ⟨hgg, hyp⟩ := hyp
        subst hgg
        refine mf_goto (tgt := 247) (mf_dat eX12_qGoesOn_p2 26 rfl) (by decide) ?_
        exact mf_sub [0, 1] rfl (hyp g17 hG)
      · replace hyp := hyp.2 hc
        refine mf_aload_n (mf_dat eX12_qGoesOn_p2 20 rfl) rfl rfl ?_
        refine mf_iconst (v := 2) (mf_dat eX12_qGoesOn_p2 21 rfl) (by decide) ?_
        refine mf_callV (Yc := YX12_qIsOn) (r := (RX12, TX12, 106)) (ci := 12) (mf_dat eX12_qGoesOn_p2 22 rfl) ml_X12_611 okX12_qIsOn im_X12_qIsOn sl_X12_qIsOn rfl rfl rfl rfl (Nat.le_of_ble_eq_true rfl) (mf_rr (Nat.le_trans (by decide) hd) (Nat.le_refl _)) (Nat.le_refl _) is245 (hyp g14 hG) (fun r19 g20 h21 hyp => ?_)
        obtain ⟨hgg, hyp⟩ := hyp
        subst hgg
        refine mf_if_eq (tgt := 286) (mf_dat eX12_qGoesOn_p2 23 rfl) (by decide) (fun hc => ?_) (fun hc => ?_)
        · replace hyp := hyp.1 hc
          refine mf_aload_n (mf_dat eX12_qGoesOn_p2 27 rfl) rfl rfl ?_
          refine mf_getf (r := (RX12, TX12, 106)) (ci := 12) (k := 96) (t := 2) (v := 316) (mf_dat eX12_qGoesOn_p2 28 rfl) fl_X12_231 rfl (by decide) rfl (gm_96 hG) is245 ?_
          refine mf_aload_n (mf_dat eX12_qGoesOn_p2 29 rfl) rfl rfl ?_
          refine mf_getf (r := (RX12, TX12, 106)) (ci := 12) (k := 97) (t := 0) (v := h21 245 97) (mf_dat eX12_qGoesOn_p2 30 rfl) fl_X12_341 rfl (by decide) rfl rfl is245 ?_
          refine mf_iload_n (mf_dat eX12_qGoesOn_p2 31 rfl) rfl rfl ?_
          obtain ⟨ck22, hyp⟩ := hyp
          obtain ⟨ck23, hyp⟩ := hyp
          refine mf_iast (mf_dat eX12_qGoesOn_p2 32 rfl) is316 len316 ck22 ck23 ?_
          generalize qh24 : mf_up h21 316 (h21 245 97) x1 = h24
          replace hyp := hyp _ qh24.symm
          refine mf_aload_n (mf_dat eX12_qGoesOn_p2 33 rfl) rfl rfl ?_
          refine mf_dup (mf_dat eX12_qGoesOn_p2 34 rfl) (by decide) ?_
          refine mf_getf (r := (RX12, TX12, 106)) (ci := 12) (k := 97) (t := 0) (v := h24 245 97) (mf_dat eX12_qGoesOn_p2 35 rfl) fl_X12_341 rfl (by decide) rfl rfl is245 ?_
          refine mf_iconst (v := 1) (mf_dat eX12_qGoesOn_p2 36 rfl) (by decide) ?_
          refine mf_iadd (mf_dat eX12_qGoesOn_p2 37 rfl) ?_
          refine mf_putI (r := (RX12, TX12, 106)) (ci := 12) (k := 97) (kI := 97) (t := 0) (mf_dat eX12_qGoesOn_p2 38 rfl) fl_X12_341 rfl rfl (by decide) rfl (by decide) rfl (by decide) (fun h9 => absurd h9 (by decide)) is245 ?_
          generalize qh25 : mf_up h24 245 97 (mf_w32 ((h24 245 97) + 1)) = h25
          replace hyp := hyp _ qh25.symm
          refine mf_iconst (v := 1) (mf_dat eX12_qGoesOn_p2 39 rfl) (by decide) ?_
          exact mf_ireturn (mf_dat eX12_qGoesOn_p2 40 rfl) rfl (Or.inr ⟨rfl, by decide⟩) ⟨rfl, hyp⟩
        · replace hyp := hyp.2 hc
          refine mf_aload_n (mf_dat eX12_qGoesOn_p2 24 rfl) rfl rfl ?_
          refine mf_callV (Yc := YX12_qDrops) (r := (RX12, TX12, 106)) (ci := 12) (mf_dat eX12_qGoesOn_p2 25 rfl) ml_X12_584 okX12_qDrops im_X12_qDrops sl_X12_qDrops rfl rfl rfl rfl (Nat.le_of_ble_eq_true rfl) (mf_rr (Nat.le_trans (by decide) hd) (Nat.le_refl _)) (Nat.le_refl _) is245 (hyp g20 hG) (fun r26 g27 h28 hyp => ?_)
          obtain ⟨hgg, hyp⟩ := hyp
          subst hgg
          refine mf_goto (tgt := 247) (mf_dat eX12_qGoesOn_p2 26 rfl) (by decide) ?_
          exact mf_sub [0, 1] rfl (hyp g27 hG)
set_option maxRecDepth 100000 in
set_option maxHeartbeats 4000000 in
theorem vX12_qGoesOn_326 {C : mf_G} {l : Launch} {d : Nat} {K : Int → mf_M → Prop} {h : mf_M} (hd : 3 ≤ d) (hyp : mM C l 2 YX12_asksSign [(2, 245), (0, 44)] h (fun r1 h3 => ((h3 245 5 = 0 → mM C l 2 YX12_qDropsToBracket [(2, 245)] h3 (fun r4 h6 => 0 ≤ mf_w32 ((h6 245 97) - 1) ∧ mf_w32 ((h6 245 97) - 1) < 1700 ∧ (∀ h9 : mf_M, h9 = mf_up h6 316 (mf_w32 ((h6 245 97) - 1)) (mf_w32 ((h6 316 (mf_w32 ((h6 245 97) - 1))) + 2)) → K 1 h9))) ∧ (¬ h3 245 5 = 0 → K 0 h3)))) : BX12_qGoesOn_326 C l d K h := by
  intro g hG
  refine mf_aload_n (mf_dat eX12_qGoesOn_p2 49 rfl) rfl rfl ?_
  refine mf_bipush (v := 44) (mf_dat eX12_qGoesOn_p2 50 rfl) (by decide) ?_
  refine mf_callV (Yc := YX12_asksSign) (r := (RX12, TX12, 106)) (ci := 12) (mf_dat eX12_qGoesOn_p2 51 rfl) ml_X12_312 okX12_asksSign im_X12_asksSign sl_X12_asksSign rfl rfl rfl rfl (Nat.le_of_ble_eq_true rfl) (mf_rr (Nat.le_trans (by decide) hd) (Nat.le_refl _)) (Nat.le_refl _) is245 (hyp g hG) (fun r1 g2 h3 hyp => ?_)
  obtain ⟨hgg, hyp⟩ := hyp
  subst hgg
  refine mf_aload_n (mf_dat eX12_qGoesOn_p2 52 rfl) rfl rfl ?_
  refine mf_getf (r := (RX12, TX12, 106)) (ci := 12) (k := 5) (t := 0) (v := h3 245 5) (mf_dat eX12_qGoesOn_p2 53 rfl) fl_X12_243 rfl (by decide) rfl rfl is245 ?_
  refine mf_if_eq (tgt := 341) (mf_dat eX12_qGoesOn_p2 54 rfl) (by decide) (fun hc => ?_) (fun hc => ?_)
  · replace hyp := hyp.1 hc
    refine mf_aload_n (mf_dat eX12_qGoesOn_p2 57 rfl) rfl rfl ?_
    refine mf_callV (Yc := YX12_qDropsToBracket) (r := (RX12, TX12, 106)) (ci := 12) (mf_dat eX12_qGoesOn_p2 58 rfl) ml_X12_608 okX12_qDropsToBracket im_X12_qDropsToBracket sl_X12_qDropsToBracket rfl rfl rfl rfl (Nat.le_of_ble_eq_true rfl) (mf_rr (Nat.le_trans (by decide) hd) (Nat.le_refl _)) (Nat.le_refl _) is245 (hyp g2 hG) (fun r4 g5 h6 hyp => ?_)
    obtain ⟨hgg, hyp⟩ := hyp
    subst hgg
    refine mf_aload_n (mf_dat eX12_qGoesOn_p2 59 rfl) rfl rfl ?_
    refine mf_getf (r := (RX12, TX12, 106)) (ci := 12) (k := 96) (t := 2) (v := 316) (mf_dat eX12_qGoesOn_p3 0 rfl) fl_X12_231 rfl (by decide) rfl (gm_96 hG) is245 ?_
    refine mf_aload_n (mf_dat eX12_qGoesOn_p3 1 rfl) rfl rfl ?_
    refine mf_getf (r := (RX12, TX12, 106)) (ci := 12) (k := 97) (t := 0) (v := h6 245 97) (mf_dat eX12_qGoesOn_p3 2 rfl) fl_X12_341 rfl (by decide) rfl rfl is245 ?_
    refine mf_iconst (v := 1) (mf_dat eX12_qGoesOn_p3 3 rfl) (by decide) ?_
    refine mf_isub (mf_dat eX12_qGoesOn_p3 4 rfl) ?_
    refine mf_dup2 (mf_dat eX12_qGoesOn_p3 5 rfl) (by decide) (by decide) ?_
    obtain ⟨ck7, hyp⟩ := hyp
    obtain ⟨ck8, hyp⟩ := hyp
    refine mf_iald (mf_dat eX12_qGoesOn_p3 6 rfl) is316 len316 ck7 ck8 ?_
    refine mf_iconst (v := 2) (mf_dat eX12_qGoesOn_p3 7 rfl) (by decide) ?_
    refine mf_iadd (mf_dat eX12_qGoesOn_p3 8 rfl) ?_
    refine mf_iast (mf_dat eX12_qGoesOn_p3 9 rfl) is316 len316 ck7 ck8 ?_
    generalize qh9 : mf_up h6 316 (mf_w32 ((h6 245 97) - 1)) (mf_w32 ((h6 316 (mf_w32 ((h6 245 97) - 1))) + 2)) = h9
    replace hyp := hyp _ qh9.symm
    refine mf_iconst (v := 1) (mf_dat eX12_qGoesOn_p3 10 rfl) (by decide) ?_
    exact mf_ireturn (mf_dat eX12_qGoesOn_p3 11 rfl) rfl (Or.inr ⟨rfl, by decide⟩) ⟨rfl, hyp⟩
  · replace hyp := hyp.2 hc
    refine mf_iconst (v := 0) (mf_dat eX12_qGoesOn_p2 55 rfl) (by decide) ?_
    exact mf_ireturn (mf_dat eX12_qGoesOn_p2 56 rfl) rfl (Or.inr ⟨rfl, by decide⟩) ⟨rfl, hyp⟩
set_option maxRecDepth 100000 in
set_option maxHeartbeats 4000000 in
theorem wX12_qGoesOn {C : mf_G} {l : Launch} {d : Nat} {K : Int → mf_M → Prop} {h : mf_M} (hyp : BX12_qGoesOn_0 C l d K h) : mM C l d YX12_qGoesOn [(2, 245)] h K := by
  intro g hG
  refine mf_entry (by decide) (Nat.le_of_ble_eq_true rfl) ?_
  exact mf_sub [0] rfl (hyp g hG)
abbrev BX12_qSums_15 (C : mf_G) (l : Launch) (d : Nat) (K : Int → mf_M → Prop) (x1 x2 : Int) (h : mf_M) : Prop := jM C l d YX12_qSums K 15 [(0, (2, 245)), (1, (0, x1)), (2, (0, x2))] [] h
abbrev BX12_qSums_53 (C : mf_G) (l : Launch) (d : Nat) (K : Int → mf_M → Prop) (x1 : Int) (h : mf_M) : Prop := jM C l d YX12_qSums K 53 [(0, (2, 245)), (1, (0, x1))] [] h
set_option maxRecDepth 100000 in
set_option maxHeartbeats 4000000 in
theorem vX12_qSums_15 {C : mf_G} {l : Launch} {d : Nat} {K : Int → mf_M → Prop} {x1 x2 : Int} {h : mf_M} (hd : 6 ≤ d) (hyp : ((x2 = 0 → BX12_qSums_53 C l d K x1 h) ∧ (¬ x2 = 0 → ((¬ h 245 5 = 0 → BX12_qSums_53 C l d K x1 h) ∧ (h 245 5 = 0 → mM C l 5 YX12_qPartTold [(2, 245)] h (fun r1 h3 => ((¬ h3 245 5 = 0 → BX12_qSums_15 C l d K x1 0 h3) ∧ (h3 245 5 = 0 → mM C l 3 YX12_qGoesOn [(2, 245)] h3 (fun r4 h6 => ((r4 = 0 → BX12_qSums_15 C l d K x1 0 h6) ∧ (¬ r4 = 0 → BX12_qSums_15 C l d K x1 1 h6))))))))))) : BX12_qSums_15 C l d K x1 x2 h := by
  intro g hG
  refine mf_iload_n (mf_dat eX12_qSums 9 rfl) rfl rfl ?_
  refine mf_if_eq (tgt := 53) (mf_dat eX12_qSums 10 rfl) (by decide) (fun hc => ?_) (fun hc => ?_)
  · replace hyp := hyp.1 hc
    exact mf_sub [0, 1] rfl (hyp g hG)
  · replace hyp := hyp.2 hc
    refine mf_aload_n (mf_dat eX12_qSums 11 rfl) rfl rfl ?_
    refine mf_getf (r := (RX12, TX12, 106)) (ci := 12) (k := 5) (t := 0) (v := h 245 5) (mf_dat eX12_qSums 12 rfl) fl_X12_243 rfl (by decide) rfl rfl is245 ?_
    refine mf_if_ne (tgt := 53) (mf_dat eX12_qSums 13 rfl) (by decide) (fun hc => ?_) (fun hc => ?_)
    · replace hyp := hyp.1 hc
      exact mf_sub [0, 1] rfl (hyp g hG)
    · replace hyp := hyp.2 hc
      refine mf_aload_n (mf_dat eX12_qSums 14 rfl) rfl rfl ?_
      refine mf_callV (Yc := YX12_qPartTold) (r := (RX12, TX12, 106)) (ci := 12) (mf_dat eX12_qSums 15 rfl) ml_X12_614 okX12_qPartTold im_X12_qPartTold sl_X12_qPartTold rfl rfl rfl rfl (Nat.le_of_ble_eq_true rfl) (mf_rr (Nat.le_trans (by decide) hd) (Nat.le_refl _)) (Nat.le_refl _) is245 (hyp g hG) (fun r1 g2 h3 hyp => ?_)
      obtain ⟨hgg, hyp⟩ := hyp
      subst hgg
      refine mf_aload_n (mf_dat eX12_qSums 16 rfl) rfl rfl ?_
      refine mf_getf (r := (RX12, TX12, 106)) (ci := 12) (k := 5) (t := 0) (v := h3 245 5) (mf_dat eX12_qSums 17 rfl) fl_X12_243 rfl (by decide) rfl rfl is245 ?_
      refine mf_if_ne (tgt := 48) (mf_dat eX12_qSums 18 rfl) (by decide) (fun hc => ?_) (fun hc => ?_)
      · replace hyp := hyp.1 hc
        refine mf_iconst (v := 0) (mf_dat eX12_qSums 24 rfl) (by decide) ?_
        refine mf_istore_n (mf_dat eX12_qSums 25 rfl) rfl (by decide) ?_
        refine mf_goto (tgt := 15) (mf_dat eX12_qSums 26 rfl) (by decide) ?_
        exact mf_sub [1, 2, 0] rfl (hyp g2 hG)
      · replace hyp := hyp.2 hc
        refine mf_aload_n (mf_dat eX12_qSums 19 rfl) rfl rfl ?_
        refine mf_callV (Yc := YX12_qGoesOn) (r := (RX12, TX12, 106)) (ci := 12) (mf_dat eX12_qSums 20 rfl) ml_X12_617 okX12_qGoesOn im_X12_qGoesOn sl_X12_qGoesOn rfl rfl rfl rfl (Nat.le_of_ble_eq_true rfl) (mf_rr (Nat.le_trans (by decide) hd) (Nat.le_refl _)) (Nat.le_refl _) is245 (hyp g2 hG) (fun r4 g5 h6 hyp => ?_)
        obtain ⟨hgg, hyp⟩ := hyp
        subst hgg
        refine mf_if_eq (tgt := 48) (mf_dat eX12_qSums 21 rfl) (by decide) (fun hc => ?_) (fun hc => ?_)
        · replace hyp := hyp.1 hc
          refine mf_iconst (v := 0) (mf_dat eX12_qSums 24 rfl) (by decide) ?_
          refine mf_istore_n (mf_dat eX12_qSums 25 rfl) rfl (by decide) ?_
          refine mf_goto (tgt := 15) (mf_dat eX12_qSums 26 rfl) (by decide) ?_
          exact mf_sub [1, 2, 0] rfl (hyp g5 hG)
        · replace hyp := hyp.2 hc
          refine mf_iconst (v := 1) (mf_dat eX12_qSums 22 rfl) (by decide) ?_
          refine mf_goto (tgt := 49) (mf_dat eX12_qSums 23 rfl) (by decide) ?_
          refine mf_istore_n (mf_dat eX12_qSums 25 rfl) rfl (by decide) ?_
          refine mf_goto (tgt := 15) (mf_dat eX12_qSums 26 rfl) (by decide) ?_
          exact mf_sub [1, 2, 0] rfl (hyp g5 hG)
set_option maxRecDepth 100000 in
set_option maxHeartbeats 4000000 in
theorem vX12_qSums_53 {C : mf_G} {l : Launch} {d : Nat} {K : Int → mf_M → Prop} {x1 : Int} {h : mf_M} (hd : 2 ≤ d) (hyp : ((¬ h 245 5 = 0 → (∀ h1 : mf_M, h1 = mf_up h 245 99 x1 → K 0 h1)) ∧ (h 245 5 = 0 → ((h 245 97 ≤ h 245 99 → (∀ h2 : mf_M, h2 = mf_up h 245 99 x1 → K 0 h2)) ∧ (¬ h 245 97 ≤ h 245 99 → mM C l 1 YX12_qDrops [(2, 245)] h (fun r3 h5 => BX12_qSums_53 C l d K x1 h5)))))) : BX12_qSums_53 C l d K x1 h := by
  intro g hG
  refine mf_aload_n (mf_dat eX12_qSums 27 rfl) rfl rfl ?_
  refine mf_getf (r := (RX12, TX12, 106)) (ci := 12) (k := 5) (t := 0) (v := h 245 5) (mf_dat eX12_qSums 28 rfl) fl_X12_243 rfl (by decide) rfl rfl is245 ?_
  refine mf_if_ne (tgt := 78) (mf_dat eX12_qSums 29 rfl) (by decide) (fun hc => ?_) (fun hc => ?_)
  · replace hyp := hyp.1 hc
    refine mf_aload_n (mf_dat eX12_qSums 38 rfl) rfl rfl ?_
    refine mf_iload_n (mf_dat eX12_qSums 39 rfl) rfl rfl ?_
    refine mf_putI (r := (RX12, TX12, 106)) (ci := 12) (k := 99) (kI := 99) (t := 0) (mf_dat eX12_qSums 40 rfl) fl_X12_347 rfl rfl (by decide) rfl (by decide) rfl (by decide) (fun h9 => absurd h9 (by decide)) is245 ?_
    generalize qh1 : mf_up h 245 99 x1 = h1
    replace hyp := hyp _ qh1.symm
    exact mf_return (mf_dat eX12_qSums 41 rfl) rfl ⟨rfl, hyp⟩
  · replace hyp := hyp.2 hc
    refine mf_aload_n (mf_dat eX12_qSums 30 rfl) rfl rfl ?_
    refine mf_getf (r := (RX12, TX12, 106)) (ci := 12) (k := 97) (t := 0) (v := h 245 97) (mf_dat eX12_qSums 31 rfl) fl_X12_341 rfl (by decide) rfl rfl is245 ?_
    refine mf_aload_n (mf_dat eX12_qSums 32 rfl) rfl rfl ?_
    refine mf_getf (r := (RX12, TX12, 106)) (ci := 12) (k := 99) (t := 0) (v := h 245 99) (mf_dat eX12_qSums 33 rfl) fl_X12_347 rfl (by decide) rfl rfl is245 ?_
    refine mf_icmp_le (tgt := 78) (mf_dat eX12_qSums 34 rfl) (by decide) (fun hc => ?_) (fun hc => ?_)
    · replace hyp := hyp.1 hc
      refine mf_aload_n (mf_dat eX12_qSums 38 rfl) rfl rfl ?_
      refine mf_iload_n (mf_dat eX12_qSums 39 rfl) rfl rfl ?_
      refine mf_putI (r := (RX12, TX12, 106)) (ci := 12) (k := 99) (kI := 99) (t := 0) (mf_dat eX12_qSums 40 rfl) fl_X12_347 rfl rfl (by decide) rfl (by decide) rfl (by decide) (fun h9 => absurd h9 (by decide)) is245 ?_
      generalize qh2 : mf_up h 245 99 x1 = h2
      replace hyp := hyp _ qh2.symm
      exact mf_return (mf_dat eX12_qSums 41 rfl) rfl ⟨rfl, hyp⟩
    · replace hyp := hyp.2 hc
      refine mf_aload_n (mf_dat eX12_qSums 35 rfl) rfl rfl ?_
      refine mf_callV (Yc := YX12_qDrops) (r := (RX12, TX12, 106)) (ci := 12) (mf_dat eX12_qSums 36 rfl) ml_X12_584 okX12_qDrops im_X12_qDrops sl_X12_qDrops rfl rfl rfl rfl (Nat.le_of_ble_eq_true rfl) (mf_rr (Nat.le_trans (by decide) hd) (Nat.le_refl _)) (Nat.le_refl _) is245 (hyp g hG) (fun r3 g4 h5 hyp => ?_)
      obtain ⟨hgg, hyp⟩ := hyp
      subst hgg
      refine mf_goto (tgt := 53) (mf_dat eX12_qSums 37 rfl) (by decide) ?_
      exact mf_sub [0, 1] rfl (hyp g4 hG)
set_option maxRecDepth 100000 in
set_option maxHeartbeats 4000000 in
theorem wX12_qSums {C : mf_G} {l : Launch} {d : Nat} {K : Int → mf_M → Prop} {h : mf_M} (hyp : (∀ v1 : Int, v1 = h 245 99 → (∀ h2 : mf_M, h2 = mf_up h 245 99 (h 245 97) → BX12_qSums_15 C l d K v1 1 h2))) : mM C l d YX12_qSums [(2, 245)] h K := by
  intro g hG
  refine mf_entry (by decide) (Nat.le_of_ble_eq_true rfl) ?_
  refine mf_aload_n (mf_dat eX12_qSums 0 rfl) rfl rfl ?_
  refine mf_getf (r := (RX12, TX12, 106)) (ci := 12) (k := 99) (t := 0) (v := h 245 99) (mf_dat eX12_qSums 1 rfl) fl_X12_347 rfl (by decide) rfl rfl is245 ?_
  generalize qv1 : h 245 99 = v1
  replace hyp := hyp _ qv1.symm
  refine mf_istore_n (mf_dat eX12_qSums 2 rfl) rfl (by decide) ?_
  refine mf_aload_n (mf_dat eX12_qSums 3 rfl) rfl rfl ?_
  refine mf_aload_n (mf_dat eX12_qSums 4 rfl) rfl rfl ?_
  refine mf_getf (r := (RX12, TX12, 106)) (ci := 12) (k := 97) (t := 0) (v := h 245 97) (mf_dat eX12_qSums 5 rfl) fl_X12_341 rfl (by decide) rfl rfl is245 ?_
  refine mf_putI (r := (RX12, TX12, 106)) (ci := 12) (k := 99) (kI := 99) (t := 0) (mf_dat eX12_qSums 6 rfl) fl_X12_347 rfl rfl (by decide) rfl (by decide) rfl (by decide) (fun h9 => absurd h9 (by decide)) is245 ?_
  generalize qh2 : mf_up h 245 99 (h 245 97) = h2
  replace hyp := hyp _ qh2.symm
  refine mf_iconst (v := 1) (mf_dat eX12_qSums 7 rfl) (by decide) ?_
  refine mf_istore_n (mf_dat eX12_qSums 8 rfl) rfl (by decide) ?_
  exact mf_sub [2, 1, 0] rfl (hyp g hG)
abbrev BX12_qFact_63 (C : mf_G) (l : Launch) (d : Nat) (K : Int → mf_M → Prop) (x1 : Int) (h : mf_M) : Prop := jM C l d YX12_qFact K 63 [(0, (2, 245)), (1, (0, x1))] [] h
set_option maxRecDepth 100000 in
set_option maxHeartbeats 4000000 in
theorem vX12_qFact_63 {C : mf_G} {l : Launch} {d : Nat} {K : Int → mf_M → Prop} {x1 : Int} {h : mf_M} (hd : 7 ≤ d) (hyp : (∀ h1 : mf_M, h1 = mf_up h 245 2 (mf_w32 ((h 245 2) + 1)) → mM C l 6 YX12_qSums [(2, 245)] h1 (fun r2 h4 => ((¬ x1 = 60 → ((¬ x1 = 62 → mM C l 0 YX12_qCode [(2, 245), (0, 9)] h4 (fun r5 h7 => K 0 h7)) ∧ (x1 = 62 → mM C l 0 YX12_qCode [(2, 245), (0, 8)] h4 (fun r8 h10 => K 0 h10)))) ∧ (x1 = 60 → mM C l 0 YX12_qCode [(2, 245), (0, 7)] h4 (fun r11 h13 => K 0 h13)))))) : BX12_qFact_63 C l d K x1 h := by
  intro g hG
  refine mf_aload_n (mf_dat eX12_qFact 33 rfl) rfl rfl ?_
  refine mf_dup (mf_dat eX12_qFact 34 rfl) (by decide) ?_
  refine mf_getf (r := (RX12, TX12, 106)) (ci := 12) (k := 2) (t := 0) (v := h 245 2) (mf_dat eX12_qFact 35 rfl) fl_X12_249 rfl (by decide) rfl rfl is245 ?_
  refine mf_iconst (v := 1) (mf_dat eX12_qFact 36 rfl) (by decide) ?_
  refine mf_iadd (mf_dat eX12_qFact 37 rfl) ?_
  refine mf_putI (r := (RX12, TX12, 106)) (ci := 12) (k := 2) (kI := 2) (t := 0) (mf_dat eX12_qFact 38 rfl) fl_X12_249 rfl rfl (by decide) rfl (by decide) rfl (by decide) (fun h9 => absurd h9 (by decide)) is245 ?_
  generalize qh1 : mf_up h 245 2 (mf_w32 ((h 245 2) + 1)) = h1
  replace hyp := hyp _ qh1.symm
  refine mf_aload_n (mf_dat eX12_qFact 39 rfl) rfl rfl ?_
  refine mf_callV (Yc := YX12_qSums) (r := (RX12, TX12, 106)) (ci := 12) (mf_dat eX12_qFact 40 rfl) ml_X12_353 okX12_qSums im_X12_qSums sl_X12_qSums rfl rfl rfl rfl (Nat.le_of_ble_eq_true rfl) (mf_rr (Nat.le_trans (by decide) hd) (Nat.le_refl _)) (Nat.le_refl _) is245 (hyp g hG) (fun r2 g3 h4 hyp => ?_)
  obtain ⟨hgg, hyp⟩ := hyp
  subst hgg
  refine mf_aload_n (mf_dat eX12_qFact 41 rfl) rfl rfl ?_
  refine mf_iload_n (mf_dat eX12_qFact 42 rfl) rfl rfl ?_
  refine mf_bipush (v := 60) (mf_dat eX12_qFact 43 rfl) (by decide) ?_
  refine mf_icmp_ne (tgt := 89) (mf_dat eX12_qFact 44 rfl) (by decide) (fun hc => ?_) (fun hc => ?_)
  · replace hyp := hyp.1 hc
    refine mf_iload_n (mf_dat eX12_qFact 47 rfl) rfl rfl ?_
    refine mf_bipush (v := 62) (mf_dat eX12_qFact 48 rfl) (by decide) ?_
    refine mf_icmp_ne (tgt := 100) (mf_dat eX12_qFact 49 rfl) (by decide) (fun hc => ?_) (fun hc => ?_)
    · replace hyp := hyp.1 hc
      refine mf_bipush (v := 9) (mf_dat eX12_qFact 52 rfl) (by decide) ?_
      refine mf_callV (Yc := YX12_qCode) (r := (RX12, TX12, 106)) (ci := 12) (mf_dat eX12_qFact 53 rfl) ml_X12_578 okX12_qCode im_X12_qCode sl_X12_qCode rfl rfl rfl rfl (Nat.le_of_ble_eq_true rfl) (mf_rr (Nat.le_trans (by decide) hd) (Nat.le_refl _)) (Nat.le_refl _) is245 (hyp g3 hG) (fun r5 g6 h7 hyp => ?_)
      obtain ⟨hgg, hyp⟩ := hyp
      subst hgg
      exact mf_return (mf_dat eX12_qFact 54 rfl) rfl ⟨rfl, hyp⟩
    · replace hyp := hyp.2 hc
      refine mf_bipush (v := 8) (mf_dat eX12_qFact 50 rfl) (by decide) ?_
      refine mf_goto (tgt := 102) (mf_dat eX12_qFact 51 rfl) (by decide) ?_
      refine mf_callV (Yc := YX12_qCode) (r := (RX12, TX12, 106)) (ci := 12) (mf_dat eX12_qFact 53 rfl) ml_X12_578 okX12_qCode im_X12_qCode sl_X12_qCode rfl rfl rfl rfl (Nat.le_of_ble_eq_true rfl) (mf_rr (Nat.le_trans (by decide) hd) (Nat.le_refl _)) (Nat.le_refl _) is245 (hyp g3 hG) (fun r8 g9 h10 hyp => ?_)
      obtain ⟨hgg, hyp⟩ := hyp
      subst hgg
      exact mf_return (mf_dat eX12_qFact 54 rfl) rfl ⟨rfl, hyp⟩
  · replace hyp := hyp.2 hc
    refine mf_bipush (v := 7) (mf_dat eX12_qFact 45 rfl) (by decide) ?_
    refine mf_goto (tgt := 102) (mf_dat eX12_qFact 46 rfl) (by decide) ?_
    refine mf_callV (Yc := YX12_qCode) (r := (RX12, TX12, 106)) (ci := 12) (mf_dat eX12_qFact 53 rfl) ml_X12_578 okX12_qCode im_X12_qCode sl_X12_qCode rfl rfl rfl rfl (Nat.le_of_ble_eq_true rfl) (mf_rr (Nat.le_trans (by decide) hd) (Nat.le_refl _)) (Nat.le_refl _) is245 (hyp g3 hG) (fun r11 g12 h13 hyp => ?_)
    obtain ⟨hgg, hyp⟩ := hyp
    subst hgg
    exact mf_return (mf_dat eX12_qFact 54 rfl) rfl ⟨rfl, hyp⟩
set_option maxRecDepth 100000 in
set_option maxHeartbeats 4000000 in
theorem wX12_qFact {C : mf_G} {l : Launch} {d : Nat} {K : Int → mf_M → Prop} {h : mf_M} (hd : 7 ≤ d) (hyp : mM C l 2 YX12_takes [(2, 245), (2, 302)] h (fun r1 h3 => ((r1 = 0 → mM C l 6 YX12_qSums [(2, 245)] h3 (fun r4 h6 => ((h6 245 5 = 0 → mM C l 0 YX12_look [(2, 245)] h6 (fun r7 h9 => ((r7 = 60 → BX12_qFact_63 C l d K r7 h9) ∧ (¬ r7 = 60 → ((r7 = 62 → BX12_qFact_63 C l d K r7 h9) ∧ (¬ r7 = 62 → ((r7 = 61 → BX12_qFact_63 C l d K r7 h9) ∧ (¬ r7 = 61 → mM C l 0 YX12_fail [(2, 245), (0, 1), (0, h9 245 2)] h9 (fun r10 h12 => K 0 h12))))))))) ∧ (¬ h6 245 5 = 0 → K 0 h6)))) ∧ (¬ r1 = 0 → mM C l 0 YX12_qCode [(2, 245), (0, 13)] h3 (fun r13 h15 => K 0 h15))))) : mM C l d YX12_qFact [(2, 245)] h K := by
  intro g hG
  refine mf_entry (by decide) (Nat.le_of_ble_eq_true rfl) ?_
  refine mf_aload_n (mf_dat eX12_qFact 0 rfl) rfl rfl ?_
  refine mf_aload_n (mf_dat eX12_qFact 1 rfl) rfl rfl ?_
  refine mf_getf (r := (RX12, TX12, 106)) (ci := 12) (k := 81) (t := 2) (v := 302) (mf_dat eX12_qFact 2 rfl) fl_X12_189 rfl (by decide) rfl (gm_81 hG) is245 ?_
  refine mf_callV (Yc := YX12_takes) (r := (RX12, TX12, 106)) (ci := 12) (mf_dat eX12_qFact 3 rfl) ml_X12_270 okX12_takes im_X12_takes sl_X12_takes rfl rfl rfl rfl (Nat.le_of_ble_eq_true rfl) (mf_rr (Nat.le_trans (by decide) hd) (Nat.le_refl _)) (Nat.le_refl _) is245 (hyp g hG) (fun r1 g2 h3 hyp => ?_)
  obtain ⟨hgg, hyp⟩ := hyp
  subst hgg
  refine mf_if_eq (tgt := 18) (mf_dat eX12_qFact 4 rfl) (by decide) (fun hc => ?_) (fun hc => ?_)
  · replace hyp := hyp.1 hc
    refine mf_aload_n (mf_dat eX12_qFact 9 rfl) rfl rfl ?_
    refine mf_callV (Yc := YX12_qSums) (r := (RX12, TX12, 106)) (ci := 12) (mf_dat eX12_qFact 10 rfl) ml_X12_353 okX12_qSums im_X12_qSums sl_X12_qSums rfl rfl rfl rfl (Nat.le_of_ble_eq_true rfl) (mf_rr (Nat.le_trans (by decide) hd) (Nat.le_refl _)) (Nat.le_refl _) is245 (hyp g2 hG) (fun r4 g5 h6 hyp => ?_)
    obtain ⟨hgg, hyp⟩ := hyp
    subst hgg
    refine mf_aload_n (mf_dat eX12_qFact 11 rfl) rfl rfl ?_
    refine mf_getf (r := (RX12, TX12, 106)) (ci := 12) (k := 5) (t := 0) (v := h6 245 5) (mf_dat eX12_qFact 12 rfl) fl_X12_243 rfl (by decide) rfl rfl is245 ?_
    refine mf_if_eq (tgt := 30) (mf_dat eX12_qFact 13 rfl) (by decide) (fun hc => ?_) (fun hc => ?_)
    · replace hyp := hyp.1 hc
      refine mf_aload_n (mf_dat eX12_qFact 15 rfl) rfl rfl ?_
      refine mf_callV (Yc := YX12_look) (r := (RX12, TX12, 106)) (ci := 12) (mf_dat eX12_qFact 16 rfl) ml_X12_255 okX12_look im_X12_look sl_X12_look rfl rfl rfl rfl (Nat.le_of_ble_eq_true rfl) (mf_rr (Nat.le_trans (by decide) hd) (Nat.le_refl _)) (Nat.le_refl _) is245 (hyp g5 hG) (fun r7 g8 h9 hyp => ?_)
      obtain ⟨hgg, hyp⟩ := hyp
      subst hgg
      refine mf_istore_n (mf_dat eX12_qFact 17 rfl) rfl (by decide) ?_
      refine mf_iload_n (mf_dat eX12_qFact 18 rfl) rfl rfl ?_
      refine mf_bipush (v := 60) (mf_dat eX12_qFact 19 rfl) (by decide) ?_
      refine mf_icmp_eq (tgt := 63) (mf_dat eX12_qFact 20 rfl) (by decide) (fun hc => ?_) (fun hc => ?_)
      · replace hyp := hyp.1 hc
        exact mf_sub [1, 0] rfl (hyp g8 hG)
      · replace hyp := hyp.2 hc
        refine mf_iload_n (mf_dat eX12_qFact 21 rfl) rfl rfl ?_
        refine mf_bipush (v := 62) (mf_dat eX12_qFact 22 rfl) (by decide) ?_
        refine mf_icmp_eq (tgt := 63) (mf_dat eX12_qFact 23 rfl) (by decide) (fun hc => ?_) (fun hc => ?_)
        · replace hyp := hyp.1 hc
          exact mf_sub [1, 0] rfl (hyp g8 hG)
        · replace hyp := hyp.2 hc
          refine mf_iload_n (mf_dat eX12_qFact 24 rfl) rfl rfl ?_
          refine mf_bipush (v := 61) (mf_dat eX12_qFact 25 rfl) (by decide) ?_
          refine mf_icmp_eq (tgt := 63) (mf_dat eX12_qFact 26 rfl) (by decide) (fun hc => ?_) (fun hc => ?_)
          · replace hyp := hyp.1 hc
            exact mf_sub [1, 0] rfl (hyp g8 hG)
          · replace hyp := hyp.2 hc
            refine mf_aload_n (mf_dat eX12_qFact 27 rfl) rfl rfl ?_
            refine mf_iconst (v := 1) (mf_dat eX12_qFact 28 rfl) (by decide) ?_
            refine mf_aload_n (mf_dat eX12_qFact 29 rfl) rfl rfl ?_
            refine mf_getf (r := (RX12, TX12, 106)) (ci := 12) (k := 2) (t := 0) (v := h9 245 2) (mf_dat eX12_qFact 30 rfl) fl_X12_249 rfl (by decide) rfl rfl is245 ?_
            refine mf_callV (Yc := YX12_fail) (r := (RX12, TX12, 106)) (ci := 12) (mf_dat eX12_qFact 31 rfl) ml_X12_273 okX12_fail im_X12_fail sl_X12_fail rfl rfl rfl rfl (Nat.le_of_ble_eq_true rfl) (mf_rr (Nat.le_trans (by decide) hd) (Nat.le_refl _)) (Nat.le_refl _) is245 (hyp g8 hG) (fun r10 g11 h12 hyp => ?_)
            obtain ⟨hgg, hyp⟩ := hyp
            subst hgg
            exact mf_return (mf_dat eX12_qFact 32 rfl) rfl ⟨rfl, hyp⟩
    · replace hyp := hyp.2 hc
      exact mf_return (mf_dat eX12_qFact 14 rfl) rfl ⟨rfl, hyp⟩
  · replace hyp := hyp.2 hc
    refine mf_aload_n (mf_dat eX12_qFact 5 rfl) rfl rfl ?_
    refine mf_bipush (v := 13) (mf_dat eX12_qFact 6 rfl) (by decide) ?_
    refine mf_callV (Yc := YX12_qCode) (r := (RX12, TX12, 106)) (ci := 12) (mf_dat eX12_qFact 7 rfl) ml_X12_578 okX12_qCode im_X12_qCode sl_X12_qCode rfl rfl rfl rfl (Nat.le_of_ble_eq_true rfl) (mf_rr (Nat.le_trans (by decide) hd) (Nat.le_refl _)) (Nat.le_refl _) is245 (hyp g2 hG) (fun r13 g14 h15 hyp => ?_)
    obtain ⟨hgg, hyp⟩ := hyp
    subst hgg
    exact mf_return (mf_dat eX12_qFact 8 rfl) rfl ⟨rfl, hyp⟩
abbrev BX12_qHasSquare_2 (C : mf_G) (l : Launch) (d : Nat) (K : Int → mf_M → Prop) (x1 : Int) (h : mf_M) : Prop := jM C l d YX12_qHasSquare K 2 [(0, (2, 245)), (1, (0, x1))] [] h
set_option maxRecDepth 100000 in
set_option maxHeartbeats 4000000 in
theorem vX12_qHasSquare_2 {C : mf_G} {l : Launch} {d : Nat} {K : Int → mf_M → Prop} {x1 : Int} {h : mf_M} (hyp : ((h 245 97 ≤ x1 → K 0 h) ∧ (¬ h 245 97 ≤ x1 → 0 ≤ x1 ∧ x1 < 1700 ∧ ((¬ h 316 x1 = 25 → (∀ v3 : Int, v3 = mf_w32 (x1 + 1) → BX12_qHasSquare_2 C l d K v3 h)) ∧ (h 316 x1 = 25 → K 1 h))))) : BX12_qHasSquare_2 C l d K x1 h := by
  intro g hG
  refine mf_iload_n (mf_dat eX12_qHasSquare 2 rfl) rfl rfl ?_
  refine mf_aload_n (mf_dat eX12_qHasSquare 3 rfl) rfl rfl ?_
  refine mf_getf (r := (RX12, TX12, 106)) (ci := 12) (k := 97) (t := 0) (v := h 245 97) (mf_dat eX12_qHasSquare 4 rfl) fl_X12_341 rfl (by decide) rfl rfl is245 ?_
  refine mf_icmp_ge (tgt := 29) (mf_dat eX12_qHasSquare 5 rfl) (by decide) (fun hc => ?_) (fun hc => ?_)
  · replace hyp := hyp.1 hc
    refine mf_iconst (v := 0) (mf_dat eX12_qHasSquare 16 rfl) (by decide) ?_
    exact mf_ireturn (mf_dat eX12_qHasSquare 17 rfl) rfl (Or.inr ⟨rfl, by decide⟩) ⟨rfl, hyp⟩
  · replace hyp := hyp.2 hc
    refine mf_aload_n (mf_dat eX12_qHasSquare 6 rfl) rfl rfl ?_
    refine mf_getf (r := (RX12, TX12, 106)) (ci := 12) (k := 96) (t := 2) (v := 316) (mf_dat eX12_qHasSquare 7 rfl) fl_X12_231 rfl (by decide) rfl (gm_96 hG) is245 ?_
    refine mf_iload_n (mf_dat eX12_qHasSquare 8 rfl) rfl rfl ?_
    obtain ⟨ck1, hyp⟩ := hyp
    obtain ⟨ck2, hyp⟩ := hyp
    refine mf_iald (mf_dat eX12_qHasSquare 9 rfl) is316 len316 ck1 ck2 ?_
    refine mf_bipush (v := 25) (mf_dat eX12_qHasSquare 10 rfl) (by decide) ?_
    refine mf_icmp_ne (tgt := 23) (mf_dat eX12_qHasSquare 11 rfl) (by decide) (fun hc => ?_) (fun hc => ?_)
    · replace hyp := hyp.1 hc
      refine mf_iinc (mf_dat eX12_qHasSquare 14 rfl) rfl (by decide) (by decide) ?_
      generalize qv3 : mf_w32 (x1 + 1) = v3
      replace hyp := hyp _ qv3.symm
      refine mf_goto (tgt := 2) (mf_dat eX12_qHasSquare 15 rfl) (by decide) ?_
      exact mf_sub [1, 0] rfl (hyp g hG)
    · replace hyp := hyp.2 hc
      refine mf_iconst (v := 1) (mf_dat eX12_qHasSquare 12 rfl) (by decide) ?_
      exact mf_ireturn (mf_dat eX12_qHasSquare 13 rfl) rfl (Or.inr ⟨rfl, by decide⟩) ⟨rfl, hyp⟩
set_option maxRecDepth 100000 in
set_option maxHeartbeats 4000000 in
theorem wX12_qHasSquare {C : mf_G} {l : Launch} {d : Nat} {K : Int → mf_M → Prop} {h : mf_M} (hyp : BX12_qHasSquare_2 C l d K 0 h) : mM C l d YX12_qHasSquare [(2, 245)] h K := by
  intro g hG
  refine mf_entry (by decide) (Nat.le_of_ble_eq_true rfl) ?_
  refine mf_iconst (v := 0) (mf_dat eX12_qHasSquare 0 rfl) (by decide) ?_
  refine mf_istore_n (mf_dat eX12_qHasSquare 1 rfl) rfl (by decide) ?_
  exact mf_sub [1, 0] rfl (hyp g hG)
abbrev BX12_qDropsNots_0 (C : mf_G) (l : Launch) (d : Nat) (K : Int → mf_M → Prop) (h : mf_M) : Prop := jM C l d YX12_qDropsNots K 0 [(0, (2, 245))] [] h
set_option maxRecDepth 100000 in
set_option maxHeartbeats 4000000 in
theorem vX12_qDropsNots_0 {C : mf_G} {l : Launch} {d : Nat} {K : Int → mf_M → Prop} {h : mf_M} (hd : 2 ≤ d) (hyp : ((¬ h 245 5 = 0 → K 0 h) ∧ (h 245 5 = 0 → mM C l 0 YX12_qIsOn [(2, 245), (0, 12)] h (fun r1 h3 => ((r1 = 0 → K 0 h3) ∧ (¬ r1 = 0 → (∀ h4 : mf_M, h4 = mf_up h3 245 98 (mf_w32 ((h3 245 98) - 1)) → mM C l 1 YX12_qDrops [(2, 245)] h4 (fun r5 h7 => BX12_qDropsNots_0 C l d K h7)))))))) : BX12_qDropsNots_0 C l d K h := by
  intro g hG
  refine mf_aload_n (mf_dat eX12_qDropsNots 0 rfl) rfl rfl ?_
  refine mf_getf (r := (RX12, TX12, 106)) (ci := 12) (k := 5) (t := 0) (v := h 245 5) (mf_dat eX12_qDropsNots 1 rfl) fl_X12_243 rfl (by decide) rfl rfl is245 ?_
  refine mf_if_ne (tgt := 33) (mf_dat eX12_qDropsNots 2 rfl) (by decide) (fun hc => ?_) (fun hc => ?_)
  · replace hyp := hyp.1 hc
    exact mf_return (mf_dat eX12_qDropsNots 16 rfl) rfl ⟨rfl, hyp⟩
  · replace hyp := hyp.2 hc
    refine mf_aload_n (mf_dat eX12_qDropsNots 3 rfl) rfl rfl ?_
    refine mf_bipush (v := 12) (mf_dat eX12_qDropsNots 4 rfl) (by decide) ?_
    refine mf_callV (Yc := YX12_qIsOn) (r := (RX12, TX12, 106)) (ci := 12) (mf_dat eX12_qDropsNots 5 rfl) ml_X12_611 okX12_qIsOn im_X12_qIsOn sl_X12_qIsOn rfl rfl rfl rfl (Nat.le_of_ble_eq_true rfl) (mf_rr (Nat.le_trans (by decide) hd) (Nat.le_refl _)) (Nat.le_refl _) is245 (hyp g hG) (fun r1 g2 h3 hyp => ?_)
    obtain ⟨hgg, hyp⟩ := hyp
    subst hgg
    refine mf_if_eq (tgt := 33) (mf_dat eX12_qDropsNots 6 rfl) (by decide) (fun hc => ?_) (fun hc => ?_)
    · replace hyp := hyp.1 hc
      exact mf_return (mf_dat eX12_qDropsNots 16 rfl) rfl ⟨rfl, hyp⟩
    · replace hyp := hyp.2 hc
      refine mf_aload_n (mf_dat eX12_qDropsNots 7 rfl) rfl rfl ?_
      refine mf_dup (mf_dat eX12_qDropsNots 8 rfl) (by decide) ?_
      refine mf_getf (r := (RX12, TX12, 106)) (ci := 12) (k := 98) (t := 0) (v := h3 245 98) (mf_dat eX12_qDropsNots 9 rfl) fl_X12_344 rfl (by decide) rfl rfl is245 ?_
      refine mf_iconst (v := 1) (mf_dat eX12_qDropsNots 10 rfl) (by decide) ?_
      refine mf_isub (mf_dat eX12_qDropsNots 11 rfl) ?_
      refine mf_putI (r := (RX12, TX12, 106)) (ci := 12) (k := 98) (kI := 98) (t := 0) (mf_dat eX12_qDropsNots 12 rfl) fl_X12_344 rfl rfl (by decide) rfl (by decide) rfl (by decide) (fun h9 => absurd h9 (by decide)) is245 ?_
      generalize qh4 : mf_up h3 245 98 (mf_w32 ((h3 245 98) - 1)) = h4
      replace hyp := hyp _ qh4.symm
      refine mf_aload_n (mf_dat eX12_qDropsNots 13 rfl) rfl rfl ?_
      refine mf_callV (Yc := YX12_qDrops) (r := (RX12, TX12, 106)) (ci := 12) (mf_dat eX12_qDropsNots 14 rfl) ml_X12_584 okX12_qDrops im_X12_qDrops sl_X12_qDrops rfl rfl rfl rfl (Nat.le_of_ble_eq_true rfl) (mf_rr (Nat.le_trans (by decide) hd) (Nat.le_refl _)) (Nat.le_refl _) is245 (hyp g2 hG) (fun r5 g6 h7 hyp => ?_)
      obtain ⟨hgg, hyp⟩ := hyp
      subst hgg
      refine mf_goto (tgt := 0) (mf_dat eX12_qDropsNots 15 rfl) (by decide) ?_
      exact mf_sub [0] rfl (hyp g6 hG)
set_option maxRecDepth 100000 in
set_option maxHeartbeats 4000000 in
theorem wX12_qDropsNots {C : mf_G} {l : Launch} {d : Nat} {K : Int → mf_M → Prop} {h : mf_M} (hyp : BX12_qDropsNots_0 C l d K h) : mM C l d YX12_qDropsNots [(2, 245)] h K := by
  intro g hG
  refine mf_entry (by decide) (Nat.le_of_ble_eq_true rfl) ?_
  exact mf_sub [0] rfl (hyp g hG)
abbrev BX12_qTest_2 (C : mf_G) (l : Launch) (d : Nat) (K : Int → mf_M → Prop) (x1 : Int) (h : mf_M) : Prop := jM C l d YX12_qTest K 2 [(0, (2, 245)), (1, (0, x1))] [] h
abbrev BX12_qTest_110 (C : mf_G) (l : Launch) (d : Nat) (K : Int → mf_M → Prop) (h : mf_M) : Prop := jM C l d YX12_qTest K 110 [(0, (2, 245))] [] h
set_option maxRecDepth 100000 in
set_option maxHeartbeats 4000000 in
theorem vX12_qTest_2 {C : mf_G} {l : Launch} {d : Nat} {K : Int → mf_M → Prop} {x1 : Int} {h : mf_M} (hd : 8 ≤ d) (hyp : ((x1 = 0 → BX12_qTest_110 C l d K h) ∧ (¬ x1 = 0 → ((¬ h 245 5 = 0 → BX12_qTest_110 C l d K h) ∧ (h 245 5 = 0 → mM C l 0 YX12_look [(2, 245)] h (fun r1 h3 => ((¬ r1 = 91 → mM C l 1 YX12_isHere [(2, 245), (2, 299)] h3 (fun r4 h6 => ((r4 = 0 → mM C l 7 YX12_qFact [(2, 245)] h6 (fun r7 h9 => mM C l 2 YX12_qDropsNots [(2, 245)] h9 (fun r10 h12 => ((¬ h12 245 5 = 0 → BX12_qTest_2 C l d K 0 h12) ∧ (h12 245 5 = 0 → mM C l 3 YX12_qGoesOnTest [(2, 245)] h12 (fun r13 h15 => ((r13 = 0 → BX12_qTest_2 C l d K 0 h15) ∧ (¬ r13 = 0 → BX12_qTest_2 C l d K 1 h15)))))))) ∧ (¬ r4 = 0 → mM C l 1 YX12_qOpens [(2, 245), (0, 12), (0, h6 245 2)] h6 (fun r16 h18 => mM C l 3 YX12_asks [(2, 245), (2, 299)] h18 (fun r19 h21 => BX12_qTest_2 C l d K x1 h21)))))) ∧ (r1 = 91 → mM C l 1 YX12_qOpens [(2, 245), (0, 25), (0, h3 245 2)] h3 (fun r22 h24 => (∀ h25 : mf_M, h25 = mf_up h24 245 2 (mf_w32 ((h24 245 2) + 1)) → BX12_qTest_2 C l d K x1 h25)))))))))) : BX12_qTest_2 C l d K x1 h := by
  intro g hG
  refine mf_iload_n (mf_dat eX12_qTest_p0 2 rfl) rfl rfl ?_
  refine mf_if_eq (tgt := 110) (mf_dat eX12_qTest_p0 3 rfl) (by decide) (fun hc => ?_) (fun hc => ?_)
  · replace hyp := hyp.1 hc
    exact mf_sub [0] rfl (hyp g hG)
  · replace hyp := hyp.2 hc
    refine mf_aload_n (mf_dat eX12_qTest_p0 4 rfl) rfl rfl ?_
    refine mf_getf (r := (RX12, TX12, 106)) (ci := 12) (k := 5) (t := 0) (v := h 245 5) (mf_dat eX12_qTest_p0 5 rfl) fl_X12_243 rfl (by decide) rfl rfl is245 ?_
    refine mf_if_ne (tgt := 110) (mf_dat eX12_qTest_p0 6 rfl) (by decide) (fun hc => ?_) (fun hc => ?_)
    · replace hyp := hyp.1 hc
      exact mf_sub [0] rfl (hyp g hG)
    · replace hyp := hyp.2 hc
      refine mf_aload_n (mf_dat eX12_qTest_p0 7 rfl) rfl rfl ?_
      refine mf_callV (Yc := YX12_look) (r := (RX12, TX12, 106)) (ci := 12) (mf_dat eX12_qTest_p0 8 rfl) ml_X12_255 okX12_look im_X12_look sl_X12_look rfl rfl rfl rfl (Nat.le_of_ble_eq_true rfl) (mf_rr (Nat.le_trans (by decide) hd) (Nat.le_refl _)) (Nat.le_refl _) is245 (hyp g hG) (fun r1 g2 h3 hyp => ?_)
      obtain ⟨hgg, hyp⟩ := hyp
      subst hgg
      refine mf_istore_n (mf_dat eX12_qTest_p0 9 rfl) rfl (by decide) ?_
      refine mf_iload_n (mf_dat eX12_qTest_p0 10 rfl) rfl rfl ?_
      refine mf_bipush (v := 91) (mf_dat eX12_qTest_p0 11 rfl) (by decide) ?_
      refine mf_icmp_ne (tgt := 47) (mf_dat eX12_qTest_p0 12 rfl) (by decide) (fun hc => ?_) (fun hc => ?_)
      · replace hyp := hyp.1 hc
        refine mf_aload_n (mf_dat eX12_qTest_p0 25 rfl) rfl rfl ?_
        refine mf_aload_n (mf_dat eX12_qTest_p0 26 rfl) rfl rfl ?_
        refine mf_getf (r := (RX12, TX12, 106)) (ci := 12) (k := 78) (t := 2) (v := 299) (mf_dat eX12_qTest_p0 27 rfl) fl_X12_180 rfl (by decide) rfl (gm_78 hG) is245 ?_
        refine mf_callV (Yc := YX12_isHere) (r := (RX12, TX12, 106)) (ci := 12) (mf_dat eX12_qTest_p0 28 rfl) ml_X12_266 okX12_isHere im_X12_isHere sl_X12_isHere rfl rfl rfl rfl (Nat.le_of_ble_eq_true rfl) (mf_rr (Nat.le_trans (by decide) hd) (Nat.le_refl _)) (Nat.le_refl _) is245 (hyp g2 hG) (fun r4 g5 h6 hyp => ?_)
        obtain ⟨hgg, hyp⟩ := hyp
        subst hgg
        refine mf_if_eq (tgt := 79) (mf_dat eX12_qTest_p0 29 rfl) (by decide) (fun hc => ?_) (fun hc => ?_)
        · replace hyp := hyp.1 hc
          refine mf_aload_n (mf_dat eX12_qTest_p0 40 rfl) rfl rfl ?_
          refine mf_callV (Yc := YX12_qFact) (r := (RX12, TX12, 106)) (ci := 12) (mf_dat eX12_qTest_p0 41 rfl) ml_X12_620 okX12_qFact im_X12_qFact sl_X12_qFact rfl rfl rfl rfl (Nat.le_of_ble_eq_true rfl) (mf_rr (Nat.le_trans (by decide) hd) (Nat.le_refl _)) (Nat.le_refl _) is245 (hyp g5 hG) (fun r7 g8 h9 hyp => ?_)
          obtain ⟨hgg, hyp⟩ := hyp
          subst hgg
          refine mf_aload_n (mf_dat eX12_qTest_p0 42 rfl) rfl rfl ?_
          refine mf_callV (Yc := YX12_qDropsNots) (r := (RX12, TX12, 106)) (ci := 12) (mf_dat eX12_qTest_p0 43 rfl) ml_X12_623 okX12_qDropsNots im_X12_qDropsNots sl_X12_qDropsNots rfl rfl rfl rfl (Nat.le_of_ble_eq_true rfl) (mf_rr (Nat.le_trans (by decide) hd) (Nat.le_refl _)) (Nat.le_refl _) is245 (hyp g8 hG) (fun r10 g11 h12 hyp => ?_)
          obtain ⟨hgg, hyp⟩ := hyp
          subst hgg
          refine mf_aload_n (mf_dat eX12_qTest_p0 44 rfl) rfl rfl ?_
          refine mf_getf (r := (RX12, TX12, 106)) (ci := 12) (k := 5) (t := 0) (v := h12 245 5) (mf_dat eX12_qTest_p0 45 rfl) fl_X12_243 rfl (by decide) rfl rfl is245 ?_
          refine mf_if_ne (tgt := 105) (mf_dat eX12_qTest_p0 46 rfl) (by decide) (fun hc => ?_) (fun hc => ?_)
          · replace hyp := hyp.1 hc
            refine mf_iconst (v := 0) (mf_dat eX12_qTest_p0 52 rfl) (by decide) ?_
            refine mf_istore_n (mf_dat eX12_qTest_p0 53 rfl) rfl (by decide) ?_
            refine mf_goto (tgt := 2) (mf_dat eX12_qTest_p0 54 rfl) (by decide) ?_
            exact mf_sub [2, 0] rfl (hyp g11 hG)
          · replace hyp := hyp.2 hc
            refine mf_aload_n (mf_dat eX12_qTest_p0 47 rfl) rfl rfl ?_
            refine mf_callV (Yc := YX12_qGoesOnTest) (r := (RX12, TX12, 106)) (ci := 12) (mf_dat eX12_qTest_p0 48 rfl) ml_X12_626 okX12_qGoesOnTest im_X12_qGoesOnTest sl_X12_qGoesOnTest rfl rfl rfl rfl (Nat.le_of_ble_eq_true rfl) (mf_rr (Nat.le_trans (by decide) hd) (Nat.le_refl _)) (Nat.le_refl _) is245 (hyp g11 hG) (fun r13 g14 h15 hyp => ?_)
            obtain ⟨hgg, hyp⟩ := hyp
            subst hgg
            refine mf_if_eq (tgt := 105) (mf_dat eX12_qTest_p0 49 rfl) (by decide) (fun hc => ?_) (fun hc => ?_)
            · replace hyp := hyp.1 hc
              refine mf_iconst (v := 0) (mf_dat eX12_qTest_p0 52 rfl) (by decide) ?_
              refine mf_istore_n (mf_dat eX12_qTest_p0 53 rfl) rfl (by decide) ?_
              refine mf_goto (tgt := 2) (mf_dat eX12_qTest_p0 54 rfl) (by decide) ?_
              exact mf_sub [2, 0] rfl (hyp g14 hG)
            · replace hyp := hyp.2 hc
              refine mf_iconst (v := 1) (mf_dat eX12_qTest_p0 50 rfl) (by decide) ?_
              refine mf_goto (tgt := 106) (mf_dat eX12_qTest_p0 51 rfl) (by decide) ?_
              refine mf_istore_n (mf_dat eX12_qTest_p0 53 rfl) rfl (by decide) ?_
              refine mf_goto (tgt := 2) (mf_dat eX12_qTest_p0 54 rfl) (by decide) ?_
              exact mf_sub [2, 0] rfl (hyp g14 hG)
        · replace hyp := hyp.2 hc
          refine mf_aload_n (mf_dat eX12_qTest_p0 30 rfl) rfl rfl ?_
          refine mf_bipush (v := 12) (mf_dat eX12_qTest_p0 31 rfl) (by decide) ?_
          refine mf_aload_n (mf_dat eX12_qTest_p0 32 rfl) rfl rfl ?_
          refine mf_getf (r := (RX12, TX12, 106)) (ci := 12) (k := 2) (t := 0) (v := h6 245 2) (mf_dat eX12_qTest_p0 33 rfl) fl_X12_249 rfl (by decide) rfl rfl is245 ?_
          refine mf_callV (Yc := YX12_qOpens) (r := (RX12, TX12, 106)) (ci := 12) (mf_dat eX12_qTest_p0 34 rfl) ml_X12_596 okX12_qOpens im_X12_qOpens sl_X12_qOpens rfl rfl rfl rfl (Nat.le_of_ble_eq_true rfl) (mf_rr (Nat.le_trans (by decide) hd) (Nat.le_refl _)) (Nat.le_refl _) is245 (hyp g5 hG) (fun r16 g17 h18 hyp => ?_)
          obtain ⟨hgg, hyp⟩ := hyp
          subst hgg
          refine mf_aload_n (mf_dat eX12_qTest_p0 35 rfl) rfl rfl ?_
          refine mf_aload_n (mf_dat eX12_qTest_p0 36 rfl) rfl rfl ?_
          refine mf_getf (r := (RX12, TX12, 106)) (ci := 12) (k := 78) (t := 2) (v := 299) (mf_dat eX12_qTest_p0 37 rfl) fl_X12_180 rfl (by decide) rfl (gm_78 hG) is245 ?_
          refine mf_callV (Yc := YX12_asks) (r := (RX12, TX12, 106)) (ci := 12) (mf_dat eX12_qTest_p0 38 rfl) ml_X12_304 okX12_asks im_X12_asks sl_X12_asks rfl rfl rfl rfl (Nat.le_of_ble_eq_true rfl) (mf_rr (Nat.le_trans (by decide) hd) (Nat.le_refl _)) (Nat.le_refl _) is245 (hyp g17 hG) (fun r19 g20 h21 hyp => ?_)
          obtain ⟨hgg, hyp⟩ := hyp
          subst hgg
          refine mf_goto (tgt := 2) (mf_dat eX12_qTest_p0 39 rfl) (by decide) ?_
          exact mf_sub [1, 2] rfl (hyp g20 hG)
      · replace hyp := hyp.2 hc
        refine mf_aload_n (mf_dat eX12_qTest_p0 13 rfl) rfl rfl ?_
        refine mf_bipush (v := 25) (mf_dat eX12_qTest_p0 14 rfl) (by decide) ?_
        refine mf_aload_n (mf_dat eX12_qTest_p0 15 rfl) rfl rfl ?_
        refine mf_getf (r := (RX12, TX12, 106)) (ci := 12) (k := 2) (t := 0) (v := h3 245 2) (mf_dat eX12_qTest_p0 16 rfl) fl_X12_249 rfl (by decide) rfl rfl is245 ?_
        refine mf_callV (Yc := YX12_qOpens) (r := (RX12, TX12, 106)) (ci := 12) (mf_dat eX12_qTest_p0 17 rfl) ml_X12_596 okX12_qOpens im_X12_qOpens sl_X12_qOpens rfl rfl rfl rfl (Nat.le_of_ble_eq_true rfl) (mf_rr (Nat.le_trans (by decide) hd) (Nat.le_refl _)) (Nat.le_refl _) is245 (hyp g2 hG) (fun r22 g23 h24 hyp => ?_)
        obtain ⟨hgg, hyp⟩ := hyp
        subst hgg
        refine mf_aload_n (mf_dat eX12_qTest_p0 18 rfl) rfl rfl ?_
        refine mf_dup (mf_dat eX12_qTest_p0 19 rfl) (by decide) ?_
        refine mf_getf (r := (RX12, TX12, 106)) (ci := 12) (k := 2) (t := 0) (v := h24 245 2) (mf_dat eX12_qTest_p0 20 rfl) fl_X12_249 rfl (by decide) rfl rfl is245 ?_
        refine mf_iconst (v := 1) (mf_dat eX12_qTest_p0 21 rfl) (by decide) ?_
        refine mf_iadd (mf_dat eX12_qTest_p0 22 rfl) ?_
        refine mf_putI (r := (RX12, TX12, 106)) (ci := 12) (k := 2) (kI := 2) (t := 0) (mf_dat eX12_qTest_p0 23 rfl) fl_X12_249 rfl rfl (by decide) rfl (by decide) rfl (by decide) (fun h9 => absurd h9 (by decide)) is245 ?_
        generalize qh25 : mf_up h24 245 2 (mf_w32 ((h24 245 2) + 1)) = h25
        replace hyp := hyp _ qh25.symm
        refine mf_goto (tgt := 2) (mf_dat eX12_qTest_p0 24 rfl) (by decide) ?_
        exact mf_sub [1, 2] rfl (hyp g23 hG)
set_option maxRecDepth 100000 in
set_option maxHeartbeats 4000000 in
theorem vX12_qTest_110 {C : mf_G} {l : Launch} {d : Nat} {K : Int → mf_M → Prop} {h : mf_M} (hd : 2 ≤ d) (hyp : ((¬ h 245 5 = 0 → K 0 h) ∧ (h 245 5 = 0 → ((h 245 97 ≤ 0 → K 0 h) ∧ (¬ h 245 97 ≤ 0 → mM C l 1 YX12_qDrops [(2, 245)] h (fun r1 h3 => BX12_qTest_110 C l d K h3)))))) : BX12_qTest_110 C l d K h := by
  intro g hG
  refine mf_aload_n (mf_dat eX12_qTest_p0 55 rfl) rfl rfl ?_
  refine mf_getf (r := (RX12, TX12, 106)) (ci := 12) (k := 5) (t := 0) (v := h 245 5) (mf_dat eX12_qTest_p0 56 rfl) fl_X12_243 rfl (by decide) rfl rfl is245 ?_
  refine mf_if_ne (tgt := 131) (mf_dat eX12_qTest_p0 57 rfl) (by decide) (fun hc => ?_) (fun hc => ?_)
  · replace hyp := hyp.1 hc
    exact mf_return (mf_dat eX12_qTest_p1 4 rfl) rfl ⟨rfl, hyp⟩
  · replace hyp := hyp.2 hc
    refine mf_aload_n (mf_dat eX12_qTest_p0 58 rfl) rfl rfl ?_
    refine mf_getf (r := (RX12, TX12, 106)) (ci := 12) (k := 97) (t := 0) (v := h 245 97) (mf_dat eX12_qTest_p0 59 rfl) fl_X12_341 rfl (by decide) rfl rfl is245 ?_
    refine mf_if_le (tgt := 131) (mf_dat eX12_qTest_p1 0 rfl) (by decide) (fun hc => ?_) (fun hc => ?_)
    · replace hyp := hyp.1 hc
      exact mf_return (mf_dat eX12_qTest_p1 4 rfl) rfl ⟨rfl, hyp⟩
    · replace hyp := hyp.2 hc
      refine mf_aload_n (mf_dat eX12_qTest_p1 1 rfl) rfl rfl ?_
      refine mf_callV (Yc := YX12_qDrops) (r := (RX12, TX12, 106)) (ci := 12) (mf_dat eX12_qTest_p1 2 rfl) ml_X12_584 okX12_qDrops im_X12_qDrops sl_X12_qDrops rfl rfl rfl rfl (Nat.le_of_ble_eq_true rfl) (mf_rr (Nat.le_trans (by decide) hd) (Nat.le_refl _)) (Nat.le_refl _) is245 (hyp g hG) (fun r1 g2 h3 hyp => ?_)
      obtain ⟨hgg, hyp⟩ := hyp
      subst hgg
      refine mf_goto (tgt := 110) (mf_dat eX12_qTest_p1 3 rfl) (by decide) ?_
      exact mf_sub [0] rfl (hyp g2 hG)
set_option maxRecDepth 100000 in
set_option maxHeartbeats 4000000 in
theorem wX12_qTest {C : mf_G} {l : Launch} {d : Nat} {K : Int → mf_M → Prop} {h : mf_M} (hyp : BX12_qTest_2 C l d K 1 h) : mM C l d YX12_qTest [(2, 245)] h K := by
  intro g hG
  refine mf_entry (by decide) (Nat.le_of_ble_eq_true rfl) ?_
  refine mf_iconst (v := 1) (mf_dat eX12_qTest_p0 0 rfl) (by decide) ?_
  refine mf_istore_n (mf_dat eX12_qTest_p0 1 rfl) rfl (by decide) ?_
  exact mf_sub [1, 0] rfl (hyp g hG)
abbrev BX12_qGoesOnTest_0 (C : mf_G) (l : Launch) (d : Nat) (K : Int → mf_M → Prop) (h : mf_M) : Prop := jM C l d YX12_qGoesOnTest K 0 [(0, (2, 245))] [] h
abbrev BX12_qGoesOnTest_33 (C : mf_G) (l : Launch) (d : Nat) (K : Int → mf_M → Prop) (h : mf_M) : Prop := jM C l d YX12_qGoesOnTest K 33 [(0, (2, 245))] [] h
abbrev BX12_qGoesOnTest_76 (C : mf_G) (l : Launch) (d : Nat) (K : Int → mf_M → Prop) (h : mf_M) : Prop := jM C l d YX12_qGoesOnTest K 76 [(0, (2, 245))] [] h
abbrev BX12_qGoesOnTest_87 (C : mf_G) (l : Launch) (d : Nat) (K : Int → mf_M → Prop) (h : mf_M) : Prop := jM C l d YX12_qGoesOnTest K 87 [(0, (2, 245))] [] h
abbrev BX12_qGoesOnTest_137 (C : mf_G) (l : Launch) (d : Nat) (K : Int → mf_M → Prop) (h : mf_M) : Prop := jM C l d YX12_qGoesOnTest K 137 [(0, (2, 245))] [] h
set_option maxRecDepth 100000 in
set_option maxHeartbeats 4000000 in
theorem vX12_qGoesOnTest_0 {C : mf_G} {l : Launch} {d : Nat} {K : Int → mf_M → Prop} {h : mf_M} (hd : 1 ≤ d) (hyp : ((¬ h 245 5 = 0 → BX12_qGoesOnTest_76 C l d K h) ∧ (h 245 5 = 0 → mM C l 0 YX12_look [(2, 245)] h (fun r1 h3 => ((¬ r1 = 93 → BX12_qGoesOnTest_76 C l d K h3) ∧ (r1 = 93 → mM C l 0 YX12_qHasSquare [(2, 245)] h3 (fun r4 h6 => ((r4 = 0 → BX12_qGoesOnTest_76 C l d K h6) ∧ (¬ r4 = 0 → (∀ h7 : mf_M, h7 = mf_up h6 245 2 (mf_w32 ((h6 245 2) + 1)) → BX12_qGoesOnTest_33 C l d K h7)))))))))) : BX12_qGoesOnTest_0 C l d K h := by
  intro g hG
  refine mf_aload_n (mf_dat eX12_qGoesOnTest_p0 0 rfl) rfl rfl ?_
  refine mf_getf (r := (RX12, TX12, 106)) (ci := 12) (k := 5) (t := 0) (v := h 245 5) (mf_dat eX12_qGoesOnTest_p0 1 rfl) fl_X12_243 rfl (by decide) rfl rfl is245 ?_
  refine mf_if_ne (tgt := 76) (mf_dat eX12_qGoesOnTest_p0 2 rfl) (by decide) (fun hc => ?_) (fun hc => ?_)
  · replace hyp := hyp.1 hc
    exact mf_sub [0] rfl (hyp g hG)
  · replace hyp := hyp.2 hc
    refine mf_aload_n (mf_dat eX12_qGoesOnTest_p0 3 rfl) rfl rfl ?_
    refine mf_callV (Yc := YX12_look) (r := (RX12, TX12, 106)) (ci := 12) (mf_dat eX12_qGoesOnTest_p0 4 rfl) ml_X12_255 okX12_look im_X12_look sl_X12_look rfl rfl rfl rfl (Nat.le_of_ble_eq_true rfl) (mf_rr (Nat.le_trans (by decide) hd) (Nat.le_refl _)) (Nat.le_refl _) is245 (hyp g hG) (fun r1 g2 h3 hyp => ?_)
    obtain ⟨hgg, hyp⟩ := hyp
    subst hgg
    refine mf_bipush (v := 93) (mf_dat eX12_qGoesOnTest_p0 5 rfl) (by decide) ?_
    refine mf_icmp_ne (tgt := 76) (mf_dat eX12_qGoesOnTest_p0 6 rfl) (by decide) (fun hc => ?_) (fun hc => ?_)
    · replace hyp := hyp.1 hc
      exact mf_sub [0] rfl (hyp g2 hG)
    · replace hyp := hyp.2 hc
      refine mf_aload_n (mf_dat eX12_qGoesOnTest_p0 7 rfl) rfl rfl ?_
      refine mf_callV (Yc := YX12_qHasSquare) (r := (RX12, TX12, 106)) (ci := 12) (mf_dat eX12_qGoesOnTest_p0 8 rfl) ml_X12_629 okX12_qHasSquare im_X12_qHasSquare sl_X12_qHasSquare rfl rfl rfl rfl (Nat.le_of_ble_eq_true rfl) (mf_rr (Nat.le_trans (by decide) hd) (Nat.le_refl _)) (Nat.le_refl _) is245 (hyp g2 hG) (fun r4 g5 h6 hyp => ?_)
      obtain ⟨hgg, hyp⟩ := hyp
      subst hgg
      refine mf_if_eq (tgt := 76) (mf_dat eX12_qGoesOnTest_p0 9 rfl) (by decide) (fun hc => ?_) (fun hc => ?_)
      · replace hyp := hyp.1 hc
        exact mf_sub [0] rfl (hyp g5 hG)
      · replace hyp := hyp.2 hc
        refine mf_aload_n (mf_dat eX12_qGoesOnTest_p0 10 rfl) rfl rfl ?_
        refine mf_dup (mf_dat eX12_qGoesOnTest_p0 11 rfl) (by decide) ?_
        refine mf_getf (r := (RX12, TX12, 106)) (ci := 12) (k := 2) (t := 0) (v := h6 245 2) (mf_dat eX12_qGoesOnTest_p0 12 rfl) fl_X12_249 rfl (by decide) rfl rfl is245 ?_
        refine mf_iconst (v := 1) (mf_dat eX12_qGoesOnTest_p0 13 rfl) (by decide) ?_
        refine mf_iadd (mf_dat eX12_qGoesOnTest_p0 14 rfl) ?_
        refine mf_putI (r := (RX12, TX12, 106)) (ci := 12) (k := 2) (kI := 2) (t := 0) (mf_dat eX12_qGoesOnTest_p0 15 rfl) fl_X12_249 rfl rfl (by decide) rfl (by decide) rfl (by decide) (fun h9 => absurd h9 (by decide)) is245 ?_
        generalize qh7 : mf_up h6 245 2 (mf_w32 ((h6 245 2) + 1)) = h7
        replace hyp := hyp _ qh7.symm
        exact mf_sub [0] rfl (hyp g5 hG)
set_option maxRecDepth 100000 in
set_option maxHeartbeats 4000000 in
theorem vX12_qGoesOnTest_33 {C : mf_G} {l : Launch} {d : Nat} {K : Int → mf_M → Prop} {h : mf_M} (hd : 3 ≤ d) (hyp : mM C l 0 YX12_qIsOn [(2, 245), (0, 25)] h (fun r1 h3 => ((¬ r1 = 0 → (∀ h4 : mf_M, h4 = mf_up h3 245 97 (mf_w32 ((h3 245 97) - 1)) → (∀ h5 : mf_M, h5 = mf_up h4 245 98 (mf_w32 ((h4 245 98) - 1)) → mM C l 2 YX12_qDropsNots [(2, 245)] h5 (fun r6 h8 => BX12_qGoesOnTest_0 C l d K h8)))) ∧ (r1 = 0 → mM C l 1 YX12_qDrops [(2, 245)] h3 (fun r9 h11 => BX12_qGoesOnTest_33 C l d K h11))))) : BX12_qGoesOnTest_33 C l d K h := by
  intro g hG
  refine mf_aload_n (mf_dat eX12_qGoesOnTest_p0 16 rfl) rfl rfl ?_
  refine mf_bipush (v := 25) (mf_dat eX12_qGoesOnTest_p0 17 rfl) (by decide) ?_
  refine mf_callV (Yc := YX12_qIsOn) (r := (RX12, TX12, 106)) (ci := 12) (mf_dat eX12_qGoesOnTest_p0 18 rfl) ml_X12_611 okX12_qIsOn im_X12_qIsOn sl_X12_qIsOn rfl rfl rfl rfl (Nat.le_of_ble_eq_true rfl) (mf_rr (Nat.le_trans (by decide) hd) (Nat.le_refl _)) (Nat.le_refl _) is245 (hyp g hG) (fun r1 g2 h3 hyp => ?_)
  obtain ⟨hgg, hyp⟩ := hyp
  subst hgg
  refine mf_if_ne (tgt := 49) (mf_dat eX12_qGoesOnTest_p0 19 rfl) (by decide) (fun hc => ?_) (fun hc => ?_)
  · replace hyp := hyp.1 hc
    refine mf_aload_n (mf_dat eX12_qGoesOnTest_p0 23 rfl) rfl rfl ?_
    refine mf_dup (mf_dat eX12_qGoesOnTest_p0 24 rfl) (by decide) ?_
    refine mf_getf (r := (RX12, TX12, 106)) (ci := 12) (k := 97) (t := 0) (v := h3 245 97) (mf_dat eX12_qGoesOnTest_p0 25 rfl) fl_X12_341 rfl (by decide) rfl rfl is245 ?_
    refine mf_iconst (v := 1) (mf_dat eX12_qGoesOnTest_p0 26 rfl) (by decide) ?_
    refine mf_isub (mf_dat eX12_qGoesOnTest_p0 27 rfl) ?_
    refine mf_putI (r := (RX12, TX12, 106)) (ci := 12) (k := 97) (kI := 97) (t := 0) (mf_dat eX12_qGoesOnTest_p0 28 rfl) fl_X12_341 rfl rfl (by decide) rfl (by decide) rfl (by decide) (fun h9 => absurd h9 (by decide)) is245 ?_
    generalize qh4 : mf_up h3 245 97 (mf_w32 ((h3 245 97) - 1)) = h4
    replace hyp := hyp _ qh4.symm
    refine mf_aload_n (mf_dat eX12_qGoesOnTest_p0 29 rfl) rfl rfl ?_
    refine mf_dup (mf_dat eX12_qGoesOnTest_p0 30 rfl) (by decide) ?_
    refine mf_getf (r := (RX12, TX12, 106)) (ci := 12) (k := 98) (t := 0) (v := h4 245 98) (mf_dat eX12_qGoesOnTest_p0 31 rfl) fl_X12_344 rfl (by decide) rfl rfl is245 ?_
    refine mf_iconst (v := 1) (mf_dat eX12_qGoesOnTest_p0 32 rfl) (by decide) ?_
    refine mf_isub (mf_dat eX12_qGoesOnTest_p0 33 rfl) ?_
    refine mf_putI (r := (RX12, TX12, 106)) (ci := 12) (k := 98) (kI := 98) (t := 0) (mf_dat eX12_qGoesOnTest_p0 34 rfl) fl_X12_344 rfl rfl (by decide) rfl (by decide) rfl (by decide) (fun h9 => absurd h9 (by decide)) is245 ?_
    generalize qh5 : mf_up h4 245 98 (mf_w32 ((h4 245 98) - 1)) = h5
    replace hyp := hyp _ qh5.symm
    refine mf_aload_n (mf_dat eX12_qGoesOnTest_p0 35 rfl) rfl rfl ?_
    refine mf_callV (Yc := YX12_qDropsNots) (r := (RX12, TX12, 106)) (ci := 12) (mf_dat eX12_qGoesOnTest_p0 36 rfl) ml_X12_623 okX12_qDropsNots im_X12_qDropsNots sl_X12_qDropsNots rfl rfl rfl rfl (Nat.le_of_ble_eq_true rfl) (mf_rr (Nat.le_trans (by decide) hd) (Nat.le_refl _)) (Nat.le_refl _) is245 (hyp g2 hG) (fun r6 g7 h8 hyp => ?_)
    obtain ⟨hgg, hyp⟩ := hyp
    subst hgg
    refine mf_goto (tgt := 0) (mf_dat eX12_qGoesOnTest_p0 37 rfl) (by decide) ?_
    exact mf_sub [0] rfl (hyp g7 hG)
  · replace hyp := hyp.2 hc
    refine mf_aload_n (mf_dat eX12_qGoesOnTest_p0 20 rfl) rfl rfl ?_
    refine mf_callV (Yc := YX12_qDrops) (r := (RX12, TX12, 106)) (ci := 12) (mf_dat eX12_qGoesOnTest_p0 21 rfl) ml_X12_584 okX12_qDrops im_X12_qDrops sl_X12_qDrops rfl rfl rfl rfl (Nat.le_of_ble_eq_true rfl) (mf_rr (Nat.le_trans (by decide) hd) (Nat.le_refl _)) (Nat.le_refl _) is245 (hyp g2 hG) (fun r9 g10 h11 hyp => ?_)
    obtain ⟨hgg, hyp⟩ := hyp
    subst hgg
    refine mf_goto (tgt := 33) (mf_dat eX12_qGoesOnTest_p0 22 rfl) (by decide) ?_
    exact mf_sub [0] rfl (hyp g10 hG)
set_option maxRecDepth 100000 in
set_option maxHeartbeats 4000000 in
theorem vX12_qGoesOnTest_76 {C : mf_G} {l : Launch} {d : Nat} {K : Int → mf_M → Prop} {h : mf_M} (hd : 3 ≤ d) (hyp : mM C l 2 YX12_takes [(2, 245), (2, 300)] h (fun r1 h3 => ((r1 = 0 → mM C l 2 YX12_takes [(2, 245), (2, 301)] h3 (fun r4 h6 => ((r4 = 0 → ((¬ h6 245 5 = 0 → K 0 h6) ∧ (h6 245 5 = 0 → mM C l 0 YX12_qHasSquare [(2, 245)] h6 (fun r7 h9 => ((r7 = 0 → K 0 h9) ∧ (¬ r7 = 0 → mM C l 0 YX12_fail [(2, 245), (0, 1), (0, h9 245 2)] h9 (fun r10 h12 => K 0 h12))))))) ∧ (¬ r4 = 0 → BX12_qGoesOnTest_137 C l d K h6)))) ∧ (¬ r1 = 0 → BX12_qGoesOnTest_87 C l d K h3)))) : BX12_qGoesOnTest_76 C l d K h := by
  intro g hG
  refine mf_aload_n (mf_dat eX12_qGoesOnTest_p0 38 rfl) rfl rfl ?_
  refine mf_aload_n (mf_dat eX12_qGoesOnTest_p0 39 rfl) rfl rfl ?_
  refine mf_getf (r := (RX12, TX12, 106)) (ci := 12) (k := 79) (t := 2) (v := 300) (mf_dat eX12_qGoesOnTest_p0 40 rfl) fl_X12_183 rfl (by decide) rfl (gm_79 hG) is245 ?_
  refine mf_callV (Yc := YX12_takes) (r := (RX12, TX12, 106)) (ci := 12) (mf_dat eX12_qGoesOnTest_p0 41 rfl) ml_X12_270 okX12_takes im_X12_takes sl_X12_takes rfl rfl rfl rfl (Nat.le_of_ble_eq_true rfl) (mf_rr (Nat.le_trans (by decide) hd) (Nat.le_refl _)) (Nat.le_refl _) is245 (hyp g hG) (fun r1 g2 h3 hyp => ?_)
  obtain ⟨hgg, hyp⟩ := hyp
  subst hgg
  refine mf_if_eq (tgt := 126) (mf_dat eX12_qGoesOnTest_p0 42 rfl) (by decide) (fun hc => ?_) (fun hc => ?_)
  · replace hyp := hyp.1 hc
    refine mf_aload_n (mf_dat eX12_qGoesOnTest_p1 4 rfl) rfl rfl ?_
    refine mf_aload_n (mf_dat eX12_qGoesOnTest_p1 5 rfl) rfl rfl ?_
    refine mf_getf (r := (RX12, TX12, 106)) (ci := 12) (k := 80) (t := 2) (v := 301) (mf_dat eX12_qGoesOnTest_p1 6 rfl) fl_X12_186 rfl (by decide) rfl (gm_80 hG) is245 ?_
    refine mf_callV (Yc := YX12_takes) (r := (RX12, TX12, 106)) (ci := 12) (mf_dat eX12_qGoesOnTest_p1 7 rfl) ml_X12_270 okX12_takes im_X12_takes sl_X12_takes rfl rfl rfl rfl (Nat.le_of_ble_eq_true rfl) (mf_rr (Nat.le_trans (by decide) hd) (Nat.le_refl _)) (Nat.le_refl _) is245 (hyp g2 hG) (fun r4 g5 h6 hyp => ?_)
    obtain ⟨hgg, hyp⟩ := hyp
    subst hgg
    refine mf_if_eq (tgt := 185) (mf_dat eX12_qGoesOnTest_p1 8 rfl) (by decide) (fun hc => ?_) (fun hc => ?_)
    · replace hyp := hyp.1 hc
      refine mf_aload_n (mf_dat eX12_qGoesOnTest_p1 34 rfl) rfl rfl ?_
      refine mf_getf (r := (RX12, TX12, 106)) (ci := 12) (k := 5) (t := 0) (v := h6 245 5) (mf_dat eX12_qGoesOnTest_p1 35 rfl) fl_X12_243 rfl (by decide) rfl rfl is245 ?_
      refine mf_if_ne (tgt := 208) (mf_dat eX12_qGoesOnTest_p1 36 rfl) (by decide) (fun hc => ?_) (fun hc => ?_)
      · replace hyp := hyp.1 hc
        refine mf_iconst (v := 0) (mf_dat eX12_qGoesOnTest_p1 45 rfl) (by decide) ?_
        exact mf_ireturn (mf_dat eX12_qGoesOnTest_p1 46 rfl) rfl (Or.inr ⟨rfl, by decide⟩) ⟨rfl, hyp⟩
      · replace hyp := hyp.2 hc
        refine mf_aload_n (mf_dat eX12_qGoesOnTest_p1 37 rfl) rfl rfl ?_
        refine mf_callV (Yc := YX12_qHasSquare) (r := (RX12, TX12, 106)) (ci := 12) (mf_dat eX12_qGoesOnTest_p1 38 rfl) ml_X12_629 okX12_qHasSquare im_X12_qHasSquare sl_X12_qHasSquare rfl rfl rfl rfl (Nat.le_of_ble_eq_true rfl) (mf_rr (Nat.le_trans (by decide) hd) (Nat.le_refl _)) (Nat.le_refl _) is245 (hyp g5 hG) (fun r7 g8 h9 hyp => ?_)
        obtain ⟨hgg, hyp⟩ := hyp
        subst hgg
        refine mf_if_eq (tgt := 208) (mf_dat eX12_qGoesOnTest_p1 39 rfl) (by decide) (fun hc => ?_) (fun hc => ?_)
        · replace hyp := hyp.1 hc
          refine mf_iconst (v := 0) (mf_dat eX12_qGoesOnTest_p1 45 rfl) (by decide) ?_
          exact mf_ireturn (mf_dat eX12_qGoesOnTest_p1 46 rfl) rfl (Or.inr ⟨rfl, by decide⟩) ⟨rfl, hyp⟩
        · replace hyp := hyp.2 hc
          refine mf_aload_n (mf_dat eX12_qGoesOnTest_p1 40 rfl) rfl rfl ?_
          refine mf_iconst (v := 1) (mf_dat eX12_qGoesOnTest_p1 41 rfl) (by decide) ?_
          refine mf_aload_n (mf_dat eX12_qGoesOnTest_p1 42 rfl) rfl rfl ?_
          refine mf_getf (r := (RX12, TX12, 106)) (ci := 12) (k := 2) (t := 0) (v := h9 245 2) (mf_dat eX12_qGoesOnTest_p1 43 rfl) fl_X12_249 rfl (by decide) rfl rfl is245 ?_
          refine mf_callV (Yc := YX12_fail) (r := (RX12, TX12, 106)) (ci := 12) (mf_dat eX12_qGoesOnTest_p1 44 rfl) ml_X12_273 okX12_fail im_X12_fail sl_X12_fail rfl rfl rfl rfl (Nat.le_of_ble_eq_true rfl) (mf_rr (Nat.le_trans (by decide) hd) (Nat.le_refl _)) (Nat.le_refl _) is245 (hyp g8 hG) (fun r10 g11 h12 hyp => ?_)
          obtain ⟨hgg, hyp⟩ := hyp
          subst hgg
          refine mf_iconst (v := 0) (mf_dat eX12_qGoesOnTest_p1 45 rfl) (by decide) ?_
          exact mf_ireturn (mf_dat eX12_qGoesOnTest_p1 46 rfl) rfl (Or.inr ⟨rfl, by decide⟩) ⟨rfl, hyp⟩
    · replace hyp := hyp.2 hc
      exact mf_sub [0] rfl (hyp g5 hG)
  · replace hyp := hyp.2 hc
    exact mf_sub [0] rfl (hyp g2 hG)
set_option maxRecDepth 100000 in
set_option maxHeartbeats 4000000 in
theorem vX12_qGoesOnTest_87 {C : mf_G} {l : Launch} {d : Nat} {K : Int → mf_M → Prop} {h : mf_M} (hd : 2 ≤ d) (hyp : mM C l 0 YX12_qIsOn [(2, 245), (0, 10)] h (fun r1 h3 => ((r1 = 0 → 0 ≤ h3 245 97 ∧ h3 245 97 < 1700 ∧ (∀ h6 : mf_M, h6 = mf_up h3 316 (h3 245 97) 10 → (∀ h7 : mf_M, h7 = mf_up h6 245 97 (mf_w32 ((h6 245 97) + 1)) → K 1 h7))) ∧ (¬ r1 = 0 → mM C l 1 YX12_qDrops [(2, 245)] h3 (fun r8 h10 => BX12_qGoesOnTest_87 C l d K h10))))) : BX12_qGoesOnTest_87 C l d K h := by
  intro g hG
  refine mf_aload_n (mf_dat eX12_qGoesOnTest_p0 43 rfl) rfl rfl ?_
  refine mf_bipush (v := 10) (mf_dat eX12_qGoesOnTest_p0 44 rfl) (by decide) ?_
  refine mf_callV (Yc := YX12_qIsOn) (r := (RX12, TX12, 106)) (ci := 12) (mf_dat eX12_qGoesOnTest_p0 45 rfl) ml_X12_611 okX12_qIsOn im_X12_qIsOn sl_X12_qIsOn rfl rfl rfl rfl (Nat.le_of_ble_eq_true rfl) (mf_rr (Nat.le_trans (by decide) hd) (Nat.le_refl _)) (Nat.le_refl _) is245 (hyp g hG) (fun r1 g2 h3 hyp => ?_)
  obtain ⟨hgg, hyp⟩ := hyp
  subst hgg
  refine mf_if_eq (tgt := 103) (mf_dat eX12_qGoesOnTest_p0 46 rfl) (by decide) (fun hc => ?_) (fun hc => ?_)
  · replace hyp := hyp.1 hc
    refine mf_aload_n (mf_dat eX12_qGoesOnTest_p0 50 rfl) rfl rfl ?_
    refine mf_getf (r := (RX12, TX12, 106)) (ci := 12) (k := 96) (t := 2) (v := 316) (mf_dat eX12_qGoesOnTest_p0 51 rfl) fl_X12_231 rfl (by decide) rfl (gm_96 hG) is245 ?_
    refine mf_aload_n (mf_dat eX12_qGoesOnTest_p0 52 rfl) rfl rfl ?_
    refine mf_getf (r := (RX12, TX12, 106)) (ci := 12) (k := 97) (t := 0) (v := h3 245 97) (mf_dat eX12_qGoesOnTest_p0 53 rfl) fl_X12_341 rfl (by decide) rfl rfl is245 ?_
    refine mf_bipush (v := 10) (mf_dat eX12_qGoesOnTest_p0 54 rfl) (by decide) ?_
    obtain ⟨ck4, hyp⟩ := hyp
    obtain ⟨ck5, hyp⟩ := hyp
    refine mf_iast (mf_dat eX12_qGoesOnTest_p0 55 rfl) is316 len316 ck4 ck5 ?_
    generalize qh6 : mf_up h3 316 (h3 245 97) 10 = h6
    replace hyp := hyp _ qh6.symm
    refine mf_aload_n (mf_dat eX12_qGoesOnTest_p0 56 rfl) rfl rfl ?_
    refine mf_dup (mf_dat eX12_qGoesOnTest_p0 57 rfl) (by decide) ?_
    refine mf_getf (r := (RX12, TX12, 106)) (ci := 12) (k := 97) (t := 0) (v := h6 245 97) (mf_dat eX12_qGoesOnTest_p0 58 rfl) fl_X12_341 rfl (by decide) rfl rfl is245 ?_
    refine mf_iconst (v := 1) (mf_dat eX12_qGoesOnTest_p0 59 rfl) (by decide) ?_
    refine mf_iadd (mf_dat eX12_qGoesOnTest_p1 0 rfl) ?_
    refine mf_putI (r := (RX12, TX12, 106)) (ci := 12) (k := 97) (kI := 97) (t := 0) (mf_dat eX12_qGoesOnTest_p1 1 rfl) fl_X12_341 rfl rfl (by decide) rfl (by decide) rfl (by decide) (fun h9 => absurd h9 (by decide)) is245 ?_
    generalize qh7 : mf_up h6 245 97 (mf_w32 ((h6 245 97) + 1)) = h7
    replace hyp := hyp _ qh7.symm
    refine mf_iconst (v := 1) (mf_dat eX12_qGoesOnTest_p1 2 rfl) (by decide) ?_
    exact mf_ireturn (mf_dat eX12_qGoesOnTest_p1 3 rfl) rfl (Or.inr ⟨rfl, by decide⟩) ⟨rfl, hyp⟩
  · replace hyp := hyp.2 hc
    refine mf_aload_n (mf_dat eX12_qGoesOnTest_p0 47 rfl) rfl rfl ?_
    refine mf_callV (Yc := YX12_qDrops) (r := (RX12, TX12, 106)) (ci := 12) (mf_dat eX12_qGoesOnTest_p0 48 rfl) ml_X12_584 okX12_qDrops im_X12_qDrops sl_X12_qDrops rfl rfl rfl rfl (Nat.le_of_ble_eq_true rfl) (mf_rr (Nat.le_trans (by decide) hd) (Nat.le_refl _)) (Nat.le_refl _) is245 (hyp g2 hG) (fun r8 g9 h10 hyp => ?_)
    obtain ⟨hgg, hyp⟩ := hyp
    subst hgg
    refine mf_goto (tgt := 87) (mf_dat eX12_qGoesOnTest_p0 49 rfl) (by decide) ?_
    exact mf_sub [0] rfl (hyp g9 hG)
set_option maxRecDepth 100000 in
set_option maxHeartbeats 4000000 in
theorem vX12_qGoesOnTest_137 {C : mf_G} {l : Launch} {d : Nat} {K : Int → mf_M → Prop} {h : mf_M} (hd : 2 ≤ d) (hyp : mM C l 0 YX12_qIsOn [(2, 245), (0, 10)] h (fun r1 h3 => ((¬ r1 = 0 → mM C l 1 YX12_qDrops [(2, 245)] h3 (fun r4 h6 => BX12_qGoesOnTest_137 C l d K h6)) ∧ (r1 = 0 → mM C l 0 YX12_qIsOn [(2, 245), (0, 11)] h3 (fun r7 h9 => ((r7 = 0 → 0 ≤ h9 245 97 ∧ h9 245 97 < 1700 ∧ (∀ h12 : mf_M, h12 = mf_up h9 316 (h9 245 97) 11 → (∀ h13 : mf_M, h13 = mf_up h12 245 97 (mf_w32 ((h12 245 97) + 1)) → K 1 h13))) ∧ (¬ r7 = 0 → mM C l 1 YX12_qDrops [(2, 245)] h9 (fun r14 h16 => BX12_qGoesOnTest_137 C l d K h16)))))))) : BX12_qGoesOnTest_137 C l d K h := by
  intro g hG
  refine mf_aload_n (mf_dat eX12_qGoesOnTest_p1 9 rfl) rfl rfl ?_
  refine mf_bipush (v := 10) (mf_dat eX12_qGoesOnTest_p1 10 rfl) (by decide) ?_
  refine mf_callV (Yc := YX12_qIsOn) (r := (RX12, TX12, 106)) (ci := 12) (mf_dat eX12_qGoesOnTest_p1 11 rfl) ml_X12_611 okX12_qIsOn im_X12_qIsOn sl_X12_qIsOn rfl rfl rfl rfl (Nat.le_of_ble_eq_true rfl) (mf_rr (Nat.le_trans (by decide) hd) (Nat.le_refl _)) (Nat.le_refl _) is245 (hyp g hG) (fun r1 g2 h3 hyp => ?_)
  obtain ⟨hgg, hyp⟩ := hyp
  subst hgg
  refine mf_if_ne (tgt := 155) (mf_dat eX12_qGoesOnTest_p1 12 rfl) (by decide) (fun hc => ?_) (fun hc => ?_)
  · replace hyp := hyp.1 hc
    refine mf_aload_n (mf_dat eX12_qGoesOnTest_p1 17 rfl) rfl rfl ?_
    refine mf_callV (Yc := YX12_qDrops) (r := (RX12, TX12, 106)) (ci := 12) (mf_dat eX12_qGoesOnTest_p1 18 rfl) ml_X12_584 okX12_qDrops im_X12_qDrops sl_X12_qDrops rfl rfl rfl rfl (Nat.le_of_ble_eq_true rfl) (mf_rr (Nat.le_trans (by decide) hd) (Nat.le_refl _)) (Nat.le_refl _) is245 (hyp g2 hG) (fun r4 g5 h6 hyp => ?_)
    obtain ⟨hgg, hyp⟩ := hyp
    subst hgg
    refine mf_goto (tgt := 137) (mf_dat eX12_qGoesOnTest_p1 19 rfl) (by decide) ?_
    exact mf_sub [0] rfl (hyp g5 hG)
  · replace hyp := hyp.2 hc
    refine mf_aload_n (mf_dat eX12_qGoesOnTest_p1 13 rfl) rfl rfl ?_
    refine mf_bipush (v := 11) (mf_dat eX12_qGoesOnTest_p1 14 rfl) (by decide) ?_
    refine mf_callV (Yc := YX12_qIsOn) (r := (RX12, TX12, 106)) (ci := 12) (mf_dat eX12_qGoesOnTest_p1 15 rfl) ml_X12_611 okX12_qIsOn im_X12_qIsOn sl_X12_qIsOn rfl rfl rfl rfl (Nat.le_of_ble_eq_true rfl) (mf_rr (Nat.le_trans (by decide) hd) (Nat.le_refl _)) (Nat.le_refl _) is245 (hyp g2 hG) (fun r7 g8 h9 hyp => ?_)
    obtain ⟨hgg, hyp⟩ := hyp
    subst hgg
    refine mf_if_eq (tgt := 162) (mf_dat eX12_qGoesOnTest_p1 16 rfl) (by decide) (fun hc => ?_) (fun hc => ?_)
    · replace hyp := hyp.1 hc
      refine mf_aload_n (mf_dat eX12_qGoesOnTest_p1 20 rfl) rfl rfl ?_
      refine mf_getf (r := (RX12, TX12, 106)) (ci := 12) (k := 96) (t := 2) (v := 316) (mf_dat eX12_qGoesOnTest_p1 21 rfl) fl_X12_231 rfl (by decide) rfl (gm_96 hG) is245 ?_
      refine mf_aload_n (mf_dat eX12_qGoesOnTest_p1 22 rfl) rfl rfl ?_
      refine mf_getf (r := (RX12, TX12, 106)) (ci := 12) (k := 97) (t := 0) (v := h9 245 97) (mf_dat eX12_qGoesOnTest_p1 23 rfl) fl_X12_341 rfl (by decide) rfl rfl is245 ?_
      refine mf_bipush (v := 11) (mf_dat eX12_qGoesOnTest_p1 24 rfl) (by decide) ?_
      obtain ⟨ck10, hyp⟩ := hyp
      obtain ⟨ck11, hyp⟩ := hyp
      refine mf_iast (mf_dat eX12_qGoesOnTest_p1 25 rfl) is316 len316 ck10 ck11 ?_
      generalize qh12 : mf_up h9 316 (h9 245 97) 11 = h12
      replace hyp := hyp _ qh12.symm
      refine mf_aload_n (mf_dat eX12_qGoesOnTest_p1 26 rfl) rfl rfl ?_
      refine mf_dup (mf_dat eX12_qGoesOnTest_p1 27 rfl) (by decide) ?_
      refine mf_getf (r := (RX12, TX12, 106)) (ci := 12) (k := 97) (t := 0) (v := h12 245 97) (mf_dat eX12_qGoesOnTest_p1 28 rfl) fl_X12_341 rfl (by decide) rfl rfl is245 ?_
      refine mf_iconst (v := 1) (mf_dat eX12_qGoesOnTest_p1 29 rfl) (by decide) ?_
      refine mf_iadd (mf_dat eX12_qGoesOnTest_p1 30 rfl) ?_
      refine mf_putI (r := (RX12, TX12, 106)) (ci := 12) (k := 97) (kI := 97) (t := 0) (mf_dat eX12_qGoesOnTest_p1 31 rfl) fl_X12_341 rfl rfl (by decide) rfl (by decide) rfl (by decide) (fun h9 => absurd h9 (by decide)) is245 ?_
      generalize qh13 : mf_up h12 245 97 (mf_w32 ((h12 245 97) + 1)) = h13
      replace hyp := hyp _ qh13.symm
      refine mf_iconst (v := 1) (mf_dat eX12_qGoesOnTest_p1 32 rfl) (by decide) ?_
      exact mf_ireturn (mf_dat eX12_qGoesOnTest_p1 33 rfl) rfl (Or.inr ⟨rfl, by decide⟩) ⟨rfl, hyp⟩
    · replace hyp := hyp.2 hc
      refine mf_aload_n (mf_dat eX12_qGoesOnTest_p1 17 rfl) rfl rfl ?_
      refine mf_callV (Yc := YX12_qDrops) (r := (RX12, TX12, 106)) (ci := 12) (mf_dat eX12_qGoesOnTest_p1 18 rfl) ml_X12_584 okX12_qDrops im_X12_qDrops sl_X12_qDrops rfl rfl rfl rfl (Nat.le_of_ble_eq_true rfl) (mf_rr (Nat.le_trans (by decide) hd) (Nat.le_refl _)) (Nat.le_refl _) is245 (hyp g8 hG) (fun r14 g15 h16 hyp => ?_)
      obtain ⟨hgg, hyp⟩ := hyp
      subst hgg
      refine mf_goto (tgt := 137) (mf_dat eX12_qGoesOnTest_p1 19 rfl) (by decide) ?_
      exact mf_sub [0] rfl (hyp g15 hG)
set_option maxRecDepth 100000 in
set_option maxHeartbeats 4000000 in
theorem wX12_qGoesOnTest {C : mf_G} {l : Launch} {d : Nat} {K : Int → mf_M → Prop} {h : mf_M} (hyp : BX12_qGoesOnTest_0 C l d K h) : mM C l d YX12_qGoesOnTest [(2, 245)] h K := by
  intro g hG
  refine mf_entry (by decide) (Nat.le_of_ble_eq_true rfl) ?_
  exact mf_sub [0] rfl (hyp g hG)
set_option maxRecDepth 100000 in
set_option maxHeartbeats 4000000 in
theorem wX12_qClip {C : mf_G} {l : Launch} {d : Nat} {K : Int → mf_M → Prop} {x0 : Int} {h : mf_M} (hyp : ((x0 ≤ 1000000 → (((-1000000) ≤ x0 → K x0 h) ∧ (¬ (-1000000) ≤ x0 → K (-1000000) h))) ∧ (¬ x0 ≤ 1000000 → K 1000000 h))) : mM C l d YX12_qClip [(1, x0)] h K := by
  intro g hG
  refine mf_entry (by decide) (Nat.le_of_ble_eq_true rfl) ?_
  refine mf_lload_n (mf_dat eX12_qClip 0 rfl) rfl rfl ?_
  refine mf_ldc2 (v := 1000000) cl_X12_632 (mf_dat eX12_qClip 1 rfl) (by decide) ?_
  refine mf_lcmp_le (tgt := 14) (mf_dat eX12_qClip 2 rfl) (mf_dat eX12_qClip 3 rfl) (by decide) (fun hc => ?_) (fun hc => ?_)
  · replace hyp := hyp.1 hc
    refine mf_lload_n (mf_dat eX12_qClip 6 rfl) rfl rfl ?_
    refine mf_ldc2 (v := (-1000000)) cl_X12_634 (mf_dat eX12_qClip 7 rfl) (by decide) ?_
    refine mf_lcmp_ge (tgt := 28) (mf_dat eX12_qClip 8 rfl) (mf_dat eX12_qClip 9 rfl) (by decide) (fun hc => ?_) (fun hc => ?_)
    · replace hyp := hyp.1 hc
      refine mf_lload_n (mf_dat eX12_qClip 12 rfl) rfl rfl ?_
      exact mf_lreturn (mf_dat eX12_qClip 13 rfl) rfl ⟨rfl, hyp⟩
    · replace hyp := hyp.2 hc
      refine mf_ldc2 (v := (-1000000)) cl_X12_634 (mf_dat eX12_qClip 10 rfl) (by decide) ?_
      refine mf_goto (tgt := 29) (mf_dat eX12_qClip 11 rfl) (by decide) ?_
      exact mf_lreturn (mf_dat eX12_qClip 13 rfl) rfl ⟨rfl, hyp⟩
  · replace hyp := hyp.2 hc
    refine mf_ldc2 (v := 1000000) cl_X12_632 (mf_dat eX12_qClip 4 rfl) (by decide) ?_
    refine mf_goto (tgt := 29) (mf_dat eX12_qClip 5 rfl) (by decide) ?_
    exact mf_lreturn (mf_dat eX12_qClip 13 rfl) rfl ⟨rfl, hyp⟩
abbrev BX12_qFloor_32 (C : mf_G) (l : Launch) (d : Nat) (K : Int → mf_M → Prop) (x2 x4 s0 : Int) (h : mf_M) : Prop := jM C l d YX12_qFloor K 32 [(2, (1, x2)), (4, (1, x4))] [(0, s0)] h
set_option maxRecDepth 100000 in
set_option maxHeartbeats 4000000 in
theorem vX12_qFloor_32 {C : mf_G} {l : Launch} {d : Nat} {K : Int → mf_M → Prop} {x2 x4 s0 : Int} {h : mf_M} (hyp : ((0 ≤ x2 → ((s0 = 0 → K x4 h) ∧ (¬ s0 = 0 → K (mf_w64 (x4 - 1)) h))) ∧ (¬ 0 ≤ x2 → ((s0 = 1 → K x4 h) ∧ (¬ s0 = 1 → K (mf_w64 (x4 - 1)) h))))) : BX12_qFloor_32 C l d K x2 x4 s0 h := by
  intro g hG
  refine mf_lload_n (mf_dat eX12_qFloor 23 rfl) rfl rfl ?_
  refine mf_lconst (v := 0) (mf_dat eX12_qFloor 24 rfl) (by decide) ?_
  refine mf_lcmp_ge (tgt := 42) (mf_dat eX12_qFloor 25 rfl) (mf_dat eX12_qFloor 26 rfl) (by decide) (fun hc => ?_) (fun hc => ?_)
  · replace hyp := hyp.1 hc
    refine mf_iconst (v := 0) (mf_dat eX12_qFloor 29 rfl) (by decide) ?_
    refine mf_icmp_eq (tgt := 53) (mf_dat eX12_qFloor 30 rfl) (by decide) (fun hc => ?_) (fun hc => ?_)
    · replace hyp := hyp.1 hc
      refine mf_lload (mf_dat eX12_qFloor 35 rfl) rfl ?_
      exact mf_lreturn (mf_dat eX12_qFloor 36 rfl) rfl ⟨rfl, hyp⟩
    · replace hyp := hyp.2 hc
      refine mf_lload (mf_dat eX12_qFloor 31 rfl) rfl ?_
      refine mf_lconst (v := 1) (mf_dat eX12_qFloor 32 rfl) (by decide) ?_
      refine mf_lsub (mf_dat eX12_qFloor 33 rfl) ?_
      refine mf_goto (tgt := 55) (mf_dat eX12_qFloor 34 rfl) (by decide) ?_
      exact mf_lreturn (mf_dat eX12_qFloor 36 rfl) rfl ⟨rfl, hyp⟩
  · replace hyp := hyp.2 hc
    refine mf_iconst (v := 1) (mf_dat eX12_qFloor 27 rfl) (by decide) ?_
    refine mf_goto (tgt := 43) (mf_dat eX12_qFloor 28 rfl) (by decide) ?_
    refine mf_icmp_eq (tgt := 53) (mf_dat eX12_qFloor 30 rfl) (by decide) (fun hc => ?_) (fun hc => ?_)
    · replace hyp := hyp.1 hc
      refine mf_lload (mf_dat eX12_qFloor 35 rfl) rfl ?_
      exact mf_lreturn (mf_dat eX12_qFloor 36 rfl) rfl ⟨rfl, hyp⟩
    · replace hyp := hyp.2 hc
      refine mf_lload (mf_dat eX12_qFloor 31 rfl) rfl ?_
      refine mf_lconst (v := 1) (mf_dat eX12_qFloor 32 rfl) (by decide) ?_
      refine mf_lsub (mf_dat eX12_qFloor 33 rfl) ?_
      refine mf_goto (tgt := 55) (mf_dat eX12_qFloor 34 rfl) (by decide) ?_
      exact mf_lreturn (mf_dat eX12_qFloor 36 rfl) rfl ⟨rfl, hyp⟩
set_option maxRecDepth 100000 in
set_option maxHeartbeats 4000000 in
theorem wX12_qFloor {C : mf_G} {l : Launch} {d : Nat} {K : Int → mf_M → Prop} {x0 x2 : Int} {h : mf_M} (hyp : ((¬ x2 = 0 → ¬ x2 = 0 ∧ (∀ v2 : Int, v2 = mf_w64 (x0.tdiv x2) → ((x0.tmod x2 = 0 → K v2 h) ∧ (¬ x0.tmod x2 = 0 → ((0 ≤ x0 → BX12_qFloor_32 C l d K x2 v2 0 h) ∧ (¬ 0 ≤ x0 → BX12_qFloor_32 C l d K x2 v2 1 h)))))) ∧ (x2 = 0 → K 0 h))) : mM C l d YX12_qFloor [(1, x0), (1, x2)] h K := by
  intro g hG
  refine mf_entry (by decide) (Nat.le_of_ble_eq_true rfl) ?_
  refine mf_lload_n (mf_dat eX12_qFloor 0 rfl) rfl rfl ?_
  refine mf_lconst (v := 0) (mf_dat eX12_qFloor 1 rfl) (by decide) ?_
  refine mf_lcmp_ne (tgt := 8) (mf_dat eX12_qFloor 2 rfl) (mf_dat eX12_qFloor 3 rfl) (by decide) (fun hc => ?_) (fun hc => ?_)
  · replace hyp := hyp.1 hc
    refine mf_lload_n (mf_dat eX12_qFloor 6 rfl) rfl rfl ?_
    refine mf_lload_n (mf_dat eX12_qFloor 7 rfl) rfl rfl ?_
    obtain ⟨ck1, hyp⟩ := hyp
    refine mf_ldiv (mf_dat eX12_qFloor 8 rfl) ck1 ?_
    generalize qv2 : mf_w64 (x0.tdiv x2) = v2
    replace hyp := hyp _ qv2.symm
    refine mf_lstore (mf_dat eX12_qFloor 9 rfl) (by decide) ?_
    refine mf_lload_n (mf_dat eX12_qFloor 10 rfl) rfl rfl ?_
    refine mf_lload_n (mf_dat eX12_qFloor 11 rfl) rfl rfl ?_
    refine mf_lrem (mf_dat eX12_qFloor 12 rfl) ck1 ?_
    refine mf_lconst (v := 0) (mf_dat eX12_qFloor 13 rfl) (by decide) ?_
    refine mf_lcmp_eq (tgt := 53) (mf_dat eX12_qFloor 14 rfl) (mf_dat eX12_qFloor 15 rfl) (by decide) (fun hc => ?_) (fun hc => ?_)
    · replace hyp := hyp.1 hc
      refine mf_lload (mf_dat eX12_qFloor 35 rfl) rfl ?_
      exact mf_lreturn (mf_dat eX12_qFloor 36 rfl) rfl ⟨rfl, hyp⟩
    · replace hyp := hyp.2 hc
      refine mf_lload_n (mf_dat eX12_qFloor 16 rfl) rfl rfl ?_
      refine mf_lconst (v := 0) (mf_dat eX12_qFloor 17 rfl) (by decide) ?_
      refine mf_lcmp_ge (tgt := 31) (mf_dat eX12_qFloor 18 rfl) (mf_dat eX12_qFloor 19 rfl) (by decide) (fun hc => ?_) (fun hc => ?_)
      · replace hyp := hyp.1 hc
        refine mf_iconst (v := 0) (mf_dat eX12_qFloor 22 rfl) (by decide) ?_
        exact mf_sub [2, 0] rfl (hyp g hG)
      · replace hyp := hyp.2 hc
        refine mf_iconst (v := 1) (mf_dat eX12_qFloor 20 rfl) (by decide) ?_
        refine mf_goto (tgt := 32) (mf_dat eX12_qFloor 21 rfl) (by decide) ?_
        exact mf_sub [2, 0] rfl (hyp g hG)
  · replace hyp := hyp.2 hc
    refine mf_lconst (v := 0) (mf_dat eX12_qFloor 4 rfl) (by decide) ?_
    exact mf_lreturn (mf_dat eX12_qFloor 5 rfl) rfl ⟨rfl, hyp⟩
set_option maxRecDepth 100000 in
set_option maxHeartbeats 4000000 in
theorem wX12_qPuts {C : mf_G} {l : Launch} {d : Nat} {K : Int → mf_M → Prop} {x1 : Int} {h : mf_M} (hyp : 0 ≤ h 245 101 ∧ h 245 101 < 1700 ∧ (∀ h3 : mf_M, h3 = mf_up h 317 (h 245 101) x1 → (∀ h4 : mf_M, h4 = mf_up h3 245 101 (mf_w32 ((h3 245 101) + 1)) → K 0 h4))) : mM C l d YX12_qPuts [(2, 245), (1, x1)] h K := by
  intro g hG
  refine mf_entry (by decide) (Nat.le_of_ble_eq_true rfl) ?_
  refine mf_aload_n (mf_dat eX12_qPuts 0 rfl) rfl rfl ?_
  refine mf_getf (r := (RX12, TX12, 106)) (ci := 12) (k := 100) (t := 2) (v := 317) (mf_dat eX12_qPuts 1 rfl) fl_X12_234 rfl (by decide) rfl (gm_100 hG) is245 ?_
  refine mf_aload_n (mf_dat eX12_qPuts 2 rfl) rfl rfl ?_
  refine mf_getf (r := (RX12, TX12, 106)) (ci := 12) (k := 101) (t := 0) (v := h 245 101) (mf_dat eX12_qPuts 3 rfl) fl_X12_422 rfl (by decide) rfl rfl is245 ?_
  refine mf_lload_n (mf_dat eX12_qPuts 4 rfl) rfl rfl ?_
  obtain ⟨ck1, hyp⟩ := hyp
  obtain ⟨ck2, hyp⟩ := hyp
  refine mf_last (mf_dat eX12_qPuts 5 rfl) is317 len317 ck1 ck2 ?_
  generalize qh3 : mf_up h 317 (h 245 101) x1 = h3
  replace hyp := hyp _ qh3.symm
  refine mf_aload_n (mf_dat eX12_qPuts 6 rfl) rfl rfl ?_
  refine mf_dup (mf_dat eX12_qPuts 7 rfl) (by decide) ?_
  refine mf_getf (r := (RX12, TX12, 106)) (ci := 12) (k := 101) (t := 0) (v := h3 245 101) (mf_dat eX12_qPuts 8 rfl) fl_X12_422 rfl (by decide) rfl rfl is245 ?_
  refine mf_iconst (v := 1) (mf_dat eX12_qPuts 9 rfl) (by decide) ?_
  refine mf_iadd (mf_dat eX12_qPuts 10 rfl) ?_
  refine mf_putI (r := (RX12, TX12, 106)) (ci := 12) (k := 101) (kI := 101) (t := 0) (mf_dat eX12_qPuts 11 rfl) fl_X12_422 rfl rfl (by decide) rfl (by decide) rfl (by decide) (fun h9 => absurd h9 (by decide)) is245 ?_
  generalize qh4 : mf_up h3 245 101 (mf_w32 ((h3 245 101) + 1)) = h4
  replace hyp := hyp _ qh4.symm
  exact mf_return (mf_dat eX12_qPuts 12 rfl) rfl ⟨rfl, hyp⟩
set_option maxRecDepth 100000 in
set_option maxHeartbeats 4000000 in
theorem wX12_qJoins {C : mf_G} {l : Launch} {d : Nat} {K : Int → mf_M → Prop} {x1 : Int} {h : mf_M} (hd : 1 ≤ d) (hyp : 0 ≤ mf_w32 ((h 245 101) - 1) ∧ mf_w32 ((h 245 101) - 1) < 1700 ∧ (∀ v3 : Int, v3 = h 317 (mf_w32 ((h 245 101) - 1)) → 0 ≤ mf_w32 ((h 245 101) - 2) ∧ mf_w32 ((h 245 101) - 2) < 1700 ∧ (∀ v6 : Int, v6 = h 317 (mf_w32 ((h 245 101) - 2)) → (∀ h7 : mf_M, h7 = mf_up h 245 101 (mf_w32 ((h 245 101) - 2)) → ((x1 = 1 → mM C l 0 YX12_qClip [(1, mf_w64 (v6 + v3))] h7 (fun r8 h10 => mM C l 0 YX12_qPuts [(2, 245), (1, r8)] h10 (fun r11 h13 => K 0 h13))) ∧ (x1 = 2 → mM C l 0 YX12_qClip [(1, mf_w64 (v6 - v3))] h7 (fun r14 h16 => mM C l 0 YX12_qPuts [(2, 245), (1, r14)] h16 (fun r17 h19 => K 0 h19))) ∧ (x1 = 3 → mM C l 0 YX12_qClip [(1, mf_w64 (v6 * v3))] h7 (fun r20 h22 => mM C l 0 YX12_qPuts [(2, 245), (1, r20)] h22 (fun r23 h25 => K 0 h25))) ∧ (x1 = 4 → mM C l 0 YX12_qFloor [(1, v6), (1, v3)] h7 (fun r26 h28 => mM C l 0 YX12_qPuts [(2, 245), (1, r26)] h28 (fun r29 h31 => K 0 h31))) ∧ (x1 = 5 → ((v3 ≤ v6 → mM C l 0 YX12_qPuts [(2, 245), (1, v3)] h7 (fun r32 h34 => K 0 h34)) ∧ (¬ v3 ≤ v6 → mM C l 0 YX12_qPuts [(2, 245), (1, v6)] h7 (fun r35 h37 => K 0 h37)))) ∧ (x1 = 6 → ((v6 ≤ v3 → mM C l 0 YX12_qPuts [(2, 245), (1, v3)] h7 (fun r38 h40 => K 0 h40)) ∧ (¬ v6 ≤ v3 → mM C l 0 YX12_qPuts [(2, 245), (1, v6)] h7 (fun r41 h43 => K 0 h43)))) ∧ (x1 = 7 → ((v3 ≤ v6 → mM C l 0 YX12_qPuts [(2, 245), (1, 0)] h7 (fun r44 h46 => K 0 h46)) ∧ (¬ v3 ≤ v6 → mM C l 0 YX12_qPuts [(2, 245), (1, 1)] h7 (fun r47 h49 => K 0 h49)))) ∧ (x1 = 8 → ((v6 ≤ v3 → mM C l 0 YX12_qPuts [(2, 245), (1, 0)] h7 (fun r50 h52 => K 0 h52)) ∧ (¬ v6 ≤ v3 → mM C l 0 YX12_qPuts [(2, 245), (1, 1)] h7 (fun r53 h55 => K 0 h55)))) ∧ (x1 = 9 → ((¬ v6 = v3 → mM C l 0 YX12_qPuts [(2, 245), (1, 0)] h7 (fun r56 h58 => K 0 h58)) ∧ (v6 = v3 → mM C l 0 YX12_qPuts [(2, 245), (1, 1)] h7 (fun r59 h61 => K 0 h61)))) ∧ (x1 = 10 → mM C l 0 YX12_qPuts [(2, 245), (1, mf_w64 (v6 * v3))] h7 (fun r62 h64 => K 0 h64)) ∧ ((x1 < 1 ∨ 10 < x1) → ((mf_w64 (v6 + v3) ≤ 0 → mM C l 0 YX12_qPuts [(2, 245), (1, 0)] h7 (fun r65 h67 => K 0 h67)) ∧ (¬ mf_w64 (v6 + v3) ≤ 0 → mM C l 0 YX12_qPuts [(2, 245), (1, 1)] h7 (fun r68 h70 => K 0 h70))))))))) : mM C l d YX12_qJoins [(2, 245), (0, x1)] h K := by
  intro g hG
  refine mf_entry (by decide) (Nat.le_of_ble_eq_true rfl) ?_
  refine mf_aload_n (mf_dat eX12_qJoins_p0 0 rfl) rfl rfl ?_
  refine mf_getf (r := (RX12, TX12, 106)) (ci := 12) (k := 100) (t := 2) (v := 317) (mf_dat eX12_qJoins_p0 1 rfl) fl_X12_234 rfl (by decide) rfl (gm_100 hG) is245 ?_
  refine mf_aload_n (mf_dat eX12_qJoins_p0 2 rfl) rfl rfl ?_
  refine mf_getf (r := (RX12, TX12, 106)) (ci := 12) (k := 101) (t := 0) (v := h 245 101) (mf_dat eX12_qJoins_p0 3 rfl) fl_X12_422 rfl (by decide) rfl rfl is245 ?_
  refine mf_iconst (v := 1) (mf_dat eX12_qJoins_p0 4 rfl) (by decide) ?_
  refine mf_isub (mf_dat eX12_qJoins_p0 5 rfl) ?_
  obtain ⟨ck1, hyp⟩ := hyp
  obtain ⟨ck2, hyp⟩ := hyp
  refine mf_lald (mf_dat eX12_qJoins_p0 6 rfl) is317 len317 ck1 ck2 ?_
  generalize qv3 : h 317 (mf_w32 ((h 245 101) - 1)) = v3
  replace hyp := hyp _ qv3.symm
  refine mf_lstore_n (mf_dat eX12_qJoins_p0 7 rfl) rfl (by decide) ?_
  refine mf_aload_n (mf_dat eX12_qJoins_p0 8 rfl) rfl rfl ?_
  refine mf_getf (r := (RX12, TX12, 106)) (ci := 12) (k := 100) (t := 2) (v := 317) (mf_dat eX12_qJoins_p0 9 rfl) fl_X12_234 rfl (by decide) rfl (gm_100 hG) is245 ?_
  refine mf_aload_n (mf_dat eX12_qJoins_p0 10 rfl) rfl rfl ?_
  refine mf_getf (r := (RX12, TX12, 106)) (ci := 12) (k := 101) (t := 0) (v := h 245 101) (mf_dat eX12_qJoins_p0 11 rfl) fl_X12_422 rfl (by decide) rfl rfl is245 ?_
  refine mf_iconst (v := 2) (mf_dat eX12_qJoins_p0 12 rfl) (by decide) ?_
  refine mf_isub (mf_dat eX12_qJoins_p0 13 rfl) ?_
  obtain ⟨ck4, hyp⟩ := hyp
  obtain ⟨ck5, hyp⟩ := hyp
  refine mf_lald (mf_dat eX12_qJoins_p0 14 rfl) is317 len317 ck4 ck5 ?_
  generalize qv6 : h 317 (mf_w32 ((h 245 101) - 2)) = v6
  replace hyp := hyp _ qv6.symm
  refine mf_lstore (mf_dat eX12_qJoins_p0 15 rfl) (by decide) ?_
  refine mf_aload_n (mf_dat eX12_qJoins_p0 16 rfl) rfl rfl ?_
  refine mf_dup (mf_dat eX12_qJoins_p0 17 rfl) (by decide) ?_
  refine mf_getf (r := (RX12, TX12, 106)) (ci := 12) (k := 101) (t := 0) (v := h 245 101) (mf_dat eX12_qJoins_p0 18 rfl) fl_X12_422 rfl (by decide) rfl rfl is245 ?_
  refine mf_iconst (v := 2) (mf_dat eX12_qJoins_p0 19 rfl) (by decide) ?_
  refine mf_isub (mf_dat eX12_qJoins_p0 20 rfl) ?_
  refine mf_putI (r := (RX12, TX12, 106)) (ci := 12) (k := 101) (kI := 101) (t := 0) (mf_dat eX12_qJoins_p0 21 rfl) fl_X12_422 rfl rfl (by decide) rfl (by decide) rfl (by decide) (fun h9 => absurd h9 (by decide)) is245 ?_
  generalize qh7 : mf_up h 245 101 (mf_w32 ((h 245 101) - 2)) = h7
  replace hyp := hyp _ qh7.symm
  refine mf_iload_n (mf_dat eX12_qJoins_p0 22 rfl) rfl rfl ?_
  refine mf_tsw1 (v := 1) (tgt := 92) (mf_dat eX12_qJoins_p0 23 rfl) (by decide) (by decide) (off := 56) (by decide) (by decide) (fun hc => ?_) (fun hc0 => ?_)
  · replace hyp := hyp.1 hc
    refine mf_aload_n (mf_dat eX12_qJoins_p0 24 rfl) rfl rfl ?_
    refine mf_lload (mf_dat eX12_qJoins_p0 25 rfl) rfl ?_
    refine mf_lload_n (mf_dat eX12_qJoins_p0 26 rfl) rfl rfl ?_
    refine mf_ladd (mf_dat eX12_qJoins_p0 27 rfl) ?_
    refine mf_callS (Yc := YX12_qClip) (mf_dat eX12_qJoins_p0 28 rfl) ml_X12_636 okX12_qClip sm_X12_qClip rfl rfl (Nat.le_of_ble_eq_true rfl) (mf_rr (Nat.le_trans (by decide) hd) (Nat.le_refl _)) (Nat.le_refl _) (hyp g hG) (fun r8 g9 h10 hyp => ?_)
    obtain ⟨hgg, hyp⟩ := hyp
    subst hgg
    refine mf_callV (Yc := YX12_qPuts) (r := (RX12, TX12, 106)) (ci := 12) (mf_dat eX12_qJoins_p0 29 rfl) ml_X12_425 okX12_qPuts im_X12_qPuts sl_X12_qPuts rfl rfl rfl rfl (Nat.le_of_ble_eq_true rfl) (mf_rr (Nat.le_trans (by decide) hd) (Nat.le_refl _)) (Nat.le_refl _) is245 (hyp g9 hG) (fun r11 g12 h13 hyp => ?_)
    obtain ⟨hgg, hyp⟩ := hyp
    subst hgg
    refine mf_goto (tgt := 273) (mf_dat eX12_qJoins_p0 30 rfl) (by decide) ?_
    exact mf_return (mf_dat eX12_qJoins_p1 58 rfl) rfl ⟨rfl, hyp⟩
  replace hyp := hyp.2
  refine mf_tsw1 (v := 2) (tgt := 106) (mf_dat eX12_qJoins_p0 23 rfl) (by decide) (by decide) (off := 70) (by decide) (by decide) (fun hc => ?_) (fun hc1 => ?_)
  · replace hyp := hyp.1 hc
    refine mf_aload_n (mf_dat eX12_qJoins_p0 31 rfl) rfl rfl ?_
    refine mf_lload (mf_dat eX12_qJoins_p0 32 rfl) rfl ?_
    refine mf_lload_n (mf_dat eX12_qJoins_p0 33 rfl) rfl rfl ?_
    refine mf_lsub (mf_dat eX12_qJoins_p0 34 rfl) ?_
    refine mf_callS (Yc := YX12_qClip) (mf_dat eX12_qJoins_p0 35 rfl) ml_X12_636 okX12_qClip sm_X12_qClip rfl rfl (Nat.le_of_ble_eq_true rfl) (mf_rr (Nat.le_trans (by decide) hd) (Nat.le_refl _)) (Nat.le_refl _) (hyp g hG) (fun r14 g15 h16 hyp => ?_)
    obtain ⟨hgg, hyp⟩ := hyp
    subst hgg
    refine mf_callV (Yc := YX12_qPuts) (r := (RX12, TX12, 106)) (ci := 12) (mf_dat eX12_qJoins_p0 36 rfl) ml_X12_425 okX12_qPuts im_X12_qPuts sl_X12_qPuts rfl rfl rfl rfl (Nat.le_of_ble_eq_true rfl) (mf_rr (Nat.le_trans (by decide) hd) (Nat.le_refl _)) (Nat.le_refl _) is245 (hyp g15 hG) (fun r17 g18 h19 hyp => ?_)
    obtain ⟨hgg, hyp⟩ := hyp
    subst hgg
    refine mf_goto (tgt := 273) (mf_dat eX12_qJoins_p0 37 rfl) (by decide) ?_
    exact mf_return (mf_dat eX12_qJoins_p1 58 rfl) rfl ⟨rfl, hyp⟩
  replace hyp := hyp.2
  refine mf_tsw1 (v := 3) (tgt := 120) (mf_dat eX12_qJoins_p0 23 rfl) (by decide) (by decide) (off := 84) (by decide) (by decide) (fun hc => ?_) (fun hc2 => ?_)
  · replace hyp := hyp.1 hc
    refine mf_aload_n (mf_dat eX12_qJoins_p0 38 rfl) rfl rfl ?_
    refine mf_lload (mf_dat eX12_qJoins_p0 39 rfl) rfl ?_
    refine mf_lload_n (mf_dat eX12_qJoins_p0 40 rfl) rfl rfl ?_
    refine mf_lmul (mf_dat eX12_qJoins_p0 41 rfl) ?_
    refine mf_callS (Yc := YX12_qClip) (mf_dat eX12_qJoins_p0 42 rfl) ml_X12_636 okX12_qClip sm_X12_qClip rfl rfl (Nat.le_of_ble_eq_true rfl) (mf_rr (Nat.le_trans (by decide) hd) (Nat.le_refl _)) (Nat.le_refl _) (hyp g hG) (fun r20 g21 h22 hyp => ?_)
    obtain ⟨hgg, hyp⟩ := hyp
    subst hgg
    refine mf_callV (Yc := YX12_qPuts) (r := (RX12, TX12, 106)) (ci := 12) (mf_dat eX12_qJoins_p0 43 rfl) ml_X12_425 okX12_qPuts im_X12_qPuts sl_X12_qPuts rfl rfl rfl rfl (Nat.le_of_ble_eq_true rfl) (mf_rr (Nat.le_trans (by decide) hd) (Nat.le_refl _)) (Nat.le_refl _) is245 (hyp g21 hG) (fun r23 g24 h25 hyp => ?_)
    obtain ⟨hgg, hyp⟩ := hyp
    subst hgg
    refine mf_goto (tgt := 273) (mf_dat eX12_qJoins_p0 44 rfl) (by decide) ?_
    exact mf_return (mf_dat eX12_qJoins_p1 58 rfl) rfl ⟨rfl, hyp⟩
  replace hyp := hyp.2
  refine mf_tsw1 (v := 4) (tgt := 134) (mf_dat eX12_qJoins_p0 23 rfl) (by decide) (by decide) (off := 98) (by decide) (by decide) (fun hc => ?_) (fun hc3 => ?_)
  · replace hyp := hyp.1 hc
    refine mf_aload_n (mf_dat eX12_qJoins_p0 45 rfl) rfl rfl ?_
    refine mf_lload (mf_dat eX12_qJoins_p0 46 rfl) rfl ?_
    refine mf_lload_n (mf_dat eX12_qJoins_p0 47 rfl) rfl rfl ?_
    refine mf_callS (Yc := YX12_qFloor) (mf_dat eX12_qJoins_p0 48 rfl) ml_X12_640 okX12_qFloor sm_X12_qFloor rfl rfl (Nat.le_of_ble_eq_true rfl) (mf_rr (Nat.le_trans (by decide) hd) (Nat.le_refl _)) (Nat.le_refl _) (hyp g hG) (fun r26 g27 h28 hyp => ?_)
    obtain ⟨hgg, hyp⟩ := hyp
    subst hgg
    refine mf_callV (Yc := YX12_qPuts) (r := (RX12, TX12, 106)) (ci := 12) (mf_dat eX12_qJoins_p0 49 rfl) ml_X12_425 okX12_qPuts im_X12_qPuts sl_X12_qPuts rfl rfl rfl rfl (Nat.le_of_ble_eq_true rfl) (mf_rr (Nat.le_trans (by decide) hd) (Nat.le_refl _)) (Nat.le_refl _) is245 (hyp g27 hG) (fun r29 g30 h31 hyp => ?_)
    obtain ⟨hgg, hyp⟩ := hyp
    subst hgg
    refine mf_goto (tgt := 273) (mf_dat eX12_qJoins_p0 50 rfl) (by decide) ?_
    exact mf_return (mf_dat eX12_qJoins_p1 58 rfl) rfl ⟨rfl, hyp⟩
  replace hyp := hyp.2
  refine mf_tsw1 (v := 5) (tgt := 147) (mf_dat eX12_qJoins_p0 23 rfl) (by decide) (by decide) (off := 111) (by decide) (by decide) (fun hc => ?_) (fun hc4 => ?_)
  · replace hyp := hyp.1 hc
    refine mf_aload_n (mf_dat eX12_qJoins_p0 51 rfl) rfl rfl ?_
    refine mf_lload (mf_dat eX12_qJoins_p0 52 rfl) rfl ?_
    refine mf_lload_n (mf_dat eX12_qJoins_p0 53 rfl) rfl rfl ?_
    refine mf_lcmp_ge (tgt := 160) (mf_dat eX12_qJoins_p0 54 rfl) (mf_dat eX12_qJoins_p0 55 rfl) (by decide) (fun hc => ?_) (fun hc => ?_)
    · replace hyp := hyp.1 hc
      refine mf_lload_n (mf_dat eX12_qJoins_p0 58 rfl) rfl rfl ?_
      refine mf_callV (Yc := YX12_qPuts) (r := (RX12, TX12, 106)) (ci := 12) (mf_dat eX12_qJoins_p0 59 rfl) ml_X12_425 okX12_qPuts im_X12_qPuts sl_X12_qPuts rfl rfl rfl rfl (Nat.le_of_ble_eq_true rfl) (mf_rr (Nat.le_trans (by decide) hd) (Nat.le_refl _)) (Nat.le_refl _) is245 (hyp g hG) (fun r32 g33 h34 hyp => ?_)
      obtain ⟨hgg, hyp⟩ := hyp
      subst hgg
      refine mf_goto (tgt := 273) (mf_dat eX12_qJoins_p1 0 rfl) (by decide) ?_
      exact mf_return (mf_dat eX12_qJoins_p1 58 rfl) rfl ⟨rfl, hyp⟩
    · replace hyp := hyp.2 hc
      refine mf_lload (mf_dat eX12_qJoins_p0 56 rfl) rfl ?_
      refine mf_goto (tgt := 161) (mf_dat eX12_qJoins_p0 57 rfl) (by decide) ?_
      refine mf_callV (Yc := YX12_qPuts) (r := (RX12, TX12, 106)) (ci := 12) (mf_dat eX12_qJoins_p0 59 rfl) ml_X12_425 okX12_qPuts im_X12_qPuts sl_X12_qPuts rfl rfl rfl rfl (Nat.le_of_ble_eq_true rfl) (mf_rr (Nat.le_trans (by decide) hd) (Nat.le_refl _)) (Nat.le_refl _) is245 (hyp g hG) (fun r35 g36 h37 hyp => ?_)
      obtain ⟨hgg, hyp⟩ := hyp
      subst hgg
      refine mf_goto (tgt := 273) (mf_dat eX12_qJoins_p1 0 rfl) (by decide) ?_
      exact mf_return (mf_dat eX12_qJoins_p1 58 rfl) rfl ⟨rfl, hyp⟩
  replace hyp := hyp.2
  refine mf_tsw1 (v := 6) (tgt := 167) (mf_dat eX12_qJoins_p0 23 rfl) (by decide) (by decide) (off := 131) (by decide) (by decide) (fun hc => ?_) (fun hc5 => ?_)
  · replace hyp := hyp.1 hc
    refine mf_aload_n (mf_dat eX12_qJoins_p1 1 rfl) rfl rfl ?_
    refine mf_lload (mf_dat eX12_qJoins_p1 2 rfl) rfl ?_
    refine mf_lload_n (mf_dat eX12_qJoins_p1 3 rfl) rfl rfl ?_
    refine mf_lcmp_le (tgt := 180) (mf_dat eX12_qJoins_p1 4 rfl) (mf_dat eX12_qJoins_p1 5 rfl) (by decide) (fun hc => ?_) (fun hc => ?_)
    · replace hyp := hyp.1 hc
      refine mf_lload_n (mf_dat eX12_qJoins_p1 8 rfl) rfl rfl ?_
      refine mf_callV (Yc := YX12_qPuts) (r := (RX12, TX12, 106)) (ci := 12) (mf_dat eX12_qJoins_p1 9 rfl) ml_X12_425 okX12_qPuts im_X12_qPuts sl_X12_qPuts rfl rfl rfl rfl (Nat.le_of_ble_eq_true rfl) (mf_rr (Nat.le_trans (by decide) hd) (Nat.le_refl _)) (Nat.le_refl _) is245 (hyp g hG) (fun r38 g39 h40 hyp => ?_)
      obtain ⟨hgg, hyp⟩ := hyp
      subst hgg
      refine mf_goto (tgt := 273) (mf_dat eX12_qJoins_p1 10 rfl) (by decide) ?_
      exact mf_return (mf_dat eX12_qJoins_p1 58 rfl) rfl ⟨rfl, hyp⟩
    · replace hyp := hyp.2 hc
      refine mf_lload (mf_dat eX12_qJoins_p1 6 rfl) rfl ?_
      refine mf_goto (tgt := 181) (mf_dat eX12_qJoins_p1 7 rfl) (by decide) ?_
      refine mf_callV (Yc := YX12_qPuts) (r := (RX12, TX12, 106)) (ci := 12) (mf_dat eX12_qJoins_p1 9 rfl) ml_X12_425 okX12_qPuts im_X12_qPuts sl_X12_qPuts rfl rfl rfl rfl (Nat.le_of_ble_eq_true rfl) (mf_rr (Nat.le_trans (by decide) hd) (Nat.le_refl _)) (Nat.le_refl _) is245 (hyp g hG) (fun r41 g42 h43 hyp => ?_)
      obtain ⟨hgg, hyp⟩ := hyp
      subst hgg
      refine mf_goto (tgt := 273) (mf_dat eX12_qJoins_p1 10 rfl) (by decide) ?_
      exact mf_return (mf_dat eX12_qJoins_p1 58 rfl) rfl ⟨rfl, hyp⟩
  replace hyp := hyp.2
  refine mf_tsw1 (v := 7) (tgt := 187) (mf_dat eX12_qJoins_p0 23 rfl) (by decide) (by decide) (off := 151) (by decide) (by decide) (fun hc => ?_) (fun hc6 => ?_)
  · replace hyp := hyp.1 hc
    refine mf_aload_n (mf_dat eX12_qJoins_p1 11 rfl) rfl rfl ?_
    refine mf_lload (mf_dat eX12_qJoins_p1 12 rfl) rfl ?_
    refine mf_lload_n (mf_dat eX12_qJoins_p1 13 rfl) rfl rfl ?_
    refine mf_lcmp_ge (tgt := 199) (mf_dat eX12_qJoins_p1 14 rfl) (mf_dat eX12_qJoins_p1 15 rfl) (by decide) (fun hc => ?_) (fun hc => ?_)
    · replace hyp := hyp.1 hc
      refine mf_lconst (v := 0) (mf_dat eX12_qJoins_p1 18 rfl) (by decide) ?_
      refine mf_callV (Yc := YX12_qPuts) (r := (RX12, TX12, 106)) (ci := 12) (mf_dat eX12_qJoins_p1 19 rfl) ml_X12_425 okX12_qPuts im_X12_qPuts sl_X12_qPuts rfl rfl rfl rfl (Nat.le_of_ble_eq_true rfl) (mf_rr (Nat.le_trans (by decide) hd) (Nat.le_refl _)) (Nat.le_refl _) is245 (hyp g hG) (fun r44 g45 h46 hyp => ?_)
      obtain ⟨hgg, hyp⟩ := hyp
      subst hgg
      refine mf_goto (tgt := 273) (mf_dat eX12_qJoins_p1 20 rfl) (by decide) ?_
      exact mf_return (mf_dat eX12_qJoins_p1 58 rfl) rfl ⟨rfl, hyp⟩
    · replace hyp := hyp.2 hc
      refine mf_lconst (v := 1) (mf_dat eX12_qJoins_p1 16 rfl) (by decide) ?_
      refine mf_goto (tgt := 200) (mf_dat eX12_qJoins_p1 17 rfl) (by decide) ?_
      refine mf_callV (Yc := YX12_qPuts) (r := (RX12, TX12, 106)) (ci := 12) (mf_dat eX12_qJoins_p1 19 rfl) ml_X12_425 okX12_qPuts im_X12_qPuts sl_X12_qPuts rfl rfl rfl rfl (Nat.le_of_ble_eq_true rfl) (mf_rr (Nat.le_trans (by decide) hd) (Nat.le_refl _)) (Nat.le_refl _) is245 (hyp g hG) (fun r47 g48 h49 hyp => ?_)
      obtain ⟨hgg, hyp⟩ := hyp
      subst hgg
      refine mf_goto (tgt := 273) (mf_dat eX12_qJoins_p1 20 rfl) (by decide) ?_
      exact mf_return (mf_dat eX12_qJoins_p1 58 rfl) rfl ⟨rfl, hyp⟩
  replace hyp := hyp.2
  refine mf_tsw1 (v := 8) (tgt := 206) (mf_dat eX12_qJoins_p0 23 rfl) (by decide) (by decide) (off := 170) (by decide) (by decide) (fun hc => ?_) (fun hc7 => ?_)
  · replace hyp := hyp.1 hc
    refine mf_aload_n (mf_dat eX12_qJoins_p1 21 rfl) rfl rfl ?_
    refine mf_lload (mf_dat eX12_qJoins_p1 22 rfl) rfl ?_
    refine mf_lload_n (mf_dat eX12_qJoins_p1 23 rfl) rfl rfl ?_
    refine mf_lcmp_le (tgt := 218) (mf_dat eX12_qJoins_p1 24 rfl) (mf_dat eX12_qJoins_p1 25 rfl) (by decide) (fun hc => ?_) (fun hc => ?_)
    · replace hyp := hyp.1 hc
      refine mf_lconst (v := 0) (mf_dat eX12_qJoins_p1 28 rfl) (by decide) ?_
      refine mf_callV (Yc := YX12_qPuts) (r := (RX12, TX12, 106)) (ci := 12) (mf_dat eX12_qJoins_p1 29 rfl) ml_X12_425 okX12_qPuts im_X12_qPuts sl_X12_qPuts rfl rfl rfl rfl (Nat.le_of_ble_eq_true rfl) (mf_rr (Nat.le_trans (by decide) hd) (Nat.le_refl _)) (Nat.le_refl _) is245 (hyp g hG) (fun r50 g51 h52 hyp => ?_)
      obtain ⟨hgg, hyp⟩ := hyp
      subst hgg
      refine mf_goto (tgt := 273) (mf_dat eX12_qJoins_p1 30 rfl) (by decide) ?_
      exact mf_return (mf_dat eX12_qJoins_p1 58 rfl) rfl ⟨rfl, hyp⟩
    · replace hyp := hyp.2 hc
      refine mf_lconst (v := 1) (mf_dat eX12_qJoins_p1 26 rfl) (by decide) ?_
      refine mf_goto (tgt := 219) (mf_dat eX12_qJoins_p1 27 rfl) (by decide) ?_
      refine mf_callV (Yc := YX12_qPuts) (r := (RX12, TX12, 106)) (ci := 12) (mf_dat eX12_qJoins_p1 29 rfl) ml_X12_425 okX12_qPuts im_X12_qPuts sl_X12_qPuts rfl rfl rfl rfl (Nat.le_of_ble_eq_true rfl) (mf_rr (Nat.le_trans (by decide) hd) (Nat.le_refl _)) (Nat.le_refl _) is245 (hyp g hG) (fun r53 g54 h55 hyp => ?_)
      obtain ⟨hgg, hyp⟩ := hyp
      subst hgg
      refine mf_goto (tgt := 273) (mf_dat eX12_qJoins_p1 30 rfl) (by decide) ?_
      exact mf_return (mf_dat eX12_qJoins_p1 58 rfl) rfl ⟨rfl, hyp⟩
  replace hyp := hyp.2
  refine mf_tsw1 (v := 9) (tgt := 225) (mf_dat eX12_qJoins_p0 23 rfl) (by decide) (by decide) (off := 189) (by decide) (by decide) (fun hc => ?_) (fun hc8 => ?_)
  · replace hyp := hyp.1 hc
    refine mf_aload_n (mf_dat eX12_qJoins_p1 31 rfl) rfl rfl ?_
    refine mf_lload (mf_dat eX12_qJoins_p1 32 rfl) rfl ?_
    refine mf_lload_n (mf_dat eX12_qJoins_p1 33 rfl) rfl rfl ?_
    refine mf_lcmp_ne (tgt := 237) (mf_dat eX12_qJoins_p1 34 rfl) (mf_dat eX12_qJoins_p1 35 rfl) (by decide) (fun hc => ?_) (fun hc => ?_)
    · replace hyp := hyp.1 hc
      refine mf_lconst (v := 0) (mf_dat eX12_qJoins_p1 38 rfl) (by decide) ?_
      refine mf_callV (Yc := YX12_qPuts) (r := (RX12, TX12, 106)) (ci := 12) (mf_dat eX12_qJoins_p1 39 rfl) ml_X12_425 okX12_qPuts im_X12_qPuts sl_X12_qPuts rfl rfl rfl rfl (Nat.le_of_ble_eq_true rfl) (mf_rr (Nat.le_trans (by decide) hd) (Nat.le_refl _)) (Nat.le_refl _) is245 (hyp g hG) (fun r56 g57 h58 hyp => ?_)
      obtain ⟨hgg, hyp⟩ := hyp
      subst hgg
      refine mf_goto (tgt := 273) (mf_dat eX12_qJoins_p1 40 rfl) (by decide) ?_
      exact mf_return (mf_dat eX12_qJoins_p1 58 rfl) rfl ⟨rfl, hyp⟩
    · replace hyp := hyp.2 hc
      refine mf_lconst (v := 1) (mf_dat eX12_qJoins_p1 36 rfl) (by decide) ?_
      refine mf_goto (tgt := 238) (mf_dat eX12_qJoins_p1 37 rfl) (by decide) ?_
      refine mf_callV (Yc := YX12_qPuts) (r := (RX12, TX12, 106)) (ci := 12) (mf_dat eX12_qJoins_p1 39 rfl) ml_X12_425 okX12_qPuts im_X12_qPuts sl_X12_qPuts rfl rfl rfl rfl (Nat.le_of_ble_eq_true rfl) (mf_rr (Nat.le_trans (by decide) hd) (Nat.le_refl _)) (Nat.le_refl _) is245 (hyp g hG) (fun r59 g60 h61 hyp => ?_)
      obtain ⟨hgg, hyp⟩ := hyp
      subst hgg
      refine mf_goto (tgt := 273) (mf_dat eX12_qJoins_p1 40 rfl) (by decide) ?_
      exact mf_return (mf_dat eX12_qJoins_p1 58 rfl) rfl ⟨rfl, hyp⟩
  replace hyp := hyp.2
  refine mf_tsw1 (v := 10) (tgt := 244) (mf_dat eX12_qJoins_p0 23 rfl) (by decide) (by decide) (off := 208) (by decide) (by decide) (fun hc => ?_) (fun hc9 => ?_)
  · replace hyp := hyp.1 hc
    refine mf_aload_n (mf_dat eX12_qJoins_p1 41 rfl) rfl rfl ?_
    refine mf_lload (mf_dat eX12_qJoins_p1 42 rfl) rfl ?_
    refine mf_lload_n (mf_dat eX12_qJoins_p1 43 rfl) rfl rfl ?_
    refine mf_lmul (mf_dat eX12_qJoins_p1 44 rfl) ?_
    refine mf_callV (Yc := YX12_qPuts) (r := (RX12, TX12, 106)) (ci := 12) (mf_dat eX12_qJoins_p1 45 rfl) ml_X12_425 okX12_qPuts im_X12_qPuts sl_X12_qPuts rfl rfl rfl rfl (Nat.le_of_ble_eq_true rfl) (mf_rr (Nat.le_trans (by decide) hd) (Nat.le_refl _)) (Nat.le_refl _) is245 (hyp g hG) (fun r62 g63 h64 hyp => ?_)
    obtain ⟨hgg, hyp⟩ := hyp
    subst hgg
    refine mf_goto (tgt := 273) (mf_dat eX12_qJoins_p1 46 rfl) (by decide) ?_
    exact mf_return (mf_dat eX12_qJoins_p1 58 rfl) rfl ⟨rfl, hyp⟩
  replace hyp := hyp.2
  refine mf_tswO (tgt := 255) (mf_dat eX12_qJoins_p0 23 rfl) (by omega) (by decide) ?_
  replace hyp := hyp (by omega)
  refine mf_aload_n (mf_dat eX12_qJoins_p1 47 rfl) rfl rfl ?_
  refine mf_lload (mf_dat eX12_qJoins_p1 48 rfl) rfl ?_
  refine mf_lload_n (mf_dat eX12_qJoins_p1 49 rfl) rfl rfl ?_
  refine mf_ladd (mf_dat eX12_qJoins_p1 50 rfl) ?_
  refine mf_lconst (v := 0) (mf_dat eX12_qJoins_p1 51 rfl) (by decide) ?_
  refine mf_lcmp_le (tgt := 269) (mf_dat eX12_qJoins_p1 52 rfl) (mf_dat eX12_qJoins_p1 53 rfl) (by decide) (fun hc => ?_) (fun hc => ?_)
  · replace hyp := hyp.1 hc
    refine mf_lconst (v := 0) (mf_dat eX12_qJoins_p1 56 rfl) (by decide) ?_
    refine mf_callV (Yc := YX12_qPuts) (r := (RX12, TX12, 106)) (ci := 12) (mf_dat eX12_qJoins_p1 57 rfl) ml_X12_425 okX12_qPuts im_X12_qPuts sl_X12_qPuts rfl rfl rfl rfl (Nat.le_of_ble_eq_true rfl) (mf_rr (Nat.le_trans (by decide) hd) (Nat.le_refl _)) (Nat.le_refl _) is245 (hyp g hG) (fun r65 g66 h67 hyp => ?_)
    obtain ⟨hgg, hyp⟩ := hyp
    subst hgg
    exact mf_return (mf_dat eX12_qJoins_p1 58 rfl) rfl ⟨rfl, hyp⟩
  · replace hyp := hyp.2 hc
    refine mf_lconst (v := 1) (mf_dat eX12_qJoins_p1 54 rfl) (by decide) ?_
    refine mf_goto (tgt := 270) (mf_dat eX12_qJoins_p1 55 rfl) (by decide) ?_
    refine mf_callV (Yc := YX12_qPuts) (r := (RX12, TX12, 106)) (ci := 12) (mf_dat eX12_qJoins_p1 57 rfl) ml_X12_425 okX12_qPuts im_X12_qPuts sl_X12_qPuts rfl rfl rfl rfl (Nat.le_of_ble_eq_true rfl) (mf_rr (Nat.le_trans (by decide) hd) (Nat.le_refl _)) (Nat.le_refl _) is245 (hyp g hG) (fun r68 g69 h70 hyp => ?_)
    obtain ⟨hgg, hyp⟩ := hyp
    subst hgg
    exact mf_return (mf_dat eX12_qJoins_p1 58 rfl) rfl ⟨rfl, hyp⟩
