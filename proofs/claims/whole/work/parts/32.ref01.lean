abbrev BX12_folio_40 (C : mf_G) (l : Launch) (d : Nat) (K : Int → mf_M → Prop) (x1 : Int) (h : mf_M) : Prop := jM C l d YX12_folio K 40 [(0, (2, 245)), (1, (0, x1))] [] h
abbrev BX12_folio_60 (C : mf_G) (l : Launch) (d : Nat) (K : Int → mf_M → Prop) (x1 : Int) (h : mf_M) : Prop := jM C l d YX12_folio K 60 [(0, (2, 245)), (1, (0, x1))] [] h
abbrev BX12_folio_81 (C : mf_G) (l : Launch) (d : Nat) (K : Int → mf_M → Prop) (x1 : Int) (h : mf_M) : Prop := jM C l d YX12_folio K 81 [(0, (2, 245)), (1, (0, x1))] [] h
abbrev BX12_folio_113 (C : mf_G) (l : Launch) (d : Nat) (K : Int → mf_M → Prop) (h : mf_M) : Prop := jM C l d YX12_folio K 113 [(0, (2, 245))] [] h
abbrev BX12_folio_135 (C : mf_G) (l : Launch) (d : Nat) (K : Int → mf_M → Prop) (h : mf_M) : Prop := jM C l d YX12_folio K 135 [(0, (2, 245))] [] h
set_option maxRecDepth 100000 in
set_option maxHeartbeats 4000000 in
theorem vX12_folio_40 {C : mf_G} {l : Launch} {d : Nat} {K : Int → mf_M → Prop} {x1 : Int} {h : mf_M} (hyp : ((3 ≤ x1 → BX12_folio_60 C l d K 0 h) ∧ (¬ 3 ≤ x1 → 0 ≤ x1 ∧ x1 < 6 ∧ (∀ h3 : mf_M, h3 = mf_up h 277 x1 0 → (∀ v4 : Int, v4 = mf_w32 (x1 + 1) → BX12_folio_40 C l d K v4 h3))))) : BX12_folio_40 C l d K x1 h := by
  intro g hG
  refine mf_iload_n (mf_dat eX12_folio_p0 24 rfl) rfl rfl ?_
  refine mf_iconst (v := 3) (mf_dat eX12_folio_p0 25 rfl) (by decide) ?_
  refine mf_icmp_ge (tgt := 58) (mf_dat eX12_folio_p0 26 rfl) (by decide) (fun hc => ?_) (fun hc => ?_)
  · replace hyp := hyp.1 hc
    refine mf_iconst (v := 0) (mf_dat eX12_folio_p0 34 rfl) (by decide) ?_
    refine mf_istore_n (mf_dat eX12_folio_p0 35 rfl) rfl (by decide) ?_
    exact mf_sub [1, 0] rfl (hyp g hG)
  · replace hyp := hyp.2 hc
    refine mf_aload_n (mf_dat eX12_folio_p0 27 rfl) rfl rfl ?_
    refine mf_getf (r := (RX12, TX12, 106)) (ci := 12) (k := 41) (t := 2) (v := 277) (mf_dat eX12_folio_p0 28 rfl) fl_X12_108 rfl (by decide) rfl (gm_41 hG) is245 ?_
    refine mf_iload_n (mf_dat eX12_folio_p0 29 rfl) rfl rfl ?_
    refine mf_iconst (v := 0) (mf_dat eX12_folio_p0 30 rfl) (by decide) ?_
    obtain ⟨ck1, hyp⟩ := hyp
    obtain ⟨ck2, hyp⟩ := hyp
    refine mf_iast (mf_dat eX12_folio_p0 31 rfl) is277 len277 ck1 ck2 ?_
    generalize qh3 : mf_up h 277 x1 0 = h3
    replace hyp := hyp _ qh3.symm
    refine mf_iinc (mf_dat eX12_folio_p0 32 rfl) rfl (by decide) (by decide) ?_
    generalize qv4 : mf_w32 (x1 + 1) = v4
    replace hyp := hyp _ qv4.symm
    refine mf_goto (tgt := 40) (mf_dat eX12_folio_p0 33 rfl) (by decide) ?_
    exact mf_sub [1, 0] rfl (hyp g hG)
set_option maxRecDepth 100000 in
set_option maxHeartbeats 4000000 in
theorem vX12_folio_60 {C : mf_G} {l : Launch} {d : Nat} {K : Int → mf_M → Prop} {x1 : Int} {h : mf_M} (hyp : ((6 ≤ x1 → BX12_folio_81 C l d K 0 h) ∧ (¬ 6 ≤ x1 → 0 ≤ x1 ∧ x1 < 6 ∧ (∀ h3 : mf_M, h3 = mf_up h 279 x1 0 → (∀ v4 : Int, v4 = mf_w32 (x1 + 1) → BX12_folio_60 C l d K v4 h3))))) : BX12_folio_60 C l d K x1 h := by
  intro g hG
  refine mf_iload_n (mf_dat eX12_folio_p0 36 rfl) rfl rfl ?_
  refine mf_bipush (v := 6) (mf_dat eX12_folio_p0 37 rfl) (by decide) ?_
  refine mf_icmp_ge (tgt := 79) (mf_dat eX12_folio_p0 38 rfl) (by decide) (fun hc => ?_) (fun hc => ?_)
  · replace hyp := hyp.1 hc
    refine mf_iconst (v := 0) (mf_dat eX12_folio_p0 46 rfl) (by decide) ?_
    refine mf_istore_n (mf_dat eX12_folio_p0 47 rfl) rfl (by decide) ?_
    exact mf_sub [1, 0] rfl (hyp g hG)
  · replace hyp := hyp.2 hc
    refine mf_aload_n (mf_dat eX12_folio_p0 39 rfl) rfl rfl ?_
    refine mf_getf (r := (RX12, TX12, 106)) (ci := 12) (k := 43) (t := 2) (v := 279) (mf_dat eX12_folio_p0 40 rfl) fl_X12_115 rfl (by decide) rfl (gm_43 hG) is245 ?_
    refine mf_iload_n (mf_dat eX12_folio_p0 41 rfl) rfl rfl ?_
    refine mf_iconst (v := 0) (mf_dat eX12_folio_p0 42 rfl) (by decide) ?_
    obtain ⟨ck1, hyp⟩ := hyp
    obtain ⟨ck2, hyp⟩ := hyp
    refine mf_iast (mf_dat eX12_folio_p0 43 rfl) is279 len279 ck1 ck2 ?_
    generalize qh3 : mf_up h 279 x1 0 = h3
    replace hyp := hyp _ qh3.symm
    refine mf_iinc (mf_dat eX12_folio_p0 44 rfl) rfl (by decide) (by decide) ?_
    generalize qv4 : mf_w32 (x1 + 1) = v4
    replace hyp := hyp _ qv4.symm
    refine mf_goto (tgt := 60) (mf_dat eX12_folio_p0 45 rfl) (by decide) ?_
    exact mf_sub [1, 0] rfl (hyp g hG)
set_option maxRecDepth 100000 in
set_option maxHeartbeats 4000000 in
theorem vX12_folio_81 {C : mf_G} {l : Launch} {d : Nat} {K : Int → mf_M → Prop} {x1 : Int} {h : mf_M} (hd : 5 ≤ d) (hyp : ((4 ≤ x1 → (∀ h1 : mf_M, h1 = mf_up h 245 47 0 → mM C l 4 YX12_folioTold [(2, 245)] h1 (fun r2 h4 => (∀ h5 : mf_M, h5 = mf_up h4 245 53 1 → BX12_folio_113 C l d K h5)))) ∧ (¬ 4 ≤ x1 → 0 ≤ x1 ∧ x1 < 8 ∧ (∀ h8 : mf_M, h8 = mf_up h 283 x1 (-1) → (∀ v9 : Int, v9 = mf_w32 (x1 + 1) → BX12_folio_81 C l d K v9 h8))))) : BX12_folio_81 C l d K x1 h := by
  intro g hG
  refine mf_iload_n (mf_dat eX12_folio_p0 48 rfl) rfl rfl ?_
  refine mf_iconst (v := 4) (mf_dat eX12_folio_p0 49 rfl) (by decide) ?_
  refine mf_icmp_ge (tgt := 99) (mf_dat eX12_folio_p0 50 rfl) (by decide) (fun hc => ?_) (fun hc => ?_)
  · replace hyp := hyp.1 hc
    refine mf_aload_n (mf_dat eX12_folio_p0 58 rfl) rfl rfl ?_
    refine mf_iconst (v := 0) (mf_dat eX12_folio_p0 59 rfl) (by decide) ?_
    refine mf_putI (r := (RX12, TX12, 106)) (ci := 12) (k := 47) (kI := 47) (t := 0) (mf_dat eX12_folio_p1 0 rfl) fl_X12_374 rfl rfl (by decide) rfl (by decide) rfl (by decide) (fun h9 => absurd h9 (by decide)) is245 ?_
    generalize qh1 : mf_up h 245 47 0 = h1
    replace hyp := hyp _ qh1.symm
    refine mf_aload_n (mf_dat eX12_folio_p1 1 rfl) rfl rfl ?_
    refine mf_callV (Yc := YX12_folioTold) (r := (RX12, TX12, 106)) (ci := 12) (mf_dat eX12_folio_p1 2 rfl) ml_X12_377 okX12_folioTold im_X12_folioTold sl_X12_folioTold rfl rfl rfl rfl (Nat.le_of_ble_eq_true rfl) (mf_rr (Nat.le_trans (by decide) hd) (Nat.le_refl _)) (Nat.le_refl _) is245 (hyp g hG) (fun r2 g3 h4 hyp => ?_)
    obtain ⟨hgg, hyp⟩ := hyp
    subst hgg
    refine mf_aload_n (mf_dat eX12_folio_p1 3 rfl) rfl rfl ?_
    refine mf_iconst (v := 1) (mf_dat eX12_folio_p1 4 rfl) (by decide) ?_
    refine mf_putI (r := (RX12, TX12, 106)) (ci := 12) (k := 53) (kI := 53) (t := 0) (mf_dat eX12_folio_p1 5 rfl) fl_X12_359 rfl rfl (by decide) rfl (by decide) rfl (by decide) (fun h9 => absurd h9 (by decide)) is245 ?_
    generalize qh5 : mf_up h4 245 53 1 = h5
    replace hyp := hyp _ qh5.symm
    exact mf_sub [0] rfl (hyp g3 hG)
  · replace hyp := hyp.2 hc
    refine mf_aload_n (mf_dat eX12_folio_p0 51 rfl) rfl rfl ?_
    refine mf_getf (r := (RX12, TX12, 106)) (ci := 12) (k := 49) (t := 2) (v := 283) (mf_dat eX12_folio_p0 52 rfl) fl_X12_127 rfl (by decide) rfl (gm_49 hG) is245 ?_
    refine mf_iload_n (mf_dat eX12_folio_p0 53 rfl) rfl rfl ?_
    refine mf_iconst (v := (-1)) (mf_dat eX12_folio_p0 54 rfl) (by decide) ?_
    obtain ⟨ck6, hyp⟩ := hyp
    obtain ⟨ck7, hyp⟩ := hyp
    refine mf_iast (mf_dat eX12_folio_p0 55 rfl) is283 len283 ck6 ck7 ?_
    generalize qh8 : mf_up h 283 x1 (-1) = h8
    replace hyp := hyp _ qh8.symm
    refine mf_iinc (mf_dat eX12_folio_p0 56 rfl) rfl (by decide) (by decide) ?_
    generalize qv9 : mf_w32 (x1 + 1) = v9
    replace hyp := hyp _ qv9.symm
    refine mf_goto (tgt := 81) (mf_dat eX12_folio_p0 57 rfl) (by decide) ?_
    exact mf_sub [1, 0] rfl (hyp g hG)
set_option maxRecDepth 100000 in
set_option maxHeartbeats 4000000 in
theorem vX12_folio_113 {C : mf_G} {l : Launch} {d : Nat} {K : Int → mf_M → Prop} {h : mf_M} (hd : 11 ≤ d) (hyp : ((¬ h 245 5 = 0 → BX12_folio_135 C l d K h) ∧ (h 245 5 = 0 → mM C l 0 YX12_look [(2, 245)] h (fun r1 h3 => ((r1 = (-1) → BX12_folio_135 C l d K h3) ∧ (¬ r1 = (-1) → mM C l 10 YX12_statementTold [(2, 245)] h3 (fun r4 h6 => BX12_folio_113 C l d K h6))))))) : BX12_folio_113 C l d K h := by
  intro g hG
  refine mf_aload_n (mf_dat eX12_folio_p1 6 rfl) rfl rfl ?_
  refine mf_getf (r := (RX12, TX12, 106)) (ci := 12) (k := 5) (t := 0) (v := h 245 5) (mf_dat eX12_folio_p1 7 rfl) fl_X12_243 rfl (by decide) rfl rfl is245 ?_
  refine mf_if_ne (tgt := 135) (mf_dat eX12_folio_p1 8 rfl) (by decide) (fun hc => ?_) (fun hc => ?_)
  · replace hyp := hyp.1 hc
    exact mf_sub [0] rfl (hyp g hG)
  · replace hyp := hyp.2 hc
    refine mf_aload_n (mf_dat eX12_folio_p1 9 rfl) rfl rfl ?_
    refine mf_callV (Yc := YX12_look) (r := (RX12, TX12, 106)) (ci := 12) (mf_dat eX12_folio_p1 10 rfl) ml_X12_255 okX12_look im_X12_look sl_X12_look rfl rfl rfl rfl (Nat.le_of_ble_eq_true rfl) (mf_rr (Nat.le_trans (by decide) hd) (Nat.le_refl _)) (Nat.le_refl _) is245 (hyp g hG) (fun r1 g2 h3 hyp => ?_)
    obtain ⟨hgg, hyp⟩ := hyp
    subst hgg
    refine mf_iconst (v := (-1)) (mf_dat eX12_folio_p1 11 rfl) (by decide) ?_
    refine mf_icmp_eq (tgt := 135) (mf_dat eX12_folio_p1 12 rfl) (by decide) (fun hc => ?_) (fun hc => ?_)
    · replace hyp := hyp.1 hc
      exact mf_sub [0] rfl (hyp g2 hG)
    · replace hyp := hyp.2 hc
      refine mf_aload_n (mf_dat eX12_folio_p1 13 rfl) rfl rfl ?_
      refine mf_callV (Yc := YX12_statementTold) (r := (RX12, TX12, 106)) (ci := 12) (mf_dat eX12_folio_p1 14 rfl) ml_X12_380 okX12_statementTold im_X12_statementTold sl_X12_statementTold rfl rfl rfl rfl (Nat.le_of_ble_eq_true rfl) (mf_rr (Nat.le_trans (by decide) hd) (Nat.le_refl _)) (Nat.le_refl _) is245 (hyp g2 hG) (fun r4 g5 h6 hyp => ?_)
      obtain ⟨hgg, hyp⟩ := hyp
      subst hgg
      refine mf_goto (tgt := 113) (mf_dat eX12_folio_p1 15 rfl) (by decide) ?_
      exact mf_sub [0] rfl (hyp g5 hG)
set_option maxRecDepth 100000 in
set_option maxHeartbeats 4000000 in
theorem vX12_folio_135 {C : mf_G} {l : Launch} {d : Nat} {K : Int → mf_M → Prop} {h : mf_M} (hd : 1 ≤ d) (hyp : (∀ h1 : mf_M, h1 = mf_up h 245 7 (h 245 5) → (∀ h2 : mf_M, h2 = mf_up h1 245 8 (h1 245 6) → ((h2 245 5 = 0 → mM C l 0 YX12_stands [(2, 245)] h2 (fun r3 h5 => K (h5 245 53) h5)) ∧ (¬ h2 245 5 = 0 → (∀ h6 : mf_M, h6 = mf_up h2 247 1 (mf_w32 ((h2 247 1) + 1)) → K (-1) h6)))))) : BX12_folio_135 C l d K h := by
  intro g hG
  refine mf_aload_n (mf_dat eX12_folio_p1 16 rfl) rfl rfl ?_
  refine mf_aload_n (mf_dat eX12_folio_p1 17 rfl) rfl rfl ?_
  refine mf_getf (r := (RX12, TX12, 106)) (ci := 12) (k := 5) (t := 0) (v := h 245 5) (mf_dat eX12_folio_p1 18 rfl) fl_X12_243 rfl (by decide) rfl rfl is245 ?_
  refine mf_putI (r := (RX12, TX12, 106)) (ci := 12) (k := 7) (kI := 7) (t := 0) (mf_dat eX12_folio_p1 19 rfl) fl_X12_383 rfl rfl (by decide) rfl (by decide) rfl (by decide) (fun h9 => absurd h9 (by decide)) is245 ?_
  generalize qh1 : mf_up h 245 7 (h 245 5) = h1
  replace hyp := hyp _ qh1.symm
  refine mf_aload_n (mf_dat eX12_folio_p1 20 rfl) rfl rfl ?_
  refine mf_aload_n (mf_dat eX12_folio_p1 21 rfl) rfl rfl ?_
  refine mf_getf (r := (RX12, TX12, 106)) (ci := 12) (k := 6) (t := 0) (v := h1 245 6) (mf_dat eX12_folio_p1 22 rfl) fl_X12_246 rfl (by decide) rfl rfl is245 ?_
  refine mf_putI (r := (RX12, TX12, 106)) (ci := 12) (k := 8) (kI := 8) (t := 0) (mf_dat eX12_folio_p1 23 rfl) fl_X12_13 rfl rfl (by decide) rfl (by decide) rfl (by decide) (fun h9 => absurd h9 (by decide)) is245 ?_
  generalize qh2 : mf_up h1 245 8 (h1 245 6) = h2
  replace hyp := hyp _ qh2.symm
  refine mf_aload_n (mf_dat eX12_folio_p1 24 rfl) rfl rfl ?_
  refine mf_getf (r := (RX12, TX12, 106)) (ci := 12) (k := 5) (t := 0) (v := h2 245 5) (mf_dat eX12_folio_p1 25 rfl) fl_X12_243 rfl (by decide) rfl rfl is245 ?_
  refine mf_if_eq (tgt := 170) (mf_dat eX12_folio_p1 26 rfl) (by decide) (fun hc => ?_) (fun hc => ?_)
  · replace hyp := hyp.1 hc
    refine mf_aload_n (mf_dat eX12_folio_p1 37 rfl) rfl rfl ?_
    refine mf_callV (Yc := YX12_stands) (r := (RX12, TX12, 106)) (ci := 12) (mf_dat eX12_folio_p1 38 rfl) ml_X12_386 okX12_stands im_X12_stands sl_X12_stands rfl rfl rfl rfl (Nat.le_of_ble_eq_true rfl) (mf_rr (Nat.le_trans (by decide) hd) (Nat.le_refl _)) (Nat.le_refl _) is245 (hyp g hG) (fun r3 g4 h5 hyp => ?_)
    obtain ⟨hgg, hyp⟩ := hyp
    subst hgg
    refine mf_aload_n (mf_dat eX12_folio_p1 39 rfl) rfl rfl ?_
    refine mf_getf (r := (RX12, TX12, 106)) (ci := 12) (k := 53) (t := 0) (v := h5 245 53) (mf_dat eX12_folio_p1 40 rfl) fl_X12_359 rfl (by decide) rfl rfl is245 ?_
    exact mf_ireturn (mf_dat eX12_folio_p1 41 rfl) rfl (Or.inl rfl) ⟨rfl, hyp⟩
  · replace hyp := hyp.2 hc
    refine mf_aload_n (mf_dat eX12_folio_p1 27 rfl) rfl rfl ?_
    refine mf_getf (r := (RX12, TX12, 106)) (ci := 12) (k := 9) (t := 2) (v := 247) (mf_dat eX12_folio_p1 28 rfl) fl_X12_17 rfl (by decide) rfl (gm_9 hG) is245 ?_
    refine mf_iconst (v := 1) (mf_dat eX12_folio_p1 29 rfl) (by decide) ?_
    refine mf_dup2 (mf_dat eX12_folio_p1 30 rfl) (by decide) (by decide) ?_
    refine mf_iald (mf_dat eX12_folio_p1 31 rfl) is247 len247 (by decide) (by decide) ?_
    refine mf_iconst (v := 1) (mf_dat eX12_folio_p1 32 rfl) (by decide) ?_
    refine mf_iadd (mf_dat eX12_folio_p1 33 rfl) ?_
    refine mf_iast (mf_dat eX12_folio_p1 34 rfl) is247 len247 (by decide) (by decide) ?_
    generalize qh6 : mf_up h2 247 1 (mf_w32 ((h2 247 1) + 1)) = h6
    replace hyp := hyp _ qh6.symm
    refine mf_iconst (v := (-1)) (mf_dat eX12_folio_p1 35 rfl) (by decide) ?_
    exact mf_ireturn (mf_dat eX12_folio_p1 36 rfl) rfl (Or.inl rfl) ⟨rfl, hyp⟩
set_option maxRecDepth 100000 in
set_option maxHeartbeats 4000000 in
theorem wX12_folio {C : mf_G} {l : Launch} {d : Nat} {K : Int → mf_M → Prop} {h : mf_M} (hyp : (∀ h1 : mf_M, h1 = mf_up h 245 3 (h 245 1) → (∀ h2 : mf_M, h2 = mf_up h1 245 1 0 → (∀ h3 : mf_M, h3 = mf_up h2 245 2 0 → (∀ h4 : mf_M, h4 = mf_up h3 245 4 (-1) → (∀ h5 : mf_M, h5 = mf_up h4 245 5 0 → (∀ h6 : mf_M, h6 = mf_up h5 245 6 (-1) → (∀ h7 : mf_M, h7 = mf_up h6 245 52 0 → BX12_folio_40 C l d K 0 h7)))))))) : mM C l d YX12_folio [(2, 245)] h K := by
  intro g hG
  refine mf_entry (by decide) (Nat.le_of_ble_eq_true rfl) ?_
  refine mf_aload_n (mf_dat eX12_folio_p0 0 rfl) rfl rfl ?_
  refine mf_aload_n (mf_dat eX12_folio_p0 1 rfl) rfl rfl ?_
  refine mf_getf (r := (RX12, TX12, 106)) (ci := 12) (k := 1) (t := 0) (v := h 245 1) (mf_dat eX12_folio_p0 2 rfl) fl_X12_240 rfl (by decide) rfl rfl is245 ?_
  refine mf_putI (r := (RX12, TX12, 106)) (ci := 12) (k := 3) (kI := 3) (t := 0) (mf_dat eX12_folio_p0 3 rfl) fl_X12_252 rfl rfl (by decide) rfl (by decide) rfl (by decide) (fun h9 => absurd h9 (by decide)) is245 ?_
  generalize qh1 : mf_up h 245 3 (h 245 1) = h1
  replace hyp := hyp _ qh1.symm
  refine mf_aload_n (mf_dat eX12_folio_p0 4 rfl) rfl rfl ?_
  refine mf_iconst (v := 0) (mf_dat eX12_folio_p0 5 rfl) (by decide) ?_
  refine mf_putI (r := (RX12, TX12, 106)) (ci := 12) (k := 1) (kI := 1) (t := 0) (mf_dat eX12_folio_p0 6 rfl) fl_X12_240 rfl rfl (by decide) rfl (by decide) rfl (by decide) (fun h9 => absurd h9 (by decide)) is245 ?_
  generalize qh2 : mf_up h1 245 1 0 = h2
  replace hyp := hyp _ qh2.symm
  refine mf_aload_n (mf_dat eX12_folio_p0 7 rfl) rfl rfl ?_
  refine mf_iconst (v := 0) (mf_dat eX12_folio_p0 8 rfl) (by decide) ?_
  refine mf_putI (r := (RX12, TX12, 106)) (ci := 12) (k := 2) (kI := 2) (t := 0) (mf_dat eX12_folio_p0 9 rfl) fl_X12_249 rfl rfl (by decide) rfl (by decide) rfl (by decide) (fun h9 => absurd h9 (by decide)) is245 ?_
  generalize qh3 : mf_up h2 245 2 0 = h3
  replace hyp := hyp _ qh3.symm
  refine mf_aload_n (mf_dat eX12_folio_p0 10 rfl) rfl rfl ?_
  refine mf_iconst (v := (-1)) (mf_dat eX12_folio_p0 11 rfl) (by decide) ?_
  refine mf_putI (r := (RX12, TX12, 106)) (ci := 12) (k := 4) (kI := 4) (t := 0) (mf_dat eX12_folio_p0 12 rfl) fl_X12_263 rfl rfl (by decide) rfl (by decide) rfl (by decide) (fun h9 => absurd h9 (by decide)) is245 ?_
  generalize qh4 : mf_up h3 245 4 (-1) = h4
  replace hyp := hyp _ qh4.symm
  refine mf_aload_n (mf_dat eX12_folio_p0 13 rfl) rfl rfl ?_
  refine mf_iconst (v := 0) (mf_dat eX12_folio_p0 14 rfl) (by decide) ?_
  refine mf_putI (r := (RX12, TX12, 106)) (ci := 12) (k := 5) (kI := 5) (t := 0) (mf_dat eX12_folio_p0 15 rfl) fl_X12_243 rfl rfl (by decide) rfl (by decide) rfl (by decide) (fun h9 => absurd h9 (by decide)) is245 ?_
  generalize qh5 : mf_up h4 245 5 0 = h5
  replace hyp := hyp _ qh5.symm
  refine mf_aload_n (mf_dat eX12_folio_p0 16 rfl) rfl rfl ?_
  refine mf_iconst (v := (-1)) (mf_dat eX12_folio_p0 17 rfl) (by decide) ?_
  refine mf_putI (r := (RX12, TX12, 106)) (ci := 12) (k := 6) (kI := 6) (t := 0) (mf_dat eX12_folio_p0 18 rfl) fl_X12_246 rfl rfl (by decide) rfl (by decide) rfl (by decide) (fun h9 => absurd h9 (by decide)) is245 ?_
  generalize qh6 : mf_up h5 245 6 (-1) = h6
  replace hyp := hyp _ qh6.symm
  refine mf_aload_n (mf_dat eX12_folio_p0 19 rfl) rfl rfl ?_
  refine mf_iconst (v := 0) (mf_dat eX12_folio_p0 20 rfl) (by decide) ?_
  refine mf_putI (r := (RX12, TX12, 106)) (ci := 12) (k := 52) (kI := 52) (t := 0) (mf_dat eX12_folio_p0 21 rfl) fl_X12_356 rfl rfl (by decide) rfl (by decide) rfl (by decide) (fun h9 => absurd h9 (by decide)) is245 ?_
  generalize qh7 : mf_up h6 245 52 0 = h7
  replace hyp := hyp _ qh7.symm
  refine mf_iconst (v := 0) (mf_dat eX12_folio_p0 22 rfl) (by decide) ?_
  refine mf_istore_n (mf_dat eX12_folio_p0 23 rfl) rfl (by decide) ?_
  exact mf_sub [1, 0] rfl (hyp g hG)
abbrev BX12_stands_7 (C : mf_G) (l : Launch) (d : Nat) (K : Int → mf_M → Prop) (x1 : Int) (h : mf_M) : Prop := jM C l d YX12_stands K 7 [(0, (2, 245)), (1, (0, x1))] [] h
abbrev BX12_stands_34 (C : mf_G) (l : Launch) (d : Nat) (K : Int → mf_M → Prop) (x1 : Int) (h : mf_M) : Prop := jM C l d YX12_stands K 34 [(0, (2, 245)), (1, (0, x1))] [] h
abbrev BX12_stands_61 (C : mf_G) (l : Launch) (d : Nat) (K : Int → mf_M → Prop) (x1 : Int) (h : mf_M) : Prop := jM C l d YX12_stands K 61 [(0, (2, 245)), (1, (0, x1))] [] h
abbrev BX12_stands_105 (C : mf_G) (l : Launch) (d : Nat) (K : Int → mf_M → Prop) (x1 : Int) (h : mf_M) : Prop := jM C l d YX12_stands K 105 [(0, (2, 245)), (1, (0, x1))] [] h
abbrev BX12_stands_142 (C : mf_G) (l : Launch) (d : Nat) (K : Int → mf_M → Prop) (x1 : Int) (h : mf_M) : Prop := jM C l d YX12_stands K 142 [(0, (2, 245)), (1, (0, x1))] [] h
abbrev BX12_stands_183 (C : mf_G) (l : Launch) (d : Nat) (K : Int → mf_M → Prop) (x1 : Int) (h : mf_M) : Prop := jM C l d YX12_stands K 183 [(0, (2, 245)), (1, (0, x1))] [] h
abbrev BX12_stands_215 (C : mf_G) (l : Launch) (d : Nat) (K : Int → mf_M → Prop) (x1 : Int) (h : mf_M) : Prop := jM C l d YX12_stands K 215 [(0, (2, 245)), (1, (0, x1))] [] h
abbrev BX12_stands_237 (C : mf_G) (l : Launch) (d : Nat) (K : Int → mf_M → Prop) (x1 : Int) (h : mf_M) : Prop := jM C l d YX12_stands K 237 [(0, (2, 245)), (1, (0, x1))] [] h
abbrev BX12_stands_265 (C : mf_G) (l : Launch) (d : Nat) (K : Int → mf_M → Prop) (x1 : Int) (h : mf_M) : Prop := jM C l d YX12_stands K 265 [(0, (2, 245)), (1, (0, x1))] [] h
set_option maxRecDepth 100000 in
set_option maxHeartbeats 4000000 in
theorem vX12_stands_7 {C : mf_G} {l : Launch} {d : Nat} {K : Int → mf_M → Prop} {x1 : Int} {h : mf_M} (hyp : ((2 ≤ x1 → BX12_stands_34 C l d K 0 h) ∧ (¬ 2 ≤ x1 → 0 ≤ x1 ∧ x1 < 4 ∧ 0 ≤ mf_w32 (2 + x1) ∧ mf_w32 (2 + x1) < 4 ∧ (∀ h5 : mf_M, h5 = mf_up h 276 (mf_w32 (2 + x1)) (h 276 x1) → (∀ v6 : Int, v6 = mf_w32 (x1 + 1) → BX12_stands_7 C l d K v6 h5))))) : BX12_stands_7 C l d K x1 h := by
  intro g hG
  refine mf_iload_n (mf_dat eX12_stands_p0 5 rfl) rfl rfl ?_
  refine mf_iconst (v := 2) (mf_dat eX12_stands_p0 6 rfl) (by decide) ?_
  refine mf_icmp_ge (tgt := 32) (mf_dat eX12_stands_p0 7 rfl) (by decide) (fun hc => ?_) (fun hc => ?_)
  · replace hyp := hyp.1 hc
    refine mf_iconst (v := 0) (mf_dat eX12_stands_p0 20 rfl) (by decide) ?_
    refine mf_istore_n (mf_dat eX12_stands_p0 21 rfl) rfl (by decide) ?_
    exact mf_sub [1, 0] rfl (hyp g hG)
  · replace hyp := hyp.2 hc
    refine mf_aload_n (mf_dat eX12_stands_p0 8 rfl) rfl rfl ?_
    refine mf_getf (r := (RX12, TX12, 106)) (ci := 12) (k := 40) (t := 2) (v := 276) (mf_dat eX12_stands_p0 9 rfl) fl_X12_105 rfl (by decide) rfl (gm_40 hG) is245 ?_
    refine mf_iconst (v := 2) (mf_dat eX12_stands_p0 10 rfl) (by decide) ?_
    refine mf_iload_n (mf_dat eX12_stands_p0 11 rfl) rfl rfl ?_
    refine mf_iadd (mf_dat eX12_stands_p0 12 rfl) ?_
    refine mf_aload_n (mf_dat eX12_stands_p0 13 rfl) rfl rfl ?_
    refine mf_getf (r := (RX12, TX12, 106)) (ci := 12) (k := 40) (t := 2) (v := 276) (mf_dat eX12_stands_p0 14 rfl) fl_X12_105 rfl (by decide) rfl (gm_40 hG) is245 ?_
    refine mf_iload_n (mf_dat eX12_stands_p0 15 rfl) rfl rfl ?_
    obtain ⟨ck1, hyp⟩ := hyp
    obtain ⟨ck2, hyp⟩ := hyp
    refine mf_iald (mf_dat eX12_stands_p0 16 rfl) is276 len276 ck1 ck2 ?_
    obtain ⟨ck3, hyp⟩ := hyp
    obtain ⟨ck4, hyp⟩ := hyp
    refine mf_iast (mf_dat eX12_stands_p0 17 rfl) is276 len276 ck3 ck4 ?_
    generalize qh5 : mf_up h 276 (mf_w32 (2 + x1)) (h 276 x1) = h5
    replace hyp := hyp _ qh5.symm
    refine mf_iinc (mf_dat eX12_stands_p0 18 rfl) rfl (by decide) (by decide) ?_
    generalize qv6 : mf_w32 (x1 + 1) = v6
    replace hyp := hyp _ qv6.symm
    refine mf_goto (tgt := 7) (mf_dat eX12_stands_p0 19 rfl) (by decide) ?_
    exact mf_sub [1, 0] rfl (hyp g hG)
set_option maxRecDepth 100000 in
set_option maxHeartbeats 4000000 in
theorem vX12_stands_34 {C : mf_G} {l : Launch} {d : Nat} {K : Int → mf_M → Prop} {x1 : Int} {h : mf_M} (hyp : ((3 ≤ x1 → BX12_stands_61 C l d K 0 h) ∧ (¬ 3 ≤ x1 → 0 ≤ x1 ∧ x1 < 6 ∧ 0 ≤ mf_w32 (3 + x1) ∧ mf_w32 (3 + x1) < 6 ∧ (∀ h5 : mf_M, h5 = mf_up h 277 (mf_w32 (3 + x1)) (h 277 x1) → (∀ v6 : Int, v6 = mf_w32 (x1 + 1) → BX12_stands_34 C l d K v6 h5))))) : BX12_stands_34 C l d K x1 h := by
  intro g hG
  refine mf_iload_n (mf_dat eX12_stands_p0 22 rfl) rfl rfl ?_
  refine mf_iconst (v := 3) (mf_dat eX12_stands_p0 23 rfl) (by decide) ?_
  refine mf_icmp_ge (tgt := 59) (mf_dat eX12_stands_p0 24 rfl) (by decide) (fun hc => ?_) (fun hc => ?_)
  · replace hyp := hyp.1 hc
    refine mf_iconst (v := 0) (mf_dat eX12_stands_p0 37 rfl) (by decide) ?_
    refine mf_istore_n (mf_dat eX12_stands_p0 38 rfl) rfl (by decide) ?_
    exact mf_sub [1, 0] rfl (hyp g hG)
  · replace hyp := hyp.2 hc
    refine mf_aload_n (mf_dat eX12_stands_p0 25 rfl) rfl rfl ?_
    refine mf_getf (r := (RX12, TX12, 106)) (ci := 12) (k := 41) (t := 2) (v := 277) (mf_dat eX12_stands_p0 26 rfl) fl_X12_108 rfl (by decide) rfl (gm_41 hG) is245 ?_
    refine mf_iconst (v := 3) (mf_dat eX12_stands_p0 27 rfl) (by decide) ?_
    refine mf_iload_n (mf_dat eX12_stands_p0 28 rfl) rfl rfl ?_
    refine mf_iadd (mf_dat eX12_stands_p0 29 rfl) ?_
    refine mf_aload_n (mf_dat eX12_stands_p0 30 rfl) rfl rfl ?_
    refine mf_getf (r := (RX12, TX12, 106)) (ci := 12) (k := 41) (t := 2) (v := 277) (mf_dat eX12_stands_p0 31 rfl) fl_X12_108 rfl (by decide) rfl (gm_41 hG) is245 ?_
    refine mf_iload_n (mf_dat eX12_stands_p0 32 rfl) rfl rfl ?_
    obtain ⟨ck1, hyp⟩ := hyp
    obtain ⟨ck2, hyp⟩ := hyp
    refine mf_iald (mf_dat eX12_stands_p0 33 rfl) is277 len277 ck1 ck2 ?_
    obtain ⟨ck3, hyp⟩ := hyp
    obtain ⟨ck4, hyp⟩ := hyp
    refine mf_iast (mf_dat eX12_stands_p0 34 rfl) is277 len277 ck3 ck4 ?_
    generalize qh5 : mf_up h 277 (mf_w32 (3 + x1)) (h 277 x1) = h5
    replace hyp := hyp _ qh5.symm
    refine mf_iinc (mf_dat eX12_stands_p0 35 rfl) rfl (by decide) (by decide) ?_
    generalize qv6 : mf_w32 (x1 + 1) = v6
    replace hyp := hyp _ qv6.symm
    refine mf_goto (tgt := 34) (mf_dat eX12_stands_p0 36 rfl) (by decide) ?_
    exact mf_sub [1, 0] rfl (hyp g hG)
set_option maxRecDepth 100000 in
set_option maxHeartbeats 4000000 in
theorem vX12_stands_61 {C : mf_G} {l : Launch} {d : Nat} {K : Int → mf_M → Prop} {x1 : Int} {h : mf_M} (hyp : ((8 ≤ x1 → BX12_stands_105 C l d K 0 h) ∧ (¬ 8 ≤ x1 → 0 ≤ x1 ∧ x1 < 16 ∧ 0 ≤ mf_w32 (8 + x1) ∧ mf_w32 (8 + x1) < 16 ∧ (∀ h5 : mf_M, h5 = mf_up h 278 (mf_w32 (8 + x1)) (h 278 x1) → (∀ h6 : mf_M, h6 = mf_up h5 282 (mf_w32 (8 + x1)) (h5 282 x1) → (∀ v7 : Int, v7 = mf_w32 (x1 + 1) → BX12_stands_61 C l d K v7 h6)))))) : BX12_stands_61 C l d K x1 h := by
  intro g hG
  refine mf_iload_n (mf_dat eX12_stands_p0 39 rfl) rfl rfl ?_
  refine mf_bipush (v := 8) (mf_dat eX12_stands_p0 40 rfl) (by decide) ?_
  refine mf_icmp_ge (tgt := 103) (mf_dat eX12_stands_p0 41 rfl) (by decide) (fun hc => ?_) (fun hc => ?_)
  · replace hyp := hyp.1 hc
    refine mf_iconst (v := 0) (mf_dat eX12_stands_p1 4 rfl) (by decide) ?_
    refine mf_istore_n (mf_dat eX12_stands_p1 5 rfl) rfl (by decide) ?_
    exact mf_sub [1, 0] rfl (hyp g hG)
  · replace hyp := hyp.2 hc
    refine mf_aload_n (mf_dat eX12_stands_p0 42 rfl) rfl rfl ?_
    refine mf_getf (r := (RX12, TX12, 106)) (ci := 12) (k := 42) (t := 2) (v := 278) (mf_dat eX12_stands_p0 43 rfl) fl_X12_111 rfl (by decide) rfl (gm_42 hG) is245 ?_
    refine mf_bipush (v := 8) (mf_dat eX12_stands_p0 44 rfl) (by decide) ?_
    refine mf_iload_n (mf_dat eX12_stands_p0 45 rfl) rfl rfl ?_
    refine mf_iadd (mf_dat eX12_stands_p0 46 rfl) ?_
    refine mf_aload_n (mf_dat eX12_stands_p0 47 rfl) rfl rfl ?_
    refine mf_getf (r := (RX12, TX12, 106)) (ci := 12) (k := 42) (t := 2) (v := 278) (mf_dat eX12_stands_p0 48 rfl) fl_X12_111 rfl (by decide) rfl (gm_42 hG) is245 ?_
    refine mf_iload_n (mf_dat eX12_stands_p0 49 rfl) rfl rfl ?_
    obtain ⟨ck1, hyp⟩ := hyp
    obtain ⟨ck2, hyp⟩ := hyp
    refine mf_lald (mf_dat eX12_stands_p0 50 rfl) is278 len278 ck1 ck2 ?_
    obtain ⟨ck3, hyp⟩ := hyp
    obtain ⟨ck4, hyp⟩ := hyp
    refine mf_last (mf_dat eX12_stands_p0 51 rfl) is278 len278 ck3 ck4 ?_
    generalize qh5 : mf_up h 278 (mf_w32 (8 + x1)) (h 278 x1) = h5
    replace hyp := hyp _ qh5.symm
    refine mf_aload_n (mf_dat eX12_stands_p0 52 rfl) rfl rfl ?_
    refine mf_getf (r := (RX12, TX12, 106)) (ci := 12) (k := 46) (t := 2) (v := 282) (mf_dat eX12_stands_p0 53 rfl) fl_X12_124 rfl (by decide) rfl (gm_46 hG) is245 ?_
    refine mf_bipush (v := 8) (mf_dat eX12_stands_p0 54 rfl) (by decide) ?_
    refine mf_iload_n (mf_dat eX12_stands_p0 55 rfl) rfl rfl ?_
    refine mf_iadd (mf_dat eX12_stands_p0 56 rfl) ?_
    refine mf_aload_n (mf_dat eX12_stands_p0 57 rfl) rfl rfl ?_
    refine mf_getf (r := (RX12, TX12, 106)) (ci := 12) (k := 46) (t := 2) (v := 282) (mf_dat eX12_stands_p0 58 rfl) fl_X12_124 rfl (by decide) rfl (gm_46 hG) is245 ?_
    refine mf_iload_n (mf_dat eX12_stands_p0 59 rfl) rfl rfl ?_
    refine mf_iald (mf_dat eX12_stands_p1 0 rfl) is282 len282 ck1 ck2 ?_
    refine mf_iast (mf_dat eX12_stands_p1 1 rfl) is282 len282 ck3 ck4 ?_
    generalize qh6 : mf_up h5 282 (mf_w32 (8 + x1)) (h5 282 x1) = h6
    replace hyp := hyp _ qh6.symm
    refine mf_iinc (mf_dat eX12_stands_p1 2 rfl) rfl (by decide) (by decide) ?_
    generalize qv7 : mf_w32 (x1 + 1) = v7
    replace hyp := hyp _ qv7.symm
    refine mf_goto (tgt := 61) (mf_dat eX12_stands_p1 3 rfl) (by decide) ?_
    exact mf_sub [1, 0] rfl (hyp g hG)
set_option maxRecDepth 100000 in
set_option maxHeartbeats 4000000 in
theorem vX12_stands_105 {C : mf_G} {l : Launch} {d : Nat} {K : Int → mf_M → Prop} {x1 : Int} {h : mf_M} (hyp : ((36 ≤ x1 → (∀ h1 : mf_M, h1 = mf_up h 245 48 (h 245 47) → BX12_stands_142 C l d K 0 h1)) ∧ (¬ 36 ≤ x1 → 0 ≤ x1 ∧ x1 < 72 ∧ 0 ≤ mf_w32 (36 + x1) ∧ mf_w32 (36 + x1) < 72 ∧ (∀ h6 : mf_M, h6 = mf_up h 280 (mf_w32 (36 + x1)) (h 280 x1) → (∀ v7 : Int, v7 = mf_w32 (x1 + 1) → BX12_stands_105 C l d K v7 h6))))) : BX12_stands_105 C l d K x1 h := by
  intro g hG
  refine mf_iload_n (mf_dat eX12_stands_p1 6 rfl) rfl rfl ?_
  refine mf_bipush (v := 36) (mf_dat eX12_stands_p1 7 rfl) (by decide) ?_
  refine mf_icmp_ge (tgt := 132) (mf_dat eX12_stands_p1 8 rfl) (by decide) (fun hc => ?_) (fun hc => ?_)
  · replace hyp := hyp.1 hc
    refine mf_aload_n (mf_dat eX12_stands_p1 21 rfl) rfl rfl ?_
    refine mf_aload_n (mf_dat eX12_stands_p1 22 rfl) rfl rfl ?_
    refine mf_getf (r := (RX12, TX12, 106)) (ci := 12) (k := 47) (t := 0) (v := h 245 47) (mf_dat eX12_stands_p1 23 rfl) fl_X12_374 rfl (by decide) rfl rfl is245 ?_
    refine mf_putI (r := (RX12, TX12, 106)) (ci := 12) (k := 48) (kI := 48) (t := 0) (mf_dat eX12_stands_p1 24 rfl) fl_X12_393 rfl rfl (by decide) rfl (by decide) rfl (by decide) (fun h9 => absurd h9 (by decide)) is245 ?_
    generalize qh1 : mf_up h 245 48 (h 245 47) = h1
    replace hyp := hyp _ qh1.symm
    refine mf_iconst (v := 0) (mf_dat eX12_stands_p1 25 rfl) (by decide) ?_
    refine mf_istore_n (mf_dat eX12_stands_p1 26 rfl) rfl (by decide) ?_
    exact mf_sub [1, 0] rfl (hyp g hG)
  · replace hyp := hyp.2 hc
    refine mf_aload_n (mf_dat eX12_stands_p1 9 rfl) rfl rfl ?_
    refine mf_getf (r := (RX12, TX12, 106)) (ci := 12) (k := 44) (t := 2) (v := 280) (mf_dat eX12_stands_p1 10 rfl) fl_X12_118 rfl (by decide) rfl (gm_44 hG) is245 ?_
    refine mf_bipush (v := 36) (mf_dat eX12_stands_p1 11 rfl) (by decide) ?_
    refine mf_iload_n (mf_dat eX12_stands_p1 12 rfl) rfl rfl ?_
    refine mf_iadd (mf_dat eX12_stands_p1 13 rfl) ?_
    refine mf_aload_n (mf_dat eX12_stands_p1 14 rfl) rfl rfl ?_
    refine mf_getf (r := (RX12, TX12, 106)) (ci := 12) (k := 44) (t := 2) (v := 280) (mf_dat eX12_stands_p1 15 rfl) fl_X12_118 rfl (by decide) rfl (gm_44 hG) is245 ?_
    refine mf_iload_n (mf_dat eX12_stands_p1 16 rfl) rfl rfl ?_
    obtain ⟨ck2, hyp⟩ := hyp
    obtain ⟨ck3, hyp⟩ := hyp
    refine mf_iald (mf_dat eX12_stands_p1 17 rfl) is280 len280 ck2 ck3 ?_
    obtain ⟨ck4, hyp⟩ := hyp
    obtain ⟨ck5, hyp⟩ := hyp
    refine mf_iast (mf_dat eX12_stands_p1 18 rfl) is280 len280 ck4 ck5 ?_
    generalize qh6 : mf_up h 280 (mf_w32 (36 + x1)) (h 280 x1) = h6
    replace hyp := hyp _ qh6.symm
    refine mf_iinc (mf_dat eX12_stands_p1 19 rfl) rfl (by decide) (by decide) ?_
    generalize qv7 : mf_w32 (x1 + 1) = v7
    replace hyp := hyp _ qv7.symm
    refine mf_goto (tgt := 105) (mf_dat eX12_stands_p1 20 rfl) (by decide) ?_
    exact mf_sub [1, 0] rfl (hyp g hG)
set_option maxRecDepth 100000 in
set_option maxHeartbeats 4000000 in
theorem vX12_stands_142 {C : mf_G} {l : Launch} {d : Nat} {K : Int → mf_M → Prop} {x1 : Int} {h : mf_M} (hyp : ((4 ≤ x1 → BX12_stands_183 C l d K 0 h) ∧ (¬ 4 ≤ x1 → 0 ≤ x1 ∧ x1 < 8 ∧ 0 ≤ mf_w32 (4 + x1) ∧ mf_w32 (4 + x1) < 8 ∧ (∀ h5 : mf_M, h5 = mf_up h 283 (mf_w32 (4 + x1)) (h 283 x1) → (∀ h6 : mf_M, h6 = mf_up h5 284 (mf_w32 (4 + x1)) (h5 284 x1) → (∀ v7 : Int, v7 = mf_w32 (x1 + 1) → BX12_stands_142 C l d K v7 h6)))))) : BX12_stands_142 C l d K x1 h := by
  intro g hG
  refine mf_iload_n (mf_dat eX12_stands_p1 27 rfl) rfl rfl ?_
  refine mf_iconst (v := 4) (mf_dat eX12_stands_p1 28 rfl) (by decide) ?_
  refine mf_icmp_ge (tgt := 181) (mf_dat eX12_stands_p1 29 rfl) (by decide) (fun hc => ?_) (fun hc => ?_)
  · replace hyp := hyp.1 hc
    refine mf_iconst (v := 0) (mf_dat eX12_stands_p1 52 rfl) (by decide) ?_
    refine mf_istore_n (mf_dat eX12_stands_p1 53 rfl) rfl (by decide) ?_
    exact mf_sub [1, 0] rfl (hyp g hG)
  · replace hyp := hyp.2 hc
    refine mf_aload_n (mf_dat eX12_stands_p1 30 rfl) rfl rfl ?_
    refine mf_getf (r := (RX12, TX12, 106)) (ci := 12) (k := 49) (t := 2) (v := 283) (mf_dat eX12_stands_p1 31 rfl) fl_X12_127 rfl (by decide) rfl (gm_49 hG) is245 ?_
    refine mf_iconst (v := 4) (mf_dat eX12_stands_p1 32 rfl) (by decide) ?_
    refine mf_iload_n (mf_dat eX12_stands_p1 33 rfl) rfl rfl ?_
    refine mf_iadd (mf_dat eX12_stands_p1 34 rfl) ?_
    refine mf_aload_n (mf_dat eX12_stands_p1 35 rfl) rfl rfl ?_
    refine mf_getf (r := (RX12, TX12, 106)) (ci := 12) (k := 49) (t := 2) (v := 283) (mf_dat eX12_stands_p1 36 rfl) fl_X12_127 rfl (by decide) rfl (gm_49 hG) is245 ?_
    refine mf_iload_n (mf_dat eX12_stands_p1 37 rfl) rfl rfl ?_
    obtain ⟨ck1, hyp⟩ := hyp
    obtain ⟨ck2, hyp⟩ := hyp
    refine mf_iald (mf_dat eX12_stands_p1 38 rfl) is283 len283 ck1 ck2 ?_
    obtain ⟨ck3, hyp⟩ := hyp
    obtain ⟨ck4, hyp⟩ := hyp
    refine mf_iast (mf_dat eX12_stands_p1 39 rfl) is283 len283 ck3 ck4 ?_
    generalize qh5 : mf_up h 283 (mf_w32 (4 + x1)) (h 283 x1) = h5
    replace hyp := hyp _ qh5.symm
    refine mf_aload_n (mf_dat eX12_stands_p1 40 rfl) rfl rfl ?_
    refine mf_getf (r := (RX12, TX12, 106)) (ci := 12) (k := 50) (t := 2) (v := 284) (mf_dat eX12_stands_p1 41 rfl) fl_X12_130 rfl (by decide) rfl (gm_50 hG) is245 ?_
    refine mf_iconst (v := 4) (mf_dat eX12_stands_p1 42 rfl) (by decide) ?_
    refine mf_iload_n (mf_dat eX12_stands_p1 43 rfl) rfl rfl ?_
    refine mf_iadd (mf_dat eX12_stands_p1 44 rfl) ?_
    refine mf_aload_n (mf_dat eX12_stands_p1 45 rfl) rfl rfl ?_
    refine mf_getf (r := (RX12, TX12, 106)) (ci := 12) (k := 50) (t := 2) (v := 284) (mf_dat eX12_stands_p1 46 rfl) fl_X12_130 rfl (by decide) rfl (gm_50 hG) is245 ?_
    refine mf_iload_n (mf_dat eX12_stands_p1 47 rfl) rfl rfl ?_
    refine mf_iald (mf_dat eX12_stands_p1 48 rfl) is284 len284 ck1 ck2 ?_
    refine mf_iast (mf_dat eX12_stands_p1 49 rfl) is284 len284 ck3 ck4 ?_
    generalize qh6 : mf_up h5 284 (mf_w32 (4 + x1)) (h5 284 x1) = h6
    replace hyp := hyp _ qh6.symm
    refine mf_iinc (mf_dat eX12_stands_p1 50 rfl) rfl (by decide) (by decide) ?_
    generalize qv7 : mf_w32 (x1 + 1) = v7
    replace hyp := hyp _ qv7.symm
    refine mf_goto (tgt := 142) (mf_dat eX12_stands_p1 51 rfl) (by decide) ?_
    exact mf_sub [1, 0] rfl (hyp g hG)
set_option maxRecDepth 100000 in
set_option maxHeartbeats 4000000 in
theorem vX12_stands_183 {C : mf_G} {l : Launch} {d : Nat} {K : Int → mf_M → Prop} {x1 : Int} {h : mf_M} (hyp : ((h 245 52 ≤ x1 → BX12_stands_215 C l d K 0 h) ∧ (¬ h 245 52 ≤ x1 → 0 ≤ x1 ∧ x1 < 3200 ∧ 0 ≤ mf_w32 (1600 + x1) ∧ mf_w32 (1600 + x1) < 3200 ∧ (∀ h5 : mf_M, h5 = mf_up h 285 (mf_w32 (1600 + x1)) (h 285 x1) → (∀ v6 : Int, v6 = mf_w32 (x1 + 1) → BX12_stands_183 C l d K v6 h5))))) : BX12_stands_183 C l d K x1 h := by
  intro g hG
  refine mf_iload_n (mf_dat eX12_stands_p1 54 rfl) rfl rfl ?_
  refine mf_aload_n (mf_dat eX12_stands_p1 55 rfl) rfl rfl ?_
  refine mf_getf (r := (RX12, TX12, 106)) (ci := 12) (k := 52) (t := 0) (v := h 245 52) (mf_dat eX12_stands_p1 56 rfl) fl_X12_356 rfl (by decide) rfl rfl is245 ?_
  refine mf_icmp_ge (tgt := 213) (mf_dat eX12_stands_p1 57 rfl) (by decide) (fun hc => ?_) (fun hc => ?_)
  · replace hyp := hyp.1 hc
    refine mf_iconst (v := 0) (mf_dat eX12_stands_p2 10 rfl) (by decide) ?_
    refine mf_istore_n (mf_dat eX12_stands_p2 11 rfl) rfl (by decide) ?_
    exact mf_sub [1, 0] rfl (hyp g hG)
  · replace hyp := hyp.2 hc
    refine mf_aload_n (mf_dat eX12_stands_p1 58 rfl) rfl rfl ?_
    refine mf_getf (r := (RX12, TX12, 106)) (ci := 12) (k := 51) (t := 2) (v := 285) (mf_dat eX12_stands_p1 59 rfl) fl_X12_133 rfl (by decide) rfl (gm_51 hG) is245 ?_
    refine mf_sipush (v := 1600) (mf_dat eX12_stands_p2 0 rfl) (by decide) ?_
    refine mf_iload_n (mf_dat eX12_stands_p2 1 rfl) rfl rfl ?_
    refine mf_iadd (mf_dat eX12_stands_p2 2 rfl) ?_
    refine mf_aload_n (mf_dat eX12_stands_p2 3 rfl) rfl rfl ?_
    refine mf_getf (r := (RX12, TX12, 106)) (ci := 12) (k := 51) (t := 2) (v := 285) (mf_dat eX12_stands_p2 4 rfl) fl_X12_133 rfl (by decide) rfl (gm_51 hG) is245 ?_
    refine mf_iload_n (mf_dat eX12_stands_p2 5 rfl) rfl rfl ?_
    obtain ⟨ck1, hyp⟩ := hyp
    obtain ⟨ck2, hyp⟩ := hyp
    refine mf_iald (mf_dat eX12_stands_p2 6 rfl) is285 len285 ck1 ck2 ?_
    obtain ⟨ck3, hyp⟩ := hyp
    obtain ⟨ck4, hyp⟩ := hyp
    refine mf_iast (mf_dat eX12_stands_p2 7 rfl) is285 len285 ck3 ck4 ?_
    generalize qh5 : mf_up h 285 (mf_w32 (1600 + x1)) (h 285 x1) = h5
    replace hyp := hyp _ qh5.symm
    refine mf_iinc (mf_dat eX12_stands_p2 8 rfl) rfl (by decide) (by decide) ?_
    generalize qv6 : mf_w32 (x1 + 1) = v6
    replace hyp := hyp _ qv6.symm
    refine mf_goto (tgt := 183) (mf_dat eX12_stands_p2 9 rfl) (by decide) ?_
    exact mf_sub [1, 0] rfl (hyp g hG)
set_option maxRecDepth 100000 in
set_option maxHeartbeats 4000000 in
theorem vX12_stands_215 {C : mf_G} {l : Launch} {d : Nat} {K : Int → mf_M → Prop} {x1 : Int} {h : mf_M} (hyp : ((160 ≤ x1 → BX12_stands_237 C l d K 0 h) ∧ (¬ 160 ≤ x1 → 0 ≤ x1 ∧ x1 < 160 ∧ (∀ h3 : mf_M, h3 = mf_up h 286 x1 0 → (∀ v4 : Int, v4 = mf_w32 (x1 + 1) → BX12_stands_215 C l d K v4 h3))))) : BX12_stands_215 C l d K x1 h := by
  intro g hG
  refine mf_iload_n (mf_dat eX12_stands_p2 12 rfl) rfl rfl ?_
  refine mf_sipush (v := 160) (mf_dat eX12_stands_p2 13 rfl) (by decide) ?_
  refine mf_icmp_ge (tgt := 235) (mf_dat eX12_stands_p2 14 rfl) (by decide) (fun hc => ?_) (fun hc => ?_)
  · replace hyp := hyp.1 hc
    refine mf_iconst (v := 0) (mf_dat eX12_stands_p2 22 rfl) (by decide) ?_
    refine mf_istore_n (mf_dat eX12_stands_p2 23 rfl) rfl (by decide) ?_
    exact mf_sub [1, 0] rfl (hyp g hG)
  · replace hyp := hyp.2 hc
    refine mf_aload_n (mf_dat eX12_stands_p2 15 rfl) rfl rfl ?_
    refine mf_getf (r := (RX12, TX12, 106)) (ci := 12) (k := 56) (t := 2) (v := 286) (mf_dat eX12_stands_p2 16 rfl) fl_X12_136 rfl (by decide) rfl (gm_56 hG) is245 ?_
    refine mf_iload_n (mf_dat eX12_stands_p2 17 rfl) rfl rfl ?_
    refine mf_iconst (v := 0) (mf_dat eX12_stands_p2 18 rfl) (by decide) ?_
    obtain ⟨ck1, hyp⟩ := hyp
    obtain ⟨ck2, hyp⟩ := hyp
    refine mf_iast (mf_dat eX12_stands_p2 19 rfl) is286 len286 ck1 ck2 ?_
    generalize qh3 : mf_up h 286 x1 0 = h3
    replace hyp := hyp _ qh3.symm
    refine mf_iinc (mf_dat eX12_stands_p2 20 rfl) rfl (by decide) (by decide) ?_
    generalize qv4 : mf_w32 (x1 + 1) = v4
    replace hyp := hyp _ qv4.symm
    refine mf_goto (tgt := 215) (mf_dat eX12_stands_p2 21 rfl) (by decide) ?_
    exact mf_sub [1, 0] rfl (hyp g hG)
set_option maxRecDepth 100000 in
set_option maxHeartbeats 4000000 in
theorem vX12_stands_237 {C : mf_G} {l : Launch} {d : Nat} {K : Int → mf_M → Prop} {x1 : Int} {h : mf_M} (hyp : ((6 ≤ x1 → BX12_stands_265 C l d K 0 h) ∧ (¬ 6 ≤ x1 → 0 ≤ x1 ∧ x1 < 6 ∧ 0 ≤ mf_w32 (1 + x1) ∧ mf_w32 (1 + x1) < 160 ∧ (∀ h5 : mf_M, h5 = mf_up h 286 (mf_w32 (1 + x1)) (h 279 x1) → (∀ v6 : Int, v6 = mf_w32 (x1 + 1) → BX12_stands_237 C l d K v6 h5))))) : BX12_stands_237 C l d K x1 h := by
  intro g hG
  refine mf_iload_n (mf_dat eX12_stands_p2 24 rfl) rfl rfl ?_
  refine mf_bipush (v := 6) (mf_dat eX12_stands_p2 25 rfl) (by decide) ?_
  refine mf_icmp_ge (tgt := 263) (mf_dat eX12_stands_p2 26 rfl) (by decide) (fun hc => ?_) (fun hc => ?_)
  · replace hyp := hyp.1 hc
    refine mf_iconst (v := 0) (mf_dat eX12_stands_p2 39 rfl) (by decide) ?_
    refine mf_istore_n (mf_dat eX12_stands_p2 40 rfl) rfl (by decide) ?_
    exact mf_sub [1, 0] rfl (hyp g hG)
  · replace hyp := hyp.2 hc
    refine mf_aload_n (mf_dat eX12_stands_p2 27 rfl) rfl rfl ?_
    refine mf_getf (r := (RX12, TX12, 106)) (ci := 12) (k := 56) (t := 2) (v := 286) (mf_dat eX12_stands_p2 28 rfl) fl_X12_136 rfl (by decide) rfl (gm_56 hG) is245 ?_
    refine mf_iconst (v := 1) (mf_dat eX12_stands_p2 29 rfl) (by decide) ?_
    refine mf_iload_n (mf_dat eX12_stands_p2 30 rfl) rfl rfl ?_
    refine mf_iadd (mf_dat eX12_stands_p2 31 rfl) ?_
    refine mf_aload_n (mf_dat eX12_stands_p2 32 rfl) rfl rfl ?_
    refine mf_getf (r := (RX12, TX12, 106)) (ci := 12) (k := 43) (t := 2) (v := 279) (mf_dat eX12_stands_p2 33 rfl) fl_X12_115 rfl (by decide) rfl (gm_43 hG) is245 ?_
    refine mf_iload_n (mf_dat eX12_stands_p2 34 rfl) rfl rfl ?_
    obtain ⟨ck1, hyp⟩ := hyp
    obtain ⟨ck2, hyp⟩ := hyp
    refine mf_iald (mf_dat eX12_stands_p2 35 rfl) is279 len279 ck1 ck2 ?_
    obtain ⟨ck3, hyp⟩ := hyp
    obtain ⟨ck4, hyp⟩ := hyp
    refine mf_iast (mf_dat eX12_stands_p2 36 rfl) is286 len286 ck3 ck4 ?_
    generalize qh5 : mf_up h 286 (mf_w32 (1 + x1)) (h 279 x1) = h5
    replace hyp := hyp _ qh5.symm
    refine mf_iinc (mf_dat eX12_stands_p2 37 rfl) rfl (by decide) (by decide) ?_
    generalize qv6 : mf_w32 (x1 + 1) = v6
    replace hyp := hyp _ qv6.symm
    refine mf_goto (tgt := 237) (mf_dat eX12_stands_p2 38 rfl) (by decide) ?_
    exact mf_sub [1, 0] rfl (hyp g hG)
set_option maxRecDepth 100000 in
set_option maxHeartbeats 4000000 in
theorem vX12_stands_265 {C : mf_G} {l : Launch} {d : Nat} {K : Int → mf_M → Prop} {x1 : Int} {h : mf_M} (hyp : ((h 277 0 ≤ x1 → (∀ h1 : mf_M, h1 = mf_up h 245 69 0 → (∀ h2 : mf_M, h2 = mf_up h1 245 65 0 → K 0 h2))) ∧ (¬ h 277 0 ≤ x1 → 0 ≤ mf_w32 (2 * x1) ∧ mf_w32 (2 * x1) < 16 ∧ 0 ≤ mf_w32 (7 + (mf_w32 (4 * x1))) ∧ mf_w32 (7 + (mf_w32 (4 * x1))) < 160 ∧ (∀ h7 : mf_M, h7 = mf_up h 286 (mf_w32 (7 + (mf_w32 (4 * x1)))) (h 281 (mf_w32 (2 * x1))) → 0 ≤ mf_w32 ((mf_w32 (2 * x1)) + 1) ∧ mf_w32 ((mf_w32 (2 * x1)) + 1) < 16 ∧ 0 ≤ mf_w32 ((mf_w32 (7 + (mf_w32 (4 * x1)))) + 1) ∧ mf_w32 ((mf_w32 (7 + (mf_w32 (4 * x1)))) + 1) < 160 ∧ (∀ h12 : mf_M, h12 = mf_up h7 286 (mf_w32 ((mf_w32 (7 + (mf_w32 (4 * x1)))) + 1)) (h7 281 (mf_w32 ((mf_w32 (2 * x1)) + 1))) → 0 ≤ mf_w32 ((mf_w32 (7 + (mf_w32 (4 * x1)))) + 2) ∧ mf_w32 ((mf_w32 (7 + (mf_w32 (4 * x1)))) + 2) < 160 ∧ (∀ h15 : mf_M, h15 = mf_up h12 286 (mf_w32 ((mf_w32 (7 + (mf_w32 (4 * x1)))) + 2)) 5 → (∀ v16 : Int, v16 = mf_w32 (x1 + 1) → BX12_stands_265 C l d K v16 h15))))))) : BX12_stands_265 C l d K x1 h := by
  intro g hG
  refine mf_iload_n (mf_dat eX12_stands_p2 41 rfl) rfl rfl ?_
  refine mf_aload_n (mf_dat eX12_stands_p2 42 rfl) rfl rfl ?_
  refine mf_getf (r := (RX12, TX12, 106)) (ci := 12) (k := 41) (t := 2) (v := 277) (mf_dat eX12_stands_p2 43 rfl) fl_X12_108 rfl (by decide) rfl (gm_41 hG) is245 ?_
  refine mf_iconst (v := 0) (mf_dat eX12_stands_p2 44 rfl) (by decide) ?_
  refine mf_iald (mf_dat eX12_stands_p2 45 rfl) is277 len277 (by decide) (by decide) ?_
  refine mf_icmp_ge (tgt := 337) (mf_dat eX12_stands_p2 46 rfl) (by decide) (fun hc => ?_) (fun hc => ?_)
  · replace hyp := hyp.1 hc
    refine mf_aload_n (mf_dat eX12_stands_p3 32 rfl) rfl rfl ?_
    refine mf_iconst (v := 0) (mf_dat eX12_stands_p3 33 rfl) (by decide) ?_
    refine mf_putI (r := (RX12, TX12, 106)) (ci := 12) (k := 69) (kI := 69) (t := 0) (mf_dat eX12_stands_p3 34 rfl) fl_X12_396 rfl rfl (by decide) rfl (by decide) rfl (by decide) (fun h9 => absurd h9 (by decide)) is245 ?_
    generalize qh1 : mf_up h 245 69 0 = h1
    replace hyp := hyp _ qh1.symm
    refine mf_aload_n (mf_dat eX12_stands_p3 35 rfl) rfl rfl ?_
    refine mf_iconst (v := 0) (mf_dat eX12_stands_p3 36 rfl) (by decide) ?_
    refine mf_putI (r := (RX12, TX12, 106)) (ci := 12) (k := 65) (kI := 65) (t := 0) (mf_dat eX12_stands_p3 37 rfl) fl_X12_399 rfl rfl (by decide) rfl (by decide) rfl (by decide) (fun h9 => absurd h9 (by decide)) is245 ?_
    generalize qh2 : mf_up h1 245 65 0 = h2
    replace hyp := hyp _ qh2.symm
    exact mf_return (mf_dat eX12_stands_p3 38 rfl) rfl ⟨rfl, hyp⟩
  · replace hyp := hyp.2 hc
    refine mf_aload_n (mf_dat eX12_stands_p2 47 rfl) rfl rfl ?_
    refine mf_getf (r := (RX12, TX12, 106)) (ci := 12) (k := 56) (t := 2) (v := 286) (mf_dat eX12_stands_p2 48 rfl) fl_X12_136 rfl (by decide) rfl (gm_56 hG) is245 ?_
    refine mf_bipush (v := 7) (mf_dat eX12_stands_p2 49 rfl) (by decide) ?_
    refine mf_iconst (v := 4) (mf_dat eX12_stands_p2 50 rfl) (by decide) ?_
    refine mf_iload_n (mf_dat eX12_stands_p2 51 rfl) rfl rfl ?_
    refine mf_imul (mf_dat eX12_stands_p2 52 rfl) ?_
    refine mf_iadd (mf_dat eX12_stands_p2 53 rfl) ?_
    refine mf_aload_n (mf_dat eX12_stands_p2 54 rfl) rfl rfl ?_
    refine mf_getf (r := (RX12, TX12, 106)) (ci := 12) (k := 45) (t := 2) (v := 281) (mf_dat eX12_stands_p2 55 rfl) fl_X12_121 rfl (by decide) rfl (gm_45 hG) is245 ?_
    refine mf_iconst (v := 2) (mf_dat eX12_stands_p2 56 rfl) (by decide) ?_
    refine mf_iload_n (mf_dat eX12_stands_p2 57 rfl) rfl rfl ?_
    refine mf_imul (mf_dat eX12_stands_p2 58 rfl) ?_
    obtain ⟨ck3, hyp⟩ := hyp
    obtain ⟨ck4, hyp⟩ := hyp
    refine mf_iald (mf_dat eX12_stands_p2 59 rfl) is281 len281 ck3 ck4 ?_
    obtain ⟨ck5, hyp⟩ := hyp
    obtain ⟨ck6, hyp⟩ := hyp
    refine mf_iast (mf_dat eX12_stands_p3 0 rfl) is286 len286 ck5 ck6 ?_
    generalize qh7 : mf_up h 286 (mf_w32 (7 + (mf_w32 (4 * x1)))) (h 281 (mf_w32 (2 * x1))) = h7
    replace hyp := hyp _ qh7.symm
    refine mf_aload_n (mf_dat eX12_stands_p3 1 rfl) rfl rfl ?_
    refine mf_getf (r := (RX12, TX12, 106)) (ci := 12) (k := 56) (t := 2) (v := 286) (mf_dat eX12_stands_p3 2 rfl) fl_X12_136 rfl (by decide) rfl (gm_56 hG) is245 ?_
    refine mf_bipush (v := 7) (mf_dat eX12_stands_p3 3 rfl) (by decide) ?_
    refine mf_iconst (v := 4) (mf_dat eX12_stands_p3 4 rfl) (by decide) ?_
    refine mf_iload_n (mf_dat eX12_stands_p3 5 rfl) rfl rfl ?_
    refine mf_imul (mf_dat eX12_stands_p3 6 rfl) ?_
    refine mf_iadd (mf_dat eX12_stands_p3 7 rfl) ?_
    refine mf_iconst (v := 1) (mf_dat eX12_stands_p3 8 rfl) (by decide) ?_
    refine mf_iadd (mf_dat eX12_stands_p3 9 rfl) ?_
    refine mf_aload_n (mf_dat eX12_stands_p3 10 rfl) rfl rfl ?_
    refine mf_getf (r := (RX12, TX12, 106)) (ci := 12) (k := 45) (t := 2) (v := 281) (mf_dat eX12_stands_p3 11 rfl) fl_X12_121 rfl (by decide) rfl (gm_45 hG) is245 ?_
    refine mf_iconst (v := 2) (mf_dat eX12_stands_p3 12 rfl) (by decide) ?_
    refine mf_iload_n (mf_dat eX12_stands_p3 13 rfl) rfl rfl ?_
    refine mf_imul (mf_dat eX12_stands_p3 14 rfl) ?_
    refine mf_iconst (v := 1) (mf_dat eX12_stands_p3 15 rfl) (by decide) ?_
    refine mf_iadd (mf_dat eX12_stands_p3 16 rfl) ?_
    obtain ⟨ck8, hyp⟩ := hyp
    obtain ⟨ck9, hyp⟩ := hyp
    refine mf_iald (mf_dat eX12_stands_p3 17 rfl) is281 len281 ck8 ck9 ?_
    obtain ⟨ck10, hyp⟩ := hyp
    obtain ⟨ck11, hyp⟩ := hyp
    refine mf_iast (mf_dat eX12_stands_p3 18 rfl) is286 len286 ck10 ck11 ?_
    generalize qh12 : mf_up h7 286 (mf_w32 ((mf_w32 (7 + (mf_w32 (4 * x1)))) + 1)) (h7 281 (mf_w32 ((mf_w32 (2 * x1)) + 1))) = h12
    replace hyp := hyp _ qh12.symm
    refine mf_aload_n (mf_dat eX12_stands_p3 19 rfl) rfl rfl ?_
    refine mf_getf (r := (RX12, TX12, 106)) (ci := 12) (k := 56) (t := 2) (v := 286) (mf_dat eX12_stands_p3 20 rfl) fl_X12_136 rfl (by decide) rfl (gm_56 hG) is245 ?_
    refine mf_bipush (v := 7) (mf_dat eX12_stands_p3 21 rfl) (by decide) ?_
    refine mf_iconst (v := 4) (mf_dat eX12_stands_p3 22 rfl) (by decide) ?_
    refine mf_iload_n (mf_dat eX12_stands_p3 23 rfl) rfl rfl ?_
    refine mf_imul (mf_dat eX12_stands_p3 24 rfl) ?_
    refine mf_iadd (mf_dat eX12_stands_p3 25 rfl) ?_
    refine mf_iconst (v := 2) (mf_dat eX12_stands_p3 26 rfl) (by decide) ?_
    refine mf_iadd (mf_dat eX12_stands_p3 27 rfl) ?_
    refine mf_iconst (v := 5) (mf_dat eX12_stands_p3 28 rfl) (by decide) ?_
    obtain ⟨ck13, hyp⟩ := hyp
    obtain ⟨ck14, hyp⟩ := hyp
    refine mf_iast (mf_dat eX12_stands_p3 29 rfl) is286 len286 ck13 ck14 ?_
    generalize qh15 : mf_up h12 286 (mf_w32 ((mf_w32 (7 + (mf_w32 (4 * x1)))) + 2)) 5 = h15
    replace hyp := hyp _ qh15.symm
    refine mf_iinc (mf_dat eX12_stands_p3 30 rfl) rfl (by decide) (by decide) ?_
    generalize qv16 : mf_w32 (x1 + 1) = v16
    replace hyp := hyp _ qv16.symm
    refine mf_goto (tgt := 265) (mf_dat eX12_stands_p3 31 rfl) (by decide) ?_
    exact mf_sub [1, 0] rfl (hyp g hG)
set_option maxRecDepth 100000 in
set_option maxHeartbeats 4000000 in
theorem wX12_stands {C : mf_G} {l : Launch} {d : Nat} {K : Int → mf_M → Prop} {h : mf_M} (hyp : (∀ h1 : mf_M, h1 = mf_up h 245 54 1 → BX12_stands_7 C l d K 0 h1)) : mM C l d YX12_stands [(2, 245)] h K := by
  intro g hG
  refine mf_entry (by decide) (Nat.le_of_ble_eq_true rfl) ?_
  refine mf_aload_n (mf_dat eX12_stands_p0 0 rfl) rfl rfl ?_
  refine mf_iconst (v := 1) (mf_dat eX12_stands_p0 1 rfl) (by decide) ?_
  refine mf_putI (r := (RX12, TX12, 106)) (ci := 12) (k := 54) (kI := 54) (t := 0) (mf_dat eX12_stands_p0 2 rfl) fl_X12_389 rfl rfl (by decide) rfl (by decide) rfl (by decide) (fun _ => by decide) is245 ?_
  generalize qh1 : mf_up h 245 54 1 = h1
  replace hyp := hyp _ qh1.symm
  refine mf_iconst (v := 0) (mf_dat eX12_stands_p0 3 rfl) (by decide) ?_
  refine mf_istore_n (mf_dat eX12_stands_p0 4 rfl) rfl (by decide) ?_
  exact mf_sub [1, 0] rfl (hyp g hG)
set_option maxRecDepth 100000 in
set_option maxHeartbeats 4000000 in
theorem wX12_fault {C : mf_G} {l : Launch} {d : Nat} {K : Int → mf_M → Prop} {x1 : Int} {h : mf_M} (hyp : ((¬ x1 = 0 → ((¬ x1 = 1 → K (-1) h) ∧ (x1 = 1 → K (h 245 8) h))) ∧ (x1 = 0 → K (h 245 7) h))) : mM C l d YX12_fault [(2, 245), (0, x1)] h K := by
  intro g hG
  refine mf_entry (by decide) (Nat.le_of_ble_eq_true rfl) ?_
  refine mf_iload_n (mf_dat eX12_fault 0 rfl) rfl rfl ?_
  refine mf_if_ne (tgt := 11) (mf_dat eX12_fault 1 rfl) (by decide) (fun hc => ?_) (fun hc => ?_)
  · replace hyp := hyp.1 hc
    refine mf_iload_n (mf_dat eX12_fault 5 rfl) rfl rfl ?_
    refine mf_iconst (v := 1) (mf_dat eX12_fault 6 rfl) (by decide) ?_
    refine mf_icmp_ne (tgt := 23) (mf_dat eX12_fault 7 rfl) (by decide) (fun hc => ?_) (fun hc => ?_)
    · replace hyp := hyp.1 hc
      refine mf_iconst (v := (-1)) (mf_dat eX12_fault 11 rfl) (by decide) ?_
      exact mf_ireturn (mf_dat eX12_fault 12 rfl) rfl (Or.inl rfl) ⟨rfl, hyp⟩
    · replace hyp := hyp.2 hc
      refine mf_aload_n (mf_dat eX12_fault 8 rfl) rfl rfl ?_
      refine mf_getf (r := (RX12, TX12, 106)) (ci := 12) (k := 8) (t := 0) (v := h 245 8) (mf_dat eX12_fault 9 rfl) fl_X12_13 rfl (by decide) rfl rfl is245 ?_
      refine mf_goto (tgt := 24) (mf_dat eX12_fault 10 rfl) (by decide) ?_
      exact mf_ireturn (mf_dat eX12_fault 12 rfl) rfl (Or.inl rfl) ⟨rfl, hyp⟩
  · replace hyp := hyp.2 hc
    refine mf_aload_n (mf_dat eX12_fault 2 rfl) rfl rfl ?_
    refine mf_getf (r := (RX12, TX12, 106)) (ci := 12) (k := 7) (t := 0) (v := h 245 7) (mf_dat eX12_fault 3 rfl) fl_X12_383 rfl (by decide) rfl rfl is245 ?_
    refine mf_goto (tgt := 24) (mf_dat eX12_fault 4 rfl) (by decide) ?_
    exact mf_ireturn (mf_dat eX12_fault 12 rfl) rfl (Or.inl rfl) ⟨rfl, hyp⟩
set_option maxRecDepth 100000 in
set_option maxHeartbeats 4000000 in
theorem wX12_leaves {C : mf_G} {l : Launch} {d : Nat} {K : Int → mf_M → Prop} {h : mf_M} (hyp : K (h 276 2) h) : mM C l d YX12_leaves [(2, 245)] h K := by
  intro g hG
  refine mf_entry (by decide) (Nat.le_of_ble_eq_true rfl) ?_
  refine mf_aload_n (mf_dat eX12_leaves 0 rfl) rfl rfl ?_
  refine mf_getf (r := (RX12, TX12, 106)) (ci := 12) (k := 40) (t := 2) (v := 276) (mf_dat eX12_leaves 1 rfl) fl_X12_105 rfl (by decide) rfl (gm_40 hG) is245 ?_
  refine mf_iconst (v := 2) (mf_dat eX12_leaves 2 rfl) (by decide) ?_
  refine mf_iald (mf_dat eX12_leaves 3 rfl) is276 len276 (by decide) (by decide) ?_
  exact mf_ireturn (mf_dat eX12_leaves 4 rfl) rfl (Or.inl rfl) ⟨rfl, hyp⟩
set_option maxRecDepth 100000 in
set_option maxHeartbeats 4000000 in
theorem wX12_beingMany {C : mf_G} {l : Launch} {d : Nat} {K : Int → mf_M → Prop} {h : mf_M} (hyp : K (h 277 3) h) : mM C l d YX12_beingMany [(2, 245)] h K := by
  intro g hG
  refine mf_entry (by decide) (Nat.le_of_ble_eq_true rfl) ?_
  refine mf_aload_n (mf_dat eX12_beingMany 0 rfl) rfl rfl ?_
  refine mf_getf (r := (RX12, TX12, 106)) (ci := 12) (k := 41) (t := 2) (v := 277) (mf_dat eX12_beingMany 1 rfl) fl_X12_108 rfl (by decide) rfl (gm_41 hG) is245 ?_
  refine mf_iconst (v := 3) (mf_dat eX12_beingMany 2 rfl) (by decide) ?_
  refine mf_iald (mf_dat eX12_beingMany 3 rfl) is277 len277 (by decide) (by decide) ?_
  exact mf_ireturn (mf_dat eX12_beingMany 4 rfl) rfl (Or.inl rfl) ⟨rfl, hyp⟩
set_option maxRecDepth 100000 in
set_option maxHeartbeats 4000000 in
theorem wX12_isBeing {C : mf_G} {l : Launch} {d : Nat} {K : Int → mf_M → Prop} {x1 : Int} {h : mf_M} (hd : 1 ≤ d) (hyp : mM C l 0 YX12_beingMany [(2, 245)] h (fun r1 h3 => mM C l 0 YX12_isIn [(1, x1), (1, 0), (1, mf_w32 (r1 - 1))] h3 (fun r4 h6 => (r4 = 0 ∨ r4 = 1) ∧ K r4 h6))) : mM C l d YX12_isBeing [(2, 245), (0, x1)] h K := by
  intro g hG
  refine mf_entry (by decide) (Nat.le_of_ble_eq_true rfl) ?_
  refine mf_iload_n (mf_dat eX12_isBeing 0 rfl) rfl rfl ?_
  refine mf_i2l (mf_dat eX12_isBeing 1 rfl) ?_
  refine mf_lconst (v := 0) (mf_dat eX12_isBeing 2 rfl) (by decide) ?_
  refine mf_aload_n (mf_dat eX12_isBeing 3 rfl) rfl rfl ?_
  refine mf_callV (Yc := YX12_beingMany) (r := (RX12, TX12, 106)) (ci := 12) (mf_dat eX12_isBeing 4 rfl) ml_X12_402 okX12_beingMany im_X12_beingMany sl_X12_beingMany rfl rfl rfl rfl (Nat.le_of_ble_eq_true rfl) (mf_rr (Nat.le_trans (by decide) hd) (Nat.le_refl _)) (Nat.le_refl _) is245 (hyp g hG) (fun r1 g2 h3 hyp => ?_)
  obtain ⟨hgg, hyp⟩ := hyp
  subst hgg
  refine mf_iconst (v := 1) (mf_dat eX12_isBeing 5 rfl) (by decide) ?_
  refine mf_isub (mf_dat eX12_isBeing 6 rfl) ?_
  refine mf_i2l (mf_dat eX12_isBeing 7 rfl) ?_
  refine mf_callS (Yc := YX12_isIn) (mf_dat eX12_isBeing 8 rfl) ml_X12_286 okX12_isIn sm_X12_isIn rfl rfl (Nat.le_of_ble_eq_true rfl) (mf_rr (Nat.le_trans (by decide) hd) (Nat.le_refl _)) (Nat.le_refl _) (hyp g2 hG) (fun r4 g5 h6 hyp => ?_)
  obtain ⟨hgg, hyp⟩ := hyp
  subst hgg
  obtain ⟨ck7, hyp⟩ := hyp
  exact mf_ireturn (mf_dat eX12_isBeing 9 rfl) rfl (Or.inr ⟨rfl, ck7⟩) ⟨rfl, hyp⟩
set_option maxRecDepth 100000 in
set_option maxHeartbeats 4000000 in
theorem wX12_isCell {C : mf_G} {l : Launch} {d : Nat} {K : Int → mf_M → Prop} {x1 x2 : Int} {h : mf_M} (hd : 1 ≤ d) (hyp : ((h 245 54 = 0 → K 0 h) ∧ (¬ h 245 54 = 0 → mM C l 0 YX12_leaves [(2, 245)] h (fun r1 h3 => mM C l 0 YX12_isIn [(1, x1), (1, 0), (1, mf_w32 (r1 - 1))] h3 (fun r4 h6 => ((r4 = 0 → K 0 h6) ∧ (¬ r4 = 0 → mM C l 0 YX12_isIn [(1, x2), (1, 0), (1, mf_w32 ((h6 276 3) - 1))] h6 (fun r7 h9 => ((r7 = 0 → K 0 h9) ∧ (¬ r7 = 0 → K 1 h9)))))))))) : mM C l d YX12_isCell [(2, 245), (0, x1), (0, x2)] h K := by
  intro g hG
  refine mf_entry (by decide) (Nat.le_of_ble_eq_true rfl) ?_
  refine mf_aload_n (mf_dat eX12_isCell 0 rfl) rfl rfl ?_
  refine mf_getf (r := (RX12, TX12, 106)) (ci := 12) (k := 54) (t := 0) (v := h 245 54) (mf_dat eX12_isCell 1 rfl) fl_X12_389 rfl (by decide) rfl rfl is245 ?_
  refine mf_if_eq (tgt := 45) (mf_dat eX12_isCell 2 rfl) (by decide) (fun hc => ?_) (fun hc => ?_)
  · replace hyp := hyp.1 hc
    refine mf_iconst (v := 0) (mf_dat eX12_isCell 27 rfl) (by decide) ?_
    exact mf_ireturn (mf_dat eX12_isCell 28 rfl) rfl (Or.inr ⟨rfl, by decide⟩) ⟨rfl, hyp⟩
  · replace hyp := hyp.2 hc
    refine mf_iload_n (mf_dat eX12_isCell 3 rfl) rfl rfl ?_
    refine mf_i2l (mf_dat eX12_isCell 4 rfl) ?_
    refine mf_lconst (v := 0) (mf_dat eX12_isCell 5 rfl) (by decide) ?_
    refine mf_aload_n (mf_dat eX12_isCell 6 rfl) rfl rfl ?_
    refine mf_callV (Yc := YX12_leaves) (r := (RX12, TX12, 106)) (ci := 12) (mf_dat eX12_isCell 7 rfl) ml_X12_405 okX12_leaves im_X12_leaves sl_X12_leaves rfl rfl rfl rfl (Nat.le_of_ble_eq_true rfl) (mf_rr (Nat.le_trans (by decide) hd) (Nat.le_refl _)) (Nat.le_refl _) is245 (hyp g hG) (fun r1 g2 h3 hyp => ?_)
    obtain ⟨hgg, hyp⟩ := hyp
    subst hgg
    refine mf_iconst (v := 1) (mf_dat eX12_isCell 8 rfl) (by decide) ?_
    refine mf_isub (mf_dat eX12_isCell 9 rfl) ?_
    refine mf_i2l (mf_dat eX12_isCell 10 rfl) ?_
    refine mf_callS (Yc := YX12_isIn) (mf_dat eX12_isCell 11 rfl) ml_X12_286 okX12_isIn sm_X12_isIn rfl rfl (Nat.le_of_ble_eq_true rfl) (mf_rr (Nat.le_trans (by decide) hd) (Nat.le_refl _)) (Nat.le_refl _) (hyp g2 hG) (fun r4 g5 h6 hyp => ?_)
    obtain ⟨hgg, hyp⟩ := hyp
    subst hgg
    refine mf_if_eq (tgt := 45) (mf_dat eX12_isCell 12 rfl) (by decide) (fun hc => ?_) (fun hc => ?_)
    · replace hyp := hyp.1 hc
      refine mf_iconst (v := 0) (mf_dat eX12_isCell 27 rfl) (by decide) ?_
      exact mf_ireturn (mf_dat eX12_isCell 28 rfl) rfl (Or.inr ⟨rfl, by decide⟩) ⟨rfl, hyp⟩
    · replace hyp := hyp.2 hc
      refine mf_iload_n (mf_dat eX12_isCell 13 rfl) rfl rfl ?_
      refine mf_i2l (mf_dat eX12_isCell 14 rfl) ?_
      refine mf_lconst (v := 0) (mf_dat eX12_isCell 15 rfl) (by decide) ?_
      refine mf_aload_n (mf_dat eX12_isCell 16 rfl) rfl rfl ?_
      refine mf_getf (r := (RX12, TX12, 106)) (ci := 12) (k := 40) (t := 2) (v := 276) (mf_dat eX12_isCell 17 rfl) fl_X12_105 rfl (by decide) rfl (gm_40 hG) is245 ?_
      refine mf_iconst (v := 3) (mf_dat eX12_isCell 18 rfl) (by decide) ?_
      refine mf_iald (mf_dat eX12_isCell 19 rfl) is276 len276 (by decide) (by decide) ?_
      refine mf_iconst (v := 1) (mf_dat eX12_isCell 20 rfl) (by decide) ?_
      refine mf_isub (mf_dat eX12_isCell 21 rfl) ?_
      refine mf_i2l (mf_dat eX12_isCell 22 rfl) ?_
      refine mf_callS (Yc := YX12_isIn) (mf_dat eX12_isCell 23 rfl) ml_X12_286 okX12_isIn sm_X12_isIn rfl rfl (Nat.le_of_ble_eq_true rfl) (mf_rr (Nat.le_trans (by decide) hd) (Nat.le_refl _)) (Nat.le_refl _) (hyp g5 hG) (fun r7 g8 h9 hyp => ?_)
      obtain ⟨hgg, hyp⟩ := hyp
      subst hgg
      refine mf_if_eq (tgt := 45) (mf_dat eX12_isCell 24 rfl) (by decide) (fun hc => ?_) (fun hc => ?_)
      · replace hyp := hyp.1 hc
        refine mf_iconst (v := 0) (mf_dat eX12_isCell 27 rfl) (by decide) ?_
        exact mf_ireturn (mf_dat eX12_isCell 28 rfl) rfl (Or.inr ⟨rfl, by decide⟩) ⟨rfl, hyp⟩
      · replace hyp := hyp.2 hc
        refine mf_iconst (v := 1) (mf_dat eX12_isCell 25 rfl) (by decide) ?_
        refine mf_goto (tgt := 46) (mf_dat eX12_isCell 26 rfl) (by decide) ?_
        exact mf_ireturn (mf_dat eX12_isCell 28 rfl) rfl (Or.inr ⟨rfl, by decide⟩) ⟨rfl, hyp⟩
set_option maxRecDepth 100000 in
set_option maxHeartbeats 4000000 in
theorem wX12_leafOf {C : mf_G} {l : Launch} {d : Nat} {K : Int → mf_M → Prop} {x1 : Int} {h : mf_M} (hyp : 0 ≤ mf_w32 (7 + (mf_w32 (4 * x1))) ∧ mf_w32 (7 + (mf_w32 (4 * x1))) < 160 ∧ K (h 286 (mf_w32 (7 + (mf_w32 (4 * x1))))) h) : mM C l d YX12_leafOf [(2, 245), (0, x1)] h K := by
  intro g hG
  refine mf_entry (by decide) (Nat.le_of_ble_eq_true rfl) ?_
  refine mf_aload_n (mf_dat eX12_leafOf 0 rfl) rfl rfl ?_
  refine mf_getf (r := (RX12, TX12, 106)) (ci := 12) (k := 56) (t := 2) (v := 286) (mf_dat eX12_leafOf 1 rfl) fl_X12_136 rfl (by decide) rfl (gm_56 hG) is245 ?_
  refine mf_bipush (v := 7) (mf_dat eX12_leafOf 2 rfl) (by decide) ?_
  refine mf_iconst (v := 4) (mf_dat eX12_leafOf 3 rfl) (by decide) ?_
  refine mf_iload_n (mf_dat eX12_leafOf 4 rfl) rfl rfl ?_
  refine mf_imul (mf_dat eX12_leafOf 5 rfl) ?_
  refine mf_iadd (mf_dat eX12_leafOf 6 rfl) ?_
  obtain ⟨ck1, hyp⟩ := hyp
  obtain ⟨ck2, hyp⟩ := hyp
  refine mf_iald (mf_dat eX12_leafOf 7 rfl) is286 len286 ck1 ck2 ?_
  exact mf_ireturn (mf_dat eX12_leafOf 8 rfl) rfl (Or.inl rfl) ⟨rfl, hyp⟩
set_option maxRecDepth 100000 in
set_option maxHeartbeats 4000000 in
theorem wX12_cellOf {C : mf_G} {l : Launch} {d : Nat} {K : Int → mf_M → Prop} {x1 : Int} {h : mf_M} (hyp : 0 ≤ mf_w32 ((mf_w32 (7 + (mf_w32 (4 * x1)))) + 1) ∧ mf_w32 ((mf_w32 (7 + (mf_w32 (4 * x1)))) + 1) < 160 ∧ K (h 286 (mf_w32 ((mf_w32 (7 + (mf_w32 (4 * x1)))) + 1))) h) : mM C l d YX12_cellOf [(2, 245), (0, x1)] h K := by
  intro g hG
  refine mf_entry (by decide) (Nat.le_of_ble_eq_true rfl) ?_
  refine mf_aload_n (mf_dat eX12_cellOf 0 rfl) rfl rfl ?_
  refine mf_getf (r := (RX12, TX12, 106)) (ci := 12) (k := 56) (t := 2) (v := 286) (mf_dat eX12_cellOf 1 rfl) fl_X12_136 rfl (by decide) rfl (gm_56 hG) is245 ?_
  refine mf_bipush (v := 7) (mf_dat eX12_cellOf 2 rfl) (by decide) ?_
  refine mf_iconst (v := 4) (mf_dat eX12_cellOf 3 rfl) (by decide) ?_
  refine mf_iload_n (mf_dat eX12_cellOf 4 rfl) rfl rfl ?_
  refine mf_imul (mf_dat eX12_cellOf 5 rfl) ?_
  refine mf_iadd (mf_dat eX12_cellOf 6 rfl) ?_
  refine mf_iconst (v := 1) (mf_dat eX12_cellOf 7 rfl) (by decide) ?_
  refine mf_iadd (mf_dat eX12_cellOf 8 rfl) ?_
  obtain ⟨ck1, hyp⟩ := hyp
  obtain ⟨ck2, hyp⟩ := hyp
  refine mf_iald (mf_dat eX12_cellOf 9 rfl) is286 len286 ck1 ck2 ?_
  exact mf_ireturn (mf_dat eX12_cellOf 10 rfl) rfl (Or.inl rfl) ⟨rfl, hyp⟩
set_option maxRecDepth 100000 in
set_option maxHeartbeats 4000000 in
theorem wX12_purseOf {C : mf_G} {l : Launch} {d : Nat} {K : Int → mf_M → Prop} {x1 : Int} {h : mf_M} (hyp : 0 ≤ mf_w32 ((mf_w32 (7 + (mf_w32 (4 * x1)))) + 2) ∧ mf_w32 ((mf_w32 (7 + (mf_w32 (4 * x1)))) + 2) < 160 ∧ K (h 286 (mf_w32 ((mf_w32 (7 + (mf_w32 (4 * x1)))) + 2))) h) : mM C l d YX12_purseOf [(2, 245), (0, x1)] h K := by
  intro g hG
  refine mf_entry (by decide) (Nat.le_of_ble_eq_true rfl) ?_
  refine mf_aload_n (mf_dat eX12_purseOf 0 rfl) rfl rfl ?_
  refine mf_getf (r := (RX12, TX12, 106)) (ci := 12) (k := 56) (t := 2) (v := 286) (mf_dat eX12_purseOf 1 rfl) fl_X12_136 rfl (by decide) rfl (gm_56 hG) is245 ?_
  refine mf_bipush (v := 7) (mf_dat eX12_purseOf 2 rfl) (by decide) ?_
  refine mf_iconst (v := 4) (mf_dat eX12_purseOf 3 rfl) (by decide) ?_
  refine mf_iload_n (mf_dat eX12_purseOf 4 rfl) rfl rfl ?_
  refine mf_imul (mf_dat eX12_purseOf 5 rfl) ?_
  refine mf_iadd (mf_dat eX12_purseOf 6 rfl) ?_
  refine mf_iconst (v := 2) (mf_dat eX12_purseOf 7 rfl) (by decide) ?_
  refine mf_iadd (mf_dat eX12_purseOf 8 rfl) ?_
  obtain ⟨ck1, hyp⟩ := hyp
  obtain ⟨ck2, hyp⟩ := hyp
  refine mf_iald (mf_dat eX12_purseOf 9 rfl) is286 len286 ck1 ck2 ?_
  exact mf_ireturn (mf_dat eX12_purseOf 10 rfl) rfl (Or.inl rfl) ⟨rfl, hyp⟩
set_option maxRecDepth 100000 in
set_option maxHeartbeats 4000000 in
theorem wX12_purseIs {C : mf_G} {l : Launch} {d : Nat} {K : Int → mf_M → Prop} {x1 x2 : Int} {h : mf_M} (hyp : ((0 ≤ x2 → ((x2 ≤ 9999 → 0 ≤ mf_w32 ((mf_w32 (7 + (mf_w32 (4 * x1)))) + 2) ∧ mf_w32 ((mf_w32 (7 + (mf_w32 (4 * x1)))) + 2) < 160 ∧ (∀ h3 : mf_M, h3 = mf_up h 286 (mf_w32 ((mf_w32 (7 + (mf_w32 (4 * x1)))) + 2)) (mf_w32 x2) → K 0 h3)) ∧ (¬ x2 ≤ 9999 → 0 ≤ mf_w32 ((mf_w32 (7 + (mf_w32 (4 * x1)))) + 2) ∧ mf_w32 ((mf_w32 (7 + (mf_w32 (4 * x1)))) + 2) < 160 ∧ (∀ h6 : mf_M, h6 = mf_up h 286 (mf_w32 ((mf_w32 (7 + (mf_w32 (4 * x1)))) + 2)) 9999 → K 0 h6)))) ∧ (¬ 0 ≤ x2 → 0 ≤ mf_w32 ((mf_w32 (7 + (mf_w32 (4 * x1)))) + 2) ∧ mf_w32 ((mf_w32 (7 + (mf_w32 (4 * x1)))) + 2) < 160 ∧ (∀ h9 : mf_M, h9 = mf_up h 286 (mf_w32 ((mf_w32 (7 + (mf_w32 (4 * x1)))) + 2)) 0 → K 0 h9)))) : mM C l d YX12_purseIs [(2, 245), (0, x1), (1, x2)] h K := by
  intro g hG
  refine mf_entry (by decide) (Nat.le_of_ble_eq_true rfl) ?_
  refine mf_aload_n (mf_dat eX12_purseIs 0 rfl) rfl rfl ?_
  refine mf_getf (r := (RX12, TX12, 106)) (ci := 12) (k := 56) (t := 2) (v := 286) (mf_dat eX12_purseIs 1 rfl) fl_X12_136 rfl (by decide) rfl (gm_56 hG) is245 ?_
  refine mf_bipush (v := 7) (mf_dat eX12_purseIs 2 rfl) (by decide) ?_
  refine mf_iconst (v := 4) (mf_dat eX12_purseIs 3 rfl) (by decide) ?_
  refine mf_iload_n (mf_dat eX12_purseIs 4 rfl) rfl rfl ?_
  refine mf_imul (mf_dat eX12_purseIs 5 rfl) ?_
  refine mf_iadd (mf_dat eX12_purseIs 6 rfl) ?_
  refine mf_iconst (v := 2) (mf_dat eX12_purseIs 7 rfl) (by decide) ?_
  refine mf_iadd (mf_dat eX12_purseIs 8 rfl) ?_
  refine mf_lload_n (mf_dat eX12_purseIs 9 rfl) rfl rfl ?_
  refine mf_lconst (v := 0) (mf_dat eX12_purseIs 10 rfl) (by decide) ?_
  refine mf_lcmp_ge (tgt := 22) (mf_dat eX12_purseIs 11 rfl) (mf_dat eX12_purseIs 12 rfl) (by decide) (fun hc => ?_) (fun hc => ?_)
  · replace hyp := hyp.1 hc
    refine mf_lload_n (mf_dat eX12_purseIs 15 rfl) rfl rfl ?_
    refine mf_ldc2 (v := 9999) cl_X12_408 (mf_dat eX12_purseIs 16 rfl) (by decide) ?_
    refine mf_lcmp_le (tgt := 36) (mf_dat eX12_purseIs 17 rfl) (mf_dat eX12_purseIs 18 rfl) (by decide) (fun hc => ?_) (fun hc => ?_)
    · replace hyp := hyp.1 hc
      refine mf_lload_n (mf_dat eX12_purseIs 21 rfl) rfl rfl ?_
      refine mf_l2i (mf_dat eX12_purseIs 22 rfl) ?_
      obtain ⟨ck1, hyp⟩ := hyp
      obtain ⟨ck2, hyp⟩ := hyp
      refine mf_iast (mf_dat eX12_purseIs 23 rfl) is286 len286 ck1 ck2 ?_
      generalize qh3 : mf_up h 286 (mf_w32 ((mf_w32 (7 + (mf_w32 (4 * x1)))) + 2)) (mf_w32 x2) = h3
      replace hyp := hyp _ qh3.symm
      exact mf_return (mf_dat eX12_purseIs 24 rfl) rfl ⟨rfl, hyp⟩
    · replace hyp := hyp.2 hc
      refine mf_sipush (v := 9999) (mf_dat eX12_purseIs 19 rfl) (by decide) ?_
      refine mf_goto (tgt := 38) (mf_dat eX12_purseIs 20 rfl) (by decide) ?_
      obtain ⟨ck4, hyp⟩ := hyp
      obtain ⟨ck5, hyp⟩ := hyp
      refine mf_iast (mf_dat eX12_purseIs 23 rfl) is286 len286 ck4 ck5 ?_
      generalize qh6 : mf_up h 286 (mf_w32 ((mf_w32 (7 + (mf_w32 (4 * x1)))) + 2)) 9999 = h6
      replace hyp := hyp _ qh6.symm
      exact mf_return (mf_dat eX12_purseIs 24 rfl) rfl ⟨rfl, hyp⟩
  · replace hyp := hyp.2 hc
    refine mf_iconst (v := 0) (mf_dat eX12_purseIs 13 rfl) (by decide) ?_
    refine mf_goto (tgt := 38) (mf_dat eX12_purseIs 14 rfl) (by decide) ?_
    obtain ⟨ck7, hyp⟩ := hyp
    obtain ⟨ck8, hyp⟩ := hyp
    refine mf_iast (mf_dat eX12_purseIs 23 rfl) is286 len286 ck7 ck8 ?_
    generalize qh9 : mf_up h 286 (mf_w32 ((mf_w32 (7 + (mf_w32 (4 * x1)))) + 2)) 0 = h9
    replace hyp := hyp _ qh9.symm
    exact mf_return (mf_dat eX12_purseIs 24 rfl) rfl ⟨rfl, hyp⟩
set_option maxRecDepth 100000 in
set_option maxHeartbeats 4000000 in
theorem wX12_hasGloss {C : mf_G} {l : Launch} {d : Nat} {K : Int → mf_M → Prop} {x1 x2 : Int} {h : mf_M} (hyp : 0 ≤ mf_w32 (1 + x1) ∧ mf_w32 (1 + x1) < 160 ∧ ((¬ mf_and (mf_shr (h 286 (mf_w32 (1 + x1))) x2) 1 = 1 → K 0 h) ∧ (mf_and (mf_shr (h 286 (mf_w32 (1 + x1))) x2) 1 = 1 → K 1 h))) : mM C l d YX12_hasGloss [(2, 245), (0, x1), (0, x2)] h K := by
  intro g hG
  refine mf_entry (by decide) (Nat.le_of_ble_eq_true rfl) ?_
  refine mf_aload_n (mf_dat eX12_hasGloss 0 rfl) rfl rfl ?_
  refine mf_getf (r := (RX12, TX12, 106)) (ci := 12) (k := 56) (t := 2) (v := 286) (mf_dat eX12_hasGloss 1 rfl) fl_X12_136 rfl (by decide) rfl (gm_56 hG) is245 ?_
  refine mf_iconst (v := 1) (mf_dat eX12_hasGloss 2 rfl) (by decide) ?_
  refine mf_iload_n (mf_dat eX12_hasGloss 3 rfl) rfl rfl ?_
  refine mf_iadd (mf_dat eX12_hasGloss 4 rfl) ?_
  obtain ⟨ck1, hyp⟩ := hyp
  obtain ⟨ck2, hyp⟩ := hyp
  refine mf_iald (mf_dat eX12_hasGloss 5 rfl) is286 len286 ck1 ck2 ?_
  refine mf_iload_n (mf_dat eX12_hasGloss 6 rfl) rfl rfl ?_
  refine mf_ishr (mf_dat eX12_hasGloss 7 rfl) ?_
  refine mf_iconst (v := 1) (mf_dat eX12_hasGloss 8 rfl) (by decide) ?_
  refine mf_iand (mf_dat eX12_hasGloss 9 rfl) ?_
  refine mf_iconst (v := 1) (mf_dat eX12_hasGloss 10 rfl) (by decide) ?_
  refine mf_icmp_ne (tgt := 20) (mf_dat eX12_hasGloss 11 rfl) (by decide) (fun hc => ?_) (fun hc => ?_)
  · replace hyp := hyp.1 hc
    refine mf_iconst (v := 0) (mf_dat eX12_hasGloss 14 rfl) (by decide) ?_
    exact mf_ireturn (mf_dat eX12_hasGloss 15 rfl) rfl (Or.inr ⟨rfl, by decide⟩) ⟨rfl, hyp⟩
  · replace hyp := hyp.2 hc
    refine mf_iconst (v := 1) (mf_dat eX12_hasGloss 12 rfl) (by decide) ?_
    refine mf_goto (tgt := 21) (mf_dat eX12_hasGloss 13 rfl) (by decide) ?_
    exact mf_ireturn (mf_dat eX12_hasGloss 15 rfl) rfl (Or.inr ⟨rfl, by decide⟩) ⟨rfl, hyp⟩
abbrev BX12_standsOn_2 (C : mf_G) (l : Launch) (d : Nat) (K : Int → mf_M → Prop) (x1 x2 x3 : Int) (h : mf_M) : Prop := jM C l d YX12_standsOn K 2 [(0, (2, 245)), (1, (0, x1)), (2, (0, x2)), (3, (0, x3))] [] h
set_option maxRecDepth 100000 in
set_option maxHeartbeats 4000000 in
theorem vX12_standsOn_2 {C : mf_G} {l : Launch} {d : Nat} {K : Int → mf_M → Prop} {x1 x2 x3 : Int} {h : mf_M} (hd : 1 ≤ d) (hyp : mM C l 0 YX12_beingMany [(2, 245)] h (fun r1 h3 => ((r1 ≤ x3 → K (-1) h3) ∧ (¬ r1 ≤ x3 → mM C l 0 YX12_leafOf [(2, 245), (0, x3)] h3 (fun r4 h6 => ((¬ r4 = x1 → (∀ v7 : Int, v7 = mf_w32 (x3 + 1) → BX12_standsOn_2 C l d K x1 x2 v7 h6)) ∧ (r4 = x1 → mM C l 0 YX12_cellOf [(2, 245), (0, x3)] h6 (fun r8 h10 => ((¬ r8 = x2 → (∀ v11 : Int, v11 = mf_w32 (x3 + 1) → BX12_standsOn_2 C l d K x1 x2 v11 h10)) ∧ (r8 = x2 → K x3 h10)))))))))) : BX12_standsOn_2 C l d K x1 x2 x3 h := by
  intro g hG
  refine mf_iload_n (mf_dat eX12_standsOn 2 rfl) rfl rfl ?_
  refine mf_aload_n (mf_dat eX12_standsOn 3 rfl) rfl rfl ?_
  refine mf_callV (Yc := YX12_beingMany) (r := (RX12, TX12, 106)) (ci := 12) (mf_dat eX12_standsOn 4 rfl) ml_X12_402 okX12_beingMany im_X12_beingMany sl_X12_beingMany rfl rfl rfl rfl (Nat.le_of_ble_eq_true rfl) (mf_rr (Nat.le_trans (by decide) hd) (Nat.le_refl _)) (Nat.le_refl _) is245 (hyp g hG) (fun r1 g2 h3 hyp => ?_)
  obtain ⟨hgg, hyp⟩ := hyp
  subst hgg
  refine mf_icmp_ge (tgt := 36) (mf_dat eX12_standsOn 5 rfl) (by decide) (fun hc => ?_) (fun hc => ?_)
  · replace hyp := hyp.1 hc
    refine mf_iconst (v := (-1)) (mf_dat eX12_standsOn 20 rfl) (by decide) ?_
    exact mf_ireturn (mf_dat eX12_standsOn 21 rfl) rfl (Or.inl rfl) ⟨rfl, hyp⟩
  · replace hyp := hyp.2 hc
    refine mf_aload_n (mf_dat eX12_standsOn 6 rfl) rfl rfl ?_
    refine mf_iload_n (mf_dat eX12_standsOn 7 rfl) rfl rfl ?_
    refine mf_callV (Yc := YX12_leafOf) (r := (RX12, TX12, 106)) (ci := 12) (mf_dat eX12_standsOn 8 rfl) ml_X12_410 okX12_leafOf im_X12_leafOf sl_X12_leafOf rfl rfl rfl rfl (Nat.le_of_ble_eq_true rfl) (mf_rr (Nat.le_trans (by decide) hd) (Nat.le_refl _)) (Nat.le_refl _) is245 (hyp g2 hG) (fun r4 g5 h6 hyp => ?_)
    obtain ⟨hgg, hyp⟩ := hyp
    subst hgg
    refine mf_iload_n (mf_dat eX12_standsOn 9 rfl) rfl rfl ?_
    refine mf_icmp_ne (tgt := 30) (mf_dat eX12_standsOn 10 rfl) (by decide) (fun hc => ?_) (fun hc => ?_)
    · replace hyp := hyp.1 hc
      refine mf_iinc (mf_dat eX12_standsOn 18 rfl) rfl (by decide) (by decide) ?_
      generalize qv7 : mf_w32 (x3 + 1) = v7
      replace hyp := hyp _ qv7.symm
      refine mf_goto (tgt := 2) (mf_dat eX12_standsOn 19 rfl) (by decide) ?_
      exact mf_sub [1, 2, 3, 0] rfl (hyp g5 hG)
    · replace hyp := hyp.2 hc
      refine mf_aload_n (mf_dat eX12_standsOn 11 rfl) rfl rfl ?_
      refine mf_iload_n (mf_dat eX12_standsOn 12 rfl) rfl rfl ?_
      refine mf_callV (Yc := YX12_cellOf) (r := (RX12, TX12, 106)) (ci := 12) (mf_dat eX12_standsOn 13 rfl) ml_X12_413 okX12_cellOf im_X12_cellOf sl_X12_cellOf rfl rfl rfl rfl (Nat.le_of_ble_eq_true rfl) (mf_rr (Nat.le_trans (by decide) hd) (Nat.le_refl _)) (Nat.le_refl _) is245 (hyp g5 hG) (fun r8 g9 h10 hyp => ?_)
      obtain ⟨hgg, hyp⟩ := hyp
      subst hgg
      refine mf_iload_n (mf_dat eX12_standsOn 14 rfl) rfl rfl ?_
      refine mf_icmp_ne (tgt := 30) (mf_dat eX12_standsOn 15 rfl) (by decide) (fun hc => ?_) (fun hc => ?_)
      · replace hyp := hyp.1 hc
        refine mf_iinc (mf_dat eX12_standsOn 18 rfl) rfl (by decide) (by decide) ?_
        generalize qv11 : mf_w32 (x3 + 1) = v11
        replace hyp := hyp _ qv11.symm
        refine mf_goto (tgt := 2) (mf_dat eX12_standsOn 19 rfl) (by decide) ?_
        exact mf_sub [1, 2, 3, 0] rfl (hyp g9 hG)
      · replace hyp := hyp.2 hc
        refine mf_iload_n (mf_dat eX12_standsOn 16 rfl) rfl rfl ?_
        exact mf_ireturn (mf_dat eX12_standsOn 17 rfl) rfl (Or.inl rfl) ⟨rfl, hyp⟩
set_option maxRecDepth 100000 in
set_option maxHeartbeats 4000000 in
theorem wX12_standsOn {C : mf_G} {l : Launch} {d : Nat} {K : Int → mf_M → Prop} {x1 x2 : Int} {h : mf_M} (hyp : BX12_standsOn_2 C l d K x1 x2 0 h) : mM C l d YX12_standsOn [(2, 245), (0, x1), (0, x2)] h K := by
  intro g hG
  refine mf_entry (by decide) (Nat.le_of_ble_eq_true rfl) ?_
  refine mf_iconst (v := 0) (mf_dat eX12_standsOn 0 rfl) (by decide) ?_
  refine mf_istore_n (mf_dat eX12_standsOn 1 rfl) rfl (by decide) ?_
  exact mf_sub [1, 2, 3, 0] rfl (hyp g hG)
set_option maxRecDepth 100000 in
set_option maxHeartbeats 4000000 in
theorem wX12_isOpen {C : mf_G} {l : Launch} {d : Nat} {K : Int → mf_M → Prop} {x0 x1 : Int} {h : mf_M} (hyp : ((x0 = mf_w32 (x1 - 1) → K 1 h) ∧ (¬ x0 = mf_w32 (x1 - 1) → ((¬ x0 = x1 → K 0 h) ∧ (x0 = x1 → K 1 h))))) : mM C l d YX12_isOpen [(0, x0), (0, x1)] h K := by
  intro g hG
  refine mf_entry (by decide) (Nat.le_of_ble_eq_true rfl) ?_
  refine mf_iload_n (mf_dat eX12_isOpen 0 rfl) rfl rfl ?_
  refine mf_iload_n (mf_dat eX12_isOpen 1 rfl) rfl rfl ?_
  refine mf_iconst (v := 1) (mf_dat eX12_isOpen 2 rfl) (by decide) ?_
  refine mf_isub (mf_dat eX12_isOpen 3 rfl) ?_
  refine mf_icmp_eq (tgt := 12) (mf_dat eX12_isOpen 4 rfl) (by decide) (fun hc => ?_) (fun hc => ?_)
  · replace hyp := hyp.1 hc
    refine mf_iconst (v := 1) (mf_dat eX12_isOpen 8 rfl) (by decide) ?_
    refine mf_goto (tgt := 17) (mf_dat eX12_isOpen 9 rfl) (by decide) ?_
    exact mf_ireturn (mf_dat eX12_isOpen 11 rfl) rfl (Or.inr ⟨rfl, by decide⟩) ⟨rfl, hyp⟩
  · replace hyp := hyp.2 hc
    refine mf_iload_n (mf_dat eX12_isOpen 5 rfl) rfl rfl ?_
    refine mf_iload_n (mf_dat eX12_isOpen 6 rfl) rfl rfl ?_
    refine mf_icmp_ne (tgt := 16) (mf_dat eX12_isOpen 7 rfl) (by decide) (fun hc => ?_) (fun hc => ?_)
    · replace hyp := hyp.1 hc
      refine mf_iconst (v := 0) (mf_dat eX12_isOpen 10 rfl) (by decide) ?_
      exact mf_ireturn (mf_dat eX12_isOpen 11 rfl) rfl (Or.inr ⟨rfl, by decide⟩) ⟨rfl, hyp⟩
    · replace hyp := hyp.2 hc
      refine mf_iconst (v := 1) (mf_dat eX12_isOpen 8 rfl) (by decide) ?_
      refine mf_goto (tgt := 17) (mf_dat eX12_isOpen 9 rfl) (by decide) ?_
      exact mf_ireturn (mf_dat eX12_isOpen 11 rfl) rfl (Or.inr ⟨rfl, by decide⟩) ⟨rfl, hyp⟩
set_option maxRecDepth 100000 in
set_option maxHeartbeats 4000000 in
theorem wX12_liesOnNext {C : mf_G} {l : Launch} {d : Nat} {K : Int → mf_M → Prop} {x1 x2 : Int} {h : mf_M} (hd : 1 ≤ d) (hyp : ((x1 < 0 → K 0 h) ∧ (¬ x1 < 0 → mM C l 0 YX12_leaves [(2, 245)] h (fun r1 h3 => ((r1 ≤ mf_w32 (x1 + 1) → K 0 h3) ∧ (¬ r1 ≤ mf_w32 (x1 + 1) → mM C l 0 YX12_isOpen [(0, x1), (0, x2)] h3 (fun r4 h6 => ((¬ r4 = 0 → K 0 h6) ∧ (r4 = 0 → K 1 h6))))))))) : mM C l d YX12_liesOnNext [(2, 245), (0, x1), (0, x2)] h K := by
  intro g hG
  refine mf_entry (by decide) (Nat.le_of_ble_eq_true rfl) ?_
  refine mf_iload_n (mf_dat eX12_liesOnNext 0 rfl) rfl rfl ?_
  refine mf_if_lt (tgt := 26) (mf_dat eX12_liesOnNext 1 rfl) (by decide) (fun hc => ?_) (fun hc => ?_)
  · replace hyp := hyp.1 hc
    refine mf_iconst (v := 0) (mf_dat eX12_liesOnNext 14 rfl) (by decide) ?_
    exact mf_ireturn (mf_dat eX12_liesOnNext 15 rfl) rfl (Or.inr ⟨rfl, by decide⟩) ⟨rfl, hyp⟩
  · replace hyp := hyp.2 hc
    refine mf_iload_n (mf_dat eX12_liesOnNext 2 rfl) rfl rfl ?_
    refine mf_iconst (v := 1) (mf_dat eX12_liesOnNext 3 rfl) (by decide) ?_
    refine mf_iadd (mf_dat eX12_liesOnNext 4 rfl) ?_
    refine mf_aload_n (mf_dat eX12_liesOnNext 5 rfl) rfl rfl ?_
    refine mf_callV (Yc := YX12_leaves) (r := (RX12, TX12, 106)) (ci := 12) (mf_dat eX12_liesOnNext 6 rfl) ml_X12_405 okX12_leaves im_X12_leaves sl_X12_leaves rfl rfl rfl rfl (Nat.le_of_ble_eq_true rfl) (mf_rr (Nat.le_trans (by decide) hd) (Nat.le_refl _)) (Nat.le_refl _) is245 (hyp g hG) (fun r1 g2 h3 hyp => ?_)
    obtain ⟨hgg, hyp⟩ := hyp
    subst hgg
    refine mf_icmp_ge (tgt := 26) (mf_dat eX12_liesOnNext 7 rfl) (by decide) (fun hc => ?_) (fun hc => ?_)
    · replace hyp := hyp.1 hc
      refine mf_iconst (v := 0) (mf_dat eX12_liesOnNext 14 rfl) (by decide) ?_
      exact mf_ireturn (mf_dat eX12_liesOnNext 15 rfl) rfl (Or.inr ⟨rfl, by decide⟩) ⟨rfl, hyp⟩
    · replace hyp := hyp.2 hc
      refine mf_iload_n (mf_dat eX12_liesOnNext 8 rfl) rfl rfl ?_
      refine mf_iload_n (mf_dat eX12_liesOnNext 9 rfl) rfl rfl ?_
      refine mf_callS (Yc := YX12_isOpen) (mf_dat eX12_liesOnNext 10 rfl) ml_X12_416 okX12_isOpen sm_X12_isOpen rfl rfl (Nat.le_of_ble_eq_true rfl) (mf_rr (Nat.le_trans (by decide) hd) (Nat.le_refl _)) (Nat.le_refl _) (hyp g2 hG) (fun r4 g5 h6 hyp => ?_)
      obtain ⟨hgg, hyp⟩ := hyp
      subst hgg
      refine mf_if_ne (tgt := 26) (mf_dat eX12_liesOnNext 11 rfl) (by decide) (fun hc => ?_) (fun hc => ?_)
      · replace hyp := hyp.1 hc
        refine mf_iconst (v := 0) (mf_dat eX12_liesOnNext 14 rfl) (by decide) ?_
        exact mf_ireturn (mf_dat eX12_liesOnNext 15 rfl) rfl (Or.inr ⟨rfl, by decide⟩) ⟨rfl, hyp⟩
      · replace hyp := hyp.2 hc
        refine mf_iconst (v := 1) (mf_dat eX12_liesOnNext 12 rfl) (by decide) ?_
        refine mf_goto (tgt := 27) (mf_dat eX12_liesOnNext 13 rfl) (by decide) ?_
        exact mf_ireturn (mf_dat eX12_liesOnNext 15 rfl) rfl (Or.inr ⟨rfl, by decide⟩) ⟨rfl, hyp⟩
set_option maxRecDepth 100000 in
set_option maxHeartbeats 4000000 in
theorem wX12_doMeet {C : mf_G} {l : Launch} {d : Nat} {K : Int → mf_M → Prop} {x1 x2 x3 : Int} {h : mf_M} (hd : 2 ≤ d) (hyp : mM C l 0 YX12_cellOf [(2, 245), (0, x1)] h (fun r1 h3 => mM C l 0 YX12_cellOf [(2, 245), (0, x2)] h3 (fun r4 h6 => ((mf_w32 (r1 + r4) = mf_w32 ((h6 276 3) - 1) → mM C l 0 YX12_leafOf [(2, 245), (0, x1)] h6 (fun r7 h9 => mM C l 0 YX12_leafOf [(2, 245), (0, x2)] h9 (fun r10 h12 => ((¬ r10 = mf_w32 (r7 + 1) → ((¬ r7 = mf_w32 (r10 + 1) → K 0 h12) ∧ (r7 = mf_w32 (r10 + 1) → mM C l 1 YX12_liesOnNext [(2, 245), (0, r10), (0, x3)] h12 (fun r13 h15 => ((r13 = 0 → K 0 h15) ∧ (¬ r13 = 0 → K 1 h15)))))) ∧ (r10 = mf_w32 (r7 + 1) → mM C l 1 YX12_liesOnNext [(2, 245), (0, r7), (0, x3)] h12 (fun r16 h18 => (r16 = 0 ∨ r16 = 1) ∧ K r16 h18)))))) ∧ (¬ mf_w32 (r1 + r4) = mf_w32 ((h6 276 3) - 1) → K 0 h6))))) : mM C l d YX12_doMeet [(2, 245), (0, x1), (0, x2), (0, x3)] h K := by
  intro g hG
  refine mf_entry (by decide) (Nat.le_of_ble_eq_true rfl) ?_
  refine mf_aload_n (mf_dat eX12_doMeet 0 rfl) rfl rfl ?_
  refine mf_iload_n (mf_dat eX12_doMeet 1 rfl) rfl rfl ?_
  refine mf_callV (Yc := YX12_cellOf) (r := (RX12, TX12, 106)) (ci := 12) (mf_dat eX12_doMeet 2 rfl) ml_X12_413 okX12_cellOf im_X12_cellOf sl_X12_cellOf rfl rfl rfl rfl (Nat.le_of_ble_eq_true rfl) (mf_rr (Nat.le_trans (by decide) hd) (Nat.le_refl _)) (Nat.le_refl _) is245 (hyp g hG) (fun r1 g2 h3 hyp => ?_)
  obtain ⟨hgg, hyp⟩ := hyp
  subst hgg
  refine mf_aload_n (mf_dat eX12_doMeet 3 rfl) rfl rfl ?_
  refine mf_iload_n (mf_dat eX12_doMeet 4 rfl) rfl rfl ?_
  refine mf_callV (Yc := YX12_cellOf) (r := (RX12, TX12, 106)) (ci := 12) (mf_dat eX12_doMeet 5 rfl) ml_X12_413 okX12_cellOf im_X12_cellOf sl_X12_cellOf rfl rfl rfl rfl (Nat.le_of_ble_eq_true rfl) (mf_rr (Nat.le_trans (by decide) hd) (Nat.le_refl _)) (Nat.le_refl _) is245 (hyp g2 hG) (fun r4 g5 h6 hyp => ?_)
  obtain ⟨hgg, hyp⟩ := hyp
  subst hgg
  refine mf_iadd (mf_dat eX12_doMeet 6 rfl) ?_
  refine mf_aload_n (mf_dat eX12_doMeet 7 rfl) rfl rfl ?_
  refine mf_getf (r := (RX12, TX12, 106)) (ci := 12) (k := 40) (t := 2) (v := 276) (mf_dat eX12_doMeet 8 rfl) fl_X12_105 rfl (by decide) rfl (gm_40 hG) is245 ?_
  refine mf_iconst (v := 3) (mf_dat eX12_doMeet 9 rfl) (by decide) ?_
  refine mf_iald (mf_dat eX12_doMeet 10 rfl) is276 len276 (by decide) (by decide) ?_
  refine mf_iconst (v := 1) (mf_dat eX12_doMeet 11 rfl) (by decide) ?_
  refine mf_isub (mf_dat eX12_doMeet 12 rfl) ?_
  refine mf_icmp_eq (tgt := 24) (mf_dat eX12_doMeet 13 rfl) (by decide) (fun hc => ?_) (fun hc => ?_)
  · replace hyp := hyp.1 hc
    refine mf_aload_n (mf_dat eX12_doMeet 16 rfl) rfl rfl ?_
    refine mf_iload_n (mf_dat eX12_doMeet 17 rfl) rfl rfl ?_
    refine mf_callV (Yc := YX12_leafOf) (r := (RX12, TX12, 106)) (ci := 12) (mf_dat eX12_doMeet 18 rfl) ml_X12_410 okX12_leafOf im_X12_leafOf sl_X12_leafOf rfl rfl rfl rfl (Nat.le_of_ble_eq_true rfl) (mf_rr (Nat.le_trans (by decide) hd) (Nat.le_refl _)) (Nat.le_refl _) is245 (hyp g5 hG) (fun r7 g8 h9 hyp => ?_)
    obtain ⟨hgg, hyp⟩ := hyp
    subst hgg
    refine mf_istore (mf_dat eX12_doMeet 19 rfl) (by decide) ?_
    refine mf_aload_n (mf_dat eX12_doMeet 20 rfl) rfl rfl ?_
    refine mf_iload_n (mf_dat eX12_doMeet 21 rfl) rfl rfl ?_
    refine mf_callV (Yc := YX12_leafOf) (r := (RX12, TX12, 106)) (ci := 12) (mf_dat eX12_doMeet 22 rfl) ml_X12_410 okX12_leafOf im_X12_leafOf sl_X12_leafOf rfl rfl rfl rfl (Nat.le_of_ble_eq_true rfl) (mf_rr (Nat.le_trans (by decide) hd) (Nat.le_refl _)) (Nat.le_refl _) is245 (hyp g8 hG) (fun r10 g11 h12 hyp => ?_)
    obtain ⟨hgg, hyp⟩ := hyp
    subst hgg
    refine mf_istore (mf_dat eX12_doMeet 23 rfl) (by decide) ?_
    refine mf_iload (mf_dat eX12_doMeet 24 rfl) rfl ?_
    refine mf_iload (mf_dat eX12_doMeet 25 rfl) rfl ?_
    refine mf_iconst (v := 1) (mf_dat eX12_doMeet 26 rfl) (by decide) ?_
    refine mf_iadd (mf_dat eX12_doMeet 27 rfl) ?_
    refine mf_icmp_ne (tgt := 57) (mf_dat eX12_doMeet 28 rfl) (by decide) (fun hc => ?_) (fun hc => ?_)
    · replace hyp := hyp.1 hc
      refine mf_iload (mf_dat eX12_doMeet 34 rfl) rfl ?_
      refine mf_iload (mf_dat eX12_doMeet 35 rfl) rfl ?_
      refine mf_iconst (v := 1) (mf_dat eX12_doMeet 36 rfl) (by decide) ?_
      refine mf_iadd (mf_dat eX12_doMeet 37 rfl) ?_
      refine mf_icmp_ne (tgt := 80) (mf_dat eX12_doMeet 38 rfl) (by decide) (fun hc => ?_) (fun hc => ?_)
      · replace hyp := hyp.1 hc
        refine mf_iconst (v := 0) (mf_dat eX12_doMeet 46 rfl) (by decide) ?_
        exact mf_ireturn (mf_dat eX12_doMeet 47 rfl) rfl (Or.inr ⟨rfl, by decide⟩) ⟨rfl, hyp⟩
      · replace hyp := hyp.2 hc
        refine mf_aload_n (mf_dat eX12_doMeet 39 rfl) rfl rfl ?_
        refine mf_iload (mf_dat eX12_doMeet 40 rfl) rfl ?_
        refine mf_iload_n (mf_dat eX12_doMeet 41 rfl) rfl rfl ?_
        refine mf_callV (Yc := YX12_liesOnNext) (r := (RX12, TX12, 106)) (ci := 12) (mf_dat eX12_doMeet 42 rfl) ml_X12_419 okX12_liesOnNext im_X12_liesOnNext sl_X12_liesOnNext rfl rfl rfl rfl (Nat.le_of_ble_eq_true rfl) (mf_rr (Nat.le_trans (by decide) hd) (Nat.le_refl _)) (Nat.le_refl _) is245 (hyp g11 hG) (fun r13 g14 h15 hyp => ?_)
        obtain ⟨hgg, hyp⟩ := hyp
        subst hgg
        refine mf_if_eq (tgt := 80) (mf_dat eX12_doMeet 43 rfl) (by decide) (fun hc => ?_) (fun hc => ?_)
        · replace hyp := hyp.1 hc
          refine mf_iconst (v := 0) (mf_dat eX12_doMeet 46 rfl) (by decide) ?_
          exact mf_ireturn (mf_dat eX12_doMeet 47 rfl) rfl (Or.inr ⟨rfl, by decide⟩) ⟨rfl, hyp⟩
        · replace hyp := hyp.2 hc
          refine mf_iconst (v := 1) (mf_dat eX12_doMeet 44 rfl) (by decide) ?_
          refine mf_goto (tgt := 81) (mf_dat eX12_doMeet 45 rfl) (by decide) ?_
          exact mf_ireturn (mf_dat eX12_doMeet 47 rfl) rfl (Or.inr ⟨rfl, by decide⟩) ⟨rfl, hyp⟩
    · replace hyp := hyp.2 hc
      refine mf_aload_n (mf_dat eX12_doMeet 29 rfl) rfl rfl ?_
      refine mf_iload (mf_dat eX12_doMeet 30 rfl) rfl ?_
      refine mf_iload_n (mf_dat eX12_doMeet 31 rfl) rfl rfl ?_
      refine mf_callV (Yc := YX12_liesOnNext) (r := (RX12, TX12, 106)) (ci := 12) (mf_dat eX12_doMeet 32 rfl) ml_X12_419 okX12_liesOnNext im_X12_liesOnNext sl_X12_liesOnNext rfl rfl rfl rfl (Nat.le_of_ble_eq_true rfl) (mf_rr (Nat.le_trans (by decide) hd) (Nat.le_refl _)) (Nat.le_refl _) is245 (hyp g11 hG) (fun r16 g17 h18 hyp => ?_)
      obtain ⟨hgg, hyp⟩ := hyp
      subst hgg
      refine mf_goto (tgt := 81) (mf_dat eX12_doMeet 33 rfl) (by decide) ?_
      obtain ⟨ck19, hyp⟩ := hyp
      exact mf_ireturn (mf_dat eX12_doMeet 47 rfl) rfl (Or.inr ⟨rfl, ck19⟩) ⟨rfl, hyp⟩
  · replace hyp := hyp.2 hc
    refine mf_iconst (v := 0) (mf_dat eX12_doMeet 14 rfl) (by decide) ?_
    exact mf_ireturn (mf_dat eX12_doMeet 15 rfl) rfl (Or.inr ⟨rfl, by decide⟩) ⟨rfl, hyp⟩
abbrev BX12_codesTell_22 (C : mf_G) (l : Launch) (d : Nat) (K : Int → mf_M → Prop) (x1 x2 x3 : Int) (h : mf_M) : Prop := jM C l d YX12_codesTell K 22 [(0, (2, 245)), (1, (0, x1)), (2, (0, x2)), (3, (0, x3))] [] h
set_option maxRecDepth 100000 in
set_option maxHeartbeats 4000000 in
theorem vX12_codesTell_22 {C : mf_G} {l : Launch} {d : Nat} {K : Int → mf_M → Prop} {x1 x2 x3 : Int} {h : mf_M} (hd : 2 ≤ d) (hyp : 0 ≤ mf_w32 (4 + x1) ∧ mf_w32 (4 + x1) < 8 ∧ ((h 284 (mf_w32 (4 + x1)) ≤ x3 → K (h 317 0) h) ∧ (¬ h 284 (mf_w32 (4 + x1)) ≤ x3 → 0 ≤ mf_w32 (1600 + x3) ∧ mf_w32 (1600 + x3) < 3200 ∧ (∀ v5 : Int, v5 = h 285 (mf_w32 (1600 + x3)) → ((v5 < 1000 → ((v5 < 40 → ((¬ v5 = 13 → ((¬ v5 = 12 → mM C l 1 YX12_qJoins [(2, 245), (0, v5)] h (fun r6 h8 => (∀ v9 : Int, v9 = mf_w32 (x3 + 1) → BX12_codesTell_22 C l d K x1 x2 v9 h8))) ∧ (v5 = 12 → 0 ≤ mf_w32 ((h 245 101) - 1) ∧ mf_w32 ((h 245 101) - 1) < 1700 ∧ (∀ h12 : mf_M, h12 = mf_up h 317 (mf_w32 ((h 245 101) - 1)) (mf_w64 (1 - (h 317 (mf_w32 ((h 245 101) - 1))))) → (∀ v13 : Int, v13 = mf_w32 (x3 + 1) → BX12_codesTell_22 C l d K x1 x2 v13 h12))))) ∧ (v5 = 13 → mM C l 0 YX12_qPuts [(2, 245), (1, 1)] h (fun r14 h16 => (∀ v17 : Int, v17 = mf_w32 (x3 + 1) → BX12_codesTell_22 C l d K x1 x2 v17 h16))))) ∧ (¬ v5 < 40 → mM C l 1 YX12_qPartOf [(2, 245), (0, mf_w32 (v5 - 40)), (0, x2)] h (fun r18 h20 => mM C l 0 YX12_qPuts [(2, 245), (1, r18)] h20 (fun r21 h23 => (∀ v24 : Int, v24 = mf_w32 (x3 + 1) → BX12_codesTell_22 C l d K x1 x2 v24 h23)))))) ∧ (¬ v5 < 1000 → mM C l 0 YX12_qPuts [(2, 245), (1, mf_w32 (v5 - 1000))] h (fun r25 h27 => (∀ v28 : Int, v28 = mf_w32 (x3 + 1) → BX12_codesTell_22 C l d K x1 x2 v28 h27)))))))) : BX12_codesTell_22 C l d K x1 x2 x3 h := by
  intro g hG
  refine mf_iload_n (mf_dat eX12_codesTell_p0 14 rfl) rfl rfl ?_
  refine mf_aload_n (mf_dat eX12_codesTell_p0 15 rfl) rfl rfl ?_
  refine mf_getf (r := (RX12, TX12, 106)) (ci := 12) (k := 50) (t := 2) (v := 284) (mf_dat eX12_codesTell_p0 16 rfl) fl_X12_130 rfl (by decide) rfl (gm_50 hG) is245 ?_
  refine mf_iconst (v := 4) (mf_dat eX12_codesTell_p0 17 rfl) (by decide) ?_
  refine mf_iload_n (mf_dat eX12_codesTell_p0 18 rfl) rfl rfl ?_
  refine mf_iadd (mf_dat eX12_codesTell_p0 19 rfl) ?_
  obtain ⟨ck1, hyp⟩ := hyp
  obtain ⟨ck2, hyp⟩ := hyp
  refine mf_iald (mf_dat eX12_codesTell_p0 20 rfl) is284 len284 ck1 ck2 ?_
  refine mf_icmp_ge (tgt := 153) (mf_dat eX12_codesTell_p0 21 rfl) (by decide) (fun hc => ?_) (fun hc => ?_)
  · replace hyp := hyp.1 hc
    refine mf_aload_n (mf_dat eX12_codesTell_p1 23 rfl) rfl rfl ?_
    refine mf_getf (r := (RX12, TX12, 106)) (ci := 12) (k := 100) (t := 2) (v := 317) (mf_dat eX12_codesTell_p1 24 rfl) fl_X12_234 rfl (by decide) rfl (gm_100 hG) is245 ?_
    refine mf_iconst (v := 0) (mf_dat eX12_codesTell_p1 25 rfl) (by decide) ?_
    refine mf_lald (mf_dat eX12_codesTell_p1 26 rfl) is317 len317 (by decide) (by decide) ?_
    exact mf_lreturn (mf_dat eX12_codesTell_p1 27 rfl) rfl ⟨rfl, hyp⟩
  · replace hyp := hyp.2 hc
    refine mf_aload_n (mf_dat eX12_codesTell_p0 22 rfl) rfl rfl ?_
    refine mf_getf (r := (RX12, TX12, 106)) (ci := 12) (k := 51) (t := 2) (v := 285) (mf_dat eX12_codesTell_p0 23 rfl) fl_X12_133 rfl (by decide) rfl (gm_51 hG) is245 ?_
    refine mf_sipush (v := 1600) (mf_dat eX12_codesTell_p0 24 rfl) (by decide) ?_
    refine mf_iload_n (mf_dat eX12_codesTell_p0 25 rfl) rfl rfl ?_
    refine mf_iadd (mf_dat eX12_codesTell_p0 26 rfl) ?_
    obtain ⟨ck3, hyp⟩ := hyp
    obtain ⟨ck4, hyp⟩ := hyp
    refine mf_iald (mf_dat eX12_codesTell_p0 27 rfl) is285 len285 ck3 ck4 ?_
    generalize qv5 : h 285 (mf_w32 (1600 + x3)) = v5
    replace hyp := hyp _ qv5.symm
    refine mf_istore (mf_dat eX12_codesTell_p0 28 rfl) (by decide) ?_
    refine mf_iload (mf_dat eX12_codesTell_p0 29 rfl) rfl ?_
    refine mf_sipush (v := 1000) (mf_dat eX12_codesTell_p0 30 rfl) (by decide) ?_
    refine mf_icmp_lt (tgt := 68) (mf_dat eX12_codesTell_p0 31 rfl) (by decide) (fun hc => ?_) (fun hc => ?_)
    · replace hyp := hyp.1 hc
      refine mf_iload (mf_dat eX12_codesTell_p0 39 rfl) rfl ?_
      refine mf_bipush (v := 40) (mf_dat eX12_codesTell_p0 40 rfl) (by decide) ?_
      refine mf_icmp_lt (tgt := 92) (mf_dat eX12_codesTell_p0 41 rfl) (by decide) (fun hc => ?_) (fun hc => ?_)
      · replace hyp := hyp.1 hc
        refine mf_iload (mf_dat eX12_codesTell_p0 51 rfl) rfl ?_
        refine mf_bipush (v := 13) (mf_dat eX12_codesTell_p0 52 rfl) (by decide) ?_
        refine mf_icmp_ne (tgt := 107) (mf_dat eX12_codesTell_p0 53 rfl) (by decide) (fun hc => ?_) (fun hc => ?_)
        · replace hyp := hyp.1 hc
          refine mf_iload (mf_dat eX12_codesTell_p0 58 rfl) rfl ?_
          refine mf_bipush (v := 12) (mf_dat eX12_codesTell_p0 59 rfl) (by decide) ?_
          refine mf_icmp_ne (tgt := 141) (mf_dat eX12_codesTell_p1 0 rfl) (by decide) (fun hc => ?_) (fun hc => ?_)
          · replace hyp := hyp.1 hc
            refine mf_aload_n (mf_dat eX12_codesTell_p1 18 rfl) rfl rfl ?_
            refine mf_iload (mf_dat eX12_codesTell_p1 19 rfl) rfl ?_
            refine mf_callV (Yc := YX12_qJoins) (r := (RX12, TX12, 106)) (ci := 12) (mf_dat eX12_codesTell_p1 20 rfl) ml_X12_433 okX12_qJoins im_X12_qJoins sl_X12_qJoins rfl rfl rfl rfl (Nat.le_of_ble_eq_true rfl) (mf_rr (Nat.le_trans (by decide) hd) (Nat.le_refl _)) (Nat.le_refl _) is245 (hyp g hG) (fun r6 g7 h8 hyp => ?_)
            obtain ⟨hgg, hyp⟩ := hyp
            subst hgg
            refine mf_iinc (mf_dat eX12_codesTell_p1 21 rfl) rfl (by decide) (by decide) ?_
            generalize qv9 : mf_w32 (x3 + 1) = v9
            replace hyp := hyp _ qv9.symm
            refine mf_goto (tgt := 22) (mf_dat eX12_codesTell_p1 22 rfl) (by decide) ?_
            exact mf_sub [2, 3, 4, 0] rfl (hyp g7 hG)
          · replace hyp := hyp.2 hc
            refine mf_aload_n (mf_dat eX12_codesTell_p1 1 rfl) rfl rfl ?_
            refine mf_getf (r := (RX12, TX12, 106)) (ci := 12) (k := 100) (t := 2) (v := 317) (mf_dat eX12_codesTell_p1 2 rfl) fl_X12_234 rfl (by decide) rfl (gm_100 hG) is245 ?_
            refine mf_aload_n (mf_dat eX12_codesTell_p1 3 rfl) rfl rfl ?_
            refine mf_getf (r := (RX12, TX12, 106)) (ci := 12) (k := 101) (t := 0) (v := h 245 101) (mf_dat eX12_codesTell_p1 4 rfl) fl_X12_422 rfl (by decide) rfl rfl is245 ?_
            refine mf_iconst (v := 1) (mf_dat eX12_codesTell_p1 5 rfl) (by decide) ?_
            refine mf_isub (mf_dat eX12_codesTell_p1 6 rfl) ?_
            refine mf_lconst (v := 1) (mf_dat eX12_codesTell_p1 7 rfl) (by decide) ?_
            refine mf_aload_n (mf_dat eX12_codesTell_p1 8 rfl) rfl rfl ?_
            refine mf_getf (r := (RX12, TX12, 106)) (ci := 12) (k := 100) (t := 2) (v := 317) (mf_dat eX12_codesTell_p1 9 rfl) fl_X12_234 rfl (by decide) rfl (gm_100 hG) is245 ?_
            refine mf_aload_n (mf_dat eX12_codesTell_p1 10 rfl) rfl rfl ?_
            refine mf_getf (r := (RX12, TX12, 106)) (ci := 12) (k := 101) (t := 0) (v := h 245 101) (mf_dat eX12_codesTell_p1 11 rfl) fl_X12_422 rfl (by decide) rfl rfl is245 ?_
            refine mf_iconst (v := 1) (mf_dat eX12_codesTell_p1 12 rfl) (by decide) ?_
            refine mf_isub (mf_dat eX12_codesTell_p1 13 rfl) ?_
            obtain ⟨ck10, hyp⟩ := hyp
            obtain ⟨ck11, hyp⟩ := hyp
            refine mf_lald (mf_dat eX12_codesTell_p1 14 rfl) is317 len317 ck10 ck11 ?_
            refine mf_lsub (mf_dat eX12_codesTell_p1 15 rfl) ?_
            refine mf_last (mf_dat eX12_codesTell_p1 16 rfl) is317 len317 ck10 ck11 ?_
            generalize qh12 : mf_up h 317 (mf_w32 ((h 245 101) - 1)) (mf_w64 (1 - (h 317 (mf_w32 ((h 245 101) - 1))))) = h12
            replace hyp := hyp _ qh12.symm
            refine mf_goto (tgt := 147) (mf_dat eX12_codesTell_p1 17 rfl) (by decide) ?_
            refine mf_iinc (mf_dat eX12_codesTell_p1 21 rfl) rfl (by decide) (by decide) ?_
            generalize qv13 : mf_w32 (x3 + 1) = v13
            replace hyp := hyp _ qv13.symm
            refine mf_goto (tgt := 22) (mf_dat eX12_codesTell_p1 22 rfl) (by decide) ?_
            exact mf_sub [2, 3, 4, 0] rfl (hyp g hG)
        · replace hyp := hyp.2 hc
          refine mf_aload_n (mf_dat eX12_codesTell_p0 54 rfl) rfl rfl ?_
          refine mf_lconst (v := 1) (mf_dat eX12_codesTell_p0 55 rfl) (by decide) ?_
          refine mf_callV (Yc := YX12_qPuts) (r := (RX12, TX12, 106)) (ci := 12) (mf_dat eX12_codesTell_p0 56 rfl) ml_X12_425 okX12_qPuts im_X12_qPuts sl_X12_qPuts rfl rfl rfl rfl (Nat.le_of_ble_eq_true rfl) (mf_rr (Nat.le_trans (by decide) hd) (Nat.le_refl _)) (Nat.le_refl _) is245 (hyp g hG) (fun r14 g15 h16 hyp => ?_)
          obtain ⟨hgg, hyp⟩ := hyp
          subst hgg
          refine mf_goto (tgt := 147) (mf_dat eX12_codesTell_p0 57 rfl) (by decide) ?_
          refine mf_iinc (mf_dat eX12_codesTell_p1 21 rfl) rfl (by decide) (by decide) ?_
          generalize qv17 : mf_w32 (x3 + 1) = v17
          replace hyp := hyp _ qv17.symm
          refine mf_goto (tgt := 22) (mf_dat eX12_codesTell_p1 22 rfl) (by decide) ?_
          exact mf_sub [2, 3, 4, 0] rfl (hyp g15 hG)
      · replace hyp := hyp.2 hc
        refine mf_aload_n (mf_dat eX12_codesTell_p0 42 rfl) rfl rfl ?_
        refine mf_aload_n (mf_dat eX12_codesTell_p0 43 rfl) rfl rfl ?_
        refine mf_iload (mf_dat eX12_codesTell_p0 44 rfl) rfl ?_
        refine mf_bipush (v := 40) (mf_dat eX12_codesTell_p0 45 rfl) (by decide) ?_
        refine mf_isub (mf_dat eX12_codesTell_p0 46 rfl) ?_
        refine mf_iload_n (mf_dat eX12_codesTell_p0 47 rfl) rfl rfl ?_
        refine mf_callV (Yc := YX12_qPartOf) (r := (RX12, TX12, 106)) (ci := 12) (mf_dat eX12_codesTell_p0 48 rfl) ml_X12_429 okX12_qPartOf im_X12_qPartOf sl_X12_qPartOf rfl rfl rfl rfl (Nat.le_of_ble_eq_true rfl) (mf_rr (Nat.le_trans (by decide) hd) (Nat.le_refl _)) (Nat.le_refl _) is245 (hyp g hG) (fun r18 g19 h20 hyp => ?_)
        obtain ⟨hgg, hyp⟩ := hyp
        subst hgg
        refine mf_callV (Yc := YX12_qPuts) (r := (RX12, TX12, 106)) (ci := 12) (mf_dat eX12_codesTell_p0 49 rfl) ml_X12_425 okX12_qPuts im_X12_qPuts sl_X12_qPuts rfl rfl rfl rfl (Nat.le_of_ble_eq_true rfl) (mf_rr (Nat.le_trans (by decide) hd) (Nat.le_refl _)) (Nat.le_refl _) is245 (hyp g19 hG) (fun r21 g22 h23 hyp => ?_)
        obtain ⟨hgg, hyp⟩ := hyp
        subst hgg
        refine mf_goto (tgt := 147) (mf_dat eX12_codesTell_p0 50 rfl) (by decide) ?_
        refine mf_iinc (mf_dat eX12_codesTell_p1 21 rfl) rfl (by decide) (by decide) ?_
        generalize qv24 : mf_w32 (x3 + 1) = v24
        replace hyp := hyp _ qv24.symm
        refine mf_goto (tgt := 22) (mf_dat eX12_codesTell_p1 22 rfl) (by decide) ?_
        exact mf_sub [2, 3, 4, 0] rfl (hyp g22 hG)
    · replace hyp := hyp.2 hc
      refine mf_aload_n (mf_dat eX12_codesTell_p0 32 rfl) rfl rfl ?_
      refine mf_iload (mf_dat eX12_codesTell_p0 33 rfl) rfl ?_
      refine mf_sipush (v := 1000) (mf_dat eX12_codesTell_p0 34 rfl) (by decide) ?_
      refine mf_isub (mf_dat eX12_codesTell_p0 35 rfl) ?_
      refine mf_i2l (mf_dat eX12_codesTell_p0 36 rfl) ?_
      refine mf_callV (Yc := YX12_qPuts) (r := (RX12, TX12, 106)) (ci := 12) (mf_dat eX12_codesTell_p0 37 rfl) ml_X12_425 okX12_qPuts im_X12_qPuts sl_X12_qPuts rfl rfl rfl rfl (Nat.le_of_ble_eq_true rfl) (mf_rr (Nat.le_trans (by decide) hd) (Nat.le_refl _)) (Nat.le_refl _) is245 (hyp g hG) (fun r25 g26 h27 hyp => ?_)
      obtain ⟨hgg, hyp⟩ := hyp
      subst hgg
      refine mf_goto (tgt := 147) (mf_dat eX12_codesTell_p0 38 rfl) (by decide) ?_
      refine mf_iinc (mf_dat eX12_codesTell_p1 21 rfl) rfl (by decide) (by decide) ?_
      generalize qv28 : mf_w32 (x3 + 1) = v28
      replace hyp := hyp _ qv28.symm
      refine mf_goto (tgt := 22) (mf_dat eX12_codesTell_p1 22 rfl) (by decide) ?_
      exact mf_sub [2, 3, 4, 0] rfl (hyp g26 hG)
set_option maxRecDepth 100000 in
set_option maxHeartbeats 4000000 in
theorem wX12_codesTell {C : mf_G} {l : Launch} {d : Nat} {K : Int → mf_M → Prop} {x1 x2 : Int} {h : mf_M} (hd : 1 ≤ d) (hyp : mM C l 0 YX12_kindBy [(0, x1)] h (fun r1 h3 => (∀ h4 : mf_M, h4 = mf_up h3 245 55 r1 → (∀ h5 : mf_M, h5 = mf_up h4 245 101 0 → 0 ≤ mf_w32 (4 + x1) ∧ mf_w32 (4 + x1) < 8 ∧ (∀ v8 : Int, v8 = h5 283 (mf_w32 (4 + x1)) → BX12_codesTell_22 C l d K x1 x2 v8 h5))))) : mM C l d YX12_codesTell [(2, 245), (0, x1), (0, x2)] h K := by
  intro g hG
  refine mf_entry (by decide) (Nat.le_of_ble_eq_true rfl) ?_
  refine mf_aload_n (mf_dat eX12_codesTell_p0 0 rfl) rfl rfl ?_
  refine mf_iload_n (mf_dat eX12_codesTell_p0 1 rfl) rfl rfl ?_
  refine mf_callS (Yc := YX12_kindBy) (mf_dat eX12_codesTell_p0 2 rfl) ml_X12_335 okX12_kindBy sm_X12_kindBy rfl rfl (Nat.le_of_ble_eq_true rfl) (mf_rr (Nat.le_trans (by decide) hd) (Nat.le_refl _)) (Nat.le_refl _) (hyp g hG) (fun r1 g2 h3 hyp => ?_)
  obtain ⟨hgg, hyp⟩ := hyp
  subst hgg
  refine mf_putI (r := (RX12, TX12, 106)) (ci := 12) (k := 55) (kI := 55) (t := 0) (mf_dat eX12_codesTell_p0 3 rfl) fl_X12_301 rfl rfl (by decide) rfl (by decide) rfl (by decide) (fun h9 => absurd h9 (by decide)) is245 ?_
  generalize qh4 : mf_up h3 245 55 r1 = h4
  replace hyp := hyp _ qh4.symm
  refine mf_aload_n (mf_dat eX12_codesTell_p0 4 rfl) rfl rfl ?_
  refine mf_iconst (v := 0) (mf_dat eX12_codesTell_p0 5 rfl) (by decide) ?_
  refine mf_putI (r := (RX12, TX12, 106)) (ci := 12) (k := 101) (kI := 101) (t := 0) (mf_dat eX12_codesTell_p0 6 rfl) fl_X12_422 rfl rfl (by decide) rfl (by decide) rfl (by decide) (fun h9 => absurd h9 (by decide)) is245 ?_
  generalize qh5 : mf_up h4 245 101 0 = h5
  replace hyp := hyp _ qh5.symm
  refine mf_aload_n (mf_dat eX12_codesTell_p0 7 rfl) rfl rfl ?_
  refine mf_getf (r := (RX12, TX12, 106)) (ci := 12) (k := 49) (t := 2) (v := 283) (mf_dat eX12_codesTell_p0 8 rfl) fl_X12_127 rfl (by decide) rfl (gm_49 hG) is245 ?_
  refine mf_iconst (v := 4) (mf_dat eX12_codesTell_p0 9 rfl) (by decide) ?_
  refine mf_iload_n (mf_dat eX12_codesTell_p0 10 rfl) rfl rfl ?_
  refine mf_iadd (mf_dat eX12_codesTell_p0 11 rfl) ?_
  obtain ⟨ck6, hyp⟩ := hyp
  obtain ⟨ck7, hyp⟩ := hyp
  refine mf_iald (mf_dat eX12_codesTell_p0 12 rfl) is283 len283 ck6 ck7 ?_
  generalize qv8 : h5 283 (mf_w32 (4 + x1)) = v8
  replace hyp := hyp _ qv8.symm
  refine mf_istore_n (mf_dat eX12_codesTell_p0 13 rfl) rfl (by decide) ?_
  exact mf_sub [1, 2, 3, 0] rfl (hyp g2 hG)
set_option maxRecDepth 100000 in
set_option maxHeartbeats 4000000 in
theorem wX12_openingOn {C : mf_G} {l : Launch} {d : Nat} {K : Int → mf_M → Prop} {x1 : Int} {h : mf_M} (hd : 3 ≤ d) (hyp : ((h 245 54 = 0 → K 0 h) ∧ (¬ h 245 54 = 0 → ((¬ h 283 4 = (-1) → (∀ h1 : mf_M, h1 = mf_up h 245 58 x1 → mM C l 2 YX12_codesTell [(2, 245), (0, 0), (0, 0)] h1 (fun r2 h4 => mM C l 0 YX12_leaves [(2, 245)] h4 (fun r5 h7 => ¬ mf_w32 (r5 + 1) = 0 ∧ (∀ v9 : Int, v9 = mf_w32 (r2.tmod (mf_w32 (r5 + 1))) → ((0 ≤ v9 → K v9 h7) ∧ (¬ 0 ≤ v9 → mM C l 0 YX12_leaves [(2, 245)] h7 (fun r10 h12 => K (mf_w32 ((mf_w32 (v9 + r10)) + 1)) h12)))))))) ∧ (h 283 4 = (-1) → K 0 h))))) : mM C l d YX12_openingOn [(2, 245), (0, x1)] h K := by
  intro g hG
  refine mf_entry (by decide) (Nat.le_of_ble_eq_true rfl) ?_
  refine mf_aload_n (mf_dat eX12_openingOn 0 rfl) rfl rfl ?_
  refine mf_getf (r := (RX12, TX12, 106)) (ci := 12) (k := 54) (t := 0) (v := h 245 54) (mf_dat eX12_openingOn 1 rfl) fl_X12_389 rfl (by decide) rfl rfl is245 ?_
  refine mf_if_eq (tgt := 17) (mf_dat eX12_openingOn 2 rfl) (by decide) (fun hc => ?_) (fun hc => ?_)
  · replace hyp := hyp.1 hc
    refine mf_iconst (v := 0) (mf_dat eX12_openingOn 9 rfl) (by decide) ?_
    exact mf_ireturn (mf_dat eX12_openingOn 10 rfl) rfl (Or.inl rfl) ⟨rfl, hyp⟩
  · replace hyp := hyp.2 hc
    refine mf_aload_n (mf_dat eX12_openingOn 3 rfl) rfl rfl ?_
    refine mf_getf (r := (RX12, TX12, 106)) (ci := 12) (k := 49) (t := 2) (v := 283) (mf_dat eX12_openingOn 4 rfl) fl_X12_127 rfl (by decide) rfl (gm_49 hG) is245 ?_
    refine mf_iconst (v := 4) (mf_dat eX12_openingOn 5 rfl) (by decide) ?_
    refine mf_iald (mf_dat eX12_openingOn 6 rfl) is283 len283 (by decide) (by decide) ?_
    refine mf_iconst (v := (-1)) (mf_dat eX12_openingOn 7 rfl) (by decide) ?_
    refine mf_icmp_ne (tgt := 19) (mf_dat eX12_openingOn 8 rfl) (by decide) (fun hc => ?_) (fun hc => ?_)
    · replace hyp := hyp.1 hc
      refine mf_aload_n (mf_dat eX12_openingOn 11 rfl) rfl rfl ?_
      refine mf_iload_n (mf_dat eX12_openingOn 12 rfl) rfl rfl ?_
      refine mf_putI (r := (RX12, TX12, 106)) (ci := 12) (k := 58) (kI := 58) (t := 0) (mf_dat eX12_openingOn 13 rfl) fl_X12_436 rfl rfl (by decide) rfl (by decide) rfl (by decide) (fun h9 => absurd h9 (by decide)) is245 ?_
      generalize qh1 : mf_up h 245 58 x1 = h1
      replace hyp := hyp _ qh1.symm
      refine mf_aload_n (mf_dat eX12_openingOn 14 rfl) rfl rfl ?_
      refine mf_iconst (v := 0) (mf_dat eX12_openingOn 15 rfl) (by decide) ?_
      refine mf_iconst (v := 0) (mf_dat eX12_openingOn 16 rfl) (by decide) ?_
      refine mf_callV (Yc := YX12_codesTell) (r := (RX12, TX12, 106)) (ci := 12) (mf_dat eX12_openingOn 17 rfl) ml_X12_439 okX12_codesTell im_X12_codesTell sl_X12_codesTell rfl rfl rfl rfl (Nat.le_of_ble_eq_true rfl) (mf_rr (Nat.le_trans (by decide) hd) (Nat.le_refl _)) (Nat.le_refl _) is245 (hyp g hG) (fun r2 g3 h4 hyp => ?_)
      obtain ⟨hgg, hyp⟩ := hyp
      subst hgg
      refine mf_aload_n (mf_dat eX12_openingOn 18 rfl) rfl rfl ?_
      refine mf_callV (Yc := YX12_leaves) (r := (RX12, TX12, 106)) (ci := 12) (mf_dat eX12_openingOn 19 rfl) ml_X12_405 okX12_leaves im_X12_leaves sl_X12_leaves rfl rfl rfl rfl (Nat.le_of_ble_eq_true rfl) (mf_rr (Nat.le_trans (by decide) hd) (Nat.le_refl _)) (Nat.le_refl _) is245 (hyp g3 hG) (fun r5 g6 h7 hyp => ?_)
      obtain ⟨hgg, hyp⟩ := hyp
      subst hgg
      refine mf_iconst (v := 1) (mf_dat eX12_openingOn 20 rfl) (by decide) ?_
      refine mf_iadd (mf_dat eX12_openingOn 21 rfl) ?_
      refine mf_i2l (mf_dat eX12_openingOn 22 rfl) ?_
      obtain ⟨ck8, hyp⟩ := hyp
      refine mf_lrem (mf_dat eX12_openingOn 23 rfl) ck8 ?_
      refine mf_l2i (mf_dat eX12_openingOn 24 rfl) ?_
      generalize qv9 : mf_w32 (r2.tmod (mf_w32 (r5 + 1))) = v9
      replace hyp := hyp _ qv9.symm
      refine mf_istore_n (mf_dat eX12_openingOn 25 rfl) rfl (by decide) ?_
      refine mf_iload_n (mf_dat eX12_openingOn 26 rfl) rfl rfl ?_
      refine mf_if_ge (tgt := 55) (mf_dat eX12_openingOn 27 rfl) (by decide) (fun hc => ?_) (fun hc => ?_)
      · replace hyp := hyp.1 hc
        refine mf_iload_n (mf_dat eX12_openingOn 35 rfl) rfl rfl ?_
        exact mf_ireturn (mf_dat eX12_openingOn 36 rfl) rfl (Or.inl rfl) ⟨rfl, hyp⟩
      · replace hyp := hyp.2 hc
        refine mf_iload_n (mf_dat eX12_openingOn 28 rfl) rfl rfl ?_
        refine mf_aload_n (mf_dat eX12_openingOn 29 rfl) rfl rfl ?_
        refine mf_callV (Yc := YX12_leaves) (r := (RX12, TX12, 106)) (ci := 12) (mf_dat eX12_openingOn 30 rfl) ml_X12_405 okX12_leaves im_X12_leaves sl_X12_leaves rfl rfl rfl rfl (Nat.le_of_ble_eq_true rfl) (mf_rr (Nat.le_trans (by decide) hd) (Nat.le_refl _)) (Nat.le_refl _) is245 (hyp g6 hG) (fun r10 g11 h12 hyp => ?_)
        obtain ⟨hgg, hyp⟩ := hyp
        subst hgg
        refine mf_iadd (mf_dat eX12_openingOn 31 rfl) ?_
        refine mf_iconst (v := 1) (mf_dat eX12_openingOn 32 rfl) (by decide) ?_
        refine mf_iadd (mf_dat eX12_openingOn 33 rfl) ?_
        refine mf_goto (tgt := 56) (mf_dat eX12_openingOn 34 rfl) (by decide) ?_
        exact mf_ireturn (mf_dat eX12_openingOn 36 rfl) rfl (Or.inl rfl) ⟨rfl, hyp⟩
    · replace hyp := hyp.2 hc
      refine mf_iconst (v := 0) (mf_dat eX12_openingOn 9 rfl) (by decide) ?_
      exact mf_ireturn (mf_dat eX12_openingOn 10 rfl) rfl (Or.inl rfl) ⟨rfl, hyp⟩
set_option maxRecDepth 100000 in
set_option maxHeartbeats 4000000 in
theorem wX12_isMet {C : mf_G} {l : Launch} {d : Nat} {K : Int → mf_M → Prop} {x1 : Int} {h : mf_M} (hyp : (∀ v1 : Int, v1 = mf_w32 ((mf_w32 (7 + (mf_w32 (4 * x1)))) + 3) → 0 ≤ v1 ∧ v1 < 160 ∧ ((9999 ≤ h 286 v1 → 0 ≤ x1 ∧ x1 < 8 ∧ (∀ h6 : mf_M, h6 = mf_up h 288 x1 (mf_w32 ((h 288 x1) + 1)) → K 0 h6)) ∧ (¬ 9999 ≤ h 286 v1 → (∀ h7 : mf_M, h7 = mf_up h 286 v1 (mf_w32 ((h 286 v1) + 1)) → 0 ≤ x1 ∧ x1 < 8 ∧ (∀ h10 : mf_M, h10 = mf_up h7 288 x1 (mf_w32 ((h7 288 x1) + 1)) → K 0 h10)))))) : mM C l d YX12_isMet [(2, 245), (0, x1)] h K := by
  intro g hG
  refine mf_entry (by decide) (Nat.le_of_ble_eq_true rfl) ?_
  refine mf_bipush (v := 7) (mf_dat eX12_isMet 0 rfl) (by decide) ?_
  refine mf_iconst (v := 4) (mf_dat eX12_isMet 1 rfl) (by decide) ?_
  refine mf_iload_n (mf_dat eX12_isMet 2 rfl) rfl rfl ?_
  refine mf_imul (mf_dat eX12_isMet 3 rfl) ?_
  refine mf_iadd (mf_dat eX12_isMet 4 rfl) ?_
  refine mf_iconst (v := 3) (mf_dat eX12_isMet 5 rfl) (by decide) ?_
  refine mf_iadd (mf_dat eX12_isMet 6 rfl) ?_
  generalize qv1 : mf_w32 ((mf_w32 (7 + (mf_w32 (4 * x1)))) + 3) = v1
  replace hyp := hyp _ qv1.symm
  refine mf_istore_n (mf_dat eX12_isMet 7 rfl) rfl (by decide) ?_
  refine mf_aload_n (mf_dat eX12_isMet 8 rfl) rfl rfl ?_
  refine mf_getf (r := (RX12, TX12, 106)) (ci := 12) (k := 56) (t := 2) (v := 286) (mf_dat eX12_isMet 9 rfl) fl_X12_136 rfl (by decide) rfl (gm_56 hG) is245 ?_
  refine mf_iload_n (mf_dat eX12_isMet 10 rfl) rfl rfl ?_
  obtain ⟨ck2, hyp⟩ := hyp
  obtain ⟨ck3, hyp⟩ := hyp
  refine mf_iald (mf_dat eX12_isMet 11 rfl) is286 len286 ck2 ck3 ?_
  refine mf_sipush (v := 9999) (mf_dat eX12_isMet 12 rfl) (by decide) ?_
  refine mf_icmp_ge (tgt := 31) (mf_dat eX12_isMet 13 rfl) (by decide) (fun hc => ?_) (fun hc => ?_)
  · replace hyp := hyp.1 hc
    refine mf_aload_n (mf_dat eX12_isMet 22 rfl) rfl rfl ?_
    refine mf_getf (r := (RX12, TX12, 106)) (ci := 12) (k := 63) (t := 2) (v := 288) (mf_dat eX12_isMet 23 rfl) fl_X12_142 rfl (by decide) rfl (gm_63 hG) is245 ?_
    refine mf_iload_n (mf_dat eX12_isMet 24 rfl) rfl rfl ?_
    refine mf_dup2 (mf_dat eX12_isMet 25 rfl) (by decide) (by decide) ?_
    obtain ⟨ck4, hyp⟩ := hyp
    obtain ⟨ck5, hyp⟩ := hyp
    refine mf_iald (mf_dat eX12_isMet 26 rfl) is288 len288 ck4 ck5 ?_
    refine mf_iconst (v := 1) (mf_dat eX12_isMet 27 rfl) (by decide) ?_
    refine mf_iadd (mf_dat eX12_isMet 28 rfl) ?_
    refine mf_iast (mf_dat eX12_isMet 29 rfl) is288 len288 ck4 ck5 ?_
    generalize qh6 : mf_up h 288 x1 (mf_w32 ((h 288 x1) + 1)) = h6
    replace hyp := hyp _ qh6.symm
    exact mf_return (mf_dat eX12_isMet 30 rfl) rfl ⟨rfl, hyp⟩
  · replace hyp := hyp.2 hc
    refine mf_aload_n (mf_dat eX12_isMet 14 rfl) rfl rfl ?_
    refine mf_getf (r := (RX12, TX12, 106)) (ci := 12) (k := 56) (t := 2) (v := 286) (mf_dat eX12_isMet 15 rfl) fl_X12_136 rfl (by decide) rfl (gm_56 hG) is245 ?_
    refine mf_iload_n (mf_dat eX12_isMet 16 rfl) rfl rfl ?_
    refine mf_dup2 (mf_dat eX12_isMet 17 rfl) (by decide) (by decide) ?_
    refine mf_iald (mf_dat eX12_isMet 18 rfl) is286 len286 ck2 ck3 ?_
    refine mf_iconst (v := 1) (mf_dat eX12_isMet 19 rfl) (by decide) ?_
    refine mf_iadd (mf_dat eX12_isMet 20 rfl) ?_
    refine mf_iast (mf_dat eX12_isMet 21 rfl) is286 len286 ck2 ck3 ?_
    generalize qh7 : mf_up h 286 v1 (mf_w32 ((h 286 v1) + 1)) = h7
    replace hyp := hyp _ qh7.symm
    refine mf_aload_n (mf_dat eX12_isMet 22 rfl) rfl rfl ?_
    refine mf_getf (r := (RX12, TX12, 106)) (ci := 12) (k := 63) (t := 2) (v := 288) (mf_dat eX12_isMet 23 rfl) fl_X12_142 rfl (by decide) rfl (gm_63 hG) is245 ?_
    refine mf_iload_n (mf_dat eX12_isMet 24 rfl) rfl rfl ?_
    refine mf_dup2 (mf_dat eX12_isMet 25 rfl) (by decide) (by decide) ?_
    obtain ⟨ck8, hyp⟩ := hyp
    obtain ⟨ck9, hyp⟩ := hyp
    refine mf_iald (mf_dat eX12_isMet 26 rfl) is288 len288 ck8 ck9 ?_
    refine mf_iconst (v := 1) (mf_dat eX12_isMet 27 rfl) (by decide) ?_
    refine mf_iadd (mf_dat eX12_isMet 28 rfl) ?_
    refine mf_iast (mf_dat eX12_isMet 29 rfl) is288 len288 ck8 ck9 ?_
    generalize qh10 : mf_up h7 288 x1 (mf_w32 ((h7 288 x1) + 1)) = h10
    replace hyp := hyp _ qh10.symm
    exact mf_return (mf_dat eX12_isMet 30 rfl) rfl ⟨rfl, hyp⟩
abbrev BX12_isKept_23 (C : mf_G) (l : Launch) (d : Nat) (K : Int → mf_M → Prop) (x1 x2 x3 : Int) (h : mf_M) : Prop := jM C l d YX12_isKept K 23 [(0, (2, 245)), (1, (0, x1)), (2, (0, x2)), (3, (0, x3))] [] h
abbrev BX12_isKept_64 (C : mf_G) (l : Launch) (d : Nat) (K : Int → mf_M → Prop) (x1 x2 : Int) (h : mf_M) : Prop := jM C l d YX12_isKept K 64 [(0, (2, 245)), (1, (0, x1)), (2, (0, x2))] [] h
set_option maxRecDepth 100000 in
set_option maxHeartbeats 4000000 in
theorem vX12_isKept_23 {C : mf_G} {l : Launch} {d : Nat} {K : Int → mf_M → Prop} {x1 x2 x3 : Int} {h : mf_M} (hyp : ((157 ≤ x3 → BX12_isKept_64 C l d K x1 x2 h) ∧ (¬ 157 ≤ x3 → 0 ≤ mf_w32 (x3 + 3) ∧ mf_w32 (x3 + 3) < 160 ∧ 0 ≤ x3 ∧ x3 < 160 ∧ (∀ h5 : mf_M, h5 = mf_up h 286 x3 (h 286 (mf_w32 (x3 + 3))) → (∀ v6 : Int, v6 = mf_w32 (x3 + 1) → BX12_isKept_23 C l d K x1 x2 v6 h5))))) : BX12_isKept_23 C l d K x1 x2 x3 h := by
  intro g hG
  refine mf_iload_n (mf_dat eX12_isKept_p0 12 rfl) rfl rfl ?_
  refine mf_sipush (v := 157) (mf_dat eX12_isKept_p0 13 rfl) (by decide) ?_
  refine mf_icmp_ge (tgt := 50) (mf_dat eX12_isKept_p0 14 rfl) (by decide) (fun hc => ?_) (fun hc => ?_)
  · replace hyp := hyp.1 hc
    refine mf_goto (tgt := 64) (mf_dat eX12_isKept_p0 27 rfl) (by decide) ?_
    exact mf_sub [0, 1, 2] rfl (hyp g hG)
  · replace hyp := hyp.2 hc
    refine mf_aload_n (mf_dat eX12_isKept_p0 15 rfl) rfl rfl ?_
    refine mf_getf (r := (RX12, TX12, 106)) (ci := 12) (k := 56) (t := 2) (v := 286) (mf_dat eX12_isKept_p0 16 rfl) fl_X12_136 rfl (by decide) rfl (gm_56 hG) is245 ?_
    refine mf_iload_n (mf_dat eX12_isKept_p0 17 rfl) rfl rfl ?_
    refine mf_aload_n (mf_dat eX12_isKept_p0 18 rfl) rfl rfl ?_
    refine mf_getf (r := (RX12, TX12, 106)) (ci := 12) (k := 56) (t := 2) (v := 286) (mf_dat eX12_isKept_p0 19 rfl) fl_X12_136 rfl (by decide) rfl (gm_56 hG) is245 ?_
    refine mf_iload_n (mf_dat eX12_isKept_p0 20 rfl) rfl rfl ?_
    refine mf_iconst (v := 3) (mf_dat eX12_isKept_p0 21 rfl) (by decide) ?_
    refine mf_iadd (mf_dat eX12_isKept_p0 22 rfl) ?_
    obtain ⟨ck1, hyp⟩ := hyp
    obtain ⟨ck2, hyp⟩ := hyp
    refine mf_iald (mf_dat eX12_isKept_p0 23 rfl) is286 len286 ck1 ck2 ?_
    obtain ⟨ck3, hyp⟩ := hyp
    obtain ⟨ck4, hyp⟩ := hyp
    refine mf_iast (mf_dat eX12_isKept_p0 24 rfl) is286 len286 ck3 ck4 ?_
    generalize qh5 : mf_up h 286 x3 (h 286 (mf_w32 (x3 + 3))) = h5
    replace hyp := hyp _ qh5.symm
    refine mf_iinc (mf_dat eX12_isKept_p0 25 rfl) rfl (by decide) (by decide) ?_
    generalize qv6 : mf_w32 (x3 + 1) = v6
    replace hyp := hyp _ qv6.symm
    refine mf_goto (tgt := 23) (mf_dat eX12_isKept_p0 26 rfl) (by decide) ?_
    exact mf_sub [1, 2, 3, 0] rfl (hyp g hG)
set_option maxRecDepth 100000 in
set_option maxHeartbeats 4000000 in
theorem vX12_isKept_64 {C : mf_G} {l : Launch} {d : Nat} {K : Int → mf_M → Prop} {x1 x2 : Int} {h : mf_M} (hyp : (∀ v1 : Int, v1 = mf_w32 ((mf_w32 (40 + (mf_w32 (3 * (h 286 39))))) - 3) → 0 ≤ v1 ∧ v1 < 160 ∧ (∀ h4 : mf_M, h4 = mf_up h 286 v1 (h 286 0) → 0 ≤ mf_w32 (v1 + 1) ∧ mf_w32 (v1 + 1) < 160 ∧ (∀ h7 : mf_M, h7 = mf_up h4 286 (mf_w32 (v1 + 1)) x1 → 0 ≤ mf_w32 (v1 + 2) ∧ mf_w32 (v1 + 2) < 160 ∧ (∀ h10 : mf_M, h10 = mf_up h7 286 (mf_w32 (v1 + 2)) x2 → K 0 h10))))) : BX12_isKept_64 C l d K x1 x2 h := by
  intro g hG
  refine mf_bipush (v := 40) (mf_dat eX12_isKept_p0 36 rfl) (by decide) ?_
  refine mf_iconst (v := 3) (mf_dat eX12_isKept_p0 37 rfl) (by decide) ?_
  refine mf_aload_n (mf_dat eX12_isKept_p0 38 rfl) rfl rfl ?_
  refine mf_getf (r := (RX12, TX12, 106)) (ci := 12) (k := 56) (t := 2) (v := 286) (mf_dat eX12_isKept_p0 39 rfl) fl_X12_136 rfl (by decide) rfl (gm_56 hG) is245 ?_
  refine mf_bipush (v := 39) (mf_dat eX12_isKept_p0 40 rfl) (by decide) ?_
  refine mf_iald (mf_dat eX12_isKept_p0 41 rfl) is286 len286 (by decide) (by decide) ?_
  refine mf_imul (mf_dat eX12_isKept_p0 42 rfl) ?_
  refine mf_iadd (mf_dat eX12_isKept_p0 43 rfl) ?_
  refine mf_iconst (v := 3) (mf_dat eX12_isKept_p0 44 rfl) (by decide) ?_
  refine mf_isub (mf_dat eX12_isKept_p0 45 rfl) ?_
  generalize qv1 : mf_w32 ((mf_w32 (40 + (mf_w32 (3 * (h 286 39))))) - 3) = v1
  replace hyp := hyp _ qv1.symm
  refine mf_istore_n (mf_dat eX12_isKept_p0 46 rfl) rfl (by decide) ?_
  refine mf_aload_n (mf_dat eX12_isKept_p0 47 rfl) rfl rfl ?_
  refine mf_getf (r := (RX12, TX12, 106)) (ci := 12) (k := 56) (t := 2) (v := 286) (mf_dat eX12_isKept_p0 48 rfl) fl_X12_136 rfl (by decide) rfl (gm_56 hG) is245 ?_
  refine mf_iload_n (mf_dat eX12_isKept_p0 49 rfl) rfl rfl ?_
  refine mf_aload_n (mf_dat eX12_isKept_p0 50 rfl) rfl rfl ?_
  refine mf_getf (r := (RX12, TX12, 106)) (ci := 12) (k := 56) (t := 2) (v := 286) (mf_dat eX12_isKept_p0 51 rfl) fl_X12_136 rfl (by decide) rfl (gm_56 hG) is245 ?_
  refine mf_iconst (v := 0) (mf_dat eX12_isKept_p0 52 rfl) (by decide) ?_
  refine mf_iald (mf_dat eX12_isKept_p0 53 rfl) is286 len286 (by decide) (by decide) ?_
  obtain ⟨ck2, hyp⟩ := hyp
  obtain ⟨ck3, hyp⟩ := hyp
  refine mf_iast (mf_dat eX12_isKept_p0 54 rfl) is286 len286 ck2 ck3 ?_
  generalize qh4 : mf_up h 286 v1 (h 286 0) = h4
  replace hyp := hyp _ qh4.symm
  refine mf_aload_n (mf_dat eX12_isKept_p0 55 rfl) rfl rfl ?_
  refine mf_getf (r := (RX12, TX12, 106)) (ci := 12) (k := 56) (t := 2) (v := 286) (mf_dat eX12_isKept_p0 56 rfl) fl_X12_136 rfl (by decide) rfl (gm_56 hG) is245 ?_
  refine mf_iload_n (mf_dat eX12_isKept_p0 57 rfl) rfl rfl ?_
  refine mf_iconst (v := 1) (mf_dat eX12_isKept_p0 58 rfl) (by decide) ?_
  refine mf_iadd (mf_dat eX12_isKept_p0 59 rfl) ?_
  refine mf_iload_n (mf_dat eX12_isKept_p1 0 rfl) rfl rfl ?_
  obtain ⟨ck5, hyp⟩ := hyp
  obtain ⟨ck6, hyp⟩ := hyp
  refine mf_iast (mf_dat eX12_isKept_p1 1 rfl) is286 len286 ck5 ck6 ?_
  generalize qh7 : mf_up h4 286 (mf_w32 (v1 + 1)) x1 = h7
  replace hyp := hyp _ qh7.symm
  refine mf_aload_n (mf_dat eX12_isKept_p1 2 rfl) rfl rfl ?_
  refine mf_getf (r := (RX12, TX12, 106)) (ci := 12) (k := 56) (t := 2) (v := 286) (mf_dat eX12_isKept_p1 3 rfl) fl_X12_136 rfl (by decide) rfl (gm_56 hG) is245 ?_
  refine mf_iload_n (mf_dat eX12_isKept_p1 4 rfl) rfl rfl ?_
  refine mf_iconst (v := 2) (mf_dat eX12_isKept_p1 5 rfl) (by decide) ?_
  refine mf_iadd (mf_dat eX12_isKept_p1 6 rfl) ?_
  refine mf_iload_n (mf_dat eX12_isKept_p1 7 rfl) rfl rfl ?_
  obtain ⟨ck8, hyp⟩ := hyp
  obtain ⟨ck9, hyp⟩ := hyp
  refine mf_iast (mf_dat eX12_isKept_p1 8 rfl) is286 len286 ck8 ck9 ?_
  generalize qh10 : mf_up h7 286 (mf_w32 (v1 + 2)) x2 = h10
  replace hyp := hyp _ qh10.symm
  exact mf_return (mf_dat eX12_isKept_p1 9 rfl) rfl ⟨rfl, hyp⟩
set_option maxRecDepth 100000 in
set_option maxHeartbeats 4000000 in
theorem wX12_isKept {C : mf_G} {l : Launch} {d : Nat} {K : Int → mf_M → Prop} {x1 x2 : Int} {h : mf_M} (hyp : ((h 245 61 = 0 → ((¬ h 286 39 = 40 → (∀ h1 : mf_M, h1 = mf_up h 286 39 (mf_w32 ((h 286 39) + 1)) → BX12_isKept_64 C l d K x1 x2 h1)) ∧ (h 286 39 = 40 → BX12_isKept_23 C l d K x1 x2 40 h))) ∧ (¬ h 245 61 = 0 → K 0 h))) : mM C l d YX12_isKept [(2, 245), (0, x1), (0, x2)] h K := by
  intro g hG
  refine mf_entry (by decide) (Nat.le_of_ble_eq_true rfl) ?_
  refine mf_aload_n (mf_dat eX12_isKept_p0 0 rfl) rfl rfl ?_
  refine mf_getf (r := (RX12, TX12, 106)) (ci := 12) (k := 61) (t := 0) (v := h 245 61) (mf_dat eX12_isKept_p0 1 rfl) fl_X12_442 rfl (by decide) rfl rfl is245 ?_
  refine mf_if_eq (tgt := 8) (mf_dat eX12_isKept_p0 2 rfl) (by decide) (fun hc => ?_) (fun hc => ?_)
  · replace hyp := hyp.1 hc
    refine mf_aload_n (mf_dat eX12_isKept_p0 4 rfl) rfl rfl ?_
    refine mf_getf (r := (RX12, TX12, 106)) (ci := 12) (k := 56) (t := 2) (v := 286) (mf_dat eX12_isKept_p0 5 rfl) fl_X12_136 rfl (by decide) rfl (gm_56 hG) is245 ?_
    refine mf_bipush (v := 39) (mf_dat eX12_isKept_p0 6 rfl) (by decide) ?_
    refine mf_iald (mf_dat eX12_isKept_p0 7 rfl) is286 len286 (by decide) (by decide) ?_
    refine mf_bipush (v := 40) (mf_dat eX12_isKept_p0 8 rfl) (by decide) ?_
    refine mf_icmp_ne (tgt := 53) (mf_dat eX12_isKept_p0 9 rfl) (by decide) (fun hc => ?_) (fun hc => ?_)
    · replace hyp := hyp.1 hc
      refine mf_aload_n (mf_dat eX12_isKept_p0 28 rfl) rfl rfl ?_
      refine mf_getf (r := (RX12, TX12, 106)) (ci := 12) (k := 56) (t := 2) (v := 286) (mf_dat eX12_isKept_p0 29 rfl) fl_X12_136 rfl (by decide) rfl (gm_56 hG) is245 ?_
      refine mf_bipush (v := 39) (mf_dat eX12_isKept_p0 30 rfl) (by decide) ?_
      refine mf_dup2 (mf_dat eX12_isKept_p0 31 rfl) (by decide) (by decide) ?_
      refine mf_iald (mf_dat eX12_isKept_p0 32 rfl) is286 len286 (by decide) (by decide) ?_
      refine mf_iconst (v := 1) (mf_dat eX12_isKept_p0 33 rfl) (by decide) ?_
      refine mf_iadd (mf_dat eX12_isKept_p0 34 rfl) ?_
      refine mf_iast (mf_dat eX12_isKept_p0 35 rfl) is286 len286 (by decide) (by decide) ?_
      generalize qh1 : mf_up h 286 39 (mf_w32 ((h 286 39) + 1)) = h1
      replace hyp := hyp _ qh1.symm
      exact mf_sub [0, 1, 2] rfl (hyp g hG)
    · replace hyp := hyp.2 hc
      refine mf_bipush (v := 40) (mf_dat eX12_isKept_p0 10 rfl) (by decide) ?_
      refine mf_istore_n (mf_dat eX12_isKept_p0 11 rfl) rfl (by decide) ?_
      exact mf_sub [1, 2, 3, 0] rfl (hyp g hG)
  · replace hyp := hyp.2 hc
    exact mf_return (mf_dat eX12_isKept_p0 3 rfl) rfl ⟨rfl, hyp⟩
abbrev BX12_pays_21 (C : mf_G) (l : Launch) (d : Nat) (K : Int → mf_M → Prop) (x1 x2 s0 : Int) (h : mf_M) : Prop := jM C l d YX12_pays K 21 [(0, (2, 245)), (1, (0, x1)), (2, (0, x2))] [(1, s0)] h
set_option maxRecDepth 100000 in
set_option maxHeartbeats 4000000 in
theorem vX12_pays_21 {C : mf_G} {l : Launch} {d : Nat} {K : Int → mf_M → Prop} {x1 x2 s0 : Int} {h : mf_M} (hd : 1 ≤ d) (hyp : mM C l 0 YX12_purseOf [(2, 245), (0, x1)] h (fun r1 h3 => mM C l 0 YX12_purseIs [(2, 245), (0, x1), (1, mf_w64 (r1 - s0))] h3 (fun r4 h6 => mM C l 0 YX12_purseOf [(2, 245), (0, x2)] h6 (fun r7 h9 => mM C l 0 YX12_purseIs [(2, 245), (0, x2), (1, mf_w64 (r7 + s0))] h9 (fun r10 h12 => K 0 h12))))) : BX12_pays_21 C l d K x1 x2 s0 h := by
  intro g hG
  refine mf_lstore (mf_dat eX12_pays 13 rfl) (by decide) ?_
  refine mf_aload_n (mf_dat eX12_pays 14 rfl) rfl rfl ?_
  refine mf_iload_n (mf_dat eX12_pays 15 rfl) rfl rfl ?_
  refine mf_aload_n (mf_dat eX12_pays 16 rfl) rfl rfl ?_
  refine mf_iload_n (mf_dat eX12_pays 17 rfl) rfl rfl ?_
  refine mf_callV (Yc := YX12_purseOf) (r := (RX12, TX12, 106)) (ci := 12) (mf_dat eX12_pays 18 rfl) ml_X12_445 okX12_purseOf im_X12_purseOf sl_X12_purseOf rfl rfl rfl rfl (Nat.le_of_ble_eq_true rfl) (mf_rr (Nat.le_trans (by decide) hd) (Nat.le_refl _)) (Nat.le_refl _) is245 (hyp g hG) (fun r1 g2 h3 hyp => ?_)
  obtain ⟨hgg, hyp⟩ := hyp
  subst hgg
  refine mf_i2l (mf_dat eX12_pays 19 rfl) ?_
  refine mf_lload (mf_dat eX12_pays 20 rfl) rfl ?_
  refine mf_lsub (mf_dat eX12_pays 21 rfl) ?_
  refine mf_callV (Yc := YX12_purseIs) (r := (RX12, TX12, 106)) (ci := 12) (mf_dat eX12_pays 22 rfl) ml_X12_448 okX12_purseIs im_X12_purseIs sl_X12_purseIs rfl rfl rfl rfl (Nat.le_of_ble_eq_true rfl) (mf_rr (Nat.le_trans (by decide) hd) (Nat.le_refl _)) (Nat.le_refl _) is245 (hyp g2 hG) (fun r4 g5 h6 hyp => ?_)
  obtain ⟨hgg, hyp⟩ := hyp
  subst hgg
  refine mf_aload_n (mf_dat eX12_pays 23 rfl) rfl rfl ?_
  refine mf_iload_n (mf_dat eX12_pays 24 rfl) rfl rfl ?_
  refine mf_aload_n (mf_dat eX12_pays 25 rfl) rfl rfl ?_
  refine mf_iload_n (mf_dat eX12_pays 26 rfl) rfl rfl ?_
  refine mf_callV (Yc := YX12_purseOf) (r := (RX12, TX12, 106)) (ci := 12) (mf_dat eX12_pays 27 rfl) ml_X12_445 okX12_purseOf im_X12_purseOf sl_X12_purseOf rfl rfl rfl rfl (Nat.le_of_ble_eq_true rfl) (mf_rr (Nat.le_trans (by decide) hd) (Nat.le_refl _)) (Nat.le_refl _) is245 (hyp g5 hG) (fun r7 g8 h9 hyp => ?_)
  obtain ⟨hgg, hyp⟩ := hyp
  subst hgg
  refine mf_i2l (mf_dat eX12_pays 28 rfl) ?_
  refine mf_lload (mf_dat eX12_pays 29 rfl) rfl ?_
  refine mf_ladd (mf_dat eX12_pays 30 rfl) ?_
  refine mf_callV (Yc := YX12_purseIs) (r := (RX12, TX12, 106)) (ci := 12) (mf_dat eX12_pays 31 rfl) ml_X12_448 okX12_purseIs im_X12_purseIs sl_X12_purseIs rfl rfl rfl rfl (Nat.le_of_ble_eq_true rfl) (mf_rr (Nat.le_trans (by decide) hd) (Nat.le_refl _)) (Nat.le_refl _) is245 (hyp g8 hG) (fun r10 g11 h12 hyp => ?_)
  obtain ⟨hgg, hyp⟩ := hyp
  subst hgg
  exact mf_return (mf_dat eX12_pays 32 rfl) rfl ⟨rfl, hyp⟩
set_option maxRecDepth 100000 in
set_option maxHeartbeats 4000000 in
theorem wX12_pays {C : mf_G} {l : Launch} {d : Nat} {K : Int → mf_M → Prop} {x1 x2 x3 : Int} {h : mf_M} (hd : 1 ≤ d) (hyp : mM C l 0 YX12_purseOf [(2, 245), (0, x1)] h (fun r1 h3 => ((x3 ≤ r1 → BX12_pays_21 C l d K x1 x2 x3 h3) ∧ (¬ x3 ≤ r1 → mM C l 0 YX12_purseOf [(2, 245), (0, x1)] h3 (fun r4 h6 => BX12_pays_21 C l d K x1 x2 r4 h6))))) : mM C l d YX12_pays [(2, 245), (0, x1), (0, x2), (1, x3)] h K := by
  intro g hG
  refine mf_entry (by decide) (Nat.le_of_ble_eq_true rfl) ?_
  refine mf_lload_n (mf_dat eX12_pays 0 rfl) rfl rfl ?_
  refine mf_aload_n (mf_dat eX12_pays 1 rfl) rfl rfl ?_
  refine mf_iload_n (mf_dat eX12_pays 2 rfl) rfl rfl ?_
  refine mf_callV (Yc := YX12_purseOf) (r := (RX12, TX12, 106)) (ci := 12) (mf_dat eX12_pays 3 rfl) ml_X12_445 okX12_purseOf im_X12_purseOf sl_X12_purseOf rfl rfl rfl rfl (Nat.le_of_ble_eq_true rfl) (mf_rr (Nat.le_trans (by decide) hd) (Nat.le_refl _)) (Nat.le_refl _) is245 (hyp g hG) (fun r1 g2 h3 hyp => ?_)
  obtain ⟨hgg, hyp⟩ := hyp
  subst hgg
  refine mf_i2l (mf_dat eX12_pays 4 rfl) ?_
  refine mf_lcmp_le (tgt := 20) (mf_dat eX12_pays 5 rfl) (mf_dat eX12_pays 6 rfl) (by decide) (fun hc => ?_) (fun hc => ?_)
  · replace hyp := hyp.1 hc
    refine mf_lload_n (mf_dat eX12_pays 12 rfl) rfl rfl ?_
    exact mf_sub [0, 1, 2] rfl (hyp g2 hG)
  · replace hyp := hyp.2 hc
    refine mf_aload_n (mf_dat eX12_pays 7 rfl) rfl rfl ?_
    refine mf_iload_n (mf_dat eX12_pays 8 rfl) rfl rfl ?_
    refine mf_callV (Yc := YX12_purseOf) (r := (RX12, TX12, 106)) (ci := 12) (mf_dat eX12_pays 9 rfl) ml_X12_445 okX12_purseOf im_X12_purseOf sl_X12_purseOf rfl rfl rfl rfl (Nat.le_of_ble_eq_true rfl) (mf_rr (Nat.le_trans (by decide) hd) (Nat.le_refl _)) (Nat.le_refl _) is245 (hyp g2 hG) (fun r4 g5 h6 hyp => ?_)
    obtain ⟨hgg, hyp⟩ := hyp
    subst hgg
    refine mf_i2l (mf_dat eX12_pays 10 rfl) ?_
    refine mf_goto (tgt := 21) (mf_dat eX12_pays 11 rfl) (by decide) ?_
    exact mf_sub [0, 1, 2] rfl (hyp g5 hG)
abbrev BX12_meet_60 (C : mf_G) (l : Launch) (d : Nat) (K : Int → mf_M → Prop) (x1 x2 s0 : Int) (h : mf_M) : Prop := jM C l d YX12_meet K 60 [(0, (2, 245)), (1, (0, x1)), (2, (0, x2))] [(1, s0)] h
set_option maxRecDepth 100000 in
set_option maxHeartbeats 4000000 in
theorem vX12_meet_60 {C : mf_G} {l : Launch} {d : Nat} {K : Int → mf_M → Prop} {x1 x2 s0 : Int} {h : mf_M} (hd : 2 ≤ d) (hyp : ((0 ≤ s0 → mM C l 1 YX12_pays [(2, 245), (0, x1), (0, x2), (1, s0)] h (fun r1 h3 => K 0 h3)) ∧ (¬ 0 ≤ s0 → mM C l 1 YX12_pays [(2, 245), (0, x2), (0, x1), (1, mf_w64 (-s0))] h (fun r4 h6 => K 0 h6)))) : BX12_meet_60 C l d K x1 x2 s0 h := by
  intro g hG
  refine mf_lstore_n (mf_dat eX12_meet 36 rfl) rfl (by decide) ?_
  refine mf_lload_n (mf_dat eX12_meet 37 rfl) rfl rfl ?_
  refine mf_lconst (v := 0) (mf_dat eX12_meet 38 rfl) (by decide) ?_
  refine mf_lcmp_ge (tgt := 78) (mf_dat eX12_meet 39 rfl) (mf_dat eX12_meet 40 rfl) (by decide) (fun hc => ?_) (fun hc => ?_)
  · replace hyp := hyp.1 hc
    refine mf_aload_n (mf_dat eX12_meet 48 rfl) rfl rfl ?_
    refine mf_iload_n (mf_dat eX12_meet 49 rfl) rfl rfl ?_
    refine mf_iload_n (mf_dat eX12_meet 50 rfl) rfl rfl ?_
    refine mf_lload_n (mf_dat eX12_meet 51 rfl) rfl rfl ?_
    refine mf_callV (Yc := YX12_pays) (r := (RX12, TX12, 106)) (ci := 12) (mf_dat eX12_meet 52 rfl) ml_X12_464 okX12_pays im_X12_pays sl_X12_pays rfl rfl rfl rfl (Nat.le_of_ble_eq_true rfl) (mf_rr (Nat.le_trans (by decide) hd) (Nat.le_refl _)) (Nat.le_refl _) is245 (hyp g hG) (fun r1 g2 h3 hyp => ?_)
    obtain ⟨hgg, hyp⟩ := hyp
    subst hgg
    exact mf_return (mf_dat eX12_meet 53 rfl) rfl ⟨rfl, hyp⟩
  · replace hyp := hyp.2 hc
    refine mf_aload_n (mf_dat eX12_meet 41 rfl) rfl rfl ?_
    refine mf_iload_n (mf_dat eX12_meet 42 rfl) rfl rfl ?_
    refine mf_iload_n (mf_dat eX12_meet 43 rfl) rfl rfl ?_
    refine mf_lload_n (mf_dat eX12_meet 44 rfl) rfl rfl ?_
    refine mf_lneg (mf_dat eX12_meet 45 rfl) ?_
    refine mf_callV (Yc := YX12_pays) (r := (RX12, TX12, 106)) (ci := 12) (mf_dat eX12_meet 46 rfl) ml_X12_464 okX12_pays im_X12_pays sl_X12_pays rfl rfl rfl rfl (Nat.le_of_ble_eq_true rfl) (mf_rr (Nat.le_trans (by decide) hd) (Nat.le_refl _)) (Nat.le_refl _) is245 (hyp g hG) (fun r4 g5 h6 hyp => ?_)
    obtain ⟨hgg, hyp⟩ := hyp
    subst hgg
    refine mf_goto (tgt := 85) (mf_dat eX12_meet 47 rfl) (by decide) ?_
    exact mf_return (mf_dat eX12_meet 53 rfl) rfl ⟨rfl, hyp⟩
set_option maxRecDepth 100000 in
set_option maxHeartbeats 4000000 in
theorem wX12_meet {C : mf_G} {l : Launch} {d : Nat} {K : Int → mf_M → Prop} {x1 x2 : Int} {h : mf_M} (hd : 3 ≤ d) (hyp : (∀ h1 : mf_M, h1 = mf_up h 245 62 (mf_w32 ((h 245 62) + 1)) → mM C l 0 YX12_isMet [(2, 245), (0, x1)] h1 (fun r2 h4 => mM C l 0 YX12_isMet [(2, 245), (0, x2)] h4 (fun r5 h7 => mM C l 0 YX12_isKept [(2, 245), (0, x1), (0, x2)] h7 (fun r8 h10 => 0 ≤ mf_w32 (8 + x2) ∧ mf_w32 (8 + x2) < 16 ∧ (∀ h13 : mf_M, h13 = mf_up h10 245 60 (h10 282 (mf_w32 (8 + x2))) → ((¬ h13 283 6 = (-1) → mM C l 2 YX12_codesTell [(2, 245), (0, 2), (0, x1)] h13 (fun r14 h16 => BX12_meet_60 C l d K x1 x2 r14 h16)) ∧ (h13 283 6 = (-1) → BX12_meet_60 C l d K x1 x2 1 h13)))))))) : mM C l d YX12_meet [(2, 245), (0, x1), (0, x2)] h K := by
  intro g hG
  refine mf_entry (by decide) (Nat.le_of_ble_eq_true rfl) ?_
  refine mf_aload_n (mf_dat eX12_meet 0 rfl) rfl rfl ?_
  refine mf_dup (mf_dat eX12_meet 1 rfl) (by decide) ?_
  refine mf_getf (r := (RX12, TX12, 106)) (ci := 12) (k := 62) (t := 0) (v := h 245 62) (mf_dat eX12_meet 2 rfl) fl_X12_452 rfl (by decide) rfl rfl is245 ?_
  refine mf_iconst (v := 1) (mf_dat eX12_meet 3 rfl) (by decide) ?_
  refine mf_iadd (mf_dat eX12_meet 4 rfl) ?_
  refine mf_putI (r := (RX12, TX12, 106)) (ci := 12) (k := 62) (kI := 62) (t := 0) (mf_dat eX12_meet 5 rfl) fl_X12_452 rfl rfl (by decide) rfl (by decide) rfl (by decide) (fun h9 => absurd h9 (by decide)) is245 ?_
  generalize qh1 : mf_up h 245 62 (mf_w32 ((h 245 62) + 1)) = h1
  replace hyp := hyp _ qh1.symm
  refine mf_aload_n (mf_dat eX12_meet 6 rfl) rfl rfl ?_
  refine mf_iload_n (mf_dat eX12_meet 7 rfl) rfl rfl ?_
  refine mf_callV (Yc := YX12_isMet) (r := (RX12, TX12, 106)) (ci := 12) (mf_dat eX12_meet 8 rfl) ml_X12_455 okX12_isMet im_X12_isMet sl_X12_isMet rfl rfl rfl rfl (Nat.le_of_ble_eq_true rfl) (mf_rr (Nat.le_trans (by decide) hd) (Nat.le_refl _)) (Nat.le_refl _) is245 (hyp g hG) (fun r2 g3 h4 hyp => ?_)
  obtain ⟨hgg, hyp⟩ := hyp
  subst hgg
  refine mf_aload_n (mf_dat eX12_meet 9 rfl) rfl rfl ?_
  refine mf_iload_n (mf_dat eX12_meet 10 rfl) rfl rfl ?_
  refine mf_callV (Yc := YX12_isMet) (r := (RX12, TX12, 106)) (ci := 12) (mf_dat eX12_meet 11 rfl) ml_X12_455 okX12_isMet im_X12_isMet sl_X12_isMet rfl rfl rfl rfl (Nat.le_of_ble_eq_true rfl) (mf_rr (Nat.le_trans (by decide) hd) (Nat.le_refl _)) (Nat.le_refl _) is245 (hyp g3 hG) (fun r5 g6 h7 hyp => ?_)
  obtain ⟨hgg, hyp⟩ := hyp
  subst hgg
  refine mf_aload_n (mf_dat eX12_meet 12 rfl) rfl rfl ?_
  refine mf_iload_n (mf_dat eX12_meet 13 rfl) rfl rfl ?_
  refine mf_iload_n (mf_dat eX12_meet 14 rfl) rfl rfl ?_
  refine mf_callV (Yc := YX12_isKept) (r := (RX12, TX12, 106)) (ci := 12) (mf_dat eX12_meet 15 rfl) ml_X12_458 okX12_isKept im_X12_isKept sl_X12_isKept rfl rfl rfl rfl (Nat.le_of_ble_eq_true rfl) (mf_rr (Nat.le_trans (by decide) hd) (Nat.le_refl _)) (Nat.le_refl _) is245 (hyp g6 hG) (fun r8 g9 h10 hyp => ?_)
  obtain ⟨hgg, hyp⟩ := hyp
  subst hgg
  refine mf_aload_n (mf_dat eX12_meet 16 rfl) rfl rfl ?_
  refine mf_aload_n (mf_dat eX12_meet 17 rfl) rfl rfl ?_
  refine mf_getf (r := (RX12, TX12, 106)) (ci := 12) (k := 46) (t := 2) (v := 282) (mf_dat eX12_meet 18 rfl) fl_X12_124 rfl (by decide) rfl (gm_46 hG) is245 ?_
  refine mf_bipush (v := 8) (mf_dat eX12_meet 19 rfl) (by decide) ?_
  refine mf_iload_n (mf_dat eX12_meet 20 rfl) rfl rfl ?_
  refine mf_iadd (mf_dat eX12_meet 21 rfl) ?_
  obtain ⟨ck11, hyp⟩ := hyp
  obtain ⟨ck12, hyp⟩ := hyp
  refine mf_iald (mf_dat eX12_meet 22 rfl) is282 len282 ck11 ck12 ?_
  refine mf_putI (r := (RX12, TX12, 106)) (ci := 12) (k := 60) (kI := 60) (t := 0) (mf_dat eX12_meet 23 rfl) fl_X12_461 rfl rfl (by decide) rfl (by decide) rfl (by decide) (fun h9 => absurd h9 (by decide)) is245 ?_
  generalize qh13 : mf_up h10 245 60 (h10 282 (mf_w32 (8 + x2))) = h13
  replace hyp := hyp _ qh13.symm
  refine mf_aload_n (mf_dat eX12_meet 24 rfl) rfl rfl ?_
  refine mf_getf (r := (RX12, TX12, 106)) (ci := 12) (k := 49) (t := 2) (v := 283) (mf_dat eX12_meet 25 rfl) fl_X12_127 rfl (by decide) rfl (gm_49 hG) is245 ?_
  refine mf_bipush (v := 6) (mf_dat eX12_meet 26 rfl) (by decide) ?_
  refine mf_iald (mf_dat eX12_meet 27 rfl) is283 len283 (by decide) (by decide) ?_
  refine mf_iconst (v := (-1)) (mf_dat eX12_meet 28 rfl) (by decide) ?_
  refine mf_icmp_ne (tgt := 54) (mf_dat eX12_meet 29 rfl) (by decide) (fun hc => ?_) (fun hc => ?_)
  · replace hyp := hyp.1 hc
    refine mf_aload_n (mf_dat eX12_meet 32 rfl) rfl rfl ?_
    refine mf_iconst (v := 2) (mf_dat eX12_meet 33 rfl) (by decide) ?_
    refine mf_iload_n (mf_dat eX12_meet 34 rfl) rfl rfl ?_
    refine mf_callV (Yc := YX12_codesTell) (r := (RX12, TX12, 106)) (ci := 12) (mf_dat eX12_meet 35 rfl) ml_X12_439 okX12_codesTell im_X12_codesTell sl_X12_codesTell rfl rfl rfl rfl (Nat.le_of_ble_eq_true rfl) (mf_rr (Nat.le_trans (by decide) hd) (Nat.le_refl _)) (Nat.le_refl _) is245 (hyp g9 hG) (fun r14 g15 h16 hyp => ?_)
    obtain ⟨hgg, hyp⟩ := hyp
    subst hgg
    exact mf_sub [0, 1, 2] rfl (hyp g15 hG)
  · replace hyp := hyp.2 hc
    refine mf_lconst (v := 1) (mf_dat eX12_meet 30 rfl) (by decide) ?_
    refine mf_goto (tgt := 60) (mf_dat eX12_meet 31 rfl) (by decide) ?_
    exact mf_sub [0, 1, 2] rfl (hyp g9 hG)
abbrev BX12_dayBy_17 (C : mf_G) (l : Launch) (d : Nat) (K : Int → mf_M → Prop) (x1 x2 : Int) (h : mf_M) : Prop := jM C l d YX12_dayBy K 17 [(0, (2, 245)), (1, (0, x1)), (2, (0, x2))] [] h
abbrev BX12_dayBy_29 (C : mf_G) (l : Launch) (d : Nat) (K : Int → mf_M → Prop) (x1 x2 x3 : Int) (h : mf_M) : Prop := jM C l d YX12_dayBy K 29 [(0, (2, 245)), (1, (0, x1)), (2, (0, x2)), (3, (0, x3))] [] h
abbrev BX12_dayBy_67 (C : mf_G) (l : Launch) (d : Nat) (K : Int → mf_M → Prop) (x2 : Int) (h : mf_M) : Prop := jM C l d YX12_dayBy K 67 [(0, (2, 245)), (2, (0, x2))] [] h
abbrev BX12_dayBy_100 (C : mf_G) (l : Launch) (d : Nat) (K : Int → mf_M → Prop) (x2 s0 : Int) (h : mf_M) : Prop := jM C l d YX12_dayBy K 100 [(0, (2, 245)), (2, (0, x2))] [(1, s0)] h
abbrev BX12_dayBy_150 (C : mf_G) (l : Launch) (d : Nat) (K : Int → mf_M → Prop) (x2 : Int) (h : mf_M) : Prop := jM C l d YX12_dayBy K 150 [(0, (2, 245)), (2, (0, x2))] [] h
set_option maxRecDepth 100000 in
set_option maxHeartbeats 4000000 in
theorem vX12_dayBy_17 {C : mf_G} {l : Launch} {d : Nat} {K : Int → mf_M → Prop} {x1 x2 : Int} {h : mf_M} (hd : 1 ≤ d) (hyp : mM C l 0 YX12_beingMany [(2, 245)] h (fun r1 h3 => ((r1 ≤ x2 → BX12_dayBy_67 C l d K 0 h3) ∧ (¬ r1 ≤ x2 → (∀ v4 : Int, v4 = mf_w32 (x2 + 1) → BX12_dayBy_29 C l d K x1 x2 v4 h3))))) : BX12_dayBy_17 C l d K x1 x2 h := by
  intro g hG
  refine mf_iload_n (mf_dat eX12_dayBy_p0 11 rfl) rfl rfl ?_
  refine mf_aload_n (mf_dat eX12_dayBy_p0 12 rfl) rfl rfl ?_
  refine mf_callV (Yc := YX12_beingMany) (r := (RX12, TX12, 106)) (ci := 12) (mf_dat eX12_dayBy_p0 13 rfl) ml_X12_402 okX12_beingMany im_X12_beingMany sl_X12_beingMany rfl rfl rfl rfl (Nat.le_of_ble_eq_true rfl) (mf_rr (Nat.le_trans (by decide) hd) (Nat.le_refl _)) (Nat.le_refl _) is245 (hyp g hG) (fun r1 g2 h3 hyp => ?_)
  obtain ⟨hgg, hyp⟩ := hyp
  subst hgg
  refine mf_icmp_ge (tgt := 65) (mf_dat eX12_dayBy_p0 14 rfl) (by decide) (fun hc => ?_) (fun hc => ?_)
  · replace hyp := hyp.1 hc
    refine mf_iconst (v := 0) (mf_dat eX12_dayBy_p0 37 rfl) (by decide) ?_
    refine mf_istore_n (mf_dat eX12_dayBy_p0 38 rfl) rfl (by decide) ?_
    exact mf_sub [1, 0] rfl (hyp g2 hG)
  · replace hyp := hyp.2 hc
    refine mf_iload_n (mf_dat eX12_dayBy_p0 15 rfl) rfl rfl ?_
    refine mf_iconst (v := 1) (mf_dat eX12_dayBy_p0 16 rfl) (by decide) ?_
    refine mf_iadd (mf_dat eX12_dayBy_p0 17 rfl) ?_
    generalize qv4 : mf_w32 (x2 + 1) = v4
    replace hyp := hyp _ qv4.symm
    refine mf_istore_n (mf_dat eX12_dayBy_p0 18 rfl) rfl (by decide) ?_
    exact mf_sub [1, 2, 3, 0] rfl (hyp g2 hG)
set_option maxRecDepth 100000 in
set_option maxHeartbeats 4000000 in
theorem vX12_dayBy_29 {C : mf_G} {l : Launch} {d : Nat} {K : Int → mf_M → Prop} {x1 x2 x3 : Int} {h : mf_M} (hd : 4 ≤ d) (hyp : mM C l 0 YX12_beingMany [(2, 245)] h (fun r1 h3 => ((r1 ≤ x3 → (∀ v4 : Int, v4 = mf_w32 (x2 + 1) → BX12_dayBy_17 C l d K x1 v4 h3)) ∧ (¬ r1 ≤ x3 → mM C l 2 YX12_doMeet [(2, 245), (0, x2), (0, x3), (0, x1)] h3 (fun r5 h7 => ((r5 = 0 → (∀ v8 : Int, v8 = mf_w32 (x3 + 1) → BX12_dayBy_29 C l d K x1 x2 v8 h7)) ∧ (¬ r5 = 0 → mM C l 3 YX12_meet [(2, 245), (0, x2), (0, x3)] h7 (fun r9 h11 => (∀ v12 : Int, v12 = mf_w32 (x3 + 1) → BX12_dayBy_29 C l d K x1 x2 v12 h11))))))))) : BX12_dayBy_29 C l d K x1 x2 x3 h := by
  intro g hG
  refine mf_iload_n (mf_dat eX12_dayBy_p0 19 rfl) rfl rfl ?_
  refine mf_aload_n (mf_dat eX12_dayBy_p0 20 rfl) rfl rfl ?_
  refine mf_callV (Yc := YX12_beingMany) (r := (RX12, TX12, 106)) (ci := 12) (mf_dat eX12_dayBy_p0 21 rfl) ml_X12_402 okX12_beingMany im_X12_beingMany sl_X12_beingMany rfl rfl rfl rfl (Nat.le_of_ble_eq_true rfl) (mf_rr (Nat.le_trans (by decide) hd) (Nat.le_refl _)) (Nat.le_refl _) is245 (hyp g hG) (fun r1 g2 h3 hyp => ?_)
  obtain ⟨hgg, hyp⟩ := hyp
  subst hgg
  refine mf_icmp_ge (tgt := 59) (mf_dat eX12_dayBy_p0 22 rfl) (by decide) (fun hc => ?_) (fun hc => ?_)
  · replace hyp := hyp.1 hc
    refine mf_iinc (mf_dat eX12_dayBy_p0 35 rfl) rfl (by decide) (by decide) ?_
    generalize qv4 : mf_w32 (x2 + 1) = v4
    replace hyp := hyp _ qv4.symm
    refine mf_goto (tgt := 17) (mf_dat eX12_dayBy_p0 36 rfl) (by decide) ?_
    exact mf_sub [1, 2, 0] rfl (hyp g2 hG)
  · replace hyp := hyp.2 hc
    refine mf_aload_n (mf_dat eX12_dayBy_p0 23 rfl) rfl rfl ?_
    refine mf_iload_n (mf_dat eX12_dayBy_p0 24 rfl) rfl rfl ?_
    refine mf_iload_n (mf_dat eX12_dayBy_p0 25 rfl) rfl rfl ?_
    refine mf_iload_n (mf_dat eX12_dayBy_p0 26 rfl) rfl rfl ?_
    refine mf_callV (Yc := YX12_doMeet) (r := (RX12, TX12, 106)) (ci := 12) (mf_dat eX12_dayBy_p0 27 rfl) ml_X12_471 okX12_doMeet im_X12_doMeet sl_X12_doMeet rfl rfl rfl rfl (Nat.le_of_ble_eq_true rfl) (mf_rr (Nat.le_trans (by decide) hd) (Nat.le_refl _)) (Nat.le_refl _) is245 (hyp g2 hG) (fun r5 g6 h7 hyp => ?_)
    obtain ⟨hgg, hyp⟩ := hyp
    subst hgg
    refine mf_if_eq (tgt := 53) (mf_dat eX12_dayBy_p0 28 rfl) (by decide) (fun hc => ?_) (fun hc => ?_)
    · replace hyp := hyp.1 hc
      refine mf_iinc (mf_dat eX12_dayBy_p0 33 rfl) rfl (by decide) (by decide) ?_
      generalize qv8 : mf_w32 (x3 + 1) = v8
      replace hyp := hyp _ qv8.symm
      refine mf_goto (tgt := 29) (mf_dat eX12_dayBy_p0 34 rfl) (by decide) ?_
      exact mf_sub [1, 2, 3, 0] rfl (hyp g6 hG)
    · replace hyp := hyp.2 hc
      refine mf_aload_n (mf_dat eX12_dayBy_p0 29 rfl) rfl rfl ?_
      refine mf_iload_n (mf_dat eX12_dayBy_p0 30 rfl) rfl rfl ?_
      refine mf_iload_n (mf_dat eX12_dayBy_p0 31 rfl) rfl rfl ?_
      refine mf_callV (Yc := YX12_meet) (r := (RX12, TX12, 106)) (ci := 12) (mf_dat eX12_dayBy_p0 32 rfl) ml_X12_474 okX12_meet im_X12_meet sl_X12_meet rfl rfl rfl rfl (Nat.le_of_ble_eq_true rfl) (mf_rr (Nat.le_trans (by decide) hd) (Nat.le_refl _)) (Nat.le_refl _) is245 (hyp g6 hG) (fun r9 g10 h11 hyp => ?_)
      obtain ⟨hgg, hyp⟩ := hyp
      subst hgg
      refine mf_iinc (mf_dat eX12_dayBy_p0 33 rfl) rfl (by decide) (by decide) ?_
      generalize qv12 : mf_w32 (x3 + 1) = v12
      replace hyp := hyp _ qv12.symm
      refine mf_goto (tgt := 29) (mf_dat eX12_dayBy_p0 34 rfl) (by decide) ?_
      exact mf_sub [1, 2, 3, 0] rfl (hyp g10 hG)
set_option maxRecDepth 100000 in
set_option maxHeartbeats 4000000 in
theorem vX12_dayBy_67 {C : mf_G} {l : Launch} {d : Nat} {K : Int → mf_M → Prop} {x2 : Int} {h : mf_M} (hd : 3 ≤ d) (hyp : mM C l 0 YX12_beingMany [(2, 245)] h (fun r1 h3 => ((r1 ≤ x2 → BX12_dayBy_150 C l d K 0 h3) ∧ (¬ r1 ≤ x2 → ((¬ h3 283 5 = (-1) → mM C l 2 YX12_codesTell [(2, 245), (0, 1), (0, x2)] h3 (fun r4 h6 => BX12_dayBy_100 C l d K x2 r4 h6)) ∧ (h3 283 5 = (-1) → mM C l 0 YX12_cellOf [(2, 245), (0, x2)] h3 (fun r7 h9 => BX12_dayBy_100 C l d K x2 r7 h9))))))) : BX12_dayBy_67 C l d K x2 h := by
  intro g hG
  refine mf_iload_n (mf_dat eX12_dayBy_p0 39 rfl) rfl rfl ?_
  refine mf_aload_n (mf_dat eX12_dayBy_p0 40 rfl) rfl rfl ?_
  refine mf_callV (Yc := YX12_beingMany) (r := (RX12, TX12, 106)) (ci := 12) (mf_dat eX12_dayBy_p0 41 rfl) ml_X12_402 okX12_beingMany im_X12_beingMany sl_X12_beingMany rfl rfl rfl rfl (Nat.le_of_ble_eq_true rfl) (mf_rr (Nat.le_trans (by decide) hd) (Nat.le_refl _)) (Nat.le_refl _) is245 (hyp g hG) (fun r1 g2 h3 hyp => ?_)
  obtain ⟨hgg, hyp⟩ := hyp
  subst hgg
  refine mf_icmp_ge (tgt := 148) (mf_dat eX12_dayBy_p0 42 rfl) (by decide) (fun hc => ?_) (fun hc => ?_)
  · replace hyp := hyp.1 hc
    refine mf_iconst (v := 0) (mf_dat eX12_dayBy_p1 22 rfl) (by decide) ?_
    refine mf_istore_n (mf_dat eX12_dayBy_p1 23 rfl) rfl (by decide) ?_
    exact mf_sub [1, 0] rfl (hyp g2 hG)
  · replace hyp := hyp.2 hc
    refine mf_aload_n (mf_dat eX12_dayBy_p0 43 rfl) rfl rfl ?_
    refine mf_getf (r := (RX12, TX12, 106)) (ci := 12) (k := 49) (t := 2) (v := 283) (mf_dat eX12_dayBy_p0 44 rfl) fl_X12_127 rfl (by decide) rfl (gm_49 hG) is245 ?_
    refine mf_iconst (v := 5) (mf_dat eX12_dayBy_p0 45 rfl) (by decide) ?_
    refine mf_iald (mf_dat eX12_dayBy_p0 46 rfl) is283 len283 (by decide) (by decide) ?_
    refine mf_iconst (v := (-1)) (mf_dat eX12_dayBy_p0 47 rfl) (by decide) ?_
    refine mf_icmp_ne (tgt := 94) (mf_dat eX12_dayBy_p0 48 rfl) (by decide) (fun hc => ?_) (fun hc => ?_)
    · replace hyp := hyp.1 hc
      refine mf_aload_n (mf_dat eX12_dayBy_p0 54 rfl) rfl rfl ?_
      refine mf_iconst (v := 1) (mf_dat eX12_dayBy_p0 55 rfl) (by decide) ?_
      refine mf_iload_n (mf_dat eX12_dayBy_p0 56 rfl) rfl rfl ?_
      refine mf_callV (Yc := YX12_codesTell) (r := (RX12, TX12, 106)) (ci := 12) (mf_dat eX12_dayBy_p0 57 rfl) ml_X12_439 okX12_codesTell im_X12_codesTell sl_X12_codesTell rfl rfl rfl rfl (Nat.le_of_ble_eq_true rfl) (mf_rr (Nat.le_trans (by decide) hd) (Nat.le_refl _)) (Nat.le_refl _) is245 (hyp g2 hG) (fun r4 g5 h6 hyp => ?_)
      obtain ⟨hgg, hyp⟩ := hyp
      subst hgg
      exact mf_sub [0, 1] rfl (hyp g5 hG)
    · replace hyp := hyp.2 hc
      refine mf_aload_n (mf_dat eX12_dayBy_p0 49 rfl) rfl rfl ?_
      refine mf_iload_n (mf_dat eX12_dayBy_p0 50 rfl) rfl rfl ?_
      refine mf_callV (Yc := YX12_cellOf) (r := (RX12, TX12, 106)) (ci := 12) (mf_dat eX12_dayBy_p0 51 rfl) ml_X12_413 okX12_cellOf im_X12_cellOf sl_X12_cellOf rfl rfl rfl rfl (Nat.le_of_ble_eq_true rfl) (mf_rr (Nat.le_trans (by decide) hd) (Nat.le_refl _)) (Nat.le_refl _) is245 (hyp g2 hG) (fun r7 g8 h9 hyp => ?_)
      obtain ⟨hgg, hyp⟩ := hyp
      subst hgg
      refine mf_i2l (mf_dat eX12_dayBy_p0 52 rfl) ?_
      refine mf_goto (tgt := 100) (mf_dat eX12_dayBy_p0 53 rfl) (by decide) ?_
      exact mf_sub [0, 1] rfl (hyp g8 hG)
set_option maxRecDepth 100000 in
set_option maxHeartbeats 4000000 in
theorem vX12_dayBy_100 {C : mf_G} {l : Launch} {d : Nat} {K : Int → mf_M → Prop} {x2 s0 : Int} {h : mf_M} (hd : 1 ≤ d) (hyp : mM C l 0 YX12_purseOf [(2, 245), (0, x2)] h (fun r1 h3 => (((-99) ≤ s0 → ((s0 ≤ 99 → mM C l 0 YX12_purseIs [(2, 245), (0, x2), (1, mf_w64 (r1 + s0))] h3 (fun r4 h6 => (∀ v7 : Int, v7 = mf_w32 (x2 + 1) → BX12_dayBy_67 C l d K v7 h6))) ∧ (¬ s0 ≤ 99 → mM C l 0 YX12_purseIs [(2, 245), (0, x2), (1, mf_w64 (r1 + 99))] h3 (fun r8 h10 => (∀ v11 : Int, v11 = mf_w32 (x2 + 1) → BX12_dayBy_67 C l d K v11 h10))))) ∧ (¬ (-99) ≤ s0 → mM C l 0 YX12_purseIs [(2, 245), (0, x2), (1, mf_w64 (r1 + (-99)))] h3 (fun r12 h14 => (∀ v15 : Int, v15 = mf_w32 (x2 + 1) → BX12_dayBy_67 C l d K v15 h14)))))) : BX12_dayBy_100 C l d K x2 s0 h := by
  intro g hG
  refine mf_lstore_n (mf_dat eX12_dayBy_p0 58 rfl) rfl (by decide) ?_
  refine mf_aload_n (mf_dat eX12_dayBy_p0 59 rfl) rfl rfl ?_
  refine mf_iload_n (mf_dat eX12_dayBy_p1 0 rfl) rfl rfl ?_
  refine mf_aload_n (mf_dat eX12_dayBy_p1 1 rfl) rfl rfl ?_
  refine mf_iload_n (mf_dat eX12_dayBy_p1 2 rfl) rfl rfl ?_
  refine mf_callV (Yc := YX12_purseOf) (r := (RX12, TX12, 106)) (ci := 12) (mf_dat eX12_dayBy_p1 3 rfl) ml_X12_445 okX12_purseOf im_X12_purseOf sl_X12_purseOf rfl rfl rfl rfl (Nat.le_of_ble_eq_true rfl) (mf_rr (Nat.le_trans (by decide) hd) (Nat.le_refl _)) (Nat.le_refl _) is245 (hyp g hG) (fun r1 g2 h3 hyp => ?_)
  obtain ⟨hgg, hyp⟩ := hyp
  subst hgg
  refine mf_i2l (mf_dat eX12_dayBy_p1 4 rfl) ?_
  refine mf_lload_n (mf_dat eX12_dayBy_p1 5 rfl) rfl rfl ?_
  refine mf_ldc2 (v := (-99)) cl_X12_477 (mf_dat eX12_dayBy_p1 6 rfl) (by decide) ?_
  refine mf_lcmp_ge (tgt := 123) (mf_dat eX12_dayBy_p1 7 rfl) (mf_dat eX12_dayBy_p1 8 rfl) (by decide) (fun hc => ?_) (fun hc => ?_)
  · replace hyp := hyp.1 hc
    refine mf_lload_n (mf_dat eX12_dayBy_p1 11 rfl) rfl rfl ?_
    refine mf_ldc2 (v := 99) cl_X12_479 (mf_dat eX12_dayBy_p1 12 rfl) (by decide) ?_
    refine mf_lcmp_le (tgt := 137) (mf_dat eX12_dayBy_p1 13 rfl) (mf_dat eX12_dayBy_p1 14 rfl) (by decide) (fun hc => ?_) (fun hc => ?_)
    · replace hyp := hyp.1 hc
      refine mf_lload_n (mf_dat eX12_dayBy_p1 17 rfl) rfl rfl ?_
      refine mf_ladd (mf_dat eX12_dayBy_p1 18 rfl) ?_
      refine mf_callV (Yc := YX12_purseIs) (r := (RX12, TX12, 106)) (ci := 12) (mf_dat eX12_dayBy_p1 19 rfl) ml_X12_448 okX12_purseIs im_X12_purseIs sl_X12_purseIs rfl rfl rfl rfl (Nat.le_of_ble_eq_true rfl) (mf_rr (Nat.le_trans (by decide) hd) (Nat.le_refl _)) (Nat.le_refl _) is245 (hyp g2 hG) (fun r4 g5 h6 hyp => ?_)
      obtain ⟨hgg, hyp⟩ := hyp
      subst hgg
      refine mf_iinc (mf_dat eX12_dayBy_p1 20 rfl) rfl (by decide) (by decide) ?_
      generalize qv7 : mf_w32 (x2 + 1) = v7
      replace hyp := hyp _ qv7.symm
      refine mf_goto (tgt := 67) (mf_dat eX12_dayBy_p1 21 rfl) (by decide) ?_
      exact mf_sub [2, 0] rfl (hyp g5 hG)
    · replace hyp := hyp.2 hc
      refine mf_ldc2 (v := 99) cl_X12_479 (mf_dat eX12_dayBy_p1 15 rfl) (by decide) ?_
      refine mf_goto (tgt := 138) (mf_dat eX12_dayBy_p1 16 rfl) (by decide) ?_
      refine mf_ladd (mf_dat eX12_dayBy_p1 18 rfl) ?_
      refine mf_callV (Yc := YX12_purseIs) (r := (RX12, TX12, 106)) (ci := 12) (mf_dat eX12_dayBy_p1 19 rfl) ml_X12_448 okX12_purseIs im_X12_purseIs sl_X12_purseIs rfl rfl rfl rfl (Nat.le_of_ble_eq_true rfl) (mf_rr (Nat.le_trans (by decide) hd) (Nat.le_refl _)) (Nat.le_refl _) is245 (hyp g2 hG) (fun r8 g9 h10 hyp => ?_)
      obtain ⟨hgg, hyp⟩ := hyp
      subst hgg
      refine mf_iinc (mf_dat eX12_dayBy_p1 20 rfl) rfl (by decide) (by decide) ?_
      generalize qv11 : mf_w32 (x2 + 1) = v11
      replace hyp := hyp _ qv11.symm
      refine mf_goto (tgt := 67) (mf_dat eX12_dayBy_p1 21 rfl) (by decide) ?_
      exact mf_sub [2, 0] rfl (hyp g9 hG)
  · replace hyp := hyp.2 hc
    refine mf_ldc2 (v := (-99)) cl_X12_477 (mf_dat eX12_dayBy_p1 9 rfl) (by decide) ?_
    refine mf_goto (tgt := 138) (mf_dat eX12_dayBy_p1 10 rfl) (by decide) ?_
    refine mf_ladd (mf_dat eX12_dayBy_p1 18 rfl) ?_
    refine mf_callV (Yc := YX12_purseIs) (r := (RX12, TX12, 106)) (ci := 12) (mf_dat eX12_dayBy_p1 19 rfl) ml_X12_448 okX12_purseIs im_X12_purseIs sl_X12_purseIs rfl rfl rfl rfl (Nat.le_of_ble_eq_true rfl) (mf_rr (Nat.le_trans (by decide) hd) (Nat.le_refl _)) (Nat.le_refl _) is245 (hyp g2 hG) (fun r12 g13 h14 hyp => ?_)
    obtain ⟨hgg, hyp⟩ := hyp
    subst hgg
    refine mf_iinc (mf_dat eX12_dayBy_p1 20 rfl) rfl (by decide) (by decide) ?_
    generalize qv15 : mf_w32 (x2 + 1) = v15
    replace hyp := hyp _ qv15.symm
    refine mf_goto (tgt := 67) (mf_dat eX12_dayBy_p1 21 rfl) (by decide) ?_
    exact mf_sub [2, 0] rfl (hyp g13 hG)
set_option maxRecDepth 100000 in
set_option maxHeartbeats 4000000 in
theorem vX12_dayBy_150 {C : mf_G} {l : Launch} {d : Nat} {K : Int → mf_M → Prop} {x2 : Int} {h : mf_M} (hd : 3 ≤ d) (hyp : mM C l 0 YX12_beingMany [(2, 245)] h (fun r1 h3 => ((r1 ≤ x2 → (∀ h4 : mf_M, h4 = mf_up h3 286 0 (mf_w32 ((h3 286 0) + 1)) → K 0 h4)) ∧ (¬ r1 ≤ x2 → ((h3 283 7 = (-1) → (∀ v5 : Int, v5 = mf_w32 (x2 + 1) → BX12_dayBy_150 C l d K v5 h3)) ∧ (¬ h3 283 7 = (-1) → mM C l 2 YX12_codesTell [(2, 245), (0, 3), (0, x2)] h3 (fun r6 h8 => ((r6 = 1 → mM C l 0 YX12_cellOf [(2, 245), (0, x2)] h8 (fun r9 h11 => (∀ v12 : Int, v12 = mf_w32 (r9 + 1) → ((h11 276 3 ≤ v12 → (∀ v13 : Int, v13 = mf_w32 (x2 + 1) → BX12_dayBy_150 C l d K v13 h11)) ∧ (¬ h11 276 3 ≤ v12 → mM C l 0 YX12_leafOf [(2, 245), (0, x2)] h11 (fun r14 h16 => mM C l 0 YX12_hasGloss [(2, 245), (0, r14), (0, v12)] h16 (fun r17 h19 => ((¬ r17 = 0 → (∀ v20 : Int, v20 = mf_w32 (x2 + 1) → BX12_dayBy_150 C l d K v20 h19)) ∧ (r17 = 0 → mM C l 0 YX12_leafOf [(2, 245), (0, x2)] h19 (fun r21 h23 => mM C l 1 YX12_standsOn [(2, 245), (0, r21), (0, v12)] h23 (fun r24 h26 => ((¬ r24 = (-1) → (∀ v27 : Int, v27 = mf_w32 (x2 + 1) → BX12_dayBy_150 C l d K v27 h26)) ∧ (r24 = (-1) → 0 ≤ mf_w32 ((mf_w32 (7 + (mf_w32 (4 * x2)))) + 1) ∧ mf_w32 ((mf_w32 (7 + (mf_w32 (4 * x2)))) + 1) < 160 ∧ (∀ h30 : mf_M, h30 = mf_up h26 286 (mf_w32 ((mf_w32 (7 + (mf_w32 (4 * x2)))) + 1)) v12 → (∀ v31 : Int, v31 = mf_w32 (x2 + 1) → BX12_dayBy_150 C l d K v31 h30))))))))))))))) ∧ (¬ r6 = 1 → (∀ v32 : Int, v32 = mf_w32 (x2 + 1) → BX12_dayBy_150 C l d K v32 h8)))))))))) : BX12_dayBy_150 C l d K x2 h := by
  intro g hG
  refine mf_iload_n (mf_dat eX12_dayBy_p1 24 rfl) rfl rfl ?_
  refine mf_aload_n (mf_dat eX12_dayBy_p1 25 rfl) rfl rfl ?_
  refine mf_callV (Yc := YX12_beingMany) (r := (RX12, TX12, 106)) (ci := 12) (mf_dat eX12_dayBy_p1 26 rfl) ml_X12_402 okX12_beingMany im_X12_beingMany sl_X12_beingMany rfl rfl rfl rfl (Nat.le_of_ble_eq_true rfl) (mf_rr (Nat.le_trans (by decide) hd) (Nat.le_refl _)) (Nat.le_refl _) is245 (hyp g hG) (fun r1 g2 h3 hyp => ?_)
  obtain ⟨hgg, hyp⟩ := hyp
  subst hgg
  refine mf_icmp_ge (tgt := 248) (mf_dat eX12_dayBy_p1 27 rfl) (by decide) (fun hc => ?_) (fun hc => ?_)
  · replace hyp := hyp.1 hc
    refine mf_aload_n (mf_dat eX12_dayBy_p2 22 rfl) rfl rfl ?_
    refine mf_getf (r := (RX12, TX12, 106)) (ci := 12) (k := 56) (t := 2) (v := 286) (mf_dat eX12_dayBy_p2 23 rfl) fl_X12_136 rfl (by decide) rfl (gm_56 hG) is245 ?_
    refine mf_iconst (v := 0) (mf_dat eX12_dayBy_p2 24 rfl) (by decide) ?_
    refine mf_dup2 (mf_dat eX12_dayBy_p2 25 rfl) (by decide) (by decide) ?_
    refine mf_iald (mf_dat eX12_dayBy_p2 26 rfl) is286 len286 (by decide) (by decide) ?_
    refine mf_iconst (v := 1) (mf_dat eX12_dayBy_p2 27 rfl) (by decide) ?_
    refine mf_iadd (mf_dat eX12_dayBy_p2 28 rfl) ?_
    refine mf_iast (mf_dat eX12_dayBy_p2 29 rfl) is286 len286 (by decide) (by decide) ?_
    generalize qh4 : mf_up h3 286 0 (mf_w32 ((h3 286 0) + 1)) = h4
    replace hyp := hyp _ qh4.symm
    exact mf_return (mf_dat eX12_dayBy_p2 30 rfl) rfl ⟨rfl, hyp⟩
  · replace hyp := hyp.2 hc
    refine mf_aload_n (mf_dat eX12_dayBy_p1 28 rfl) rfl rfl ?_
    refine mf_getf (r := (RX12, TX12, 106)) (ci := 12) (k := 49) (t := 2) (v := 283) (mf_dat eX12_dayBy_p1 29 rfl) fl_X12_127 rfl (by decide) rfl (gm_49 hG) is245 ?_
    refine mf_bipush (v := 7) (mf_dat eX12_dayBy_p1 30 rfl) (by decide) ?_
    refine mf_iald (mf_dat eX12_dayBy_p1 31 rfl) is283 len283 (by decide) (by decide) ?_
    refine mf_iconst (v := (-1)) (mf_dat eX12_dayBy_p1 32 rfl) (by decide) ?_
    refine mf_icmp_eq (tgt := 242) (mf_dat eX12_dayBy_p1 33 rfl) (by decide) (fun hc => ?_) (fun hc => ?_)
    · replace hyp := hyp.1 hc
      refine mf_iinc (mf_dat eX12_dayBy_p2 20 rfl) rfl (by decide) (by decide) ?_
      generalize qv5 : mf_w32 (x2 + 1) = v5
      replace hyp := hyp _ qv5.symm
      refine mf_goto (tgt := 150) (mf_dat eX12_dayBy_p2 21 rfl) (by decide) ?_
      exact mf_sub [1, 0] rfl (hyp g2 hG)
    · replace hyp := hyp.2 hc
      refine mf_aload_n (mf_dat eX12_dayBy_p1 34 rfl) rfl rfl ?_
      refine mf_iconst (v := 3) (mf_dat eX12_dayBy_p1 35 rfl) (by decide) ?_
      refine mf_iload_n (mf_dat eX12_dayBy_p1 36 rfl) rfl rfl ?_
      refine mf_callV (Yc := YX12_codesTell) (r := (RX12, TX12, 106)) (ci := 12) (mf_dat eX12_dayBy_p1 37 rfl) ml_X12_439 okX12_codesTell im_X12_codesTell sl_X12_codesTell rfl rfl rfl rfl (Nat.le_of_ble_eq_true rfl) (mf_rr (Nat.le_trans (by decide) hd) (Nat.le_refl _)) (Nat.le_refl _) is245 (hyp g2 hG) (fun r6 g7 h8 hyp => ?_)
      obtain ⟨hgg, hyp⟩ := hyp
      subst hgg
      refine mf_lconst (v := 1) (mf_dat eX12_dayBy_p1 38 rfl) (by decide) ?_
      refine mf_lcmp_eq (tgt := 183) (mf_dat eX12_dayBy_p1 39 rfl) (mf_dat eX12_dayBy_p1 40 rfl) (by decide) (fun hc => ?_) (fun hc => ?_)
      · replace hyp := hyp.1 hc
        refine mf_aload_n (mf_dat eX12_dayBy_p1 42 rfl) rfl rfl ?_
        refine mf_iload_n (mf_dat eX12_dayBy_p1 43 rfl) rfl rfl ?_
        refine mf_callV (Yc := YX12_cellOf) (r := (RX12, TX12, 106)) (ci := 12) (mf_dat eX12_dayBy_p1 44 rfl) ml_X12_413 okX12_cellOf im_X12_cellOf sl_X12_cellOf rfl rfl rfl rfl (Nat.le_of_ble_eq_true rfl) (mf_rr (Nat.le_trans (by decide) hd) (Nat.le_refl _)) (Nat.le_refl _) is245 (hyp g7 hG) (fun r9 g10 h11 hyp => ?_)
        obtain ⟨hgg, hyp⟩ := hyp
        subst hgg
        refine mf_iconst (v := 1) (mf_dat eX12_dayBy_p1 45 rfl) (by decide) ?_
        refine mf_iadd (mf_dat eX12_dayBy_p1 46 rfl) ?_
        generalize qv12 : mf_w32 (r9 + 1) = v12
        replace hyp := hyp _ qv12.symm
        refine mf_istore_n (mf_dat eX12_dayBy_p1 47 rfl) rfl (by decide) ?_
        refine mf_iload_n (mf_dat eX12_dayBy_p1 48 rfl) rfl rfl ?_
        refine mf_aload_n (mf_dat eX12_dayBy_p1 49 rfl) rfl rfl ?_
        refine mf_getf (r := (RX12, TX12, 106)) (ci := 12) (k := 40) (t := 2) (v := 276) (mf_dat eX12_dayBy_p1 50 rfl) fl_X12_105 rfl (by decide) rfl (gm_40 hG) is245 ?_
        refine mf_iconst (v := 3) (mf_dat eX12_dayBy_p1 51 rfl) (by decide) ?_
        refine mf_iald (mf_dat eX12_dayBy_p1 52 rfl) is276 len276 (by decide) (by decide) ?_
        refine mf_icmp_ge (tgt := 242) (mf_dat eX12_dayBy_p1 53 rfl) (by decide) (fun hc => ?_) (fun hc => ?_)
        · replace hyp := hyp.1 hc
          refine mf_iinc (mf_dat eX12_dayBy_p2 20 rfl) rfl (by decide) (by decide) ?_
          generalize qv13 : mf_w32 (x2 + 1) = v13
          replace hyp := hyp _ qv13.symm
          refine mf_goto (tgt := 150) (mf_dat eX12_dayBy_p2 21 rfl) (by decide) ?_
          exact mf_sub [2, 0] rfl (hyp g10 hG)
        · replace hyp := hyp.2 hc
          refine mf_aload_n (mf_dat eX12_dayBy_p1 54 rfl) rfl rfl ?_
          refine mf_aload_n (mf_dat eX12_dayBy_p1 55 rfl) rfl rfl ?_
          refine mf_iload_n (mf_dat eX12_dayBy_p1 56 rfl) rfl rfl ?_
          refine mf_callV (Yc := YX12_leafOf) (r := (RX12, TX12, 106)) (ci := 12) (mf_dat eX12_dayBy_p1 57 rfl) ml_X12_410 okX12_leafOf im_X12_leafOf sl_X12_leafOf rfl rfl rfl rfl (Nat.le_of_ble_eq_true rfl) (mf_rr (Nat.le_trans (by decide) hd) (Nat.le_refl _)) (Nat.le_refl _) is245 (hyp g10 hG) (fun r14 g15 h16 hyp => ?_)
          obtain ⟨hgg, hyp⟩ := hyp
          subst hgg
          refine mf_iload_n (mf_dat eX12_dayBy_p1 58 rfl) rfl rfl ?_
          refine mf_callV (Yc := YX12_hasGloss) (r := (RX12, TX12, 106)) (ci := 12) (mf_dat eX12_dayBy_p1 59 rfl) ml_X12_481 okX12_hasGloss im_X12_hasGloss sl_X12_hasGloss rfl rfl rfl rfl (Nat.le_of_ble_eq_true rfl) (mf_rr (Nat.le_trans (by decide) hd) (Nat.le_refl _)) (Nat.le_refl _) is245 (hyp g15 hG) (fun r17 g18 h19 hyp => ?_)
          obtain ⟨hgg, hyp⟩ := hyp
          subst hgg
          refine mf_if_ne (tgt := 242) (mf_dat eX12_dayBy_p2 0 rfl) (by decide) (fun hc => ?_) (fun hc => ?_)
          · replace hyp := hyp.1 hc
            refine mf_iinc (mf_dat eX12_dayBy_p2 20 rfl) rfl (by decide) (by decide) ?_
            generalize qv20 : mf_w32 (x2 + 1) = v20
            replace hyp := hyp _ qv20.symm
            refine mf_goto (tgt := 150) (mf_dat eX12_dayBy_p2 21 rfl) (by decide) ?_
            exact mf_sub [2, 0] rfl (hyp g18 hG)
          · replace hyp := hyp.2 hc
            refine mf_aload_n (mf_dat eX12_dayBy_p2 1 rfl) rfl rfl ?_
            refine mf_aload_n (mf_dat eX12_dayBy_p2 2 rfl) rfl rfl ?_
            refine mf_iload_n (mf_dat eX12_dayBy_p2 3 rfl) rfl rfl ?_
            refine mf_callV (Yc := YX12_leafOf) (r := (RX12, TX12, 106)) (ci := 12) (mf_dat eX12_dayBy_p2 4 rfl) ml_X12_410 okX12_leafOf im_X12_leafOf sl_X12_leafOf rfl rfl rfl rfl (Nat.le_of_ble_eq_true rfl) (mf_rr (Nat.le_trans (by decide) hd) (Nat.le_refl _)) (Nat.le_refl _) is245 (hyp g18 hG) (fun r21 g22 h23 hyp => ?_)
            obtain ⟨hgg, hyp⟩ := hyp
            subst hgg
            refine mf_iload_n (mf_dat eX12_dayBy_p2 5 rfl) rfl rfl ?_
            refine mf_callV (Yc := YX12_standsOn) (r := (RX12, TX12, 106)) (ci := 12) (mf_dat eX12_dayBy_p2 6 rfl) ml_X12_484 okX12_standsOn im_X12_standsOn sl_X12_standsOn rfl rfl rfl rfl (Nat.le_of_ble_eq_true rfl) (mf_rr (Nat.le_trans (by decide) hd) (Nat.le_refl _)) (Nat.le_refl _) is245 (hyp g22 hG) (fun r24 g25 h26 hyp => ?_)
            obtain ⟨hgg, hyp⟩ := hyp
            subst hgg
            refine mf_iconst (v := (-1)) (mf_dat eX12_dayBy_p2 7 rfl) (by decide) ?_
            refine mf_icmp_ne (tgt := 242) (mf_dat eX12_dayBy_p2 8 rfl) (by decide) (fun hc => ?_) (fun hc => ?_)
            · replace hyp := hyp.1 hc
              refine mf_iinc (mf_dat eX12_dayBy_p2 20 rfl) rfl (by decide) (by decide) ?_
              generalize qv27 : mf_w32 (x2 + 1) = v27
              replace hyp := hyp _ qv27.symm
              refine mf_goto (tgt := 150) (mf_dat eX12_dayBy_p2 21 rfl) (by decide) ?_
              exact mf_sub [2, 0] rfl (hyp g25 hG)
            · replace hyp := hyp.2 hc
              refine mf_aload_n (mf_dat eX12_dayBy_p2 9 rfl) rfl rfl ?_
              refine mf_getf (r := (RX12, TX12, 106)) (ci := 12) (k := 56) (t := 2) (v := 286) (mf_dat eX12_dayBy_p2 10 rfl) fl_X12_136 rfl (by decide) rfl (gm_56 hG) is245 ?_
              refine mf_bipush (v := 7) (mf_dat eX12_dayBy_p2 11 rfl) (by decide) ?_
              refine mf_iconst (v := 4) (mf_dat eX12_dayBy_p2 12 rfl) (by decide) ?_
              refine mf_iload_n (mf_dat eX12_dayBy_p2 13 rfl) rfl rfl ?_
              refine mf_imul (mf_dat eX12_dayBy_p2 14 rfl) ?_
              refine mf_iadd (mf_dat eX12_dayBy_p2 15 rfl) ?_
              refine mf_iconst (v := 1) (mf_dat eX12_dayBy_p2 16 rfl) (by decide) ?_
              refine mf_iadd (mf_dat eX12_dayBy_p2 17 rfl) ?_
              refine mf_iload_n (mf_dat eX12_dayBy_p2 18 rfl) rfl rfl ?_
              obtain ⟨ck28, hyp⟩ := hyp
              obtain ⟨ck29, hyp⟩ := hyp
              refine mf_iast (mf_dat eX12_dayBy_p2 19 rfl) is286 len286 ck28 ck29 ?_
              generalize qh30 : mf_up h26 286 (mf_w32 ((mf_w32 (7 + (mf_w32 (4 * x2)))) + 1)) v12 = h30
              replace hyp := hyp _ qh30.symm
              refine mf_iinc (mf_dat eX12_dayBy_p2 20 rfl) rfl (by decide) (by decide) ?_
              generalize qv31 : mf_w32 (x2 + 1) = v31
              replace hyp := hyp _ qv31.symm
              refine mf_goto (tgt := 150) (mf_dat eX12_dayBy_p2 21 rfl) (by decide) ?_
              exact mf_sub [2, 0] rfl (hyp g25 hG)
      · replace hyp := hyp.2 hc
        refine mf_goto (tgt := 242) (mf_dat eX12_dayBy_p1 41 rfl) (by decide) ?_
        refine mf_iinc (mf_dat eX12_dayBy_p2 20 rfl) rfl (by decide) (by decide) ?_
        generalize qv32 : mf_w32 (x2 + 1) = v32
        replace hyp := hyp _ qv32.symm
        refine mf_goto (tgt := 150) (mf_dat eX12_dayBy_p2 21 rfl) (by decide) ?_
        exact mf_sub [1, 0] rfl (hyp g7 hG)
set_option maxRecDepth 100000 in
set_option maxHeartbeats 4000000 in
theorem wX12_dayBy {C : mf_G} {l : Launch} {d : Nat} {K : Int → mf_M → Prop} {x1 : Int} {h : mf_M} (hyp : (∀ h1 : mf_M, h1 = mf_up h 245 59 x1 → (∀ h2 : mf_M, h2 = mf_up h1 245 58 (h1 286 0) → BX12_dayBy_17 C l d K x1 0 h2))) : mM C l d YX12_dayBy [(2, 245), (0, x1)] h K := by
  intro g hG
  refine mf_entry (by decide) (Nat.le_of_ble_eq_true rfl) ?_
  refine mf_aload_n (mf_dat eX12_dayBy_p0 0 rfl) rfl rfl ?_
  refine mf_iload_n (mf_dat eX12_dayBy_p0 1 rfl) rfl rfl ?_
  refine mf_putI (r := (RX12, TX12, 106)) (ci := 12) (k := 59) (kI := 59) (t := 0) (mf_dat eX12_dayBy_p0 2 rfl) fl_X12_468 rfl rfl (by decide) rfl (by decide) rfl (by decide) (fun h9 => absurd h9 (by decide)) is245 ?_
  generalize qh1 : mf_up h 245 59 x1 = h1
  replace hyp := hyp _ qh1.symm
  refine mf_aload_n (mf_dat eX12_dayBy_p0 3 rfl) rfl rfl ?_
  refine mf_aload_n (mf_dat eX12_dayBy_p0 4 rfl) rfl rfl ?_
  refine mf_getf (r := (RX12, TX12, 106)) (ci := 12) (k := 56) (t := 2) (v := 286) (mf_dat eX12_dayBy_p0 5 rfl) fl_X12_136 rfl (by decide) rfl (gm_56 hG) is245 ?_
  refine mf_iconst (v := 0) (mf_dat eX12_dayBy_p0 6 rfl) (by decide) ?_
  refine mf_iald (mf_dat eX12_dayBy_p0 7 rfl) is286 len286 (by decide) (by decide) ?_
  refine mf_putI (r := (RX12, TX12, 106)) (ci := 12) (k := 58) (kI := 58) (t := 0) (mf_dat eX12_dayBy_p0 8 rfl) fl_X12_436 rfl rfl (by decide) rfl (by decide) rfl (by decide) (fun h9 => absurd h9 (by decide)) is245 ?_
  generalize qh2 : mf_up h1 245 58 (h1 286 0) = h2
  replace hyp := hyp _ qh2.symm
  refine mf_iconst (v := 0) (mf_dat eX12_dayBy_p0 9 rfl) (by decide) ?_
  refine mf_istore_n (mf_dat eX12_dayBy_p0 10 rfl) rfl (by decide) ?_
  exact mf_sub [1, 2, 0] rfl (hyp g hG)
abbrev BX12_daysGo_2 (C : mf_G) (l : Launch) (d : Nat) (K : Int → mf_M → Prop) (x1 x2 : Int) (h : mf_M) : Prop := jM C l d YX12_daysGo K 2 [(0, (2, 245)), (1, (0, x1)), (2, (0, x2))] [] h
set_option maxRecDepth 100000 in
set_option maxHeartbeats 4000000 in
theorem vX12_daysGo_2 {C : mf_G} {l : Launch} {d : Nat} {K : Int → mf_M → Prop} {x1 x2 : Int} {h : mf_M} (hd : 5 ≤ d) (hyp : ((x1 ≤ x2 → K 0 h) ∧ (¬ x1 ≤ x2 → mM C l 3 YX12_openingOn [(2, 245), (0, h 286 0)] h (fun r1 h3 => mM C l 4 YX12_dayBy [(2, 245), (0, r1)] h3 (fun r4 h6 => (∀ v7 : Int, v7 = mf_w32 (x2 + 1) → BX12_daysGo_2 C l d K x1 v7 h6)))))) : BX12_daysGo_2 C l d K x1 x2 h := by
  intro g hG
  refine mf_iload_n (mf_dat eX12_daysGo 2 rfl) rfl rfl ?_
  refine mf_iload_n (mf_dat eX12_daysGo 3 rfl) rfl rfl ?_
  refine mf_icmp_ge (tgt := 27) (mf_dat eX12_daysGo 4 rfl) (by decide) (fun hc => ?_) (fun hc => ?_)
  · replace hyp := hyp.1 hc
    exact mf_return (mf_dat eX12_daysGo 15 rfl) rfl ⟨rfl, hyp⟩
  · replace hyp := hyp.2 hc
    refine mf_aload_n (mf_dat eX12_daysGo 5 rfl) rfl rfl ?_
    refine mf_aload_n (mf_dat eX12_daysGo 6 rfl) rfl rfl ?_
    refine mf_aload_n (mf_dat eX12_daysGo 7 rfl) rfl rfl ?_
    refine mf_getf (r := (RX12, TX12, 106)) (ci := 12) (k := 56) (t := 2) (v := 286) (mf_dat eX12_daysGo 8 rfl) fl_X12_136 rfl (by decide) rfl (gm_56 hG) is245 ?_
    refine mf_iconst (v := 0) (mf_dat eX12_daysGo 9 rfl) (by decide) ?_
    refine mf_iald (mf_dat eX12_daysGo 10 rfl) is286 len286 (by decide) (by decide) ?_
    refine mf_callV (Yc := YX12_openingOn) (r := (RX12, TX12, 106)) (ci := 12) (mf_dat eX12_daysGo 11 rfl) ml_X12_487 okX12_openingOn im_X12_openingOn sl_X12_openingOn rfl rfl rfl rfl (Nat.le_of_ble_eq_true rfl) (mf_rr (Nat.le_trans (by decide) hd) (Nat.le_refl _)) (Nat.le_refl _) is245 (hyp g hG) (fun r1 g2 h3 hyp => ?_)
    obtain ⟨hgg, hyp⟩ := hyp
    subst hgg
    refine mf_callV (Yc := YX12_dayBy) (r := (RX12, TX12, 106)) (ci := 12) (mf_dat eX12_daysGo 12 rfl) ml_X12_490 okX12_dayBy im_X12_dayBy sl_X12_dayBy rfl rfl rfl rfl (Nat.le_of_ble_eq_true rfl) (mf_rr (Nat.le_trans (by decide) hd) (Nat.le_refl _)) (Nat.le_refl _) is245 (hyp g2 hG) (fun r4 g5 h6 hyp => ?_)
    obtain ⟨hgg, hyp⟩ := hyp
    subst hgg
    refine mf_iinc (mf_dat eX12_daysGo 13 rfl) rfl (by decide) (by decide) ?_
    generalize qv7 : mf_w32 (x2 + 1) = v7
    replace hyp := hyp _ qv7.symm
    refine mf_goto (tgt := 2) (mf_dat eX12_daysGo 14 rfl) (by decide) ?_
    exact mf_sub [1, 2, 0] rfl (hyp g5 hG)
set_option maxRecDepth 100000 in
set_option maxHeartbeats 4000000 in
theorem wX12_daysGo {C : mf_G} {l : Launch} {d : Nat} {K : Int → mf_M → Prop} {x1 : Int} {h : mf_M} (hyp : BX12_daysGo_2 C l d K x1 0 h) : mM C l d YX12_daysGo [(2, 245), (0, x1)] h K := by
  intro g hG
  refine mf_entry (by decide) (Nat.le_of_ble_eq_true rfl) ?_
  refine mf_iconst (v := 0) (mf_dat eX12_daysGo 0 rfl) (by decide) ?_
  refine mf_istore_n (mf_dat eX12_daysGo 1 rfl) rfl (by decide) ?_
  exact mf_sub [1, 2, 0] rfl (hyp g hG)
abbrev BX12_putsAside_7 (C : mf_G) (l : Launch) (d : Nat) (K : Int → mf_M → Prop) (x1 : Int) (h : mf_M) : Prop := jM C l d YX12_putsAside K 7 [(0, (2, 245)), (1, (0, x1))] [] h
abbrev BX12_putsAside_38 (C : mf_G) (l : Launch) (d : Nat) (K : Int → mf_M → Prop) (x1 : Int) (h : mf_M) : Prop := jM C l d YX12_putsAside K 38 [(0, (2, 245)), (1, (0, x1))] [] h
set_option maxRecDepth 100000 in
set_option maxHeartbeats 4000000 in
theorem vX12_putsAside_7 {C : mf_G} {l : Launch} {d : Nat} {K : Int → mf_M → Prop} {x1 : Int} {h : mf_M} (hyp : ((39 ≤ x1 → (∀ h1 : mf_M, h1 = mf_up h 245 62 0 → BX12_putsAside_38 C l d K 0 h1)) ∧ (¬ 39 ≤ x1 → 0 ≤ x1 ∧ x1 < 160 ∧ x1 < 39 ∧ (∀ h5 : mf_M, h5 = mf_up h 287 x1 (h 286 x1) → (∀ v6 : Int, v6 = mf_w32 (x1 + 1) → BX12_putsAside_7 C l d K v6 h5))))) : BX12_putsAside_7 C l d K x1 h := by
  intro g hG
  refine mf_iload_n (mf_dat eX12_putsAside 5 rfl) rfl rfl ?_
  refine mf_bipush (v := 39) (mf_dat eX12_putsAside 6 rfl) (by decide) ?_
  refine mf_icmp_ge (tgt := 31) (mf_dat eX12_putsAside 7 rfl) (by decide) (fun hc => ?_) (fun hc => ?_)
  · replace hyp := hyp.1 hc
    refine mf_aload_n (mf_dat eX12_putsAside 18 rfl) rfl rfl ?_
    refine mf_iconst (v := 0) (mf_dat eX12_putsAside 19 rfl) (by decide) ?_
    refine mf_putI (r := (RX12, TX12, 106)) (ci := 12) (k := 62) (kI := 62) (t := 0) (mf_dat eX12_putsAside 20 rfl) fl_X12_452 rfl rfl (by decide) rfl (by decide) rfl (by decide) (fun h9 => absurd h9 (by decide)) is245 ?_
    generalize qh1 : mf_up h 245 62 0 = h1
    replace hyp := hyp _ qh1.symm
    refine mf_iconst (v := 0) (mf_dat eX12_putsAside 21 rfl) (by decide) ?_
    refine mf_istore_n (mf_dat eX12_putsAside 22 rfl) rfl (by decide) ?_
    exact mf_sub [1, 0] rfl (hyp g hG)
  · replace hyp := hyp.2 hc
    refine mf_aload_n (mf_dat eX12_putsAside 8 rfl) rfl rfl ?_
    refine mf_getf (r := (RX12, TX12, 106)) (ci := 12) (k := 57) (t := 2) (v := 287) (mf_dat eX12_putsAside 9 rfl) fl_X12_139 rfl (by decide) rfl (gm_57 hG) is245 ?_
    refine mf_iload_n (mf_dat eX12_putsAside 10 rfl) rfl rfl ?_
    refine mf_aload_n (mf_dat eX12_putsAside 11 rfl) rfl rfl ?_
    refine mf_getf (r := (RX12, TX12, 106)) (ci := 12) (k := 56) (t := 2) (v := 286) (mf_dat eX12_putsAside 12 rfl) fl_X12_136 rfl (by decide) rfl (gm_56 hG) is245 ?_
    refine mf_iload_n (mf_dat eX12_putsAside 13 rfl) rfl rfl ?_
    obtain ⟨ck2, hyp⟩ := hyp
    obtain ⟨ck3, hyp⟩ := hyp
    refine mf_iald (mf_dat eX12_putsAside 14 rfl) is286 len286 ck2 ck3 ?_
    obtain ⟨ck4, hyp⟩ := hyp
    refine mf_iast (mf_dat eX12_putsAside 15 rfl) is287 len287 ck2 ck4 ?_
    generalize qh5 : mf_up h 287 x1 (h 286 x1) = h5
    replace hyp := hyp _ qh5.symm
    refine mf_iinc (mf_dat eX12_putsAside 16 rfl) rfl (by decide) (by decide) ?_
    generalize qv6 : mf_w32 (x1 + 1) = v6
    replace hyp := hyp _ qv6.symm
    refine mf_goto (tgt := 7) (mf_dat eX12_putsAside 17 rfl) (by decide) ?_
    exact mf_sub [1, 0] rfl (hyp g hG)
set_option maxRecDepth 100000 in
set_option maxHeartbeats 4000000 in
theorem vX12_putsAside_38 {C : mf_G} {l : Launch} {d : Nat} {K : Int → mf_M → Prop} {x1 : Int} {h : mf_M} (hyp : ((8 ≤ x1 → K 0 h) ∧ (¬ 8 ≤ x1 → 0 ≤ x1 ∧ x1 < 8 ∧ (∀ h3 : mf_M, h3 = mf_up h 288 x1 0 → (∀ v4 : Int, v4 = mf_w32 (x1 + 1) → BX12_putsAside_38 C l d K v4 h3))))) : BX12_putsAside_38 C l d K x1 h := by
  intro g hG
  refine mf_iload_n (mf_dat eX12_putsAside 23 rfl) rfl rfl ?_
  refine mf_bipush (v := 8) (mf_dat eX12_putsAside 24 rfl) (by decide) ?_
  refine mf_icmp_ge (tgt := 57) (mf_dat eX12_putsAside 25 rfl) (by decide) (fun hc => ?_) (fun hc => ?_)
  · replace hyp := hyp.1 hc
    exact mf_return (mf_dat eX12_putsAside 33 rfl) rfl ⟨rfl, hyp⟩
  · replace hyp := hyp.2 hc
    refine mf_aload_n (mf_dat eX12_putsAside 26 rfl) rfl rfl ?_
    refine mf_getf (r := (RX12, TX12, 106)) (ci := 12) (k := 63) (t := 2) (v := 288) (mf_dat eX12_putsAside 27 rfl) fl_X12_142 rfl (by decide) rfl (gm_63 hG) is245 ?_
    refine mf_iload_n (mf_dat eX12_putsAside 28 rfl) rfl rfl ?_
    refine mf_iconst (v := 0) (mf_dat eX12_putsAside 29 rfl) (by decide) ?_
    obtain ⟨ck1, hyp⟩ := hyp
    obtain ⟨ck2, hyp⟩ := hyp
    refine mf_iast (mf_dat eX12_putsAside 30 rfl) is288 len288 ck1 ck2 ?_
    generalize qh3 : mf_up h 288 x1 0 = h3
    replace hyp := hyp _ qh3.symm
    refine mf_iinc (mf_dat eX12_putsAside 31 rfl) rfl (by decide) (by decide) ?_
    generalize qv4 : mf_w32 (x1 + 1) = v4
    replace hyp := hyp _ qv4.symm
    refine mf_goto (tgt := 38) (mf_dat eX12_putsAside 32 rfl) (by decide) ?_
    exact mf_sub [1, 0] rfl (hyp g hG)
set_option maxRecDepth 100000 in
set_option maxHeartbeats 4000000 in
theorem wX12_putsAside {C : mf_G} {l : Launch} {d : Nat} {K : Int → mf_M → Prop} {h : mf_M} (hyp : (∀ h1 : mf_M, h1 = mf_up h 245 61 1 → BX12_putsAside_7 C l d K 0 h1)) : mM C l d YX12_putsAside [(2, 245)] h K := by
  intro g hG
  refine mf_entry (by decide) (Nat.le_of_ble_eq_true rfl) ?_
  refine mf_aload_n (mf_dat eX12_putsAside 0 rfl) rfl rfl ?_
  refine mf_iconst (v := 1) (mf_dat eX12_putsAside 1 rfl) (by decide) ?_
  refine mf_putI (r := (RX12, TX12, 106)) (ci := 12) (k := 61) (kI := 61) (t := 0) (mf_dat eX12_putsAside 2 rfl) fl_X12_442 rfl rfl (by decide) rfl (by decide) rfl (by decide) (fun _ => by decide) is245 ?_
  generalize qh1 : mf_up h 245 61 1 = h1
  replace hyp := hyp _ qh1.symm
  refine mf_iconst (v := 0) (mf_dat eX12_putsAside 3 rfl) (by decide) ?_
  refine mf_istore_n (mf_dat eX12_putsAside 4 rfl) rfl (by decide) ?_
  exact mf_sub [1, 0] rfl (hyp g hG)
abbrev BX12_triesAnew_2 (C : mf_G) (l : Launch) (d : Nat) (K : Int → mf_M → Prop) (x1 : Int) (h : mf_M) : Prop := jM C l d YX12_triesAnew K 2 [(0, (2, 245)), (1, (0, x1))] [] h
set_option maxRecDepth 100000 in
set_option maxHeartbeats 4000000 in
theorem vX12_triesAnew_2 {C : mf_G} {l : Launch} {d : Nat} {K : Int → mf_M → Prop} {x1 : Int} {h : mf_M} (hyp : ((39 ≤ x1 → (∀ h1 : mf_M, h1 = mf_up h 245 62 0 → K 0 h1)) ∧ (¬ 39 ≤ x1 → 0 ≤ x1 ∧ x1 < 39 ∧ x1 < 160 ∧ (∀ h5 : mf_M, h5 = mf_up h 286 x1 (h 287 x1) → (∀ v6 : Int, v6 = mf_w32 (x1 + 1) → BX12_triesAnew_2 C l d K v6 h5))))) : BX12_triesAnew_2 C l d K x1 h := by
  intro g hG
  refine mf_iload_n (mf_dat eX12_triesAnew 2 rfl) rfl rfl ?_
  refine mf_bipush (v := 39) (mf_dat eX12_triesAnew 3 rfl) (by decide) ?_
  refine mf_icmp_ge (tgt := 26) (mf_dat eX12_triesAnew 4 rfl) (by decide) (fun hc => ?_) (fun hc => ?_)
  · replace hyp := hyp.1 hc
    refine mf_aload_n (mf_dat eX12_triesAnew 15 rfl) rfl rfl ?_
    refine mf_iconst (v := 0) (mf_dat eX12_triesAnew 16 rfl) (by decide) ?_
    refine mf_putI (r := (RX12, TX12, 106)) (ci := 12) (k := 62) (kI := 62) (t := 0) (mf_dat eX12_triesAnew 17 rfl) fl_X12_452 rfl rfl (by decide) rfl (by decide) rfl (by decide) (fun h9 => absurd h9 (by decide)) is245 ?_
    generalize qh1 : mf_up h 245 62 0 = h1
    replace hyp := hyp _ qh1.symm
    exact mf_return (mf_dat eX12_triesAnew 18 rfl) rfl ⟨rfl, hyp⟩
  · replace hyp := hyp.2 hc
    refine mf_aload_n (mf_dat eX12_triesAnew 5 rfl) rfl rfl ?_
    refine mf_getf (r := (RX12, TX12, 106)) (ci := 12) (k := 56) (t := 2) (v := 286) (mf_dat eX12_triesAnew 6 rfl) fl_X12_136 rfl (by decide) rfl (gm_56 hG) is245 ?_
    refine mf_iload_n (mf_dat eX12_triesAnew 7 rfl) rfl rfl ?_
    refine mf_aload_n (mf_dat eX12_triesAnew 8 rfl) rfl rfl ?_
    refine mf_getf (r := (RX12, TX12, 106)) (ci := 12) (k := 57) (t := 2) (v := 287) (mf_dat eX12_triesAnew 9 rfl) fl_X12_139 rfl (by decide) rfl (gm_57 hG) is245 ?_
    refine mf_iload_n (mf_dat eX12_triesAnew 10 rfl) rfl rfl ?_
    obtain ⟨ck2, hyp⟩ := hyp
    obtain ⟨ck3, hyp⟩ := hyp
    refine mf_iald (mf_dat eX12_triesAnew 11 rfl) is287 len287 ck2 ck3 ?_
    obtain ⟨ck4, hyp⟩ := hyp
    refine mf_iast (mf_dat eX12_triesAnew 12 rfl) is286 len286 ck2 ck4 ?_
    generalize qh5 : mf_up h 286 x1 (h 287 x1) = h5
    replace hyp := hyp _ qh5.symm
    refine mf_iinc (mf_dat eX12_triesAnew 13 rfl) rfl (by decide) (by decide) ?_
    generalize qv6 : mf_w32 (x1 + 1) = v6
    replace hyp := hyp _ qv6.symm
    refine mf_goto (tgt := 2) (mf_dat eX12_triesAnew 14 rfl) (by decide) ?_
    exact mf_sub [1, 0] rfl (hyp g hG)
set_option maxRecDepth 100000 in
set_option maxHeartbeats 4000000 in
theorem wX12_triesAnew {C : mf_G} {l : Launch} {d : Nat} {K : Int → mf_M → Prop} {h : mf_M} (hyp : BX12_triesAnew_2 C l d K 0 h) : mM C l d YX12_triesAnew [(2, 245)] h K := by
  intro g hG
  refine mf_entry (by decide) (Nat.le_of_ble_eq_true rfl) ?_
  refine mf_iconst (v := 0) (mf_dat eX12_triesAnew 0 rfl) (by decide) ?_
  refine mf_istore_n (mf_dat eX12_triesAnew 1 rfl) rfl (by decide) ?_
  exact mf_sub [1, 0] rfl (hyp g hG)
abbrev BX12_takesBack_2 (C : mf_G) (l : Launch) (d : Nat) (K : Int → mf_M → Prop) (x1 : Int) (h : mf_M) : Prop := jM C l d YX12_takesBack K 2 [(0, (2, 245)), (1, (0, x1))] [] h
set_option maxRecDepth 100000 in
set_option maxHeartbeats 4000000 in
theorem vX12_takesBack_2 {C : mf_G} {l : Launch} {d : Nat} {K : Int → mf_M → Prop} {x1 : Int} {h : mf_M} (hyp : ((39 ≤ x1 → (∀ h1 : mf_M, h1 = mf_up h 245 61 0 → K 0 h1)) ∧ (¬ 39 ≤ x1 → 0 ≤ x1 ∧ x1 < 39 ∧ x1 < 160 ∧ (∀ h5 : mf_M, h5 = mf_up h 286 x1 (h 287 x1) → (∀ v6 : Int, v6 = mf_w32 (x1 + 1) → BX12_takesBack_2 C l d K v6 h5))))) : BX12_takesBack_2 C l d K x1 h := by
  intro g hG
  refine mf_iload_n (mf_dat eX12_takesBack 2 rfl) rfl rfl ?_
  refine mf_bipush (v := 39) (mf_dat eX12_takesBack 3 rfl) (by decide) ?_
  refine mf_icmp_ge (tgt := 26) (mf_dat eX12_takesBack 4 rfl) (by decide) (fun hc => ?_) (fun hc => ?_)
  · replace hyp := hyp.1 hc
    refine mf_aload_n (mf_dat eX12_takesBack 15 rfl) rfl rfl ?_
    refine mf_iconst (v := 0) (mf_dat eX12_takesBack 16 rfl) (by decide) ?_
    refine mf_putI (r := (RX12, TX12, 106)) (ci := 12) (k := 61) (kI := 61) (t := 0) (mf_dat eX12_takesBack 17 rfl) fl_X12_442 rfl rfl (by decide) rfl (by decide) rfl (by decide) (fun _ => by decide) is245 ?_
    generalize qh1 : mf_up h 245 61 0 = h1
    replace hyp := hyp _ qh1.symm
    exact mf_return (mf_dat eX12_takesBack 18 rfl) rfl ⟨rfl, hyp⟩
  · replace hyp := hyp.2 hc
    refine mf_aload_n (mf_dat eX12_takesBack 5 rfl) rfl rfl ?_
    refine mf_getf (r := (RX12, TX12, 106)) (ci := 12) (k := 56) (t := 2) (v := 286) (mf_dat eX12_takesBack 6 rfl) fl_X12_136 rfl (by decide) rfl (gm_56 hG) is245 ?_
    refine mf_iload_n (mf_dat eX12_takesBack 7 rfl) rfl rfl ?_
    refine mf_aload_n (mf_dat eX12_takesBack 8 rfl) rfl rfl ?_
    refine mf_getf (r := (RX12, TX12, 106)) (ci := 12) (k := 57) (t := 2) (v := 287) (mf_dat eX12_takesBack 9 rfl) fl_X12_139 rfl (by decide) rfl (gm_57 hG) is245 ?_
    refine mf_iload_n (mf_dat eX12_takesBack 10 rfl) rfl rfl ?_
    obtain ⟨ck2, hyp⟩ := hyp
    obtain ⟨ck3, hyp⟩ := hyp
    refine mf_iald (mf_dat eX12_takesBack 11 rfl) is287 len287 ck2 ck3 ?_
    obtain ⟨ck4, hyp⟩ := hyp
    refine mf_iast (mf_dat eX12_takesBack 12 rfl) is286 len286 ck2 ck4 ?_
    generalize qh5 : mf_up h 286 x1 (h 287 x1) = h5
    replace hyp := hyp _ qh5.symm
    refine mf_iinc (mf_dat eX12_takesBack 13 rfl) rfl (by decide) (by decide) ?_
    generalize qv6 : mf_w32 (x1 + 1) = v6
    replace hyp := hyp _ qv6.symm
    refine mf_goto (tgt := 2) (mf_dat eX12_takesBack 14 rfl) (by decide) ?_
    exact mf_sub [1, 0] rfl (hyp g hG)
set_option maxRecDepth 100000 in
set_option maxHeartbeats 4000000 in
theorem wX12_takesBack {C : mf_G} {l : Launch} {d : Nat} {K : Int → mf_M → Prop} {h : mf_M} (hyp : BX12_takesBack_2 C l d K 0 h) : mM C l d YX12_takesBack [(2, 245)] h K := by
  intro g hG
  refine mf_entry (by decide) (Nat.le_of_ble_eq_true rfl) ?_
  refine mf_iconst (v := 0) (mf_dat eX12_takesBack 0 rfl) (by decide) ?_
  refine mf_istore_n (mf_dat eX12_takesBack 1 rfl) rfl (by decide) ?_
  exact mf_sub [1, 0] rfl (hyp g hG)
set_option maxRecDepth 100000 in
set_option maxHeartbeats 4000000 in
theorem wX12_isAhead {C : mf_G} {l : Launch} {d : Nat} {K : Int → mf_M → Prop} {x1 x2 x3 : Int} {h : mf_M} (hd : 1 ≤ d) (hyp : ((h 245 54 = 0 → K 0 h) ∧ (¬ h 245 54 = 0 → mM C l 0 YX12_isIn [(1, x1), (1, x2), (1, x3)] h (fun r1 h3 => ((r1 = 0 → K 0 h3) ∧ (¬ r1 = 0 → ((999 < mf_w32 ((h3 286 0) + x1) → K 0 h3) ∧ (¬ 999 < mf_w32 ((h3 286 0) + x1) → K 1 h3)))))))) : mM C l d YX12_isAhead [(2, 245), (0, x1), (0, x2), (0, x3)] h K := by
  intro g hG
  refine mf_entry (by decide) (Nat.le_of_ble_eq_true rfl) ?_
  refine mf_aload_n (mf_dat eX12_isAhead 0 rfl) rfl rfl ?_
  refine mf_getf (r := (RX12, TX12, 106)) (ci := 12) (k := 54) (t := 0) (v := h 245 54) (mf_dat eX12_isAhead 1 rfl) fl_X12_389 rfl (by decide) rfl rfl is245 ?_
  refine mf_if_eq (tgt := 37) (mf_dat eX12_isAhead 2 rfl) (by decide) (fun hc => ?_) (fun hc => ?_)
  · replace hyp := hyp.1 hc
    refine mf_iconst (v := 0) (mf_dat eX12_isAhead 21 rfl) (by decide) ?_
    exact mf_ireturn (mf_dat eX12_isAhead 22 rfl) rfl (Or.inr ⟨rfl, by decide⟩) ⟨rfl, hyp⟩
  · replace hyp := hyp.2 hc
    refine mf_iload_n (mf_dat eX12_isAhead 3 rfl) rfl rfl ?_
    refine mf_i2l (mf_dat eX12_isAhead 4 rfl) ?_
    refine mf_iload_n (mf_dat eX12_isAhead 5 rfl) rfl rfl ?_
    refine mf_i2l (mf_dat eX12_isAhead 6 rfl) ?_
    refine mf_iload_n (mf_dat eX12_isAhead 7 rfl) rfl rfl ?_
    refine mf_i2l (mf_dat eX12_isAhead 8 rfl) ?_
    refine mf_callS (Yc := YX12_isIn) (mf_dat eX12_isAhead 9 rfl) ml_X12_286 okX12_isIn sm_X12_isIn rfl rfl (Nat.le_of_ble_eq_true rfl) (mf_rr (Nat.le_trans (by decide) hd) (Nat.le_refl _)) (Nat.le_refl _) (hyp g hG) (fun r1 g2 h3 hyp => ?_)
    obtain ⟨hgg, hyp⟩ := hyp
    subst hgg
    refine mf_if_eq (tgt := 37) (mf_dat eX12_isAhead 10 rfl) (by decide) (fun hc => ?_) (fun hc => ?_)
    · replace hyp := hyp.1 hc
      refine mf_iconst (v := 0) (mf_dat eX12_isAhead 21 rfl) (by decide) ?_
      exact mf_ireturn (mf_dat eX12_isAhead 22 rfl) rfl (Or.inr ⟨rfl, by decide⟩) ⟨rfl, hyp⟩
    · replace hyp := hyp.2 hc
      refine mf_aload_n (mf_dat eX12_isAhead 11 rfl) rfl rfl ?_
      refine mf_getf (r := (RX12, TX12, 106)) (ci := 12) (k := 56) (t := 2) (v := 286) (mf_dat eX12_isAhead 12 rfl) fl_X12_136 rfl (by decide) rfl (gm_56 hG) is245 ?_
      refine mf_iconst (v := 0) (mf_dat eX12_isAhead 13 rfl) (by decide) ?_
      refine mf_iald (mf_dat eX12_isAhead 14 rfl) is286 len286 (by decide) (by decide) ?_
      refine mf_iload_n (mf_dat eX12_isAhead 15 rfl) rfl rfl ?_
      refine mf_iadd (mf_dat eX12_isAhead 16 rfl) ?_
      refine mf_sipush (v := 999) (mf_dat eX12_isAhead 17 rfl) (by decide) ?_
      refine mf_icmp_gt (tgt := 37) (mf_dat eX12_isAhead 18 rfl) (by decide) (fun hc => ?_) (fun hc => ?_)
      · replace hyp := hyp.1 hc
        refine mf_iconst (v := 0) (mf_dat eX12_isAhead 21 rfl) (by decide) ?_
        exact mf_ireturn (mf_dat eX12_isAhead 22 rfl) rfl (Or.inr ⟨rfl, by decide⟩) ⟨rfl, hyp⟩
      · replace hyp := hyp.2 hc
        refine mf_iconst (v := 1) (mf_dat eX12_isAhead 19 rfl) (by decide) ?_
        refine mf_goto (tgt := 38) (mf_dat eX12_isAhead 20 rfl) (by decide) ?_
        exact mf_ireturn (mf_dat eX12_isAhead 22 rfl) rfl (Or.inr ⟨rfl, by decide⟩) ⟨rfl, hyp⟩
abbrev BX12_bits_4 (C : mf_G) (l : Launch) (d : Nat) (K : Int → mf_M → Prop) (x1 x2 : Int) (h : mf_M) : Prop := jM C l d YX12_bits K 4 [(1, (0, x1)), (2, (0, x2))] [] h
set_option maxRecDepth 100000 in
set_option maxHeartbeats 4000000 in
theorem vX12_bits_4 {C : mf_G} {l : Launch} {d : Nat} {K : Int → mf_M → Prop} {x1 x2 : Int} {h : mf_M} (hyp : ((x2 = 0 → K x1 h) ∧ (¬ x2 = 0 → (∀ v1 : Int, v1 = mf_w32 (x1 + 1) → (∀ v2 : Int, v2 = mf_and x2 (mf_w32 (x2 - 1)) → BX12_bits_4 C l d K v1 v2 h))))) : BX12_bits_4 C l d K x1 x2 h := by
  intro g hG
  refine mf_iload_n (mf_dat eX12_bits 4 rfl) rfl rfl ?_
  refine mf_if_eq (tgt := 20) (mf_dat eX12_bits 5 rfl) (by decide) (fun hc => ?_) (fun hc => ?_)
  · replace hyp := hyp.1 hc
    refine mf_iload_n (mf_dat eX12_bits 14 rfl) rfl rfl ?_
    exact mf_ireturn (mf_dat eX12_bits 15 rfl) rfl (Or.inl rfl) ⟨rfl, hyp⟩
  · replace hyp := hyp.2 hc
    refine mf_iinc (mf_dat eX12_bits 6 rfl) rfl (by decide) (by decide) ?_
    generalize qv1 : mf_w32 (x1 + 1) = v1
    replace hyp := hyp _ qv1.symm
    refine mf_iload_n (mf_dat eX12_bits 7 rfl) rfl rfl ?_
    refine mf_iload_n (mf_dat eX12_bits 8 rfl) rfl rfl ?_
    refine mf_iconst (v := 1) (mf_dat eX12_bits 9 rfl) (by decide) ?_
    refine mf_isub (mf_dat eX12_bits 10 rfl) ?_
    refine mf_iand (mf_dat eX12_bits 11 rfl) ?_
    generalize qv2 : mf_and x2 (mf_w32 (x2 - 1)) = v2
    replace hyp := hyp _ qv2.symm
    refine mf_istore_n (mf_dat eX12_bits 12 rfl) rfl (by decide) ?_
    refine mf_goto (tgt := 4) (mf_dat eX12_bits 13 rfl) (by decide) ?_
    exact mf_sub [1, 0] rfl (hyp g hG)
set_option maxRecDepth 100000 in
set_option maxHeartbeats 4000000 in
theorem wX12_bits {C : mf_G} {l : Launch} {d : Nat} {K : Int → mf_M → Prop} {x0 : Int} {h : mf_M} (hyp : BX12_bits_4 C l d K 0 x0 h) : mM C l d YX12_bits [(0, x0)] h K := by
  intro g hG
  refine mf_entry (by decide) (Nat.le_of_ble_eq_true rfl) ?_
  refine mf_iconst (v := 0) (mf_dat eX12_bits 0 rfl) (by decide) ?_
  refine mf_istore_n (mf_dat eX12_bits 1 rfl) rfl (by decide) ?_
  refine mf_iload_n (mf_dat eX12_bits 2 rfl) rfl rfl ?_
  refine mf_istore_n (mf_dat eX12_bits 3 rfl) rfl (by decide) ?_
  exact mf_sub [1, 0] rfl (hyp g hG)
abbrev BX12_glossMany_4 (C : mf_G) (l : Launch) (d : Nat) (K : Int → mf_M → Prop) (x1 x2 : Int) (h : mf_M) : Prop := jM C l d YX12_glossMany K 4 [(0, (2, 245)), (1, (0, x1)), (2, (0, x2))] [] h
set_option maxRecDepth 100000 in
set_option maxHeartbeats 4000000 in
theorem vX12_glossMany_4 {C : mf_G} {l : Launch} {d : Nat} {K : Int → mf_M → Prop} {x1 x2 : Int} {h : mf_M} (hd : 1 ≤ d) (hyp : ((6 ≤ x2 → K x1 h) ∧ (¬ 6 ≤ x2 → 0 ≤ mf_w32 (1 + x2) ∧ mf_w32 (1 + x2) < 160 ∧ mM C l 0 YX12_bits [(0, h 286 (mf_w32 (1 + x2)))] h (fun r3 h5 => (∀ v6 : Int, v6 = mf_w32 (x1 + r3) → (∀ v7 : Int, v7 = mf_w32 (x2 + 1) → BX12_glossMany_4 C l d K v6 v7 h5)))))) : BX12_glossMany_4 C l d K x1 x2 h := by
  intro g hG
  refine mf_iload_n (mf_dat eX12_glossMany 4 rfl) rfl rfl ?_
  refine mf_bipush (v := 6) (mf_dat eX12_glossMany 5 rfl) (by decide) ?_
  refine mf_icmp_ge (tgt := 30) (mf_dat eX12_glossMany 6 rfl) (by decide) (fun hc => ?_) (fun hc => ?_)
  · replace hyp := hyp.1 hc
    refine mf_iload_n (mf_dat eX12_glossMany 19 rfl) rfl rfl ?_
    exact mf_ireturn (mf_dat eX12_glossMany 20 rfl) rfl (Or.inl rfl) ⟨rfl, hyp⟩
  · replace hyp := hyp.2 hc
    refine mf_iload_n (mf_dat eX12_glossMany 7 rfl) rfl rfl ?_
    refine mf_aload_n (mf_dat eX12_glossMany 8 rfl) rfl rfl ?_
    refine mf_getf (r := (RX12, TX12, 106)) (ci := 12) (k := 56) (t := 2) (v := 286) (mf_dat eX12_glossMany 9 rfl) fl_X12_136 rfl (by decide) rfl (gm_56 hG) is245 ?_
    refine mf_iconst (v := 1) (mf_dat eX12_glossMany 10 rfl) (by decide) ?_
    refine mf_iload_n (mf_dat eX12_glossMany 11 rfl) rfl rfl ?_
    refine mf_iadd (mf_dat eX12_glossMany 12 rfl) ?_
    obtain ⟨ck1, hyp⟩ := hyp
    obtain ⟨ck2, hyp⟩ := hyp
    refine mf_iald (mf_dat eX12_glossMany 13 rfl) is286 len286 ck1 ck2 ?_
    refine mf_callS (Yc := YX12_bits) (mf_dat eX12_glossMany 14 rfl) ml_X12_493 okX12_bits sm_X12_bits rfl rfl (Nat.le_of_ble_eq_true rfl) (mf_rr (Nat.le_trans (by decide) hd) (Nat.le_refl _)) (Nat.le_refl _) (hyp g hG) (fun r3 g4 h5 hyp => ?_)
    obtain ⟨hgg, hyp⟩ := hyp
    subst hgg
    refine mf_iadd (mf_dat eX12_glossMany 15 rfl) ?_
    generalize qv6 : mf_w32 (x1 + r3) = v6
    replace hyp := hyp _ qv6.symm
    refine mf_istore_n (mf_dat eX12_glossMany 16 rfl) rfl (by decide) ?_
    refine mf_iinc (mf_dat eX12_glossMany 17 rfl) rfl (by decide) (by decide) ?_
    generalize qv7 : mf_w32 (x2 + 1) = v7
    replace hyp := hyp _ qv7.symm
    refine mf_goto (tgt := 4) (mf_dat eX12_glossMany 18 rfl) (by decide) ?_
    exact mf_sub [2, 1, 0] rfl (hyp g4 hG)
set_option maxRecDepth 100000 in
set_option maxHeartbeats 4000000 in
theorem wX12_glossMany {C : mf_G} {l : Launch} {d : Nat} {K : Int → mf_M → Prop} {h : mf_M} (hyp : BX12_glossMany_4 C l d K 0 0 h) : mM C l d YX12_glossMany [(2, 245)] h K := by
  intro g hG
  refine mf_entry (by decide) (Nat.le_of_ble_eq_true rfl) ?_
  refine mf_iconst (v := 0) (mf_dat eX12_glossMany 0 rfl) (by decide) ?_
  refine mf_istore_n (mf_dat eX12_glossMany 1 rfl) rfl (by decide) ?_
  refine mf_iconst (v := 0) (mf_dat eX12_glossMany 2 rfl) (by decide) ?_
  refine mf_istore_n (mf_dat eX12_glossMany 3 rfl) rfl (by decide) ?_
  exact mf_sub [2, 1, 0] rfl (hyp g hG)
abbrev BX12_pursesAll_4 (C : mf_G) (l : Launch) (d : Nat) (K : Int → mf_M → Prop) (x1 x2 : Int) (h : mf_M) : Prop := jM C l d YX12_pursesAll K 4 [(0, (2, 245)), (1, (0, x1)), (2, (0, x2))] [] h
set_option maxRecDepth 100000 in
set_option maxHeartbeats 4000000 in
theorem vX12_pursesAll_4 {C : mf_G} {l : Launch} {d : Nat} {K : Int → mf_M → Prop} {x1 x2 : Int} {h : mf_M} (hd : 1 ≤ d) (hyp : mM C l 0 YX12_beingMany [(2, 245)] h (fun r1 h3 => ((r1 ≤ x2 → K x1 h3) ∧ (¬ r1 ≤ x2 → mM C l 0 YX12_purseOf [(2, 245), (0, x2)] h3 (fun r4 h6 => (∀ v7 : Int, v7 = mf_w32 (x1 + r4) → (∀ v8 : Int, v8 = mf_w32 (x2 + 1) → BX12_pursesAll_4 C l d K v7 v8 h6))))))) : BX12_pursesAll_4 C l d K x1 x2 h := by
  intro g hG
  refine mf_iload_n (mf_dat eX12_pursesAll 4 rfl) rfl rfl ?_
  refine mf_aload_n (mf_dat eX12_pursesAll 5 rfl) rfl rfl ?_
  refine mf_callV (Yc := YX12_beingMany) (r := (RX12, TX12, 106)) (ci := 12) (mf_dat eX12_pursesAll 6 rfl) ml_X12_402 okX12_beingMany im_X12_beingMany sl_X12_beingMany rfl rfl rfl rfl (Nat.le_of_ble_eq_true rfl) (mf_rr (Nat.le_trans (by decide) hd) (Nat.le_refl _)) (Nat.le_refl _) is245 (hyp g hG) (fun r1 g2 h3 hyp => ?_)
  obtain ⟨hgg, hyp⟩ := hyp
  subst hgg
  refine mf_icmp_ge (tgt := 26) (mf_dat eX12_pursesAll 7 rfl) (by decide) (fun hc => ?_) (fun hc => ?_)
  · replace hyp := hyp.1 hc
    refine mf_iload_n (mf_dat eX12_pursesAll 16 rfl) rfl rfl ?_
    exact mf_ireturn (mf_dat eX12_pursesAll 17 rfl) rfl (Or.inl rfl) ⟨rfl, hyp⟩
  · replace hyp := hyp.2 hc
    refine mf_iload_n (mf_dat eX12_pursesAll 8 rfl) rfl rfl ?_
    refine mf_aload_n (mf_dat eX12_pursesAll 9 rfl) rfl rfl ?_
    refine mf_iload_n (mf_dat eX12_pursesAll 10 rfl) rfl rfl ?_
    refine mf_callV (Yc := YX12_purseOf) (r := (RX12, TX12, 106)) (ci := 12) (mf_dat eX12_pursesAll 11 rfl) ml_X12_445 okX12_purseOf im_X12_purseOf sl_X12_purseOf rfl rfl rfl rfl (Nat.le_of_ble_eq_true rfl) (mf_rr (Nat.le_trans (by decide) hd) (Nat.le_refl _)) (Nat.le_refl _) is245 (hyp g2 hG) (fun r4 g5 h6 hyp => ?_)
    obtain ⟨hgg, hyp⟩ := hyp
    subst hgg
    refine mf_iadd (mf_dat eX12_pursesAll 12 rfl) ?_
    generalize qv7 : mf_w32 (x1 + r4) = v7
    replace hyp := hyp _ qv7.symm
    refine mf_istore_n (mf_dat eX12_pursesAll 13 rfl) rfl (by decide) ?_
    refine mf_iinc (mf_dat eX12_pursesAll 14 rfl) rfl (by decide) (by decide) ?_
    generalize qv8 : mf_w32 (x2 + 1) = v8
    replace hyp := hyp _ qv8.symm
    refine mf_goto (tgt := 4) (mf_dat eX12_pursesAll 15 rfl) (by decide) ?_
    exact mf_sub [2, 1, 0] rfl (hyp g5 hG)
set_option maxRecDepth 100000 in
set_option maxHeartbeats 4000000 in
theorem wX12_pursesAll {C : mf_G} {l : Launch} {d : Nat} {K : Int → mf_M → Prop} {h : mf_M} (hyp : BX12_pursesAll_4 C l d K 0 0 h) : mM C l d YX12_pursesAll [(2, 245)] h K := by
  intro g hG
  refine mf_entry (by decide) (Nat.le_of_ble_eq_true rfl) ?_
  refine mf_iconst (v := 0) (mf_dat eX12_pursesAll 0 rfl) (by decide) ?_
  refine mf_istore_n (mf_dat eX12_pursesAll 1 rfl) rfl (by decide) ?_
  refine mf_iconst (v := 0) (mf_dat eX12_pursesAll 2 rfl) (by decide) ?_
  refine mf_istore_n (mf_dat eX12_pursesAll 3 rfl) rfl (by decide) ?_
  exact mf_sub [2, 1, 0] rfl (hyp g hG)
set_option maxRecDepth 100000 in
set_option maxHeartbeats 4000000 in
theorem wX12_has {C : mf_G} {l : Launch} {d : Nat} {K : Int → mf_M → Prop} {x1 : Int} {h : mf_M} (hd : 4 ≤ d) (hyp : ((x1 = 0 → 0 ≤ mf_w32 (2 + x1) ∧ mf_w32 (2 + x1) < 4 ∧ K (h 276 (mf_w32 (2 + x1))) h) ∧ (x1 = 1 → 0 ≤ mf_w32 (2 + x1) ∧ mf_w32 (2 + x1) < 4 ∧ K (h 276 (mf_w32 (2 + x1))) h) ∧ (x1 = 2 → mM C l 1 YX12_glossMany [(2, 245)] h (fun r5 h7 => K r5 h7)) ∧ (x1 = 3 → K (h 277 4) h) ∧ (x1 = 4 → mM C l 0 YX12_beingMany [(2, 245)] h (fun r8 h10 => K r8 h10)) ∧ (x1 = 5 → K (h 286 0) h) ∧ (x1 = 6 → mM C l 3 YX12_openingOn [(2, 245), (0, h 286 0)] h (fun r11 h13 => K r11 h13)) ∧ (x1 = 7 → mM C l 1 YX12_pursesAll [(2, 245)] h (fun r14 h16 => K r14 h16)) ∧ (x1 = 8 → K (h 286 39) h) ∧ (x1 = 9 → K (h 245 65) h) ∧ (x1 = 10 → K (h 245 69) h) ∧ ((x1 < 0 ∨ 10 < x1) → K (-1) h))) : mM C l d YX12_has [(2, 245), (0, x1)] h K := by
  intro g hG
  refine mf_entry (by decide) (Nat.le_of_ble_eq_true rfl) ?_
  refine mf_iload_n (mf_dat eX12_has 0 rfl) rfl rfl ?_
  refine mf_tsw1 (v := 0) (tgt := 60) (mf_dat eX12_has 1 rfl) (by decide) (by decide) (off := 59) (by decide) (by decide) (fun hc => ?_) (fun hc0 => ?_)
  · replace hyp := hyp.1 hc
    refine mf_aload_n (mf_dat eX12_has 2 rfl) rfl rfl ?_
    refine mf_getf (r := (RX12, TX12, 106)) (ci := 12) (k := 40) (t := 2) (v := 276) (mf_dat eX12_has 3 rfl) fl_X12_105 rfl (by decide) rfl (gm_40 hG) is245 ?_
    refine mf_iconst (v := 2) (mf_dat eX12_has 4 rfl) (by decide) ?_
    refine mf_iload_n (mf_dat eX12_has 5 rfl) rfl rfl ?_
    refine mf_iadd (mf_dat eX12_has 6 rfl) ?_
    obtain ⟨ck1, hyp⟩ := hyp
    obtain ⟨ck2, hyp⟩ := hyp
    refine mf_iald (mf_dat eX12_has 7 rfl) is276 len276 ck1 ck2 ?_
    exact mf_ireturn (mf_dat eX12_has 8 rfl) rfl (Or.inl rfl) ⟨rfl, hyp⟩
  replace hyp := hyp.2
  refine mf_tsw1 (v := 1) (tgt := 60) (mf_dat eX12_has 1 rfl) (by decide) (by decide) (off := 59) (by decide) (by decide) (fun hc => ?_) (fun hc1 => ?_)
  · replace hyp := hyp.1 hc
    refine mf_aload_n (mf_dat eX12_has 2 rfl) rfl rfl ?_
    refine mf_getf (r := (RX12, TX12, 106)) (ci := 12) (k := 40) (t := 2) (v := 276) (mf_dat eX12_has 3 rfl) fl_X12_105 rfl (by decide) rfl (gm_40 hG) is245 ?_
    refine mf_iconst (v := 2) (mf_dat eX12_has 4 rfl) (by decide) ?_
    refine mf_iload_n (mf_dat eX12_has 5 rfl) rfl rfl ?_
    refine mf_iadd (mf_dat eX12_has 6 rfl) ?_
    obtain ⟨ck3, hyp⟩ := hyp
    obtain ⟨ck4, hyp⟩ := hyp
    refine mf_iald (mf_dat eX12_has 7 rfl) is276 len276 ck3 ck4 ?_
    exact mf_ireturn (mf_dat eX12_has 8 rfl) rfl (Or.inl rfl) ⟨rfl, hyp⟩
  replace hyp := hyp.2
  refine mf_tsw1 (v := 2) (tgt := 69) (mf_dat eX12_has 1 rfl) (by decide) (by decide) (off := 68) (by decide) (by decide) (fun hc => ?_) (fun hc2 => ?_)
  · replace hyp := hyp.1 hc
    refine mf_aload_n (mf_dat eX12_has 9 rfl) rfl rfl ?_
    refine mf_callV (Yc := YX12_glossMany) (r := (RX12, TX12, 106)) (ci := 12) (mf_dat eX12_has 10 rfl) ml_X12_496 okX12_glossMany im_X12_glossMany sl_X12_glossMany rfl rfl rfl rfl (Nat.le_of_ble_eq_true rfl) (mf_rr (Nat.le_trans (by decide) hd) (Nat.le_refl _)) (Nat.le_refl _) is245 (hyp g hG) (fun r5 g6 h7 hyp => ?_)
    obtain ⟨hgg, hyp⟩ := hyp
    subst hgg
    exact mf_ireturn (mf_dat eX12_has 11 rfl) rfl (Or.inl rfl) ⟨rfl, hyp⟩
  replace hyp := hyp.2
  refine mf_tsw1 (v := 3) (tgt := 74) (mf_dat eX12_has 1 rfl) (by decide) (by decide) (off := 73) (by decide) (by decide) (fun hc => ?_) (fun hc3 => ?_)
  · replace hyp := hyp.1 hc
    refine mf_aload_n (mf_dat eX12_has 12 rfl) rfl rfl ?_
    refine mf_getf (r := (RX12, TX12, 106)) (ci := 12) (k := 41) (t := 2) (v := 277) (mf_dat eX12_has 13 rfl) fl_X12_108 rfl (by decide) rfl (gm_41 hG) is245 ?_
    refine mf_iconst (v := 4) (mf_dat eX12_has 14 rfl) (by decide) ?_
    refine mf_iald (mf_dat eX12_has 15 rfl) is277 len277 (by decide) (by decide) ?_
    exact mf_ireturn (mf_dat eX12_has 16 rfl) rfl (Or.inl rfl) ⟨rfl, hyp⟩
  replace hyp := hyp.2
  refine mf_tsw1 (v := 4) (tgt := 81) (mf_dat eX12_has 1 rfl) (by decide) (by decide) (off := 80) (by decide) (by decide) (fun hc => ?_) (fun hc4 => ?_)
  · replace hyp := hyp.1 hc
    refine mf_aload_n (mf_dat eX12_has 17 rfl) rfl rfl ?_
    refine mf_callV (Yc := YX12_beingMany) (r := (RX12, TX12, 106)) (ci := 12) (mf_dat eX12_has 18 rfl) ml_X12_402 okX12_beingMany im_X12_beingMany sl_X12_beingMany rfl rfl rfl rfl (Nat.le_of_ble_eq_true rfl) (mf_rr (Nat.le_trans (by decide) hd) (Nat.le_refl _)) (Nat.le_refl _) is245 (hyp g hG) (fun r8 g9 h10 hyp => ?_)
    obtain ⟨hgg, hyp⟩ := hyp
    subst hgg
    exact mf_ireturn (mf_dat eX12_has 19 rfl) rfl (Or.inl rfl) ⟨rfl, hyp⟩
  replace hyp := hyp.2
  refine mf_tsw1 (v := 5) (tgt := 86) (mf_dat eX12_has 1 rfl) (by decide) (by decide) (off := 85) (by decide) (by decide) (fun hc => ?_) (fun hc5 => ?_)
  · replace hyp := hyp.1 hc
    refine mf_aload_n (mf_dat eX12_has 20 rfl) rfl rfl ?_
    refine mf_getf (r := (RX12, TX12, 106)) (ci := 12) (k := 56) (t := 2) (v := 286) (mf_dat eX12_has 21 rfl) fl_X12_136 rfl (by decide) rfl (gm_56 hG) is245 ?_
    refine mf_iconst (v := 0) (mf_dat eX12_has 22 rfl) (by decide) ?_
    refine mf_iald (mf_dat eX12_has 23 rfl) is286 len286 (by decide) (by decide) ?_
    exact mf_ireturn (mf_dat eX12_has 24 rfl) rfl (Or.inl rfl) ⟨rfl, hyp⟩
  replace hyp := hyp.2
  refine mf_tsw1 (v := 6) (tgt := 93) (mf_dat eX12_has 1 rfl) (by decide) (by decide) (off := 92) (by decide) (by decide) (fun hc => ?_) (fun hc6 => ?_)
  · replace hyp := hyp.1 hc
    refine mf_aload_n (mf_dat eX12_has 25 rfl) rfl rfl ?_
    refine mf_aload_n (mf_dat eX12_has 26 rfl) rfl rfl ?_
    refine mf_getf (r := (RX12, TX12, 106)) (ci := 12) (k := 56) (t := 2) (v := 286) (mf_dat eX12_has 27 rfl) fl_X12_136 rfl (by decide) rfl (gm_56 hG) is245 ?_
    refine mf_iconst (v := 0) (mf_dat eX12_has 28 rfl) (by decide) ?_
    refine mf_iald (mf_dat eX12_has 29 rfl) is286 len286 (by decide) (by decide) ?_
    refine mf_callV (Yc := YX12_openingOn) (r := (RX12, TX12, 106)) (ci := 12) (mf_dat eX12_has 30 rfl) ml_X12_487 okX12_openingOn im_X12_openingOn sl_X12_openingOn rfl rfl rfl rfl (Nat.le_of_ble_eq_true rfl) (mf_rr (Nat.le_trans (by decide) hd) (Nat.le_refl _)) (Nat.le_refl _) is245 (hyp g hG) (fun r11 g12 h13 hyp => ?_)
    obtain ⟨hgg, hyp⟩ := hyp
    subst hgg
    exact mf_ireturn (mf_dat eX12_has 31 rfl) rfl (Or.inl rfl) ⟨rfl, hyp⟩
  replace hyp := hyp.2
  refine mf_tsw1 (v := 7) (tgt := 104) (mf_dat eX12_has 1 rfl) (by decide) (by decide) (off := 103) (by decide) (by decide) (fun hc => ?_) (fun hc7 => ?_)
  · replace hyp := hyp.1 hc
    refine mf_aload_n (mf_dat eX12_has 32 rfl) rfl rfl ?_
    refine mf_callV (Yc := YX12_pursesAll) (r := (RX12, TX12, 106)) (ci := 12) (mf_dat eX12_has 33 rfl) ml_X12_499 okX12_pursesAll im_X12_pursesAll sl_X12_pursesAll rfl rfl rfl rfl (Nat.le_of_ble_eq_true rfl) (mf_rr (Nat.le_trans (by decide) hd) (Nat.le_refl _)) (Nat.le_refl _) is245 (hyp g hG) (fun r14 g15 h16 hyp => ?_)
    obtain ⟨hgg, hyp⟩ := hyp
    subst hgg
    exact mf_ireturn (mf_dat eX12_has 34 rfl) rfl (Or.inl rfl) ⟨rfl, hyp⟩
  replace hyp := hyp.2
  refine mf_tsw1 (v := 8) (tgt := 109) (mf_dat eX12_has 1 rfl) (by decide) (by decide) (off := 108) (by decide) (by decide) (fun hc => ?_) (fun hc8 => ?_)
  · replace hyp := hyp.1 hc
    refine mf_aload_n (mf_dat eX12_has 35 rfl) rfl rfl ?_
    refine mf_getf (r := (RX12, TX12, 106)) (ci := 12) (k := 56) (t := 2) (v := 286) (mf_dat eX12_has 36 rfl) fl_X12_136 rfl (by decide) rfl (gm_56 hG) is245 ?_
    refine mf_bipush (v := 39) (mf_dat eX12_has 37 rfl) (by decide) ?_
    refine mf_iald (mf_dat eX12_has 38 rfl) is286 len286 (by decide) (by decide) ?_
    exact mf_ireturn (mf_dat eX12_has 39 rfl) rfl (Or.inl rfl) ⟨rfl, hyp⟩
  replace hyp := hyp.2
  refine mf_tsw1 (v := 9) (tgt := 117) (mf_dat eX12_has 1 rfl) (by decide) (by decide) (off := 116) (by decide) (by decide) (fun hc => ?_) (fun hc9 => ?_)
  · replace hyp := hyp.1 hc
    refine mf_aload_n (mf_dat eX12_has 40 rfl) rfl rfl ?_
    refine mf_getf (r := (RX12, TX12, 106)) (ci := 12) (k := 65) (t := 0) (v := h 245 65) (mf_dat eX12_has 41 rfl) fl_X12_399 rfl (by decide) rfl rfl is245 ?_
    exact mf_ireturn (mf_dat eX12_has 42 rfl) rfl (Or.inl rfl) ⟨rfl, hyp⟩
  replace hyp := hyp.2
  refine mf_tsw1 (v := 10) (tgt := 122) (mf_dat eX12_has 1 rfl) (by decide) (by decide) (off := 121) (by decide) (by decide) (fun hc => ?_) (fun hc10 => ?_)
  · replace hyp := hyp.1 hc
    refine mf_aload_n (mf_dat eX12_has 43 rfl) rfl rfl ?_
    refine mf_getf (r := (RX12, TX12, 106)) (ci := 12) (k := 69) (t := 0) (v := h 245 69) (mf_dat eX12_has 44 rfl) fl_X12_396 rfl (by decide) rfl rfl is245 ?_
    exact mf_ireturn (mf_dat eX12_has 45 rfl) rfl (Or.inl rfl) ⟨rfl, hyp⟩
  replace hyp := hyp.2
  refine mf_tswO (tgt := 127) (mf_dat eX12_has 1 rfl) (by omega) (by decide) ?_
  replace hyp := hyp (by omega)
  refine mf_iconst (v := (-1)) (mf_dat eX12_has 46 rfl) (by decide) ?_
  exact mf_ireturn (mf_dat eX12_has 47 rfl) rfl (Or.inl rfl) ⟨rfl, hyp⟩
abbrev BX12_letter_38 (C : mf_G) (l : Launch) (d : Nat) (K : Int → mf_M → Prop) (x2 x3 x5 x6 : Int) (h : mf_M) : Prop := jM C l d YX12_letter K 38 [(2, (0, x2)), (3, (1, x3)), (5, (0, x5)), (6, (1, x6))] [] h
abbrev BX12_letter_73 (C : mf_G) (l : Launch) (d : Nat) (K : Int → mf_M → Prop) (x2 x3 x6 : Int) (h : mf_M) : Prop := jM C l d YX12_letter K 73 [(2, (0, x2)), (3, (1, x3)), (6, (0, x6))] [] h
set_option maxRecDepth 100000 in
set_option maxHeartbeats 4000000 in
theorem vX12_letter_38 {C : mf_G} {l : Launch} {d : Nat} {K : Int → mf_M → Prop} {x2 x3 x5 x6 : Int} {h : mf_M} (hyp : ((x6 ≤ 0 → ((x2 < x5 → (∀ v1 : Int, v1 = mf_w32 (x5 - 1) → BX12_letter_73 C l d K x2 x3 v1 h)) ∧ (¬ x2 < x5 → K 0 h))) ∧ (¬ x6 ≤ 0 → (∀ v2 : Int, v2 = mf_w32 (x5 + 1) → (∀ v3 : Int, v3 = mf_w64 (x6.tdiv 27) → BX12_letter_38 C l d K x2 x3 v2 v3 h))))) : BX12_letter_38 C l d K x2 x3 x5 x6 h := by
  intro g hG
  refine mf_lload (mf_dat eX12_letter 23 rfl) rfl ?_
  refine mf_lconst (v := 0) (mf_dat eX12_letter 24 rfl) (by decide) ?_
  refine mf_lcmp_le (tgt := 59) (mf_dat eX12_letter 25 rfl) (mf_dat eX12_letter 26 rfl) (by decide) (fun hc => ?_) (fun hc => ?_)
  · replace hyp := hyp.1 hc
    refine mf_iload_n (mf_dat eX12_letter 33 rfl) rfl rfl ?_
    refine mf_iload (mf_dat eX12_letter 34 rfl) rfl ?_
    refine mf_icmp_lt (tgt := 67) (mf_dat eX12_letter 35 rfl) (by decide) (fun hc => ?_) (fun hc => ?_)
    · replace hyp := hyp.1 hc
      refine mf_iload (mf_dat eX12_letter 38 rfl) rfl ?_
      refine mf_iconst (v := 1) (mf_dat eX12_letter 39 rfl) (by decide) ?_
      refine mf_isub (mf_dat eX12_letter 40 rfl) ?_
      generalize qv1 : mf_w32 (x5 - 1) = v1
      replace hyp := hyp _ qv1.symm
      refine mf_istore (mf_dat eX12_letter 41 rfl) (by decide) ?_
      exact mf_sub [1, 2, 0] rfl (hyp g hG)
    · replace hyp := hyp.2 hc
      refine mf_iconst (v := 0) (mf_dat eX12_letter 36 rfl) (by decide) ?_
      exact mf_ireturn (mf_dat eX12_letter 37 rfl) rfl (Or.inl rfl) ⟨rfl, hyp⟩
  · replace hyp := hyp.2 hc
    refine mf_iinc (mf_dat eX12_letter 27 rfl) rfl (by decide) (by decide) ?_
    generalize qv2 : mf_w32 (x5 + 1) = v2
    replace hyp := hyp _ qv2.symm
    refine mf_lload (mf_dat eX12_letter 28 rfl) rfl ?_
    refine mf_ldc2 (v := 27) cl_X12_297 (mf_dat eX12_letter 29 rfl) (by decide) ?_
    refine mf_ldiv (mf_dat eX12_letter 30 rfl) (by decide) ?_
    generalize qv3 : mf_w64 (x6.tdiv 27) = v3
    replace hyp := hyp _ qv3.symm
    refine mf_lstore (mf_dat eX12_letter 31 rfl) (by decide) ?_
    refine mf_goto (tgt := 38) (mf_dat eX12_letter 32 rfl) (by decide) ?_
    exact mf_sub [2, 3, 1, 0] rfl (hyp g hG)
set_option maxRecDepth 100000 in
set_option maxHeartbeats 4000000 in
theorem vX12_letter_73 {C : mf_G} {l : Launch} {d : Nat} {K : Int → mf_M → Prop} {x2 x3 x6 : Int} {h : mf_M} (hyp : ((x6 ≤ x2 → K (mf_w32 (x3.tmod 27)) h) ∧ (¬ x6 ≤ x2 → (∀ v1 : Int, v1 = mf_w64 (x3.tdiv 27) → (∀ v2 : Int, v2 = mf_w32 (x6 + (-1)) → BX12_letter_73 C l d K x2 v1 v2 h))))) : BX12_letter_73 C l d K x2 x3 x6 h := by
  intro g hG
  refine mf_iload (mf_dat eX12_letter 42 rfl) rfl ?_
  refine mf_iload_n (mf_dat eX12_letter 43 rfl) rfl rfl ?_
  refine mf_icmp_le (tgt := 91) (mf_dat eX12_letter 44 rfl) (by decide) (fun hc => ?_) (fun hc => ?_)
  · replace hyp := hyp.1 hc
    refine mf_lload_n (mf_dat eX12_letter 51 rfl) rfl rfl ?_
    refine mf_ldc2 (v := 27) cl_X12_297 (mf_dat eX12_letter 52 rfl) (by decide) ?_
    refine mf_lrem (mf_dat eX12_letter 53 rfl) (by decide) ?_
    refine mf_l2i (mf_dat eX12_letter 54 rfl) ?_
    exact mf_ireturn (mf_dat eX12_letter 55 rfl) rfl (Or.inl rfl) ⟨rfl, hyp⟩
  · replace hyp := hyp.2 hc
    refine mf_lload_n (mf_dat eX12_letter 45 rfl) rfl rfl ?_
    refine mf_ldc2 (v := 27) cl_X12_297 (mf_dat eX12_letter 46 rfl) (by decide) ?_
    refine mf_ldiv (mf_dat eX12_letter 47 rfl) (by decide) ?_
    generalize qv1 : mf_w64 (x3.tdiv 27) = v1
    replace hyp := hyp _ qv1.symm
    refine mf_lstore_n (mf_dat eX12_letter 48 rfl) rfl (by decide) ?_
    refine mf_iinc (mf_dat eX12_letter 49 rfl) rfl (by decide) (by decide) ?_
    generalize qv2 : mf_w32 (x6 + (-1)) = v2
    replace hyp := hyp _ qv2.symm
    refine mf_goto (tgt := 73) (mf_dat eX12_letter 50 rfl) (by decide) ?_
    exact mf_sub [2, 1, 0] rfl (hyp g hG)
set_option maxRecDepth 100000 in
set_option maxHeartbeats 4000000 in
theorem wX12_letter {C : mf_G} {l : Launch} {d : Nat} {K : Int → mf_M → Prop} {x1 x2 : Int} {h : mf_M} (hd : 2 ≤ d) (hyp : mM C l 1 YX12_isBeing [(2, 245), (0, x1)] h (fun r1 h3 => ((r1 = 0 → K (-1) h3) ∧ (¬ r1 = 0 → mM C l 0 YX12_isIn [(1, x2), (1, 0), (1, 5)] h3 (fun r4 h6 => ((¬ r4 = 0 → 0 ≤ mf_w32 (8 + x1) ∧ mf_w32 (8 + x1) < 16 ∧ (∀ v9 : Int, v9 = h6 278 (mf_w32 (8 + x1)) → BX12_letter_38 C l d K x2 v9 0 v9 h6)) ∧ (r4 = 0 → K (-1) h6))))))) : mM C l d YX12_letter [(2, 245), (0, x1), (0, x2)] h K := by
  intro g hG
  refine mf_entry (by decide) (Nat.le_of_ble_eq_true rfl) ?_
  refine mf_aload_n (mf_dat eX12_letter 0 rfl) rfl rfl ?_
  refine mf_iload_n (mf_dat eX12_letter 1 rfl) rfl rfl ?_
  refine mf_callV (Yc := YX12_isBeing) (r := (RX12, TX12, 106)) (ci := 12) (mf_dat eX12_letter 2 rfl) ml_X12_502 okX12_isBeing im_X12_isBeing sl_X12_isBeing rfl rfl rfl rfl (Nat.le_of_ble_eq_true rfl) (mf_rr (Nat.le_trans (by decide) hd) (Nat.le_refl _)) (Nat.le_refl _) is245 (hyp g hG) (fun r1 g2 h3 hyp => ?_)
  obtain ⟨hgg, hyp⟩ := hyp
  subst hgg
  refine mf_if_eq (tgt := 20) (mf_dat eX12_letter 3 rfl) (by decide) (fun hc => ?_) (fun hc => ?_)
  · replace hyp := hyp.1 hc
    refine mf_iconst (v := (-1)) (mf_dat eX12_letter 10 rfl) (by decide) ?_
    exact mf_ireturn (mf_dat eX12_letter 11 rfl) rfl (Or.inl rfl) ⟨rfl, hyp⟩
  · replace hyp := hyp.2 hc
    refine mf_iload_n (mf_dat eX12_letter 4 rfl) rfl rfl ?_
    refine mf_i2l (mf_dat eX12_letter 5 rfl) ?_
    refine mf_lconst (v := 0) (mf_dat eX12_letter 6 rfl) (by decide) ?_
    refine mf_ldc2 (v := 5) cl_X12_505 (mf_dat eX12_letter 7 rfl) (by decide) ?_
    refine mf_callS (Yc := YX12_isIn) (mf_dat eX12_letter 8 rfl) ml_X12_286 okX12_isIn sm_X12_isIn rfl rfl (Nat.le_of_ble_eq_true rfl) (mf_rr (Nat.le_trans (by decide) hd) (Nat.le_refl _)) (Nat.le_refl _) (hyp g2 hG) (fun r4 g5 h6 hyp => ?_)
    obtain ⟨hgg, hyp⟩ := hyp
    subst hgg
    refine mf_if_ne (tgt := 22) (mf_dat eX12_letter 9 rfl) (by decide) (fun hc => ?_) (fun hc => ?_)
    · replace hyp := hyp.1 hc
      refine mf_aload_n (mf_dat eX12_letter 12 rfl) rfl rfl ?_
      refine mf_getf (r := (RX12, TX12, 106)) (ci := 12) (k := 42) (t := 2) (v := 278) (mf_dat eX12_letter 13 rfl) fl_X12_111 rfl (by decide) rfl (gm_42 hG) is245 ?_
      refine mf_bipush (v := 8) (mf_dat eX12_letter 14 rfl) (by decide) ?_
      refine mf_iload_n (mf_dat eX12_letter 15 rfl) rfl rfl ?_
      refine mf_iadd (mf_dat eX12_letter 16 rfl) ?_
      obtain ⟨ck7, hyp⟩ := hyp
      obtain ⟨ck8, hyp⟩ := hyp
      refine mf_lald (mf_dat eX12_letter 17 rfl) is278 len278 ck7 ck8 ?_
      generalize qv9 : h6 278 (mf_w32 (8 + x1)) = v9
      replace hyp := hyp _ qv9.symm
      refine mf_lstore_n (mf_dat eX12_letter 18 rfl) rfl (by decide) ?_
      refine mf_iconst (v := 0) (mf_dat eX12_letter 19 rfl) (by decide) ?_
      refine mf_istore (mf_dat eX12_letter 20 rfl) (by decide) ?_
      refine mf_lload_n (mf_dat eX12_letter 21 rfl) rfl rfl ?_
      refine mf_lstore (mf_dat eX12_letter 22 rfl) (by decide) ?_
      exact mf_sub [5, 2, 1, 0] rfl (hyp g5 hG)
    · replace hyp := hyp.2 hc
      refine mf_iconst (v := (-1)) (mf_dat eX12_letter 10 rfl) (by decide) ?_
      exact mf_ireturn (mf_dat eX12_letter 11 rfl) rfl (Or.inl rfl) ⟨rfl, hyp⟩
