set_option maxRecDepth 100000 in
set_option maxHeartbeats 4000000 in
theorem wX0_liesOpen {C : mf_G} {l : Launch} {d : Nat} {K : mf_Kt} {x0 x1 : Int} {g h : mf_M} (hyp : ((x1 = mf_w32 (x0 - 1) → K 1 g h) ∧ (¬ x1 = mf_w32 (x0 - 1) → ((¬ x1 = x0 → K 0 g h) ∧ (x1 = x0 → K 1 g h))))) : xM C l d YX0_liesOpen [(0, x0), (0, x1)] g h K := by
  intro hG
  refine mf_entry (by decide) (Nat.le_of_ble_eq_true rfl) ?_
  refine mf_iload_n (mf_dat eX0_liesOpen 0 rfl) rfl rfl ?_
  refine mf_iload_n (mf_dat eX0_liesOpen 1 rfl) rfl rfl ?_
  refine mf_iconst (v := 1) (mf_dat eX0_liesOpen 2 rfl) (by decide) ?_
  refine mf_isub (mf_dat eX0_liesOpen 3 rfl) ?_
  refine mf_icmp_eq (tgt := 12) (mf_dat eX0_liesOpen 4 rfl) (by decide) (fun hc => ?_) (fun hc => ?_)
  · replace hyp := hyp.1 hc
    refine mf_iconst (v := 1) (mf_dat eX0_liesOpen 8 rfl) (by decide) ?_
    refine mf_goto (tgt := 17) (mf_dat eX0_liesOpen 9 rfl) (by decide) ?_
    exact mf_ireturn (mf_dat eX0_liesOpen 11 rfl) rfl (Or.inr ⟨rfl, by decide⟩) ⟨hG, hyp⟩
  · replace hyp := hyp.2 hc
    refine mf_iload_n (mf_dat eX0_liesOpen 5 rfl) rfl rfl ?_
    refine mf_iload_n (mf_dat eX0_liesOpen 6 rfl) rfl rfl ?_
    refine mf_icmp_ne (tgt := 16) (mf_dat eX0_liesOpen 7 rfl) (by decide) (fun hc => ?_) (fun hc => ?_)
    · replace hyp := hyp.1 hc
      refine mf_iconst (v := 0) (mf_dat eX0_liesOpen 10 rfl) (by decide) ?_
      exact mf_ireturn (mf_dat eX0_liesOpen 11 rfl) rfl (Or.inr ⟨rfl, by decide⟩) ⟨hG, hyp⟩
    · replace hyp := hyp.2 hc
      refine mf_iconst (v := 1) (mf_dat eX0_liesOpen 8 rfl) (by decide) ?_
      refine mf_goto (tgt := 17) (mf_dat eX0_liesOpen 9 rfl) (by decide) ?_
      exact mf_ireturn (mf_dat eX0_liesOpen 11 rfl) rfl (Or.inr ⟨rfl, by decide⟩) ⟨hG, hyp⟩
set_option maxRecDepth 100000 in
set_option maxHeartbeats 4000000 in
theorem wX0_liesOnNext {C : mf_G} {l : Launch} {d : Nat} {K : mf_Kt} {x0 x1 x2 : Int} {g h : mf_M} (hd : 1 ≤ d) (hyp : ((x2 < 0 → K 0 g h) ∧ (¬ x2 < 0 → mf_is 319 x0 1 ∧ ((h x0 8 ≤ mf_w32 (x2 + 1) → K 0 g h) ∧ (¬ h x0 8 ≤ mf_w32 (x2 + 1) → xM C l 0 YX0_liesOpen [(0, x1), (0, x2)] g h (fun r2 g3 h4 => ((¬ r2 = 0 → K 0 g3 h4) ∧ (r2 = 0 → K 1 g3 h4)))))))) : xM C l d YX0_liesOnNext [(2, x0), (0, x1), (0, x2)] g h K := by
  intro hG
  refine mf_entry (by decide) (Nat.le_of_ble_eq_true rfl) ?_
  refine mf_iload_n (mf_dat eX0_liesOnNext 0 rfl) rfl rfl ?_
  refine mf_if_lt (tgt := 26) (mf_dat eX0_liesOnNext 1 rfl) (by decide) (fun hc => ?_) (fun hc => ?_)
  · replace hyp := hyp.1 hc
    refine mf_iconst (v := 0) (mf_dat eX0_liesOnNext 14 rfl) (by decide) ?_
    exact mf_ireturn (mf_dat eX0_liesOnNext 15 rfl) rfl (Or.inr ⟨rfl, by decide⟩) ⟨hG, hyp⟩
  · replace hyp := hyp.2 hc
    refine mf_iload_n (mf_dat eX0_liesOnNext 2 rfl) rfl rfl ?_
    refine mf_iconst (v := 1) (mf_dat eX0_liesOnNext 3 rfl) (by decide) ?_
    refine mf_iadd (mf_dat eX0_liesOnNext 4 rfl) ?_
    refine mf_aload_n (mf_dat eX0_liesOnNext 5 rfl) rfl rfl ?_
    obtain ⟨ck1, hyp⟩ := hyp
    refine mf_getf (r := (RX1, TX1, 14)) (ci := 1) (k := 8) (t := 0) (v := h x0 8) (mf_dat eX0_liesOnNext 6 rfl) fl_X0_18 rfl (by decide) rfl rfl ck1 ?_
    refine mf_icmp_ge (tgt := 26) (mf_dat eX0_liesOnNext 7 rfl) (by decide) (fun hc => ?_) (fun hc => ?_)
    · replace hyp := hyp.1 hc
      refine mf_iconst (v := 0) (mf_dat eX0_liesOnNext 14 rfl) (by decide) ?_
      exact mf_ireturn (mf_dat eX0_liesOnNext 15 rfl) rfl (Or.inr ⟨rfl, by decide⟩) ⟨hG, hyp⟩
    · replace hyp := hyp.2 hc
      refine mf_iload_n (mf_dat eX0_liesOnNext 8 rfl) rfl rfl ?_
      refine mf_iload_n (mf_dat eX0_liesOnNext 9 rfl) rfl rfl ?_
      refine mf_callS (Yc := YX0_liesOpen) (mf_dat eX0_liesOnNext 10 rfl) ml_X0_24 okX0_liesOpen sm_X0_liesOpen rfl rfl (Nat.le_of_ble_eq_true rfl) (mf_rr (Nat.le_trans (by decide) hd) (Nat.le_refl _)) (Nat.le_refl _) (hyp hG) (fun r2 g3 h4 hyp => ?_)
      obtain ⟨hG, hyp⟩ := hyp
      refine mf_if_ne (tgt := 26) (mf_dat eX0_liesOnNext 11 rfl) (by decide) (fun hc => ?_) (fun hc => ?_)
      · replace hyp := hyp.1 hc
        refine mf_iconst (v := 0) (mf_dat eX0_liesOnNext 14 rfl) (by decide) ?_
        exact mf_ireturn (mf_dat eX0_liesOnNext 15 rfl) rfl (Or.inr ⟨rfl, by decide⟩) ⟨hG, hyp⟩
      · replace hyp := hyp.2 hc
        refine mf_iconst (v := 1) (mf_dat eX0_liesOnNext 12 rfl) (by decide) ?_
        refine mf_goto (tgt := 27) (mf_dat eX0_liesOnNext 13 rfl) (by decide) ?_
        exact mf_ireturn (mf_dat eX0_liesOnNext 15 rfl) rfl (Or.inr ⟨rfl, by decide⟩) ⟨hG, hyp⟩
set_option maxRecDepth 100000 in
set_option maxHeartbeats 4000000 in
theorem wX0_meet {C : mf_G} {l : Launch} {d : Nat} {K : mf_Kt} {x0 x1 x2 x3 x4 : Int} {g h : mf_M} (hd : 2 ≤ d) (hyp : mf_is 319 x1 6 ∧ 0 ≤ x2 ∧ x2 < 8 ∧ 0 ≤ x3 ∧ x3 < 8 ∧ xM C l 0 YJ9_min_7cf53 [(0, h (x1 + 2) x2), (0, h (x1 + 2) x3)] g h (fun r6 g7 h8 => xM C l 0 YJ9_max_7cf53 [(0, h8 (x1 + 2) x2), (0, h8 (x1 + 2) x3)] g7 h8 (fun r9 g10 h11 => ((¬ r9 = mf_w32 (r6 + 1) → K 0 g10 h11) ∧ (r9 = mf_w32 (r6 + 1) → mf_is 319 x0 1 ∧ xM C l 0 YX1_mirror [(2, x0), (0, h11 (x1 + 3) x3)] g10 h11 (fun r12 g13 h14 => ((¬ h11 (x1 + 3) x2 = r12 → K 0 g13 h14) ∧ (h11 (x1 + 3) x2 = r12 → xM C l 1 YX0_liesOnNext [(2, x0), (0, x4), (0, r6)] g13 h14 (fun r16 g17 h18 => ((r16 = 0 → K 0 g17 h18) ∧ (¬ r16 = 0 → K 1 g17 h18))))))))))) : xM C l d YX0_meet [(2, x0), (2, x1), (0, x2), (0, x3), (0, x4)] g h K := by
  intro hG
  refine mf_entry (by decide) (Nat.le_of_ble_eq_true rfl) ?_
  refine mf_aload_n (mf_dat eX0_meet 0 rfl) rfl rfl ?_
  obtain ⟨ck1, hyp⟩ := hyp
  refine mf_getf (r := (RX6, TX6, 8)) (ci := 6) (k := 1) (t := 2) (v := x1 + 2) (mf_dat eX0_meet 1 rfl) fl_X0_28 rfl (by decide) rfl (gs_1 hG ck1) ck1 ?_
  refine mf_iload_n (mf_dat eX0_meet 2 rfl) rfl rfl ?_
  obtain ⟨ck2, hyp⟩ := hyp
  obtain ⟨ck3, hyp⟩ := hyp
  refine mf_iald (mf_dat eX0_meet 3 rfl) (st_is1 ck1) (st_len1 ck1) ck2 ck3 ?_
  refine mf_aload_n (mf_dat eX0_meet 4 rfl) rfl rfl ?_
  refine mf_getf (r := (RX6, TX6, 8)) (ci := 6) (k := 1) (t := 2) (v := x1 + 2) (mf_dat eX0_meet 5 rfl) fl_X0_28 rfl (by decide) rfl (gs_1 hG ck1) ck1 ?_
  refine mf_iload_n (mf_dat eX0_meet 6 rfl) rfl rfl ?_
  obtain ⟨ck4, hyp⟩ := hyp
  obtain ⟨ck5, hyp⟩ := hyp
  refine mf_iald (mf_dat eX0_meet 7 rfl) (st_is1 ck1) (st_len1 ck1) ck4 ck5 ?_
  refine mf_callS (Yc := YJ9_min_7cf53) (mf_dat eX0_meet 8 rfl) ml_X0_34 okJ9_min_7cf53 sm_J9_min_7cf53 rfl rfl (Nat.le_of_ble_eq_true rfl) (mf_rr (Nat.le_trans (by decide) hd) (Nat.le_refl _)) (Nat.le_refl _) (hyp hG) (fun r6 g7 h8 hyp => ?_)
  obtain ⟨hG, hyp⟩ := hyp
  refine mf_istore (mf_dat eX0_meet 9 rfl) (by decide) ?_
  refine mf_aload_n (mf_dat eX0_meet 10 rfl) rfl rfl ?_
  refine mf_getf (r := (RX6, TX6, 8)) (ci := 6) (k := 1) (t := 2) (v := x1 + 2) (mf_dat eX0_meet 11 rfl) fl_X0_28 rfl (by decide) rfl (gs_1 hG ck1) ck1 ?_
  refine mf_iload_n (mf_dat eX0_meet 12 rfl) rfl rfl ?_
  refine mf_iald (mf_dat eX0_meet 13 rfl) (st_is1 ck1) (st_len1 ck1) ck2 ck3 ?_
  refine mf_aload_n (mf_dat eX0_meet 14 rfl) rfl rfl ?_
  refine mf_getf (r := (RX6, TX6, 8)) (ci := 6) (k := 1) (t := 2) (v := x1 + 2) (mf_dat eX0_meet 15 rfl) fl_X0_28 rfl (by decide) rfl (gs_1 hG ck1) ck1 ?_
  refine mf_iload_n (mf_dat eX0_meet 16 rfl) rfl rfl ?_
  refine mf_iald (mf_dat eX0_meet 17 rfl) (st_is1 ck1) (st_len1 ck1) ck4 ck5 ?_
  refine mf_callS (Yc := YJ9_max_7cf53) (mf_dat eX0_meet 18 rfl) ml_X0_40 okJ9_max_7cf53 sm_J9_max_7cf53 rfl rfl (Nat.le_of_ble_eq_true rfl) (mf_rr (Nat.le_trans (by decide) hd) (Nat.le_refl _)) (Nat.le_refl _) (hyp hG) (fun r9 g10 h11 hyp => ?_)
  obtain ⟨hG, hyp⟩ := hyp
  refine mf_istore (mf_dat eX0_meet 19 rfl) (by decide) ?_
  refine mf_iload (mf_dat eX0_meet 20 rfl) rfl ?_
  refine mf_iload (mf_dat eX0_meet 21 rfl) rfl ?_
  refine mf_iconst (v := 1) (mf_dat eX0_meet 22 rfl) (by decide) ?_
  refine mf_iadd (mf_dat eX0_meet 23 rfl) ?_
  refine mf_icmp_ne (tgt := 77) (mf_dat eX0_meet 24 rfl) (by decide) (fun hc => ?_) (fun hc => ?_)
  · replace hyp := hyp.1 hc
    refine mf_iconst (v := 0) (mf_dat eX0_meet 43 rfl) (by decide) ?_
    exact mf_ireturn (mf_dat eX0_meet 44 rfl) rfl (Or.inr ⟨rfl, by decide⟩) ⟨hG, hyp⟩
  · replace hyp := hyp.2 hc
    refine mf_aload_n (mf_dat eX0_meet 25 rfl) rfl rfl ?_
    refine mf_getf (r := (RX6, TX6, 8)) (ci := 6) (k := 2) (t := 2) (v := x1 + 3) (mf_dat eX0_meet 26 rfl) fl_X0_43 rfl (by decide) rfl (gs_2 hG ck1) ck1 ?_
    refine mf_iload_n (mf_dat eX0_meet 27 rfl) rfl rfl ?_
    refine mf_iald (mf_dat eX0_meet 28 rfl) (st_is2 ck1) (st_len2 ck1) ck2 ck3 ?_
    refine mf_aload_n (mf_dat eX0_meet 29 rfl) rfl rfl ?_
    refine mf_aload_n (mf_dat eX0_meet 30 rfl) rfl rfl ?_
    refine mf_getf (r := (RX6, TX6, 8)) (ci := 6) (k := 2) (t := 2) (v := x1 + 3) (mf_dat eX0_meet 31 rfl) fl_X0_43 rfl (by decide) rfl (gs_2 hG ck1) ck1 ?_
    refine mf_iload_n (mf_dat eX0_meet 32 rfl) rfl rfl ?_
    refine mf_iald (mf_dat eX0_meet 33 rfl) (st_is2 ck1) (st_len2 ck1) ck4 ck5 ?_
    obtain ⟨ck15, hyp⟩ := hyp
    refine mf_callV (Yc := YX1_mirror) (r := (RX1, TX1, 14)) (ci := 1) (mf_dat eX0_meet 34 rfl) ml_X0_46 okX1_mirror im_X1_mirror sl_X1_mirror rfl rfl rfl rfl (Nat.le_of_ble_eq_true rfl) (mf_rr (Nat.le_trans (by decide) hd) (Nat.le_refl _)) (Nat.le_refl _) ck15 (hyp hG) (fun r12 g13 h14 hyp => ?_)
    obtain ⟨hG, hyp⟩ := hyp
    refine mf_icmp_ne (tgt := 77) (mf_dat eX0_meet 35 rfl) (by decide) (fun hc => ?_) (fun hc => ?_)
    · replace hyp := hyp.1 hc
      refine mf_iconst (v := 0) (mf_dat eX0_meet 43 rfl) (by decide) ?_
      exact mf_ireturn (mf_dat eX0_meet 44 rfl) rfl (Or.inr ⟨rfl, by decide⟩) ⟨hG, hyp⟩
    · replace hyp := hyp.2 hc
      refine mf_aload_n (mf_dat eX0_meet 36 rfl) rfl rfl ?_
      refine mf_iload (mf_dat eX0_meet 37 rfl) rfl ?_
      refine mf_iload (mf_dat eX0_meet 38 rfl) rfl ?_
      refine mf_callS (Yc := YX0_liesOnNext) (mf_dat eX0_meet 39 rfl) ml_X0_50 okX0_liesOnNext sm_X0_liesOnNext rfl rfl (Nat.le_of_ble_eq_true rfl) (mf_rr (Nat.le_trans (by decide) hd) (Nat.le_refl _)) (Nat.le_refl _) (hyp hG) (fun r16 g17 h18 hyp => ?_)
      obtain ⟨hG, hyp⟩ := hyp
      refine mf_if_eq (tgt := 77) (mf_dat eX0_meet 40 rfl) (by decide) (fun hc => ?_) (fun hc => ?_)
      · replace hyp := hyp.1 hc
        refine mf_iconst (v := 0) (mf_dat eX0_meet 43 rfl) (by decide) ?_
        exact mf_ireturn (mf_dat eX0_meet 44 rfl) rfl (Or.inr ⟨rfl, by decide⟩) ⟨hG, hyp⟩
      · replace hyp := hyp.2 hc
        refine mf_iconst (v := 1) (mf_dat eX0_meet 41 rfl) (by decide) ?_
        refine mf_goto (tgt := 78) (mf_dat eX0_meet 42 rfl) (by decide) ?_
        exact mf_ireturn (mf_dat eX0_meet 44 rfl) rfl (Or.inr ⟨rfl, by decide⟩) ⟨hG, hyp⟩
abbrev BX0_countPairs_5 (C : mf_G) (l : Launch) (d : Nat) (K : mf_Kt) (x0 x1 x2 x3 x4 : Int) (g h : mf_M) : Prop := jX C l d YX0_countPairs K 5 [(0, (2, x0)), (1, (2, x1)), (2, (0, x2)), (3, (0, x3)), (4, (0, x4))] [] g h
abbrev BX0_countPairs_20 (C : mf_G) (l : Launch) (d : Nat) (K : mf_Kt) (x0 x1 x2 x3 x4 x5 : Int) (g h : mf_M) : Prop := jX C l d YX0_countPairs K 20 [(0, (2, x0)), (1, (2, x1)), (2, (0, x2)), (3, (0, x3)), (4, (0, x4)), (5, (0, x5))] [] g h
set_option maxRecDepth 100000 in
set_option maxHeartbeats 4000000 in
theorem vX0_countPairs_5 {C : mf_G} {l : Launch} {d : Nat} {K : mf_Kt} {x0 x1 x2 x3 x4 : Int} {g h : mf_M} (hyp : mf_is 319 x0 1 ∧ ((h x0 12 ≤ x4 → K x3 g h) ∧ (¬ h x0 12 ≤ x4 → (∀ v2 : Int, v2 = mf_w32 (x4 + 1) → BX0_countPairs_20 C l d K x0 x1 x2 x3 x4 v2 g h)))) : BX0_countPairs_5 C l d K x0 x1 x2 x3 x4 g h := by
  intro hG
  refine mf_iload (mf_dat eX0_countPairs 4 rfl) rfl ?_
  refine mf_aload_n (mf_dat eX0_countPairs 5 rfl) rfl rfl ?_
  obtain ⟨ck1, hyp⟩ := hyp
  refine mf_getf (r := (RX1, TX1, 14)) (ci := 1) (k := 12) (t := 0) (v := h x0 12) (mf_dat eX0_countPairs 6 rfl) fl_X0_54 rfl (by decide) rfl rfl ck1 ?_
  refine mf_icmp_ge (tgt := 62) (mf_dat eX0_countPairs 7 rfl) (by decide) (fun hc => ?_) (fun hc => ?_)
  · replace hyp := hyp.1 hc
    refine mf_iload_n (mf_dat eX0_countPairs 33 rfl) rfl rfl ?_
    exact mf_ireturn (mf_dat eX0_countPairs 34 rfl) rfl (Or.inl rfl) ⟨hG, hyp⟩
  · replace hyp := hyp.2 hc
    refine mf_iload (mf_dat eX0_countPairs 8 rfl) rfl ?_
    refine mf_iconst (v := 1) (mf_dat eX0_countPairs 9 rfl) (by decide) ?_
    refine mf_iadd (mf_dat eX0_countPairs 10 rfl) ?_
    generalize qv2 : mf_w32 (x4 + 1) = v2
    replace hyp := hyp _ qv2.symm
    refine mf_istore (mf_dat eX0_countPairs 11 rfl) (by decide) ?_
    exact mf_sub [1, 2, 3, 4, 5, 0] rfl (hyp hG)
set_option maxRecDepth 100000 in
set_option maxHeartbeats 4000000 in
theorem vX0_countPairs_20 {C : mf_G} {l : Launch} {d : Nat} {K : mf_Kt} {x0 x1 x2 x3 x4 x5 : Int} {g h : mf_M} (hd : 3 ≤ d) (hyp : mf_is 319 x0 1 ∧ ((h x0 12 ≤ x5 → (∀ v2 : Int, v2 = mf_w32 (x4 + 1) → BX0_countPairs_5 C l d K x0 x1 x2 x3 v2 g h)) ∧ (¬ h x0 12 ≤ x5 → xM C l 2 YX0_meet [(2, x0), (2, x1), (0, x4), (0, x5), (0, x2)] g h (fun r3 g4 h5 => ((r3 = 0 → (∀ v6 : Int, v6 = mf_w32 (x3 + 0) → (∀ v7 : Int, v7 = mf_w32 (x5 + 1) → BX0_countPairs_20 C l d K x0 x1 x2 v6 x4 v7 g4 h5))) ∧ (¬ r3 = 0 → (∀ v8 : Int, v8 = mf_w32 (x3 + 1) → (∀ v9 : Int, v9 = mf_w32 (x5 + 1) → BX0_countPairs_20 C l d K x0 x1 x2 v8 x4 v9 g4 h5)))))))) : BX0_countPairs_20 C l d K x0 x1 x2 x3 x4 x5 g h := by
  intro hG
  refine mf_iload (mf_dat eX0_countPairs 12 rfl) rfl ?_
  refine mf_aload_n (mf_dat eX0_countPairs 13 rfl) rfl rfl ?_
  obtain ⟨ck1, hyp⟩ := hyp
  refine mf_getf (r := (RX1, TX1, 14)) (ci := 1) (k := 12) (t := 0) (v := h x0 12) (mf_dat eX0_countPairs 14 rfl) fl_X0_54 rfl (by decide) rfl rfl ck1 ?_
  refine mf_icmp_ge (tgt := 56) (mf_dat eX0_countPairs 15 rfl) (by decide) (fun hc => ?_) (fun hc => ?_)
  · replace hyp := hyp.1 hc
    refine mf_iinc (mf_dat eX0_countPairs 31 rfl) rfl (by decide) (by decide) ?_
    generalize qv2 : mf_w32 (x4 + 1) = v2
    replace hyp := hyp _ qv2.symm
    refine mf_goto (tgt := 5) (mf_dat eX0_countPairs 32 rfl) (by decide) ?_
    exact mf_sub [1, 2, 3, 4, 0] rfl (hyp hG)
  · replace hyp := hyp.2 hc
    refine mf_iload_n (mf_dat eX0_countPairs 16 rfl) rfl rfl ?_
    refine mf_aload_n (mf_dat eX0_countPairs 17 rfl) rfl rfl ?_
    refine mf_aload_n (mf_dat eX0_countPairs 18 rfl) rfl rfl ?_
    refine mf_iload (mf_dat eX0_countPairs 19 rfl) rfl ?_
    refine mf_iload (mf_dat eX0_countPairs 20 rfl) rfl ?_
    refine mf_iload_n (mf_dat eX0_countPairs 21 rfl) rfl rfl ?_
    refine mf_callS (Yc := YX0_meet) (mf_dat eX0_countPairs 22 rfl) ml_X0_57 okX0_meet sm_X0_meet rfl rfl (Nat.le_of_ble_eq_true rfl) (mf_rr (Nat.le_trans (by decide) hd) (Nat.le_refl _)) (Nat.le_refl _) (hyp hG) (fun r3 g4 h5 hyp => ?_)
    obtain ⟨hG, hyp⟩ := hyp
    refine mf_if_eq (tgt := 47) (mf_dat eX0_countPairs 23 rfl) (by decide) (fun hc => ?_) (fun hc => ?_)
    · replace hyp := hyp.1 hc
      refine mf_iconst (v := 0) (mf_dat eX0_countPairs 26 rfl) (by decide) ?_
      refine mf_iadd (mf_dat eX0_countPairs 27 rfl) ?_
      generalize qv6 : mf_w32 (x3 + 0) = v6
      replace hyp := hyp _ qv6.symm
      refine mf_istore_n (mf_dat eX0_countPairs 28 rfl) rfl (by decide) ?_
      refine mf_iinc (mf_dat eX0_countPairs 29 rfl) rfl (by decide) (by decide) ?_
      generalize qv7 : mf_w32 (x5 + 1) = v7
      replace hyp := hyp _ qv7.symm
      refine mf_goto (tgt := 20) (mf_dat eX0_countPairs 30 rfl) (by decide) ?_
      exact mf_sub [2, 3, 4, 1, 5, 0] rfl (hyp hG)
    · replace hyp := hyp.2 hc
      refine mf_iconst (v := 1) (mf_dat eX0_countPairs 24 rfl) (by decide) ?_
      refine mf_goto (tgt := 48) (mf_dat eX0_countPairs 25 rfl) (by decide) ?_
      refine mf_iadd (mf_dat eX0_countPairs 27 rfl) ?_
      generalize qv8 : mf_w32 (x3 + 1) = v8
      replace hyp := hyp _ qv8.symm
      refine mf_istore_n (mf_dat eX0_countPairs 28 rfl) rfl (by decide) ?_
      refine mf_iinc (mf_dat eX0_countPairs 29 rfl) rfl (by decide) (by decide) ?_
      generalize qv9 : mf_w32 (x5 + 1) = v9
      replace hyp := hyp _ qv9.symm
      refine mf_goto (tgt := 20) (mf_dat eX0_countPairs 30 rfl) (by decide) ?_
      exact mf_sub [2, 3, 4, 1, 5, 0] rfl (hyp hG)
set_option maxRecDepth 100000 in
set_option maxHeartbeats 4000000 in
theorem wX0_countPairs {C : mf_G} {l : Launch} {d : Nat} {K : mf_Kt} {x0 x1 x2 : Int} {g h : mf_M} (hyp : BX0_countPairs_5 C l d K x0 x1 x2 0 0 g h) : xM C l d YX0_countPairs [(2, x0), (2, x1), (0, x2)] g h K := by
  intro hG
  refine mf_entry (by decide) (Nat.le_of_ble_eq_true rfl) ?_
  refine mf_iconst (v := 0) (mf_dat eX0_countPairs 0 rfl) (by decide) ?_
  refine mf_istore_n (mf_dat eX0_countPairs 1 rfl) rfl (by decide) ?_
  refine mf_iconst (v := 0) (mf_dat eX0_countPairs 2 rfl) (by decide) ?_
  refine mf_istore (mf_dat eX0_countPairs 3 rfl) (by decide) ?_
  exact mf_sub [2, 3, 4, 1, 0] rfl (hyp hG)
set_option maxRecDepth 100000 in
set_option maxHeartbeats 4000000 in
theorem wX0_openingOf {C : mf_G} {l : Launch} {d : Nat} {K : mf_Kt} {x1 x2 : Int} {g h : mf_M} (hd : 4 ≤ d) (hyp : (∀ h1 : mf_M, h1 = mf_up h 48 0 x2 → mf_is 319 x1 1 ∧ xM C l 3 YX3_reckon [(2, 47), (2, x1 + 6), (0, 0)] g h1 (fun r3 g4 h5 => ((1 ≤ h5 x1 8 → xM C l 0 YJ9_floorMod_7cf53 [(0, r3), (0, mf_w32 ((h5 x1 8) + 1))] g4 h5 (fun r6 g7 h8 => K r6 g7 h8)) ∧ (¬ 1 ≤ h5 x1 8 → K 0 g4 h5))))) : xM C l d YX0_openingOf [(2, 46), (2, x1), (0, x2)] g h K := by
  intro hG
  refine mf_entry (by decide) (Nat.le_of_ble_eq_true rfl) ?_
  refine mf_aload_n (mf_dat eX0_openingOf 0 rfl) rfl rfl ?_
  refine mf_getf (r := (RX0, TX0, 1)) (ci := 0) (k := 0) (t := 2) (v := 47) (mf_dat eX0_openingOf 1 rfl) fl_X0_12 rfl (by decide) rfl (gx_46_0 hG) is46 ?_
  refine mf_getf (r := (RX3, TX3, 4)) (ci := 3) (k := 0) (t := 2) (v := 48) (mf_dat eX0_openingOf 2 rfl) fl_X0_61 rfl (by decide) rfl (gx_47_0 hG) is47 ?_
  refine mf_iconst (v := 0) (mf_dat eX0_openingOf 3 rfl) (by decide) ?_
  refine mf_iload_n (mf_dat eX0_openingOf 4 rfl) rfl rfl ?_
  refine mf_iast (mf_dat eX0_openingOf 5 rfl) is48 len48 (by decide) (by decide) ?_
  generalize qh1 : mf_up h 48 0 x2 = h1
  replace hyp := hyp _ qh1.symm
  refine mf_aload_n (mf_dat eX0_openingOf 6 rfl) rfl rfl ?_
  refine mf_getf (r := (RX0, TX0, 1)) (ci := 0) (k := 0) (t := 2) (v := 47) (mf_dat eX0_openingOf 7 rfl) fl_X0_12 rfl (by decide) rfl (gx_46_0 hG) is46 ?_
  refine mf_aload_n (mf_dat eX0_openingOf 8 rfl) rfl rfl ?_
  obtain ⟨ck2, hyp⟩ := hyp
  refine mf_getf (r := (RX1, TX1, 14)) (ci := 1) (k := 5) (t := 2) (v := x1 + 6) (mf_dat eX0_openingOf 9 rfl) fl_X0_66 rfl (by decide) rfl (gf_5 hG ck2) ck2 ?_
  refine mf_iconst (v := 0) (mf_dat eX0_openingOf 10 rfl) (by decide) ?_
  refine mf_callV (Yc := YX3_reckon) (r := (RX3, TX3, 4)) (ci := 3) (mf_dat eX0_openingOf 11 rfl) ml_X0_72 okX3_reckon im_X3_reckon sl_X3_reckon rfl rfl rfl rfl (Nat.le_of_ble_eq_true rfl) (mf_rr (Nat.le_trans (by decide) hd) (Nat.le_refl _)) (Nat.le_refl _) is47 (hyp hG) (fun r3 g4 h5 hyp => ?_)
  obtain ⟨hG, hyp⟩ := hyp
  refine mf_istore_n (mf_dat eX0_openingOf 12 rfl) rfl (by decide) ?_
  refine mf_aload_n (mf_dat eX0_openingOf 13 rfl) rfl rfl ?_
  refine mf_getf (r := (RX1, TX1, 14)) (ci := 1) (k := 8) (t := 0) (v := h5 x1 8) (mf_dat eX0_openingOf 14 rfl) fl_X0_18 rfl (by decide) rfl rfl ck2 ?_
  refine mf_iconst (v := 1) (mf_dat eX0_openingOf 15 rfl) (by decide) ?_
  refine mf_icmp_ge (tgt := 35) (mf_dat eX0_openingOf 16 rfl) (by decide) (fun hc => ?_) (fun hc => ?_)
  · replace hyp := hyp.1 hc
    refine mf_iload_n (mf_dat eX0_openingOf 19 rfl) rfl rfl ?_
    refine mf_aload_n (mf_dat eX0_openingOf 20 rfl) rfl rfl ?_
    refine mf_getf (r := (RX1, TX1, 14)) (ci := 1) (k := 8) (t := 0) (v := h5 x1 8) (mf_dat eX0_openingOf 21 rfl) fl_X0_18 rfl (by decide) rfl rfl ck2 ?_
    refine mf_iconst (v := 1) (mf_dat eX0_openingOf 22 rfl) (by decide) ?_
    refine mf_iadd (mf_dat eX0_openingOf 23 rfl) ?_
    refine mf_callS (Yc := YJ9_floorMod_7cf53) (mf_dat eX0_openingOf 24 rfl) ml_X0_76 okJ9_floorMod_7cf53 sm_J9_floorMod_7cf53 rfl rfl (Nat.le_of_ble_eq_true rfl) (mf_rr (Nat.le_trans (by decide) hd) (Nat.le_refl _)) (Nat.le_refl _) (hyp hG) (fun r6 g7 h8 hyp => ?_)
    obtain ⟨hG, hyp⟩ := hyp
    exact mf_ireturn (mf_dat eX0_openingOf 25 rfl) rfl (Or.inl rfl) ⟨hG, hyp⟩
  · replace hyp := hyp.2 hc
    refine mf_iconst (v := 0) (mf_dat eX0_openingOf 17 rfl) (by decide) ?_
    refine mf_goto (tgt := 45) (mf_dat eX0_openingOf 18 rfl) (by decide) ?_
    exact mf_ireturn (mf_dat eX0_openingOf 25 rfl) rfl (Or.inl rfl) ⟨hG, hyp⟩
abbrev BX0_passDay_6 (C : mf_G) (l : Launch) (d : Nat) (K : mf_Kt) (x1 x2 x3 x4 x5 : Int) (g h : mf_M) : Prop := jX C l d YX0_passDay K 6 [(0, (2, 46)), (1, (2, x1)), (2, (2, x2)), (3, (0, x3)), (4, (0, x4)), (5, (0, x5))] [] g h
abbrev BX0_passDay_21 (C : mf_G) (l : Launch) (d : Nat) (K : mf_Kt) (x1 x2 x3 x4 x5 x6 : Int) (g h : mf_M) : Prop := jX C l d YX0_passDay K 21 [(0, (2, 46)), (1, (2, x1)), (2, (2, x2)), (3, (0, x3)), (4, (0, x4)), (5, (0, x5)), (6, (0, x6))] [] g h
abbrev BX0_passDay_72 (C : mf_G) (l : Launch) (d : Nat) (K : mf_Kt) (x1 x2 x3 x4 x5 : Int) (g h : mf_M) : Prop := jX C l d YX0_passDay K 72 [(0, (2, 46)), (1, (2, x1)), (2, (2, x2)), (3, (0, x3)), (4, (0, x4)), (5, (0, x5))] [] g h
abbrev BX0_passDay_99 (C : mf_G) (l : Launch) (d : Nat) (K : mf_Kt) (x1 x2 x3 x4 x5 : Int) (g h : mf_M) : Prop := jX C l d YX0_passDay K 99 [(0, (2, 46)), (1, (2, x1)), (2, (2, x2)), (3, (0, x3)), (4, (0, x4)), (5, (0, x5))] [] g h
set_option maxRecDepth 100000 in
set_option maxHeartbeats 4000000 in
theorem vX0_passDay_6 {C : mf_G} {l : Launch} {d : Nat} {K : mf_Kt} {x1 x2 x3 x4 x5 : Int} {g h : mf_M} (hyp : mf_is 319 x1 1 ∧ ((h x1 12 ≤ x5 → BX0_passDay_72 C l d K x1 x2 x3 x4 0 g h) ∧ (¬ h x1 12 ≤ x5 → (∀ v2 : Int, v2 = mf_w32 (x5 + 1) → BX0_passDay_21 C l d K x1 x2 x3 x4 x5 v2 g h)))) : BX0_passDay_6 C l d K x1 x2 x3 x4 x5 g h := by
  intro hG
  refine mf_iload (mf_dat eX0_passDay_p0 4 rfl) rfl ?_
  refine mf_aload_n (mf_dat eX0_passDay_p0 5 rfl) rfl rfl ?_
  obtain ⟨ck1, hyp⟩ := hyp
  refine mf_getf (r := (RX1, TX1, 14)) (ci := 1) (k := 12) (t := 0) (v := h x1 12) (mf_dat eX0_passDay_p0 6 rfl) fl_X0_54 rfl (by decide) rfl rfl ck1 ?_
  refine mf_icmp_ge (tgt := 69) (mf_dat eX0_passDay_p0 7 rfl) (by decide) (fun hc => ?_) (fun hc => ?_)
  · replace hyp := hyp.1 hc
    refine mf_iconst (v := 0) (mf_dat eX0_passDay_p0 35 rfl) (by decide) ?_
    refine mf_istore (mf_dat eX0_passDay_p0 36 rfl) (by decide) ?_
    exact mf_sub [1, 2, 3, 4, 5, 0] rfl (hyp hG)
  · replace hyp := hyp.2 hc
    refine mf_iload (mf_dat eX0_passDay_p0 8 rfl) rfl ?_
    refine mf_iconst (v := 1) (mf_dat eX0_passDay_p0 9 rfl) (by decide) ?_
    refine mf_iadd (mf_dat eX0_passDay_p0 10 rfl) ?_
    generalize qv2 : mf_w32 (x5 + 1) = v2
    replace hyp := hyp _ qv2.symm
    refine mf_istore (mf_dat eX0_passDay_p0 11 rfl) (by decide) ?_
    exact mf_sub [1, 2, 3, 4, 5, 6, 0] rfl (hyp hG)
set_option maxRecDepth 100000 in
set_option maxHeartbeats 4000000 in
theorem vX0_passDay_21 {C : mf_G} {l : Launch} {d : Nat} {K : mf_Kt} {x1 x2 x3 x4 x5 x6 : Int} {g h : mf_M} (hd : 5 ≤ d) (hyp : mf_is 319 x1 1 ∧ ((h x1 12 ≤ x6 → (∀ v2 : Int, v2 = mf_w32 (x5 + 1) → BX0_passDay_6 C l d K x1 x2 x3 x4 v2 g h)) ∧ (¬ h x1 12 ≤ x6 → xM C l 2 YX0_meet [(2, x1), (2, x2), (0, x5), (0, x6), (0, x3)] g h (fun r3 g4 h5 => ((r3 = 0 → (∀ v6 : Int, v6 = mf_w32 (x6 + 1) → BX0_passDay_21 C l d K x1 x2 x3 x4 x5 v6 g4 h5)) ∧ (¬ r3 = 0 → (∀ v7 : Int, v7 = mf_w32 (x4 + 1) → xM C l 4 YX0_meetUp [(2, 46), (2, x1), (2, x2), (0, x5), (0, x6), (0, x3)] g4 h5 (fun r8 g9 h10 => (∀ v11 : Int, v11 = mf_w32 (x6 + 1) → BX0_passDay_21 C l d K x1 x2 x3 v7 x5 v11 g9 h10))))))))) : BX0_passDay_21 C l d K x1 x2 x3 x4 x5 x6 g h := by
  intro hG
  refine mf_iload (mf_dat eX0_passDay_p0 12 rfl) rfl ?_
  refine mf_aload_n (mf_dat eX0_passDay_p0 13 rfl) rfl rfl ?_
  obtain ⟨ck1, hyp⟩ := hyp
  refine mf_getf (r := (RX1, TX1, 14)) (ci := 1) (k := 12) (t := 0) (v := h x1 12) (mf_dat eX0_passDay_p0 14 rfl) fl_X0_54 rfl (by decide) rfl rfl ck1 ?_
  refine mf_icmp_ge (tgt := 63) (mf_dat eX0_passDay_p0 15 rfl) (by decide) (fun hc => ?_) (fun hc => ?_)
  · replace hyp := hyp.1 hc
    refine mf_iinc (mf_dat eX0_passDay_p0 33 rfl) rfl (by decide) (by decide) ?_
    generalize qv2 : mf_w32 (x5 + 1) = v2
    replace hyp := hyp _ qv2.symm
    refine mf_goto (tgt := 6) (mf_dat eX0_passDay_p0 34 rfl) (by decide) ?_
    exact mf_sub [1, 2, 3, 4, 5, 0] rfl (hyp hG)
  · replace hyp := hyp.2 hc
    refine mf_aload_n (mf_dat eX0_passDay_p0 16 rfl) rfl rfl ?_
    refine mf_aload_n (mf_dat eX0_passDay_p0 17 rfl) rfl rfl ?_
    refine mf_iload (mf_dat eX0_passDay_p0 18 rfl) rfl ?_
    refine mf_iload (mf_dat eX0_passDay_p0 19 rfl) rfl ?_
    refine mf_iload_n (mf_dat eX0_passDay_p0 20 rfl) rfl rfl ?_
    refine mf_callS (Yc := YX0_meet) (mf_dat eX0_passDay_p0 21 rfl) ml_X0_57 okX0_meet sm_X0_meet rfl rfl (Nat.le_of_ble_eq_true rfl) (mf_rr (Nat.le_trans (by decide) hd) (Nat.le_refl _)) (Nat.le_refl _) (hyp hG) (fun r3 g4 h5 hyp => ?_)
    obtain ⟨hG, hyp⟩ := hyp
    refine mf_if_eq (tgt := 57) (mf_dat eX0_passDay_p0 22 rfl) (by decide) (fun hc => ?_) (fun hc => ?_)
    · replace hyp := hyp.1 hc
      refine mf_iinc (mf_dat eX0_passDay_p0 31 rfl) rfl (by decide) (by decide) ?_
      generalize qv6 : mf_w32 (x6 + 1) = v6
      replace hyp := hyp _ qv6.symm
      refine mf_goto (tgt := 21) (mf_dat eX0_passDay_p0 32 rfl) (by decide) ?_
      exact mf_sub [1, 2, 3, 4, 5, 6, 0] rfl (hyp hG)
    · replace hyp := hyp.2 hc
      refine mf_iinc (mf_dat eX0_passDay_p0 23 rfl) rfl (by decide) (by decide) ?_
      generalize qv7 : mf_w32 (x4 + 1) = v7
      replace hyp := hyp _ qv7.symm
      refine mf_aload_n (mf_dat eX0_passDay_p0 24 rfl) rfl rfl ?_
      refine mf_aload_n (mf_dat eX0_passDay_p0 25 rfl) rfl rfl ?_
      refine mf_aload_n (mf_dat eX0_passDay_p0 26 rfl) rfl rfl ?_
      refine mf_iload (mf_dat eX0_passDay_p0 27 rfl) rfl ?_
      refine mf_iload (mf_dat eX0_passDay_p0 28 rfl) rfl ?_
      refine mf_iload_n (mf_dat eX0_passDay_p0 29 rfl) rfl rfl ?_
      refine mf_callV (Yc := YX0_meetUp) (r := (RX0, TX0, 1)) (ci := 0) (mf_dat eX0_passDay_p0 30 rfl) ml_X0_79 okX0_meetUp im_X0_meetUp sl_X0_meetUp rfl rfl rfl rfl (Nat.le_of_ble_eq_true rfl) (mf_rr (Nat.le_trans (by decide) hd) (Nat.le_refl _)) (Nat.le_refl _) is46 (hyp hG) (fun r8 g9 h10 hyp => ?_)
      obtain ⟨hG, hyp⟩ := hyp
      refine mf_iinc (mf_dat eX0_passDay_p0 31 rfl) rfl (by decide) (by decide) ?_
      generalize qv11 : mf_w32 (x6 + 1) = v11
      replace hyp := hyp _ qv11.symm
      refine mf_goto (tgt := 21) (mf_dat eX0_passDay_p0 32 rfl) (by decide) ?_
      exact mf_sub [2, 3, 4, 5, 1, 6, 0] rfl (hyp hG)
set_option maxRecDepth 100000 in
set_option maxHeartbeats 4000000 in
theorem vX0_passDay_72 {C : mf_G} {l : Launch} {d : Nat} {K : mf_Kt} {x1 x2 x3 x4 x5 : Int} {g h : mf_M} (hd : 5 ≤ d) (hyp : mf_is 319 x1 1 ∧ ((h x1 12 ≤ x5 → BX0_passDay_99 C l d K x1 x2 x3 x4 0 g h) ∧ (¬ h x1 12 ≤ x5 → xM C l 4 YX0_reap [(2, 46), (2, x1), (2, x2), (0, x5), (0, x3)] g h (fun r2 g3 h4 => (∀ v5 : Int, v5 = mf_w32 (x5 + 1) → BX0_passDay_72 C l d K x1 x2 x3 x4 v5 g3 h4))))) : BX0_passDay_72 C l d K x1 x2 x3 x4 x5 g h := by
  intro hG
  refine mf_iload (mf_dat eX0_passDay_p0 37 rfl) rfl ?_
  refine mf_aload_n (mf_dat eX0_passDay_p0 38 rfl) rfl rfl ?_
  obtain ⟨ck1, hyp⟩ := hyp
  refine mf_getf (r := (RX1, TX1, 14)) (ci := 1) (k := 12) (t := 0) (v := h x1 12) (mf_dat eX0_passDay_p0 39 rfl) fl_X0_54 rfl (by decide) rfl rfl ck1 ?_
  refine mf_icmp_ge (tgt := 96) (mf_dat eX0_passDay_p0 40 rfl) (by decide) (fun hc => ?_) (fun hc => ?_)
  · replace hyp := hyp.1 hc
    refine mf_iconst (v := 0) (mf_dat eX0_passDay_p0 49 rfl) (by decide) ?_
    refine mf_istore (mf_dat eX0_passDay_p0 50 rfl) (by decide) ?_
    exact mf_sub [1, 2, 3, 4, 5, 0] rfl (hyp hG)
  · replace hyp := hyp.2 hc
    refine mf_aload_n (mf_dat eX0_passDay_p0 41 rfl) rfl rfl ?_
    refine mf_aload_n (mf_dat eX0_passDay_p0 42 rfl) rfl rfl ?_
    refine mf_aload_n (mf_dat eX0_passDay_p0 43 rfl) rfl rfl ?_
    refine mf_iload (mf_dat eX0_passDay_p0 44 rfl) rfl ?_
    refine mf_iload_n (mf_dat eX0_passDay_p0 45 rfl) rfl rfl ?_
    refine mf_callV (Yc := YX0_reap) (r := (RX0, TX0, 1)) (ci := 0) (mf_dat eX0_passDay_p0 46 rfl) ml_X0_83 okX0_reap im_X0_reap sl_X0_reap rfl rfl rfl rfl (Nat.le_of_ble_eq_true rfl) (mf_rr (Nat.le_trans (by decide) hd) (Nat.le_refl _)) (Nat.le_refl _) is46 (hyp hG) (fun r2 g3 h4 hyp => ?_)
    obtain ⟨hG, hyp⟩ := hyp
    refine mf_iinc (mf_dat eX0_passDay_p0 47 rfl) rfl (by decide) (by decide) ?_
    generalize qv5 : mf_w32 (x5 + 1) = v5
    replace hyp := hyp _ qv5.symm
    refine mf_goto (tgt := 72) (mf_dat eX0_passDay_p0 48 rfl) (by decide) ?_
    exact mf_sub [1, 2, 3, 4, 5, 0] rfl (hyp hG)
set_option maxRecDepth 100000 in
set_option maxHeartbeats 4000000 in
theorem vX0_passDay_99 {C : mf_G} {l : Launch} {d : Nat} {K : mf_Kt} {x1 x2 x3 x4 x5 : Int} {g h : mf_M} (hd : 5 ≤ d) (hyp : mf_is 319 x1 1 ∧ ((h x1 12 ≤ x5 → mf_is 319 x2 6 ∧ (∀ h3 : mf_M, h3 = mf_up h x2 7 (mf_w32 ((h x2 7) + 1)) → K x4 g h3)) ∧ (¬ h x1 12 ≤ x5 → xM C l 4 YX0_stepOutward [(2, 46), (2, x1), (2, x2), (0, x5), (0, x3)] g h (fun r4 g5 h6 => (∀ v7 : Int, v7 = mf_w32 (x5 + 1) → BX0_passDay_99 C l d K x1 x2 x3 x4 v7 g5 h6))))) : BX0_passDay_99 C l d K x1 x2 x3 x4 x5 g h := by
  intro hG
  refine mf_iload (mf_dat eX0_passDay_p0 51 rfl) rfl ?_
  refine mf_aload_n (mf_dat eX0_passDay_p0 52 rfl) rfl rfl ?_
  obtain ⟨ck1, hyp⟩ := hyp
  refine mf_getf (r := (RX1, TX1, 14)) (ci := 1) (k := 12) (t := 0) (v := h x1 12) (mf_dat eX0_passDay_p0 53 rfl) fl_X0_54 rfl (by decide) rfl rfl ck1 ?_
  refine mf_icmp_ge (tgt := 123) (mf_dat eX0_passDay_p0 54 rfl) (by decide) (fun hc => ?_) (fun hc => ?_)
  · replace hyp := hyp.1 hc
    refine mf_aload_n (mf_dat eX0_passDay_p1 3 rfl) rfl rfl ?_
    refine mf_dup (mf_dat eX0_passDay_p1 4 rfl) (by decide) ?_
    obtain ⟨ck2, hyp⟩ := hyp
    refine mf_getf (r := (RX6, TX6, 8)) (ci := 6) (k := 7) (t := 0) (v := h x2 7) (mf_dat eX0_passDay_p1 5 rfl) fl_X0_90 rfl (by decide) rfl rfl ck2 ?_
    refine mf_iconst (v := 1) (mf_dat eX0_passDay_p1 6 rfl) (by decide) ?_
    refine mf_iadd (mf_dat eX0_passDay_p1 7 rfl) ?_
    refine mf_putI (r := (RX6, TX6, 8)) (ci := 6) (k := 7) (kI := 7) (t := 0) (mf_dat eX0_passDay_p1 8 rfl) fl_X0_90 rfl rfl (by decide) rfl (by decide) rfl (by decide) (fun h9 => absurd h9 (by decide)) ck2 ?_
    generalize qh3 : mf_up h x2 7 (mf_w32 ((h x2 7) + 1)) = h3
    replace hyp := hyp _ qh3.symm
    refine mf_iload (mf_dat eX0_passDay_p1 9 rfl) rfl ?_
    exact mf_ireturn (mf_dat eX0_passDay_p1 10 rfl) rfl (Or.inl rfl) ⟨hG, hyp⟩
  · replace hyp := hyp.2 hc
    refine mf_aload_n (mf_dat eX0_passDay_p0 55 rfl) rfl rfl ?_
    refine mf_aload_n (mf_dat eX0_passDay_p0 56 rfl) rfl rfl ?_
    refine mf_aload_n (mf_dat eX0_passDay_p0 57 rfl) rfl rfl ?_
    refine mf_iload (mf_dat eX0_passDay_p0 58 rfl) rfl ?_
    refine mf_iload_n (mf_dat eX0_passDay_p0 59 rfl) rfl rfl ?_
    refine mf_callV (Yc := YX0_stepOutward) (r := (RX0, TX0, 1)) (ci := 0) (mf_dat eX0_passDay_p1 0 rfl) ml_X0_87 okX0_stepOutward im_X0_stepOutward sl_X0_stepOutward rfl rfl rfl rfl (Nat.le_of_ble_eq_true rfl) (mf_rr (Nat.le_trans (by decide) hd) (Nat.le_refl _)) (Nat.le_refl _) is46 (hyp hG) (fun r4 g5 h6 hyp => ?_)
    obtain ⟨hG, hyp⟩ := hyp
    refine mf_iinc (mf_dat eX0_passDay_p1 1 rfl) rfl (by decide) (by decide) ?_
    generalize qv7 : mf_w32 (x5 + 1) = v7
    replace hyp := hyp _ qv7.symm
    refine mf_goto (tgt := 99) (mf_dat eX0_passDay_p1 2 rfl) (by decide) ?_
    exact mf_sub [1, 2, 3, 4, 5, 0] rfl (hyp hG)
set_option maxRecDepth 100000 in
set_option maxHeartbeats 4000000 in
theorem wX0_passDay {C : mf_G} {l : Launch} {d : Nat} {K : mf_Kt} {x1 x2 x3 : Int} {g h : mf_M} (hyp : BX0_passDay_6 C l d K x1 x2 x3 0 0 g h) : xM C l d YX0_passDay [(2, 46), (2, x1), (2, x2), (0, x3)] g h K := by
  intro hG
  refine mf_entry (by decide) (Nat.le_of_ble_eq_true rfl) ?_
  refine mf_iconst (v := 0) (mf_dat eX0_passDay_p0 0 rfl) (by decide) ?_
  refine mf_istore (mf_dat eX0_passDay_p0 1 rfl) (by decide) ?_
  refine mf_iconst (v := 0) (mf_dat eX0_passDay_p0 2 rfl) (by decide) ?_
  refine mf_istore (mf_dat eX0_passDay_p0 3 rfl) (by decide) ?_
  exact mf_sub [2, 3, 4, 5, 1, 0] rfl (hyp hG)
abbrev BX0_meetUp_103 (C : mf_G) (l : Launch) (d : Nat) (K : mf_Kt) (x2 x3 x4 x6 : Int) (g h : mf_M) : Prop := jX C l d YX0_meetUp K 103 [(2, (2, x2)), (3, (0, x3)), (4, (0, x4)), (6, (0, x6))] [] g h
abbrev BX0_meetUp_127 (C : mf_G) (l : Launch) (d : Nat) (K : mf_Kt) (x2 x6 x7 s0 : Int) (g h : mf_M) : Prop := jX C l d YX0_meetUp K 127 [(2, (2, x2)), (6, (0, x6)), (7, (0, x7))] [(0, s0)] g h
set_option maxRecDepth 100000 in
set_option maxHeartbeats 4000000 in
theorem vX0_meetUp_103 {C : mf_G} {l : Launch} {d : Nat} {K : mf_Kt} {x2 x3 x4 x6 : Int} {g h : mf_M} (hyp : ((0 ≤ x6 → ((0 ≤ x6 → BX0_meetUp_127 C l d K x2 x6 x3 x4 g h) ∧ (¬ 0 ≤ x6 → BX0_meetUp_127 C l d K x2 x6 x3 x3 g h))) ∧ (¬ 0 ≤ x6 → ((0 ≤ x6 → BX0_meetUp_127 C l d K x2 x6 x4 x4 g h) ∧ (¬ 0 ≤ x6 → BX0_meetUp_127 C l d K x2 x6 x4 x3 g h))))) : BX0_meetUp_103 C l d K x2 x3 x4 x6 g h := by
  intro hG
  refine mf_iload (mf_dat eX0_meetUp_p0 57 rfl) rfl ?_
  refine mf_if_ge (tgt := 113) (mf_dat eX0_meetUp_p0 58 rfl) (by decide) (fun hc => ?_) (fun hc => ?_)
  · replace hyp := hyp.1 hc
    refine mf_iload_n (mf_dat eX0_meetUp_p1 1 rfl) rfl rfl ?_
    refine mf_istore (mf_dat eX0_meetUp_p1 2 rfl) (by decide) ?_
    refine mf_iload (mf_dat eX0_meetUp_p1 3 rfl) rfl ?_
    refine mf_if_ge (tgt := 125) (mf_dat eX0_meetUp_p1 4 rfl) (by decide) (fun hc => ?_) (fun hc => ?_)
    · replace hyp := hyp.1 hc
      refine mf_iload (mf_dat eX0_meetUp_p1 7 rfl) rfl ?_
      exact mf_sub [1, 4, 0] rfl (hyp hG)
    · replace hyp := hyp.2 hc
      refine mf_iload_n (mf_dat eX0_meetUp_p1 5 rfl) rfl rfl ?_
      refine mf_goto (tgt := 127) (mf_dat eX0_meetUp_p1 6 rfl) (by decide) ?_
      exact mf_sub [1, 4, 0] rfl (hyp hG)
  · replace hyp := hyp.2 hc
    refine mf_iload (mf_dat eX0_meetUp_p0 59 rfl) rfl ?_
    refine mf_goto (tgt := 114) (mf_dat eX0_meetUp_p1 0 rfl) (by decide) ?_
    refine mf_istore (mf_dat eX0_meetUp_p1 2 rfl) (by decide) ?_
    refine mf_iload (mf_dat eX0_meetUp_p1 3 rfl) rfl ?_
    refine mf_if_ge (tgt := 125) (mf_dat eX0_meetUp_p1 4 rfl) (by decide) (fun hc => ?_) (fun hc => ?_)
    · replace hyp := hyp.1 hc
      refine mf_iload (mf_dat eX0_meetUp_p1 7 rfl) rfl ?_
      exact mf_sub [1, 4, 0] rfl (hyp hG)
    · replace hyp := hyp.2 hc
      refine mf_iload_n (mf_dat eX0_meetUp_p1 5 rfl) rfl rfl ?_
      refine mf_goto (tgt := 127) (mf_dat eX0_meetUp_p1 6 rfl) (by decide) ?_
      exact mf_sub [1, 4, 0] rfl (hyp hG)
set_option maxRecDepth 100000 in
set_option maxHeartbeats 4000000 in
theorem vX0_meetUp_127 {C : mf_G} {l : Launch} {d : Nat} {K : mf_Kt} {x2 x6 x7 s0 : Int} {g h : mf_M} (hd : 2 ≤ d) (hyp : xM C l 0 YJ9_abs_0f7a4 [(0, x6)] g h (fun r1 g2 h3 => mf_is 319 x2 6 ∧ 0 ≤ x7 ∧ x7 < 8 ∧ xM C l 0 YJ9_min_7cf53 [(0, r1), (0, h3 (x2 + 4) x7)] g2 h3 (fun r7 g8 h9 => xM C l 1 YX6_addPurse [(2, x2), (0, x7), (0, mf_w32 (-r7))] g8 h9 (fun r10 g11 h12 => xM C l 1 YX6_addPurse [(2, x2), (0, s0), (0, r7)] g11 h12 (fun r13 g14 h15 => K 0 g14 h15))))) : BX0_meetUp_127 C l d K x2 x6 x7 s0 g h := by
  intro hG
  refine mf_istore (mf_dat eX0_meetUp_p1 8 rfl) (by decide) ?_
  refine mf_iload (mf_dat eX0_meetUp_p1 9 rfl) rfl ?_
  refine mf_callS (Yc := YJ9_abs_0f7a4) (mf_dat eX0_meetUp_p1 10 rfl) ml_X0_110 okJ9_abs_0f7a4 sm_J9_abs_0f7a4 rfl rfl (Nat.le_of_ble_eq_true rfl) (mf_rr (Nat.le_trans (by decide) hd) (Nat.le_refl _)) (Nat.le_refl _) (hyp hG) (fun r1 g2 h3 hyp => ?_)
  obtain ⟨hG, hyp⟩ := hyp
  refine mf_aload_n (mf_dat eX0_meetUp_p1 11 rfl) rfl rfl ?_
  obtain ⟨ck4, hyp⟩ := hyp
  refine mf_getf (r := (RX6, TX6, 8)) (ci := 6) (k := 3) (t := 2) (v := x2 + 4) (mf_dat eX0_meetUp_p1 12 rfl) fl_X0_113 rfl (by decide) rfl (gs_3 hG ck4) ck4 ?_
  refine mf_iload (mf_dat eX0_meetUp_p1 13 rfl) rfl ?_
  obtain ⟨ck5, hyp⟩ := hyp
  obtain ⟨ck6, hyp⟩ := hyp
  refine mf_iald (mf_dat eX0_meetUp_p1 14 rfl) (st_is3 ck4) (st_len3 ck4) ck5 ck6 ?_
  refine mf_callS (Yc := YJ9_min_7cf53) (mf_dat eX0_meetUp_p1 15 rfl) ml_X0_34 okJ9_min_7cf53 sm_J9_min_7cf53 rfl rfl (Nat.le_of_ble_eq_true rfl) (mf_rr (Nat.le_trans (by decide) hd) (Nat.le_refl _)) (Nat.le_refl _) (hyp hG) (fun r7 g8 h9 hyp => ?_)
  obtain ⟨hG, hyp⟩ := hyp
  refine mf_istore (mf_dat eX0_meetUp_p1 16 rfl) (by decide) ?_
  refine mf_aload_n (mf_dat eX0_meetUp_p1 17 rfl) rfl rfl ?_
  refine mf_iload (mf_dat eX0_meetUp_p1 18 rfl) rfl ?_
  refine mf_iload (mf_dat eX0_meetUp_p1 19 rfl) rfl ?_
  refine mf_ineg (mf_dat eX0_meetUp_p1 20 rfl) ?_
  refine mf_callV (Yc := YX6_addPurse) (r := (RX6, TX6, 8)) (ci := 6) (mf_dat eX0_meetUp_p1 21 rfl) ml_X0_116 okX6_addPurse im_X6_addPurse sl_X6_addPurse rfl rfl rfl rfl (Nat.le_of_ble_eq_true rfl) (mf_rr (Nat.le_trans (by decide) hd) (Nat.le_refl _)) (Nat.le_refl _) ck4 (hyp hG) (fun r10 g11 h12 hyp => ?_)
  obtain ⟨hG, hyp⟩ := hyp
  refine mf_aload_n (mf_dat eX0_meetUp_p1 22 rfl) rfl rfl ?_
  refine mf_iload (mf_dat eX0_meetUp_p1 23 rfl) rfl ?_
  refine mf_iload (mf_dat eX0_meetUp_p1 24 rfl) rfl ?_
  refine mf_callV (Yc := YX6_addPurse) (r := (RX6, TX6, 8)) (ci := 6) (mf_dat eX0_meetUp_p1 25 rfl) ml_X0_116 okX6_addPurse im_X6_addPurse sl_X6_addPurse rfl rfl rfl rfl (Nat.le_of_ble_eq_true rfl) (mf_rr (Nat.le_trans (by decide) hd) (Nat.le_refl _)) (Nat.le_refl _) ck4 (hyp hG) (fun r13 g14 h15 hyp => ?_)
  obtain ⟨hG, hyp⟩ := hyp
  exact mf_return (mf_dat eX0_meetUp_p1 26 rfl) rfl ⟨hG, hyp⟩
set_option maxRecDepth 100000 in
set_option maxHeartbeats 4000000 in
theorem wX0_meetUp {C : mf_G} {l : Launch} {d : Nat} {K : mf_Kt} {x1 x2 x3 x4 x5 : Int} {g h : mf_M} (hd : 4 ≤ d) (hyp : mf_is 319 x2 6 ∧ 0 ≤ x3 ∧ x3 < 8 ∧ xM C l 0 YJ9_min_7cf53 [(0, 9999), (0, mf_w32 ((h (x2 + 5) x3) + 1))] g h (fun r4 g5 h6 => (∀ h7 : mf_M, h7 = mf_up h6 (x2 + 5) x3 r4 → 0 ≤ x4 ∧ x4 < 8 ∧ xM C l 0 YJ9_min_7cf53 [(0, 9999), (0, mf_w32 ((h7 (x2 + 5) x4) + 1))] g5 h7 (fun r10 g11 h12 => (∀ h13 : mf_M, h13 = mf_up h12 (x2 + 5) x4 r10 → xM C l 1 YX6_keep [(2, x2), (0, x3), (0, x4)] g11 h13 (fun r14 g15 h16 => mf_is 319 x1 1 ∧ xM C l 0 YX4_isTold [(2, x1 + 6), (0, 2)] g15 h16 (fun r18 g19 h20 => ((r18 = 0 → BX0_meetUp_103 C l d K x2 x3 x4 1 g19 h20) ∧ (¬ r18 = 0 → xM C l 1 YX0_setParts [(2, 46), (2, x1), (2, x2), (0, x3), (0, x5)] g19 h20 (fun r21 g22 h23 => (∀ h24 : mf_M, h24 = mf_up h23 48 6 (h23 (x1 + 5) x4) → xM C l 3 YX3_reckon [(2, 47), (2, x1 + 6), (0, 2)] g22 h24 (fun r25 g26 h27 => BX0_meetUp_103 C l d K x2 x3 x4 r25 g26 h27)))))))))))) : xM C l d YX0_meetUp [(2, 46), (2, x1), (2, x2), (0, x3), (0, x4), (0, x5)] g h K := by
  intro hG
  refine mf_entry (by decide) (Nat.le_of_ble_eq_true rfl) ?_
  refine mf_aload_n (mf_dat eX0_meetUp_p0 0 rfl) rfl rfl ?_
  obtain ⟨ck1, hyp⟩ := hyp
  refine mf_getf (r := (RX6, TX6, 8)) (ci := 6) (k := 4) (t := 2) (v := x2 + 5) (mf_dat eX0_meetUp_p0 1 rfl) fl_X0_93 rfl (by decide) rfl (gs_4 hG ck1) ck1 ?_
  refine mf_iload_n (mf_dat eX0_meetUp_p0 2 rfl) rfl rfl ?_
  refine mf_sipush (v := 9999) (mf_dat eX0_meetUp_p0 3 rfl) (by decide) ?_
  refine mf_aload_n (mf_dat eX0_meetUp_p0 4 rfl) rfl rfl ?_
  refine mf_getf (r := (RX6, TX6, 8)) (ci := 6) (k := 4) (t := 2) (v := x2 + 5) (mf_dat eX0_meetUp_p0 5 rfl) fl_X0_93 rfl (by decide) rfl (gs_4 hG ck1) ck1 ?_
  refine mf_iload_n (mf_dat eX0_meetUp_p0 6 rfl) rfl rfl ?_
  obtain ⟨ck2, hyp⟩ := hyp
  obtain ⟨ck3, hyp⟩ := hyp
  refine mf_iald (mf_dat eX0_meetUp_p0 7 rfl) (st_is4 ck1) (st_len4 ck1) ck2 ck3 ?_
  refine mf_iconst (v := 1) (mf_dat eX0_meetUp_p0 8 rfl) (by decide) ?_
  refine mf_iadd (mf_dat eX0_meetUp_p0 9 rfl) ?_
  refine mf_callS (Yc := YJ9_min_7cf53) (mf_dat eX0_meetUp_p0 10 rfl) ml_X0_34 okJ9_min_7cf53 sm_J9_min_7cf53 rfl rfl (Nat.le_of_ble_eq_true rfl) (mf_rr (Nat.le_trans (by decide) hd) (Nat.le_refl _)) (Nat.le_refl _) (hyp hG) (fun r4 g5 h6 hyp => ?_)
  obtain ⟨hG, hyp⟩ := hyp
  refine mf_iast (mf_dat eX0_meetUp_p0 11 rfl) (st_is4 ck1) (st_len4 ck1) ck2 ck3 ?_
  generalize qh7 : mf_up h6 (x2 + 5) x3 r4 = h7
  replace hyp := hyp _ qh7.symm
  refine mf_aload_n (mf_dat eX0_meetUp_p0 12 rfl) rfl rfl ?_
  refine mf_getf (r := (RX6, TX6, 8)) (ci := 6) (k := 4) (t := 2) (v := x2 + 5) (mf_dat eX0_meetUp_p0 13 rfl) fl_X0_93 rfl (by decide) rfl (gs_4 hG ck1) ck1 ?_
  refine mf_iload (mf_dat eX0_meetUp_p0 14 rfl) rfl ?_
  refine mf_sipush (v := 9999) (mf_dat eX0_meetUp_p0 15 rfl) (by decide) ?_
  refine mf_aload_n (mf_dat eX0_meetUp_p0 16 rfl) rfl rfl ?_
  refine mf_getf (r := (RX6, TX6, 8)) (ci := 6) (k := 4) (t := 2) (v := x2 + 5) (mf_dat eX0_meetUp_p0 17 rfl) fl_X0_93 rfl (by decide) rfl (gs_4 hG ck1) ck1 ?_
  refine mf_iload (mf_dat eX0_meetUp_p0 18 rfl) rfl ?_
  obtain ⟨ck8, hyp⟩ := hyp
  obtain ⟨ck9, hyp⟩ := hyp
  refine mf_iald (mf_dat eX0_meetUp_p0 19 rfl) (st_is4 ck1) (st_len4 ck1) ck8 ck9 ?_
  refine mf_iconst (v := 1) (mf_dat eX0_meetUp_p0 20 rfl) (by decide) ?_
  refine mf_iadd (mf_dat eX0_meetUp_p0 21 rfl) ?_
  refine mf_callS (Yc := YJ9_min_7cf53) (mf_dat eX0_meetUp_p0 22 rfl) ml_X0_34 okJ9_min_7cf53 sm_J9_min_7cf53 rfl rfl (Nat.le_of_ble_eq_true rfl) (mf_rr (Nat.le_trans (by decide) hd) (Nat.le_refl _)) (Nat.le_refl _) (hyp hG) (fun r10 g11 h12 hyp => ?_)
  obtain ⟨hG, hyp⟩ := hyp
  refine mf_iast (mf_dat eX0_meetUp_p0 23 rfl) (st_is4 ck1) (st_len4 ck1) ck8 ck9 ?_
  generalize qh13 : mf_up h12 (x2 + 5) x4 r10 = h13
  replace hyp := hyp _ qh13.symm
  refine mf_aload_n (mf_dat eX0_meetUp_p0 24 rfl) rfl rfl ?_
  refine mf_iload_n (mf_dat eX0_meetUp_p0 25 rfl) rfl rfl ?_
  refine mf_iload (mf_dat eX0_meetUp_p0 26 rfl) rfl ?_
  refine mf_callV (Yc := YX6_keep) (r := (RX6, TX6, 8)) (ci := 6) (mf_dat eX0_meetUp_p0 27 rfl) ml_X0_96 okX6_keep im_X6_keep sl_X6_keep rfl rfl rfl rfl (Nat.le_of_ble_eq_true rfl) (mf_rr (Nat.le_trans (by decide) hd) (Nat.le_refl _)) (Nat.le_refl _) ck1 (hyp hG) (fun r14 g15 h16 hyp => ?_)
  obtain ⟨hG, hyp⟩ := hyp
  refine mf_iconst (v := 1) (mf_dat eX0_meetUp_p0 28 rfl) (by decide) ?_
  refine mf_istore (mf_dat eX0_meetUp_p0 29 rfl) (by decide) ?_
  refine mf_aload_n (mf_dat eX0_meetUp_p0 30 rfl) rfl rfl ?_
  obtain ⟨ck17, hyp⟩ := hyp
  refine mf_getf (r := (RX1, TX1, 14)) (ci := 1) (k := 5) (t := 2) (v := x1 + 6) (mf_dat eX0_meetUp_p0 31 rfl) fl_X0_66 rfl (by decide) rfl (gf_5 hG ck17) ck17 ?_
  refine mf_iconst (v := 2) (mf_dat eX0_meetUp_p0 32 rfl) (by decide) ?_
  refine mf_callV (Yc := YX4_isTold) (r := (RX4, TX4, 5)) (ci := 4) (mf_dat eX0_meetUp_p0 33 rfl) ml_X0_100 okX4_isTold im_X4_isTold sl_X4_isTold rfl rfl rfl rfl (Nat.le_of_ble_eq_true rfl) (mf_rr (Nat.le_trans (by decide) hd) (Nat.le_refl _)) (Nat.le_refl _) (fo_is5 ck17) (hyp hG) (fun r18 g19 h20 hyp => ?_)
  obtain ⟨hG, hyp⟩ := hyp
  refine mf_if_eq (tgt := 103) (mf_dat eX0_meetUp_p0 34 rfl) (by decide) (fun hc => ?_) (fun hc => ?_)
  · replace hyp := hyp.1 hc
    exact mf_sub [3, 4, 5, 0] rfl (hyp hG)
  · replace hyp := hyp.2 hc
    refine mf_aload_n (mf_dat eX0_meetUp_p0 35 rfl) rfl rfl ?_
    refine mf_aload_n (mf_dat eX0_meetUp_p0 36 rfl) rfl rfl ?_
    refine mf_aload_n (mf_dat eX0_meetUp_p0 37 rfl) rfl rfl ?_
    refine mf_iload_n (mf_dat eX0_meetUp_p0 38 rfl) rfl rfl ?_
    refine mf_iload (mf_dat eX0_meetUp_p0 39 rfl) rfl ?_
    refine mf_callV (Yc := YX0_setParts) (r := (RX0, TX0, 1)) (ci := 0) (mf_dat eX0_meetUp_p0 40 rfl) ml_X0_104 okX0_setParts im_X0_setParts sl_X0_setParts rfl rfl rfl rfl (Nat.le_of_ble_eq_true rfl) (mf_rr (Nat.le_trans (by decide) hd) (Nat.le_refl _)) (Nat.le_refl _) is46 (hyp hG) (fun r21 g22 h23 hyp => ?_)
    obtain ⟨hG, hyp⟩ := hyp
    refine mf_aload_n (mf_dat eX0_meetUp_p0 41 rfl) rfl rfl ?_
    refine mf_getf (r := (RX0, TX0, 1)) (ci := 0) (k := 0) (t := 2) (v := 47) (mf_dat eX0_meetUp_p0 42 rfl) fl_X0_12 rfl (by decide) rfl (gx_46_0 hG) is46 ?_
    refine mf_getf (r := (RX3, TX3, 4)) (ci := 3) (k := 0) (t := 2) (v := 48) (mf_dat eX0_meetUp_p0 43 rfl) fl_X0_61 rfl (by decide) rfl (gx_47_0 hG) is47 ?_
    refine mf_bipush (v := 6) (mf_dat eX0_meetUp_p0 44 rfl) (by decide) ?_
    refine mf_aload_n (mf_dat eX0_meetUp_p0 45 rfl) rfl rfl ?_
    refine mf_getf (r := (RX1, TX1, 14)) (ci := 1) (k := 4) (t := 2) (v := x1 + 5) (mf_dat eX0_meetUp_p0 46 rfl) fl_X0_107 rfl (by decide) rfl (gf_4 hG ck17) ck17 ?_
    refine mf_iload (mf_dat eX0_meetUp_p0 47 rfl) rfl ?_
    refine mf_iald (mf_dat eX0_meetUp_p0 48 rfl) (fo_is4 ck17) (fo_len4 ck17) ck8 ck9 ?_
    refine mf_iast (mf_dat eX0_meetUp_p0 49 rfl) is48 len48 (by decide) (by decide) ?_
    generalize qh24 : mf_up h23 48 6 (h23 (x1 + 5) x4) = h24
    replace hyp := hyp _ qh24.symm
    refine mf_aload_n (mf_dat eX0_meetUp_p0 50 rfl) rfl rfl ?_
    refine mf_getf (r := (RX0, TX0, 1)) (ci := 0) (k := 0) (t := 2) (v := 47) (mf_dat eX0_meetUp_p0 51 rfl) fl_X0_12 rfl (by decide) rfl (gx_46_0 hG) is46 ?_
    refine mf_aload_n (mf_dat eX0_meetUp_p0 52 rfl) rfl rfl ?_
    refine mf_getf (r := (RX1, TX1, 14)) (ci := 1) (k := 5) (t := 2) (v := x1 + 6) (mf_dat eX0_meetUp_p0 53 rfl) fl_X0_66 rfl (by decide) rfl (gf_5 hG ck17) ck17 ?_
    refine mf_iconst (v := 2) (mf_dat eX0_meetUp_p0 54 rfl) (by decide) ?_
    refine mf_callV (Yc := YX3_reckon) (r := (RX3, TX3, 4)) (ci := 3) (mf_dat eX0_meetUp_p0 55 rfl) ml_X0_72 okX3_reckon im_X3_reckon sl_X3_reckon rfl rfl rfl rfl (Nat.le_of_ble_eq_true rfl) (mf_rr (Nat.le_trans (by decide) hd) (Nat.le_refl _)) (Nat.le_refl _) is47 (hyp hG) (fun r25 g26 h27 hyp => ?_)
    obtain ⟨hG, hyp⟩ := hyp
    refine mf_istore (mf_dat eX0_meetUp_p0 56 rfl) (by decide) ?_
    exact mf_sub [3, 4, 5, 0] rfl (hyp hG)
set_option maxRecDepth 100000 in
set_option maxHeartbeats 4000000 in
theorem wX0_reap {C : mf_G} {l : Launch} {d : Nat} {K : mf_Kt} {x1 x2 x3 x4 : Int} {g h : mf_M} (hd : 4 ≤ d) (hyp : mf_is 319 x2 6 ∧ 0 ≤ x3 ∧ x3 < 8 ∧ (∀ v4 : Int, v4 = h (x2 + 3) x3 → mf_is 319 x1 1 ∧ xM C l 0 YX4_isTold [(2, x1 + 6), (0, 1)] g h (fun r6 g7 h8 => ((r6 = 0 → xM C l 0 YJ9_min_7cf53 [(0, 99), (0, v4)] g7 h8 (fun r9 g10 h11 => xM C l 0 YJ9_max_7cf53 [(0, (-99)), (0, r9)] g10 h11 (fun r12 g13 h14 => xM C l 1 YX6_addPurse [(2, x2), (0, x3), (0, r12)] g13 h14 (fun r15 g16 h17 => K 0 g16 h17)))) ∧ (¬ r6 = 0 → xM C l 1 YX0_setParts [(2, 46), (2, x1), (2, x2), (0, x3), (0, x4)] g7 h8 (fun r18 g19 h20 => xM C l 3 YX3_reckon [(2, 47), (2, x1 + 6), (0, 1)] g19 h20 (fun r21 g22 h23 => xM C l 0 YJ9_min_7cf53 [(0, 99), (0, r21)] g22 h23 (fun r24 g25 h26 => xM C l 0 YJ9_max_7cf53 [(0, (-99)), (0, r24)] g25 h26 (fun r27 g28 h29 => xM C l 1 YX6_addPurse [(2, x2), (0, x3), (0, r27)] g28 h29 (fun r30 g31 h32 => K 0 g31 h32)))))))))) : xM C l d YX0_reap [(2, 46), (2, x1), (2, x2), (0, x3), (0, x4)] g h K := by
  intro hG
  refine mf_entry (by decide) (Nat.le_of_ble_eq_true rfl) ?_
  refine mf_aload_n (mf_dat eX0_reap 0 rfl) rfl rfl ?_
  obtain ⟨ck1, hyp⟩ := hyp
  refine mf_getf (r := (RX6, TX6, 8)) (ci := 6) (k := 2) (t := 2) (v := x2 + 3) (mf_dat eX0_reap 1 rfl) fl_X0_43 rfl (by decide) rfl (gs_2 hG ck1) ck1 ?_
  refine mf_iload_n (mf_dat eX0_reap 2 rfl) rfl rfl ?_
  obtain ⟨ck2, hyp⟩ := hyp
  obtain ⟨ck3, hyp⟩ := hyp
  refine mf_iald (mf_dat eX0_reap 3 rfl) (st_is2 ck1) (st_len2 ck1) ck2 ck3 ?_
  generalize qv4 : h (x2 + 3) x3 = v4
  replace hyp := hyp _ qv4.symm
  refine mf_istore (mf_dat eX0_reap 4 rfl) (by decide) ?_
  refine mf_aload_n (mf_dat eX0_reap 5 rfl) rfl rfl ?_
  obtain ⟨ck5, hyp⟩ := hyp
  refine mf_getf (r := (RX1, TX1, 14)) (ci := 1) (k := 5) (t := 2) (v := x1 + 6) (mf_dat eX0_reap 6 rfl) fl_X0_66 rfl (by decide) rfl (gf_5 hG ck5) ck5 ?_
  refine mf_iconst (v := 1) (mf_dat eX0_reap 7 rfl) (by decide) ?_
  refine mf_callV (Yc := YX4_isTold) (r := (RX4, TX4, 5)) (ci := 4) (mf_dat eX0_reap 8 rfl) ml_X0_100 okX4_isTold im_X4_isTold sl_X4_isTold rfl rfl rfl rfl (Nat.le_of_ble_eq_true rfl) (mf_rr (Nat.le_trans (by decide) hd) (Nat.le_refl _)) (Nat.le_refl _) (fo_is5 ck5) (hyp hG) (fun r6 g7 h8 hyp => ?_)
  obtain ⟨hG, hyp⟩ := hyp
  refine mf_if_eq (tgt := 42) (mf_dat eX0_reap 9 rfl) (by decide) (fun hc => ?_) (fun hc => ?_)
  · replace hyp := hyp.1 hc
    refine mf_aload_n (mf_dat eX0_reap 23 rfl) rfl rfl ?_
    refine mf_iload_n (mf_dat eX0_reap 24 rfl) rfl rfl ?_
    refine mf_bipush (v := (-99)) (mf_dat eX0_reap 25 rfl) (by decide) ?_
    refine mf_bipush (v := 99) (mf_dat eX0_reap 26 rfl) (by decide) ?_
    refine mf_iload (mf_dat eX0_reap 27 rfl) rfl ?_
    refine mf_callS (Yc := YJ9_min_7cf53) (mf_dat eX0_reap 28 rfl) ml_X0_34 okJ9_min_7cf53 sm_J9_min_7cf53 rfl rfl (Nat.le_of_ble_eq_true rfl) (mf_rr (Nat.le_trans (by decide) hd) (Nat.le_refl _)) (Nat.le_refl _) (hyp hG) (fun r9 g10 h11 hyp => ?_)
    obtain ⟨hG, hyp⟩ := hyp
    refine mf_callS (Yc := YJ9_max_7cf53) (mf_dat eX0_reap 29 rfl) ml_X0_40 okJ9_max_7cf53 sm_J9_max_7cf53 rfl rfl (Nat.le_of_ble_eq_true rfl) (mf_rr (Nat.le_trans (by decide) hd) (Nat.le_refl _)) (Nat.le_refl _) (hyp hG) (fun r12 g13 h14 hyp => ?_)
    obtain ⟨hG, hyp⟩ := hyp
    refine mf_callV (Yc := YX6_addPurse) (r := (RX6, TX6, 8)) (ci := 6) (mf_dat eX0_reap 30 rfl) ml_X0_116 okX6_addPurse im_X6_addPurse sl_X6_addPurse rfl rfl rfl rfl (Nat.le_of_ble_eq_true rfl) (mf_rr (Nat.le_trans (by decide) hd) (Nat.le_refl _)) (Nat.le_refl _) ck1 (hyp hG) (fun r15 g16 h17 hyp => ?_)
    obtain ⟨hG, hyp⟩ := hyp
    exact mf_return (mf_dat eX0_reap 31 rfl) rfl ⟨hG, hyp⟩
  · replace hyp := hyp.2 hc
    refine mf_aload_n (mf_dat eX0_reap 10 rfl) rfl rfl ?_
    refine mf_aload_n (mf_dat eX0_reap 11 rfl) rfl rfl ?_
    refine mf_aload_n (mf_dat eX0_reap 12 rfl) rfl rfl ?_
    refine mf_iload_n (mf_dat eX0_reap 13 rfl) rfl rfl ?_
    refine mf_iload (mf_dat eX0_reap 14 rfl) rfl ?_
    refine mf_callV (Yc := YX0_setParts) (r := (RX0, TX0, 1)) (ci := 0) (mf_dat eX0_reap 15 rfl) ml_X0_104 okX0_setParts im_X0_setParts sl_X0_setParts rfl rfl rfl rfl (Nat.le_of_ble_eq_true rfl) (mf_rr (Nat.le_trans (by decide) hd) (Nat.le_refl _)) (Nat.le_refl _) is46 (hyp hG) (fun r18 g19 h20 hyp => ?_)
    obtain ⟨hG, hyp⟩ := hyp
    refine mf_aload_n (mf_dat eX0_reap 16 rfl) rfl rfl ?_
    refine mf_getf (r := (RX0, TX0, 1)) (ci := 0) (k := 0) (t := 2) (v := 47) (mf_dat eX0_reap 17 rfl) fl_X0_12 rfl (by decide) rfl (gx_46_0 hG) is46 ?_
    refine mf_aload_n (mf_dat eX0_reap 18 rfl) rfl rfl ?_
    refine mf_getf (r := (RX1, TX1, 14)) (ci := 1) (k := 5) (t := 2) (v := x1 + 6) (mf_dat eX0_reap 19 rfl) fl_X0_66 rfl (by decide) rfl (gf_5 hG ck5) ck5 ?_
    refine mf_iconst (v := 1) (mf_dat eX0_reap 20 rfl) (by decide) ?_
    refine mf_callV (Yc := YX3_reckon) (r := (RX3, TX3, 4)) (ci := 3) (mf_dat eX0_reap 21 rfl) ml_X0_72 okX3_reckon im_X3_reckon sl_X3_reckon rfl rfl rfl rfl (Nat.le_of_ble_eq_true rfl) (mf_rr (Nat.le_trans (by decide) hd) (Nat.le_refl _)) (Nat.le_refl _) is47 (hyp hG) (fun r21 g22 h23 hyp => ?_)
    obtain ⟨hG, hyp⟩ := hyp
    refine mf_istore (mf_dat eX0_reap 22 rfl) (by decide) ?_
    refine mf_aload_n (mf_dat eX0_reap 23 rfl) rfl rfl ?_
    refine mf_iload_n (mf_dat eX0_reap 24 rfl) rfl rfl ?_
    refine mf_bipush (v := (-99)) (mf_dat eX0_reap 25 rfl) (by decide) ?_
    refine mf_bipush (v := 99) (mf_dat eX0_reap 26 rfl) (by decide) ?_
    refine mf_iload (mf_dat eX0_reap 27 rfl) rfl ?_
    refine mf_callS (Yc := YJ9_min_7cf53) (mf_dat eX0_reap 28 rfl) ml_X0_34 okJ9_min_7cf53 sm_J9_min_7cf53 rfl rfl (Nat.le_of_ble_eq_true rfl) (mf_rr (Nat.le_trans (by decide) hd) (Nat.le_refl _)) (Nat.le_refl _) (hyp hG) (fun r24 g25 h26 hyp => ?_)
    obtain ⟨hG, hyp⟩ := hyp
    refine mf_callS (Yc := YJ9_max_7cf53) (mf_dat eX0_reap 29 rfl) ml_X0_40 okJ9_max_7cf53 sm_J9_max_7cf53 rfl rfl (Nat.le_of_ble_eq_true rfl) (mf_rr (Nat.le_trans (by decide) hd) (Nat.le_refl _)) (Nat.le_refl _) (hyp hG) (fun r27 g28 h29 hyp => ?_)
    obtain ⟨hG, hyp⟩ := hyp
    refine mf_callV (Yc := YX6_addPurse) (r := (RX6, TX6, 8)) (ci := 6) (mf_dat eX0_reap 30 rfl) ml_X0_116 okX6_addPurse im_X6_addPurse sl_X6_addPurse rfl rfl rfl rfl (Nat.le_of_ble_eq_true rfl) (mf_rr (Nat.le_trans (by decide) hd) (Nat.le_refl _)) (Nat.le_refl _) ck1 (hyp hG) (fun r30 g31 h32 hyp => ?_)
    obtain ⟨hG, hyp⟩ := hyp
    exact mf_return (mf_dat eX0_reap 31 rfl) rfl ⟨hG, hyp⟩
set_option maxRecDepth 100000 in
set_option maxHeartbeats 4000000 in
theorem wX0_stepOutward {C : mf_G} {l : Launch} {d : Nat} {K : mf_Kt} {x1 x2 x3 x4 : Int} {g h : mf_M} (hd : 4 ≤ d) (hyp : mf_is 319 x2 6 ∧ 0 ≤ x3 ∧ x3 < 8 ∧ (∀ v4 : Int, v4 = mf_w32 ((h (x2 + 3) x3) + 1) → mf_is 319 x1 1 ∧ ((h x1 9 ≤ v4 → K 0 g h) ∧ (¬ h x1 9 ≤ v4 → xM C l 1 YX6_isFree [(2, x2), (0, h (x2 + 2) x3), (0, v4), (0, h x1 12)] g h (fun r6 g7 h8 => ((¬ r6 = 0 → xM C l 1 YX0_setParts [(2, 46), (2, x1), (2, x2), (0, x3), (0, x4)] g7 h8 (fun r9 g10 h11 => xM C l 3 YX3_reckon [(2, 47), (2, x1 + 6), (0, 3)] g10 h11 (fun r12 g13 h14 => ((r12 = 0 → K 0 g13 h14) ∧ (¬ r12 = 0 → (∀ h15 : mf_M, h15 = mf_up h14 (x2 + 3) x3 v4 → K 0 g13 h15)))))) ∧ (r6 = 0 → K 0 g7 h8))))))) : xM C l d YX0_stepOutward [(2, 46), (2, x1), (2, x2), (0, x3), (0, x4)] g h K := by
  intro hG
  refine mf_entry (by decide) (Nat.le_of_ble_eq_true rfl) ?_
  refine mf_aload_n (mf_dat eX0_stepOutward 0 rfl) rfl rfl ?_
  obtain ⟨ck1, hyp⟩ := hyp
  refine mf_getf (r := (RX6, TX6, 8)) (ci := 6) (k := 2) (t := 2) (v := x2 + 3) (mf_dat eX0_stepOutward 1 rfl) fl_X0_43 rfl (by decide) rfl (gs_2 hG ck1) ck1 ?_
  refine mf_iload_n (mf_dat eX0_stepOutward 2 rfl) rfl rfl ?_
  obtain ⟨ck2, hyp⟩ := hyp
  obtain ⟨ck3, hyp⟩ := hyp
  refine mf_iald (mf_dat eX0_stepOutward 3 rfl) (st_is2 ck1) (st_len2 ck1) ck2 ck3 ?_
  refine mf_iconst (v := 1) (mf_dat eX0_stepOutward 4 rfl) (by decide) ?_
  refine mf_iadd (mf_dat eX0_stepOutward 5 rfl) ?_
  generalize qv4 : mf_w32 ((h (x2 + 3) x3) + 1) = v4
  replace hyp := hyp _ qv4.symm
  refine mf_istore (mf_dat eX0_stepOutward 6 rfl) (by decide) ?_
  refine mf_iload (mf_dat eX0_stepOutward 7 rfl) rfl ?_
  refine mf_aload_n (mf_dat eX0_stepOutward 8 rfl) rfl rfl ?_
  obtain ⟨ck5, hyp⟩ := hyp
  refine mf_getf (r := (RX1, TX1, 14)) (ci := 1) (k := 9) (t := 0) (v := h x1 9) (mf_dat eX0_stepOutward 9 rfl) fl_X0_119 rfl (by decide) rfl rfl ck5 ?_
  refine mf_icmp_ge (tgt := 38) (mf_dat eX0_stepOutward 10 rfl) (by decide) (fun hc => ?_) (fun hc => ?_)
  · replace hyp := hyp.1 hc
    exact mf_return (mf_dat eX0_stepOutward 21 rfl) rfl ⟨hG, hyp⟩
  · replace hyp := hyp.2 hc
    refine mf_aload_n (mf_dat eX0_stepOutward 11 rfl) rfl rfl ?_
    refine mf_aload_n (mf_dat eX0_stepOutward 12 rfl) rfl rfl ?_
    refine mf_getf (r := (RX6, TX6, 8)) (ci := 6) (k := 1) (t := 2) (v := x2 + 2) (mf_dat eX0_stepOutward 13 rfl) fl_X0_28 rfl (by decide) rfl (gs_1 hG ck1) ck1 ?_
    refine mf_iload_n (mf_dat eX0_stepOutward 14 rfl) rfl rfl ?_
    refine mf_iald (mf_dat eX0_stepOutward 15 rfl) (st_is1 ck1) (st_len1 ck1) ck2 ck3 ?_
    refine mf_iload (mf_dat eX0_stepOutward 16 rfl) rfl ?_
    refine mf_aload_n (mf_dat eX0_stepOutward 17 rfl) rfl rfl ?_
    refine mf_getf (r := (RX1, TX1, 14)) (ci := 1) (k := 12) (t := 0) (v := h x1 12) (mf_dat eX0_stepOutward 18 rfl) fl_X0_54 rfl (by decide) rfl rfl ck5 ?_
    refine mf_callV (Yc := YX6_isFree) (r := (RX6, TX6, 8)) (ci := 6) (mf_dat eX0_stepOutward 19 rfl) ml_X0_122 okX6_isFree im_X6_isFree sl_X6_isFree rfl rfl rfl rfl (Nat.le_of_ble_eq_true rfl) (mf_rr (Nat.le_trans (by decide) hd) (Nat.le_refl _)) (Nat.le_refl _) ck1 (hyp hG) (fun r6 g7 h8 hyp => ?_)
    obtain ⟨hG, hyp⟩ := hyp
    refine mf_if_ne (tgt := 39) (mf_dat eX0_stepOutward 20 rfl) (by decide) (fun hc => ?_) (fun hc => ?_)
    · replace hyp := hyp.1 hc
      refine mf_aload_n (mf_dat eX0_stepOutward 22 rfl) rfl rfl ?_
      refine mf_aload_n (mf_dat eX0_stepOutward 23 rfl) rfl rfl ?_
      refine mf_aload_n (mf_dat eX0_stepOutward 24 rfl) rfl rfl ?_
      refine mf_iload_n (mf_dat eX0_stepOutward 25 rfl) rfl rfl ?_
      refine mf_iload (mf_dat eX0_stepOutward 26 rfl) rfl ?_
      refine mf_callV (Yc := YX0_setParts) (r := (RX0, TX0, 1)) (ci := 0) (mf_dat eX0_stepOutward 27 rfl) ml_X0_104 okX0_setParts im_X0_setParts sl_X0_setParts rfl rfl rfl rfl (Nat.le_of_ble_eq_true rfl) (mf_rr (Nat.le_trans (by decide) hd) (Nat.le_refl _)) (Nat.le_refl _) is46 (hyp hG) (fun r9 g10 h11 hyp => ?_)
      obtain ⟨hG, hyp⟩ := hyp
      refine mf_aload_n (mf_dat eX0_stepOutward 28 rfl) rfl rfl ?_
      refine mf_getf (r := (RX0, TX0, 1)) (ci := 0) (k := 0) (t := 2) (v := 47) (mf_dat eX0_stepOutward 29 rfl) fl_X0_12 rfl (by decide) rfl (gx_46_0 hG) is46 ?_
      refine mf_aload_n (mf_dat eX0_stepOutward 30 rfl) rfl rfl ?_
      refine mf_getf (r := (RX1, TX1, 14)) (ci := 1) (k := 5) (t := 2) (v := x1 + 6) (mf_dat eX0_stepOutward 31 rfl) fl_X0_66 rfl (by decide) rfl (gf_5 hG ck5) ck5 ?_
      refine mf_iconst (v := 3) (mf_dat eX0_stepOutward 32 rfl) (by decide) ?_
      refine mf_callV (Yc := YX3_reckon) (r := (RX3, TX3, 4)) (ci := 3) (mf_dat eX0_stepOutward 33 rfl) ml_X0_72 okX3_reckon im_X3_reckon sl_X3_reckon rfl rfl rfl rfl (Nat.le_of_ble_eq_true rfl) (mf_rr (Nat.le_trans (by decide) hd) (Nat.le_refl _)) (Nat.le_refl _) is47 (hyp hG) (fun r12 g13 h14 hyp => ?_)
      obtain ⟨hG, hyp⟩ := hyp
      refine mf_if_eq (tgt := 71) (mf_dat eX0_stepOutward 34 rfl) (by decide) (fun hc => ?_) (fun hc => ?_)
      · replace hyp := hyp.1 hc
        exact mf_return (mf_dat eX0_stepOutward 40 rfl) rfl ⟨hG, hyp⟩
      · replace hyp := hyp.2 hc
        refine mf_aload_n (mf_dat eX0_stepOutward 35 rfl) rfl rfl ?_
        refine mf_getf (r := (RX6, TX6, 8)) (ci := 6) (k := 2) (t := 2) (v := x2 + 3) (mf_dat eX0_stepOutward 36 rfl) fl_X0_43 rfl (by decide) rfl (gs_2 hG ck1) ck1 ?_
        refine mf_iload_n (mf_dat eX0_stepOutward 37 rfl) rfl rfl ?_
        refine mf_iload (mf_dat eX0_stepOutward 38 rfl) rfl ?_
        refine mf_iast (mf_dat eX0_stepOutward 39 rfl) (st_is2 ck1) (st_len2 ck1) ck2 ck3 ?_
        generalize qh15 : mf_up h14 (x2 + 3) x3 v4 = h15
        replace hyp := hyp _ qh15.symm
        exact mf_return (mf_dat eX0_stepOutward 40 rfl) rfl ⟨hG, hyp⟩
    · replace hyp := hyp.2 hc
      exact mf_return (mf_dat eX0_stepOutward 21 rfl) rfl ⟨hG, hyp⟩
set_option maxRecDepth 100000 in
set_option maxHeartbeats 4000000 in
theorem wX0_setParts {C : mf_G} {l : Launch} {d : Nat} {K : mf_Kt} {x1 x2 x3 x4 : Int} {g h : mf_M} (hd : 1 ≤ d) (hyp : mf_is 319 x2 6 ∧ (∀ h2 : mf_M, h2 = mf_up h 48 0 (h x2 7) → 0 ≤ x3 ∧ x3 < 8 ∧ (∀ h5 : mf_M, h5 = mf_up h2 48 1 (h2 (x2 + 2) x3) → (∀ h6 : mf_M, h6 = mf_up h5 48 2 (h5 (x2 + 3) x3) → mf_is 319 x1 1 ∧ (∀ h8 : mf_M, h8 = mf_up h6 48 3 (h6 (x1 + 5) x3) → (∀ h9 : mf_M, h9 = mf_up h8 48 4 (h8 (x2 + 4) x3) → xM C l 0 YX0_liesOpen [(0, x4), (0, h9 (x2 + 2) x3)] g h9 (fun r10 g11 h12 => ((r10 = 0 → (∀ h13 : mf_M, h13 = mf_up h12 48 5 0 → K 0 g11 h13)) ∧ (¬ r10 = 0 → (∀ h14 : mf_M, h14 = mf_up h12 48 5 1 → K 0 g11 h14)))))))))) : xM C l d YX0_setParts [(2, 46), (2, x1), (2, x2), (0, x3), (0, x4)] g h K := by
  intro hG
  refine mf_entry (by decide) (Nat.le_of_ble_eq_true rfl) ?_
  refine mf_aload_n (mf_dat eX0_setParts 0 rfl) rfl rfl ?_
  refine mf_getf (r := (RX0, TX0, 1)) (ci := 0) (k := 0) (t := 2) (v := 47) (mf_dat eX0_setParts 1 rfl) fl_X0_12 rfl (by decide) rfl (gx_46_0 hG) is46 ?_
  refine mf_getf (r := (RX3, TX3, 4)) (ci := 3) (k := 0) (t := 2) (v := 48) (mf_dat eX0_setParts 2 rfl) fl_X0_61 rfl (by decide) rfl (gx_47_0 hG) is47 ?_
  refine mf_astore (mf_dat eX0_setParts 3 rfl) (by decide) ?_
  refine mf_aload (mf_dat eX0_setParts 4 rfl) rfl ?_
  refine mf_iconst (v := 0) (mf_dat eX0_setParts 5 rfl) (by decide) ?_
  refine mf_aload_n (mf_dat eX0_setParts 6 rfl) rfl rfl ?_
  obtain ⟨ck1, hyp⟩ := hyp
  refine mf_getf (r := (RX6, TX6, 8)) (ci := 6) (k := 7) (t := 0) (v := h x2 7) (mf_dat eX0_setParts 7 rfl) fl_X0_90 rfl (by decide) rfl rfl ck1 ?_
  refine mf_iast (mf_dat eX0_setParts 8 rfl) is48 len48 (by decide) (by decide) ?_
  generalize qh2 : mf_up h 48 0 (h x2 7) = h2
  replace hyp := hyp _ qh2.symm
  refine mf_aload (mf_dat eX0_setParts 9 rfl) rfl ?_
  refine mf_iconst (v := 1) (mf_dat eX0_setParts 10 rfl) (by decide) ?_
  refine mf_aload_n (mf_dat eX0_setParts 11 rfl) rfl rfl ?_
  refine mf_getf (r := (RX6, TX6, 8)) (ci := 6) (k := 1) (t := 2) (v := x2 + 2) (mf_dat eX0_setParts 12 rfl) fl_X0_28 rfl (by decide) rfl (gs_1 hG ck1) ck1 ?_
  refine mf_iload_n (mf_dat eX0_setParts 13 rfl) rfl rfl ?_
  obtain ⟨ck3, hyp⟩ := hyp
  obtain ⟨ck4, hyp⟩ := hyp
  refine mf_iald (mf_dat eX0_setParts 14 rfl) (st_is1 ck1) (st_len1 ck1) ck3 ck4 ?_
  refine mf_iast (mf_dat eX0_setParts 15 rfl) is48 len48 (by decide) (by decide) ?_
  generalize qh5 : mf_up h2 48 1 (h2 (x2 + 2) x3) = h5
  replace hyp := hyp _ qh5.symm
  refine mf_aload (mf_dat eX0_setParts 16 rfl) rfl ?_
  refine mf_iconst (v := 2) (mf_dat eX0_setParts 17 rfl) (by decide) ?_
  refine mf_aload_n (mf_dat eX0_setParts 18 rfl) rfl rfl ?_
  refine mf_getf (r := (RX6, TX6, 8)) (ci := 6) (k := 2) (t := 2) (v := x2 + 3) (mf_dat eX0_setParts 19 rfl) fl_X0_43 rfl (by decide) rfl (gs_2 hG ck1) ck1 ?_
  refine mf_iload_n (mf_dat eX0_setParts 20 rfl) rfl rfl ?_
  refine mf_iald (mf_dat eX0_setParts 21 rfl) (st_is2 ck1) (st_len2 ck1) ck3 ck4 ?_
  refine mf_iast (mf_dat eX0_setParts 22 rfl) is48 len48 (by decide) (by decide) ?_
  generalize qh6 : mf_up h5 48 2 (h5 (x2 + 3) x3) = h6
  replace hyp := hyp _ qh6.symm
  refine mf_aload (mf_dat eX0_setParts 23 rfl) rfl ?_
  refine mf_iconst (v := 3) (mf_dat eX0_setParts 24 rfl) (by decide) ?_
  refine mf_aload_n (mf_dat eX0_setParts 25 rfl) rfl rfl ?_
  obtain ⟨ck7, hyp⟩ := hyp
  refine mf_getf (r := (RX1, TX1, 14)) (ci := 1) (k := 4) (t := 2) (v := x1 + 5) (mf_dat eX0_setParts 26 rfl) fl_X0_107 rfl (by decide) rfl (gf_4 hG ck7) ck7 ?_
  refine mf_iload_n (mf_dat eX0_setParts 27 rfl) rfl rfl ?_
  refine mf_iald (mf_dat eX0_setParts 28 rfl) (fo_is4 ck7) (fo_len4 ck7) ck3 ck4 ?_
  refine mf_iast (mf_dat eX0_setParts 29 rfl) is48 len48 (by decide) (by decide) ?_
  generalize qh8 : mf_up h6 48 3 (h6 (x1 + 5) x3) = h8
  replace hyp := hyp _ qh8.symm
  refine mf_aload (mf_dat eX0_setParts 30 rfl) rfl ?_
  refine mf_iconst (v := 4) (mf_dat eX0_setParts 31 rfl) (by decide) ?_
  refine mf_aload_n (mf_dat eX0_setParts 32 rfl) rfl rfl ?_
  refine mf_getf (r := (RX6, TX6, 8)) (ci := 6) (k := 3) (t := 2) (v := x2 + 4) (mf_dat eX0_setParts 33 rfl) fl_X0_113 rfl (by decide) rfl (gs_3 hG ck1) ck1 ?_
  refine mf_iload_n (mf_dat eX0_setParts 34 rfl) rfl rfl ?_
  refine mf_iald (mf_dat eX0_setParts 35 rfl) (st_is3 ck1) (st_len3 ck1) ck3 ck4 ?_
  refine mf_iast (mf_dat eX0_setParts 36 rfl) is48 len48 (by decide) (by decide) ?_
  generalize qh9 : mf_up h8 48 4 (h8 (x2 + 4) x3) = h9
  replace hyp := hyp _ qh9.symm
  refine mf_aload (mf_dat eX0_setParts 37 rfl) rfl ?_
  refine mf_iconst (v := 5) (mf_dat eX0_setParts 38 rfl) (by decide) ?_
  refine mf_iload (mf_dat eX0_setParts 39 rfl) rfl ?_
  refine mf_aload_n (mf_dat eX0_setParts 40 rfl) rfl rfl ?_
  refine mf_getf (r := (RX6, TX6, 8)) (ci := 6) (k := 1) (t := 2) (v := x2 + 2) (mf_dat eX0_setParts 41 rfl) fl_X0_28 rfl (by decide) rfl (gs_1 hG ck1) ck1 ?_
  refine mf_iload_n (mf_dat eX0_setParts 42 rfl) rfl rfl ?_
  refine mf_iald (mf_dat eX0_setParts 43 rfl) (st_is1 ck1) (st_len1 ck1) ck3 ck4 ?_
  refine mf_callS (Yc := YX0_liesOpen) (mf_dat eX0_setParts 44 rfl) ml_X0_24 okX0_liesOpen sm_X0_liesOpen rfl rfl (Nat.le_of_ble_eq_true rfl) (mf_rr (Nat.le_trans (by decide) hd) (Nat.le_refl _)) (Nat.le_refl _) (hyp hG) (fun r10 g11 h12 hyp => ?_)
  obtain ⟨hG, hyp⟩ := hyp
  refine mf_if_eq (tgt := 78) (mf_dat eX0_setParts 45 rfl) (by decide) (fun hc => ?_) (fun hc => ?_)
  · replace hyp := hyp.1 hc
    refine mf_iconst (v := 0) (mf_dat eX0_setParts 48 rfl) (by decide) ?_
    refine mf_iast (mf_dat eX0_setParts 49 rfl) is48 len48 (by decide) (by decide) ?_
    generalize qh13 : mf_up h12 48 5 0 = h13
    replace hyp := hyp _ qh13.symm
    exact mf_return (mf_dat eX0_setParts 50 rfl) rfl ⟨hG, hyp⟩
  · replace hyp := hyp.2 hc
    refine mf_iconst (v := 1) (mf_dat eX0_setParts 46 rfl) (by decide) ?_
    refine mf_goto (tgt := 79) (mf_dat eX0_setParts 47 rfl) (by decide) ?_
    refine mf_iast (mf_dat eX0_setParts 49 rfl) is48 len48 (by decide) (by decide) ?_
    generalize qh14 : mf_up h12 48 5 1 = h14
    replace hyp := hyp _ qh14.symm
    exact mf_return (mf_dat eX0_setParts 50 rfl) rfl ⟨hG, hyp⟩
abbrev BX0_reckonOf_42 (C : mf_G) (l : Launch) (d : Nat) (K : mf_Kt) (x1 x2 x3 x4 x5 x6 : Int) (g h : mf_M) : Prop := jX C l d YX0_reckonOf K 42 [(0, (2, 46)), (1, (2, x1)), (2, (2, x2)), (3, (2, x3)), (4, (0, x4)), (5, (0, x5)), (6, (0, x6))] [] g h
set_option maxRecDepth 100000 in
set_option maxHeartbeats 4000000 in
theorem vX0_reckonOf_42 {C : mf_G} {l : Launch} {d : Nat} {K : mf_Kt} {x1 x2 x3 x4 x5 x6 : Int} {g h : mf_M} (hd : 4 ≤ d) (hyp : ((8 ≤ x6 → xM C l 3 YX3_reckon [(2, 47), (2, x1), (0, 0)] g h (fun r1 g2 h3 => K r1 g2 h3)) ∧ (¬ 8 ≤ x6 → mf_is 319 x2 1 ∧ ((h x2 12 ≤ x6 → 0 ≤ x6 ∧ x6 < 8 ∧ (∀ h7 : mf_M, h7 = mf_up h 49 x6 0 → (∀ v8 : Int, v8 = mf_w32 (x6 + 1) → BX0_reckonOf_42 C l d K x1 x2 x3 x4 x5 v8 g h7))) ∧ (¬ h x2 12 ≤ x6 → ((x6 = x4 → 0 ≤ x6 ∧ x6 < 8 ∧ (∀ h11 : mf_M, h11 = mf_up h 49 x6 0 → (∀ v12 : Int, v12 = mf_w32 (x6 + 1) → BX0_reckonOf_42 C l d K x1 x2 x3 x4 x5 v12 g h11))) ∧ (¬ x6 = x4 → xM C l 2 YX0_meet [(2, x2), (2, x3), (0, x4), (0, x6), (0, x5)] g h (fun r13 g14 h15 => ((r13 = 0 → 0 ≤ x6 ∧ x6 < 8 ∧ (∀ h18 : mf_M, h18 = mf_up h15 49 x6 0 → (∀ v19 : Int, v19 = mf_w32 (x6 + 1) → BX0_reckonOf_42 C l d K x1 x2 x3 x4 x5 v19 g14 h18))) ∧ (¬ r13 = 0 → 0 ≤ x6 ∧ x6 < 8 ∧ (∀ h22 : mf_M, h22 = mf_up h15 49 x6 1 → (∀ v23 : Int, v23 = mf_w32 (x6 + 1) → BX0_reckonOf_42 C l d K x1 x2 x3 x4 x5 v23 g14 h22)))))))))))) : BX0_reckonOf_42 C l d K x1 x2 x3 x4 x5 x6 g h := by
  intro hG
  refine mf_iload (mf_dat eX0_reckonOf 23 rfl) rfl ?_
  refine mf_bipush (v := 8) (mf_dat eX0_reckonOf 24 rfl) (by decide) ?_
  refine mf_icmp_ge (tgt := 100) (mf_dat eX0_reckonOf 25 rfl) (by decide) (fun hc => ?_) (fun hc => ?_)
  · replace hyp := hyp.1 hc
    refine mf_aload_n (mf_dat eX0_reckonOf 50 rfl) rfl rfl ?_
    refine mf_getf (r := (RX0, TX0, 1)) (ci := 0) (k := 0) (t := 2) (v := 47) (mf_dat eX0_reckonOf 51 rfl) fl_X0_12 rfl (by decide) rfl (gx_46_0 hG) is46 ?_
    refine mf_aload_n (mf_dat eX0_reckonOf 52 rfl) rfl rfl ?_
    refine mf_iconst (v := 0) (mf_dat eX0_reckonOf 53 rfl) (by decide) ?_
    refine mf_callV (Yc := YX3_reckon) (r := (RX3, TX3, 4)) (ci := 3) (mf_dat eX0_reckonOf 54 rfl) ml_X0_72 okX3_reckon im_X3_reckon sl_X3_reckon rfl rfl rfl rfl (Nat.le_of_ble_eq_true rfl) (mf_rr (Nat.le_trans (by decide) hd) (Nat.le_refl _)) (Nat.le_refl _) is47 (hyp hG) (fun r1 g2 h3 hyp => ?_)
    obtain ⟨hG, hyp⟩ := hyp
    exact mf_ireturn (mf_dat eX0_reckonOf 55 rfl) rfl (Or.inl rfl) ⟨hG, hyp⟩
  · replace hyp := hyp.2 hc
    refine mf_aload_n (mf_dat eX0_reckonOf 26 rfl) rfl rfl ?_
    refine mf_getf (r := (RX0, TX0, 1)) (ci := 0) (k := 0) (t := 2) (v := 47) (mf_dat eX0_reckonOf 27 rfl) fl_X0_12 rfl (by decide) rfl (gx_46_0 hG) is46 ?_
    refine mf_getf (r := (RX3, TX3, 4)) (ci := 3) (k := 1) (t := 2) (v := 49) (mf_dat eX0_reckonOf 28 rfl) fl_X0_126 rfl (by decide) rfl (gx_47_1 hG) is47 ?_
    refine mf_iload (mf_dat eX0_reckonOf 29 rfl) rfl ?_
    refine mf_iload (mf_dat eX0_reckonOf 30 rfl) rfl ?_
    refine mf_aload_n (mf_dat eX0_reckonOf 31 rfl) rfl rfl ?_
    obtain ⟨ck4, hyp⟩ := hyp
    refine mf_getf (r := (RX1, TX1, 14)) (ci := 1) (k := 12) (t := 0) (v := h x2 12) (mf_dat eX0_reckonOf 32 rfl) fl_X0_54 rfl (by decide) rfl rfl ck4 ?_
    refine mf_icmp_ge (tgt := 92) (mf_dat eX0_reckonOf 33 rfl) (by decide) (fun hc => ?_) (fun hc => ?_)
    · replace hyp := hyp.1 hc
      refine mf_iconst (v := 0) (mf_dat eX0_reckonOf 46 rfl) (by decide) ?_
      obtain ⟨ck5, hyp⟩ := hyp
      obtain ⟨ck6, hyp⟩ := hyp
      refine mf_zast (mf_dat eX0_reckonOf 47 rfl) is49 len49 ck5 ck6 (by decide) ?_
      generalize qh7 : mf_up h 49 x6 0 = h7
      replace hyp := hyp _ qh7.symm
      refine mf_iinc (mf_dat eX0_reckonOf 48 rfl) rfl (by decide) (by decide) ?_
      generalize qv8 : mf_w32 (x6 + 1) = v8
      replace hyp := hyp _ qv8.symm
      refine mf_goto (tgt := 42) (mf_dat eX0_reckonOf 49 rfl) (by decide) ?_
      exact mf_sub [1, 2, 3, 4, 5, 6, 0] rfl (hyp hG)
    · replace hyp := hyp.2 hc
      refine mf_iload (mf_dat eX0_reckonOf 34 rfl) rfl ?_
      refine mf_iload (mf_dat eX0_reckonOf 35 rfl) rfl ?_
      refine mf_icmp_eq (tgt := 92) (mf_dat eX0_reckonOf 36 rfl) (by decide) (fun hc => ?_) (fun hc => ?_)
      · replace hyp := hyp.1 hc
        refine mf_iconst (v := 0) (mf_dat eX0_reckonOf 46 rfl) (by decide) ?_
        obtain ⟨ck9, hyp⟩ := hyp
        obtain ⟨ck10, hyp⟩ := hyp
        refine mf_zast (mf_dat eX0_reckonOf 47 rfl) is49 len49 ck9 ck10 (by decide) ?_
        generalize qh11 : mf_up h 49 x6 0 = h11
        replace hyp := hyp _ qh11.symm
        refine mf_iinc (mf_dat eX0_reckonOf 48 rfl) rfl (by decide) (by decide) ?_
        generalize qv12 : mf_w32 (x6 + 1) = v12
        replace hyp := hyp _ qv12.symm
        refine mf_goto (tgt := 42) (mf_dat eX0_reckonOf 49 rfl) (by decide) ?_
        exact mf_sub [1, 2, 3, 4, 5, 6, 0] rfl (hyp hG)
      · replace hyp := hyp.2 hc
        refine mf_aload_n (mf_dat eX0_reckonOf 37 rfl) rfl rfl ?_
        refine mf_aload_n (mf_dat eX0_reckonOf 38 rfl) rfl rfl ?_
        refine mf_iload (mf_dat eX0_reckonOf 39 rfl) rfl ?_
        refine mf_iload (mf_dat eX0_reckonOf 40 rfl) rfl ?_
        refine mf_iload (mf_dat eX0_reckonOf 41 rfl) rfl ?_
        refine mf_callS (Yc := YX0_meet) (mf_dat eX0_reckonOf 42 rfl) ml_X0_57 okX0_meet sm_X0_meet rfl rfl (Nat.le_of_ble_eq_true rfl) (mf_rr (Nat.le_trans (by decide) hd) (Nat.le_refl _)) (Nat.le_refl _) (hyp hG) (fun r13 g14 h15 hyp => ?_)
        obtain ⟨hG, hyp⟩ := hyp
        refine mf_if_eq (tgt := 92) (mf_dat eX0_reckonOf 43 rfl) (by decide) (fun hc => ?_) (fun hc => ?_)
        · replace hyp := hyp.1 hc
          refine mf_iconst (v := 0) (mf_dat eX0_reckonOf 46 rfl) (by decide) ?_
          obtain ⟨ck16, hyp⟩ := hyp
          obtain ⟨ck17, hyp⟩ := hyp
          refine mf_zast (mf_dat eX0_reckonOf 47 rfl) is49 len49 ck16 ck17 (by decide) ?_
          generalize qh18 : mf_up h15 49 x6 0 = h18
          replace hyp := hyp _ qh18.symm
          refine mf_iinc (mf_dat eX0_reckonOf 48 rfl) rfl (by decide) (by decide) ?_
          generalize qv19 : mf_w32 (x6 + 1) = v19
          replace hyp := hyp _ qv19.symm
          refine mf_goto (tgt := 42) (mf_dat eX0_reckonOf 49 rfl) (by decide) ?_
          exact mf_sub [1, 2, 3, 4, 5, 6, 0] rfl (hyp hG)
        · replace hyp := hyp.2 hc
          refine mf_iconst (v := 1) (mf_dat eX0_reckonOf 44 rfl) (by decide) ?_
          refine mf_goto (tgt := 93) (mf_dat eX0_reckonOf 45 rfl) (by decide) ?_
          obtain ⟨ck20, hyp⟩ := hyp
          obtain ⟨ck21, hyp⟩ := hyp
          refine mf_zast (mf_dat eX0_reckonOf 47 rfl) is49 len49 ck20 ck21 (by decide) ?_
          generalize qh22 : mf_up h15 49 x6 1 = h22
          replace hyp := hyp _ qh22.symm
          refine mf_iinc (mf_dat eX0_reckonOf 48 rfl) rfl (by decide) (by decide) ?_
          generalize qv23 : mf_w32 (x6 + 1) = v23
          replace hyp := hyp _ qv23.symm
          refine mf_goto (tgt := 42) (mf_dat eX0_reckonOf 49 rfl) (by decide) ?_
          exact mf_sub [1, 2, 3, 4, 5, 6, 0] rfl (hyp hG)
set_option maxRecDepth 100000 in
set_option maxHeartbeats 4000000 in
theorem wX0_reckonOf {C : mf_G} {l : Launch} {d : Nat} {K : mf_Kt} {x1 x2 x3 x4 x5 : Int} {g h : mf_M} (hd : 2 ≤ d) (hyp : xM C l 1 YX0_setParts [(2, 46), (2, x2), (2, x3), (0, x4), (0, x5)] g h (fun r1 g2 h3 => (∀ h4 : mf_M, h4 = mf_up h3 48 7 x4 → mf_is 319 x3 6 ∧ 0 ≤ x4 ∧ x4 < 8 ∧ (∀ h8 : mf_M, h8 = mf_up h4 48 8 (h4 (x3 + 5) x4) → BX0_reckonOf_42 C l d K x1 x2 x3 x4 x5 0 g2 h8)))) : xM C l d YX0_reckonOf [(2, 46), (2, x1), (2, x2), (2, x3), (0, x4), (0, x5)] g h K := by
  intro hG
  refine mf_entry (by decide) (Nat.le_of_ble_eq_true rfl) ?_
  refine mf_aload_n (mf_dat eX0_reckonOf 0 rfl) rfl rfl ?_
  refine mf_aload_n (mf_dat eX0_reckonOf 1 rfl) rfl rfl ?_
  refine mf_aload_n (mf_dat eX0_reckonOf 2 rfl) rfl rfl ?_
  refine mf_iload (mf_dat eX0_reckonOf 3 rfl) rfl ?_
  refine mf_iload (mf_dat eX0_reckonOf 4 rfl) rfl ?_
  refine mf_callV (Yc := YX0_setParts) (r := (RX0, TX0, 1)) (ci := 0) (mf_dat eX0_reckonOf 5 rfl) ml_X0_104 okX0_setParts im_X0_setParts sl_X0_setParts rfl rfl rfl rfl (Nat.le_of_ble_eq_true rfl) (mf_rr (Nat.le_trans (by decide) hd) (Nat.le_refl _)) (Nat.le_refl _) is46 (hyp hG) (fun r1 g2 h3 hyp => ?_)
  obtain ⟨hG, hyp⟩ := hyp
  refine mf_aload_n (mf_dat eX0_reckonOf 6 rfl) rfl rfl ?_
  refine mf_getf (r := (RX0, TX0, 1)) (ci := 0) (k := 0) (t := 2) (v := 47) (mf_dat eX0_reckonOf 7 rfl) fl_X0_12 rfl (by decide) rfl (gx_46_0 hG) is46 ?_
  refine mf_getf (r := (RX3, TX3, 4)) (ci := 3) (k := 0) (t := 2) (v := 48) (mf_dat eX0_reckonOf 8 rfl) fl_X0_61 rfl (by decide) rfl (gx_47_0 hG) is47 ?_
  refine mf_bipush (v := 7) (mf_dat eX0_reckonOf 9 rfl) (by decide) ?_
  refine mf_iload (mf_dat eX0_reckonOf 10 rfl) rfl ?_
  refine mf_iast (mf_dat eX0_reckonOf 11 rfl) is48 len48 (by decide) (by decide) ?_
  generalize qh4 : mf_up h3 48 7 x4 = h4
  replace hyp := hyp _ qh4.symm
  refine mf_aload_n (mf_dat eX0_reckonOf 12 rfl) rfl rfl ?_
  refine mf_getf (r := (RX0, TX0, 1)) (ci := 0) (k := 0) (t := 2) (v := 47) (mf_dat eX0_reckonOf 13 rfl) fl_X0_12 rfl (by decide) rfl (gx_46_0 hG) is46 ?_
  refine mf_getf (r := (RX3, TX3, 4)) (ci := 3) (k := 0) (t := 2) (v := 48) (mf_dat eX0_reckonOf 14 rfl) fl_X0_61 rfl (by decide) rfl (gx_47_0 hG) is47 ?_
  refine mf_bipush (v := 8) (mf_dat eX0_reckonOf 15 rfl) (by decide) ?_
  refine mf_aload_n (mf_dat eX0_reckonOf 16 rfl) rfl rfl ?_
  obtain ⟨ck5, hyp⟩ := hyp
  refine mf_getf (r := (RX6, TX6, 8)) (ci := 6) (k := 4) (t := 2) (v := x3 + 5) (mf_dat eX0_reckonOf 17 rfl) fl_X0_93 rfl (by decide) rfl (gs_4 hG ck5) ck5 ?_
  refine mf_iload (mf_dat eX0_reckonOf 18 rfl) rfl ?_
  obtain ⟨ck6, hyp⟩ := hyp
  obtain ⟨ck7, hyp⟩ := hyp
  refine mf_iald (mf_dat eX0_reckonOf 19 rfl) (st_is4 ck5) (st_len4 ck5) ck6 ck7 ?_
  refine mf_iast (mf_dat eX0_reckonOf 20 rfl) is48 len48 (by decide) (by decide) ?_
  generalize qh8 : mf_up h4 48 8 (h4 (x3 + 5) x4) = h8
  replace hyp := hyp _ qh8.symm
  refine mf_iconst (v := 0) (mf_dat eX0_reckonOf 21 rfl) (by decide) ?_
  refine mf_istore (mf_dat eX0_reckonOf 22 rfl) (by decide) ?_
  exact mf_sub [1, 2, 3, 4, 5, 6, 0] rfl (hyp hG)
set_option maxRecDepth 100000 in
set_option maxHeartbeats 4000000 in
theorem wX1_forget {C : mf_G} {l : Launch} {d : Nat} {K : mf_Kt} {x0 : Int} {g h : mf_M} (hd : 1 ≤ d) (hyp : mf_is 319 x0 1 ∧ (∀ h2 : mf_M, h2 = mf_up h x0 7 0 → (∀ h3 : mf_M, h3 = mf_up h2 x0 8 0 → (∀ h4 : mf_M, h4 = mf_up h3 x0 9 0 → (∀ h5 : mf_M, h5 = mf_up h4 x0 10 0 → (∀ h6 : mf_M, h6 = mf_up h5 x0 11 0 → (∀ h7 : mf_M, h7 = mf_up h6 x0 12 0 → (∀ h8 : mf_M, h8 = mf_up h7 x0 13 0 → xM C l 0 YX4_forget [(2, x0 + 6)] g h8 (fun r9 g10 h11 => xM C l 0 YX6_forget [(2, x0 + 10)] g10 h11 (fun r12 g13 h14 => K 0 g13 h14)))))))))) : xM C l d YX1_forget [(2, x0)] g h K := by
  intro hG
  refine mf_entry (by decide) (Nat.le_of_ble_eq_true rfl) ?_
  refine mf_aload_n (mf_dat eX1_forget 0 rfl) rfl rfl ?_
  refine mf_iconst (v := 0) (mf_dat eX1_forget 1 rfl) (by decide) ?_
  obtain ⟨ck1, hyp⟩ := hyp
  refine mf_putI (r := (RX1, TX1, 14)) (ci := 1) (k := 7) (kI := 7) (t := 0) (mf_dat eX1_forget 2 rfl) fl_X1_41 rfl rfl (by decide) rfl (by decide) rfl (by decide) (fun h9 => absurd h9 (by decide)) ck1 ?_
  generalize qh2 : mf_up h x0 7 0 = h2
  replace hyp := hyp _ qh2.symm
  refine mf_aload_n (mf_dat eX1_forget 3 rfl) rfl rfl ?_
  refine mf_iconst (v := 0) (mf_dat eX1_forget 4 rfl) (by decide) ?_
  refine mf_putI (r := (RX1, TX1, 14)) (ci := 1) (k := 8) (kI := 8) (t := 0) (mf_dat eX1_forget 5 rfl) fl_X1_45 rfl rfl (by decide) rfl (by decide) rfl (by decide) (fun h9 => absurd h9 (by decide)) ck1 ?_
  generalize qh3 : mf_up h2 x0 8 0 = h3
  replace hyp := hyp _ qh3.symm
  refine mf_aload_n (mf_dat eX1_forget 6 rfl) rfl rfl ?_
  refine mf_iconst (v := 0) (mf_dat eX1_forget 7 rfl) (by decide) ?_
  refine mf_putI (r := (RX1, TX1, 14)) (ci := 1) (k := 9) (kI := 9) (t := 0) (mf_dat eX1_forget 8 rfl) fl_X1_48 rfl rfl (by decide) rfl (by decide) rfl (by decide) (fun h9 => absurd h9 (by decide)) ck1 ?_
  generalize qh4 : mf_up h3 x0 9 0 = h4
  replace hyp := hyp _ qh4.symm
  refine mf_aload_n (mf_dat eX1_forget 9 rfl) rfl rfl ?_
  refine mf_iconst (v := 0) (mf_dat eX1_forget 10 rfl) (by decide) ?_
  refine mf_putI (r := (RX1, TX1, 14)) (ci := 1) (k := 10) (kI := 10) (t := 0) (mf_dat eX1_forget 11 rfl) fl_X1_51 rfl rfl (by decide) rfl (by decide) rfl (by decide) (fun h9 => absurd h9 (by decide)) ck1 ?_
  generalize qh5 : mf_up h4 x0 10 0 = h5
  replace hyp := hyp _ qh5.symm
  refine mf_aload_n (mf_dat eX1_forget 12 rfl) rfl rfl ?_
  refine mf_iconst (v := 0) (mf_dat eX1_forget 13 rfl) (by decide) ?_
  refine mf_putI (r := (RX1, TX1, 14)) (ci := 1) (k := 11) (kI := 11) (t := 0) (mf_dat eX1_forget 14 rfl) fl_X1_54 rfl rfl (by decide) rfl (by decide) rfl (by decide) (fun h9 => absurd h9 (by decide)) ck1 ?_
  generalize qh6 : mf_up h5 x0 11 0 = h6
  replace hyp := hyp _ qh6.symm
  refine mf_aload_n (mf_dat eX1_forget 15 rfl) rfl rfl ?_
  refine mf_iconst (v := 0) (mf_dat eX1_forget 16 rfl) (by decide) ?_
  refine mf_putI (r := (RX1, TX1, 14)) (ci := 1) (k := 12) (kI := 12) (t := 0) (mf_dat eX1_forget 17 rfl) fl_X1_57 rfl rfl (by decide) rfl (by decide) rfl (by decide) (fun h9 => absurd h9 (by decide)) ck1 ?_
  generalize qh7 : mf_up h6 x0 12 0 = h7
  replace hyp := hyp _ qh7.symm
  refine mf_aload_n (mf_dat eX1_forget 18 rfl) rfl rfl ?_
  refine mf_iconst (v := 0) (mf_dat eX1_forget 19 rfl) (by decide) ?_
  refine mf_putI (r := (RX1, TX1, 14)) (ci := 1) (k := 13) (kI := 13) (t := 0) (mf_dat eX1_forget 20 rfl) fl_X1_60 rfl rfl (by decide) rfl (by decide) rfl (by decide) (fun h9 => absurd h9 (by decide)) ck1 ?_
  generalize qh8 : mf_up h7 x0 13 0 = h8
  replace hyp := hyp _ qh8.symm
  refine mf_aload_n (mf_dat eX1_forget 21 rfl) rfl rfl ?_
  refine mf_getf (r := (RX1, TX1, 14)) (ci := 1) (k := 5) (t := 2) (v := x0 + 6) (mf_dat eX1_forget 22 rfl) fl_X1_30 rfl (by decide) rfl (gf_5 hG ck1) ck1 ?_
  refine mf_callV (Yc := YX4_forget) (r := (RX4, TX4, 5)) (ci := 4) (mf_dat eX1_forget 23 rfl) ml_X1_63 okX4_forget im_X4_forget sl_X4_forget rfl rfl rfl rfl (Nat.le_of_ble_eq_true rfl) (mf_rr (Nat.le_trans (by decide) hd) (Nat.le_refl _)) (Nat.le_refl _) (fo_is5 ck1) (hyp hG) (fun r9 g10 h11 hyp => ?_)
  obtain ⟨hG, hyp⟩ := hyp
  refine mf_aload_n (mf_dat eX1_forget 24 rfl) rfl rfl ?_
  refine mf_getf (r := (RX1, TX1, 14)) (ci := 1) (k := 6) (t := 2) (v := x0 + 10) (mf_dat eX1_forget 25 rfl) fl_X1_37 rfl (by decide) rfl (gf_6 hG ck1) ck1 ?_
  refine mf_callV (Yc := YX6_forget) (r := (RX6, TX6, 8)) (ci := 6) (mf_dat eX1_forget 26 rfl) ml_X1_66 okX6_forget im_X6_forget sl_X6_forget rfl rfl rfl rfl (Nat.le_of_ble_eq_true rfl) (mf_rr (Nat.le_trans (by decide) hd) (Nat.le_refl _)) (Nat.le_refl _) (fo_is6 ck1) (hyp hG) (fun r12 g13 h14 hyp => ?_)
  obtain ⟨hG, hyp⟩ := hyp
  exact mf_return (mf_dat eX1_forget 27 rfl) rfl ⟨hG, hyp⟩
set_option maxRecDepth 100000 in
set_option maxHeartbeats 4000000 in
theorem wX1_addWorm {C : mf_G} {l : Launch} {d : Nat} {K : mf_Kt} {x0 x1 x2 x3 : Int} {g h : mf_M} (hyp : mf_is 319 x0 1 ∧ ((12 ≤ h x0 11 → K 0 g h) ∧ (¬ 12 ≤ h x0 11 → 0 ≤ h x0 11 ∧ h x0 11 < 12 ∧ (∀ h4 : mf_M, h4 = mf_up h (x0 + 1) (h x0 11) x1 → 0 ≤ h4 x0 11 ∧ h4 x0 11 < 12 ∧ (∀ h7 : mf_M, h7 = mf_up h4 (x0 + 2) (h4 x0 11) x2 → 0 ≤ h7 x0 11 ∧ h7 x0 11 < 12 ∧ (∀ h10 : mf_M, h10 = mf_up h7 (x0 + 3) (h7 x0 11) x3 → (∀ h11 : mf_M, h11 = mf_up h10 x0 11 (mf_w32 ((h10 x0 11) + 1)) → K 0 g h11))))))) : xM C l d YX1_addWorm [(2, x0), (0, x1), (0, x2), (0, x3)] g h K := by
  intro hG
  refine mf_entry (by decide) (Nat.le_of_ble_eq_true rfl) ?_
  refine mf_aload_n (mf_dat eX1_addWorm 0 rfl) rfl rfl ?_
  obtain ⟨ck1, hyp⟩ := hyp
  refine mf_getf (r := (RX1, TX1, 14)) (ci := 1) (k := 11) (t := 0) (v := h x0 11) (mf_dat eX1_addWorm 1 rfl) fl_X1_54 rfl (by decide) rfl rfl ck1 ?_
  refine mf_bipush (v := 12) (mf_dat eX1_addWorm 2 rfl) (by decide) ?_
  refine mf_icmp_ge (tgt := 49) (mf_dat eX1_addWorm 3 rfl) (by decide) (fun hc => ?_) (fun hc => ?_)
  · replace hyp := hyp.1 hc
    exact mf_return (mf_dat eX1_addWorm 28 rfl) rfl ⟨hG, hyp⟩
  · replace hyp := hyp.2 hc
    refine mf_aload_n (mf_dat eX1_addWorm 4 rfl) rfl rfl ?_
    refine mf_getf (r := (RX1, TX1, 14)) (ci := 1) (k := 0) (t := 2) (v := x0 + 1) (mf_dat eX1_addWorm 5 rfl) fl_X1_9 rfl (by decide) rfl (gf_0 hG ck1) ck1 ?_
    refine mf_aload_n (mf_dat eX1_addWorm 6 rfl) rfl rfl ?_
    refine mf_getf (r := (RX1, TX1, 14)) (ci := 1) (k := 11) (t := 0) (v := h x0 11) (mf_dat eX1_addWorm 7 rfl) fl_X1_54 rfl (by decide) rfl rfl ck1 ?_
    refine mf_iload_n (mf_dat eX1_addWorm 8 rfl) rfl rfl ?_
    obtain ⟨ck2, hyp⟩ := hyp
    obtain ⟨ck3, hyp⟩ := hyp
    refine mf_iast (mf_dat eX1_addWorm 9 rfl) (fo_is0 ck1) (fo_len0 ck1) ck2 ck3 ?_
    generalize qh4 : mf_up h (x0 + 1) (h x0 11) x1 = h4
    replace hyp := hyp _ qh4.symm
    refine mf_aload_n (mf_dat eX1_addWorm 10 rfl) rfl rfl ?_
    refine mf_getf (r := (RX1, TX1, 14)) (ci := 1) (k := 1) (t := 2) (v := x0 + 2) (mf_dat eX1_addWorm 11 rfl) fl_X1_15 rfl (by decide) rfl (gf_1 hG ck1) ck1 ?_
    refine mf_aload_n (mf_dat eX1_addWorm 12 rfl) rfl rfl ?_
    refine mf_getf (r := (RX1, TX1, 14)) (ci := 1) (k := 11) (t := 0) (v := h4 x0 11) (mf_dat eX1_addWorm 13 rfl) fl_X1_54 rfl (by decide) rfl rfl ck1 ?_
    refine mf_iload_n (mf_dat eX1_addWorm 14 rfl) rfl rfl ?_
    obtain ⟨ck5, hyp⟩ := hyp
    obtain ⟨ck6, hyp⟩ := hyp
    refine mf_iast (mf_dat eX1_addWorm 15 rfl) (fo_is1 ck1) (fo_len1 ck1) ck5 ck6 ?_
    generalize qh7 : mf_up h4 (x0 + 2) (h4 x0 11) x2 = h7
    replace hyp := hyp _ qh7.symm
    refine mf_aload_n (mf_dat eX1_addWorm 16 rfl) rfl rfl ?_
    refine mf_getf (r := (RX1, TX1, 14)) (ci := 1) (k := 2) (t := 2) (v := x0 + 3) (mf_dat eX1_addWorm 17 rfl) fl_X1_18 rfl (by decide) rfl (gf_2 hG ck1) ck1 ?_
    refine mf_aload_n (mf_dat eX1_addWorm 18 rfl) rfl rfl ?_
    refine mf_getf (r := (RX1, TX1, 14)) (ci := 1) (k := 11) (t := 0) (v := h7 x0 11) (mf_dat eX1_addWorm 19 rfl) fl_X1_54 rfl (by decide) rfl rfl ck1 ?_
    refine mf_iload_n (mf_dat eX1_addWorm 20 rfl) rfl rfl ?_
    obtain ⟨ck8, hyp⟩ := hyp
    obtain ⟨ck9, hyp⟩ := hyp
    refine mf_iast (mf_dat eX1_addWorm 21 rfl) (fo_is2 ck1) (fo_len2 ck1) ck8 ck9 ?_
    generalize qh10 : mf_up h7 (x0 + 3) (h7 x0 11) x3 = h10
    replace hyp := hyp _ qh10.symm
    refine mf_aload_n (mf_dat eX1_addWorm 22 rfl) rfl rfl ?_
    refine mf_dup (mf_dat eX1_addWorm 23 rfl) (by decide) ?_
    refine mf_getf (r := (RX1, TX1, 14)) (ci := 1) (k := 11) (t := 0) (v := h10 x0 11) (mf_dat eX1_addWorm 24 rfl) fl_X1_54 rfl (by decide) rfl rfl ck1 ?_
    refine mf_iconst (v := 1) (mf_dat eX1_addWorm 25 rfl) (by decide) ?_
    refine mf_iadd (mf_dat eX1_addWorm 26 rfl) ?_
    refine mf_putI (r := (RX1, TX1, 14)) (ci := 1) (k := 11) (kI := 11) (t := 0) (mf_dat eX1_addWorm 27 rfl) fl_X1_54 rfl rfl (by decide) rfl (by decide) rfl (by decide) (fun h9 => absurd h9 (by decide)) ck1 ?_
    generalize qh11 : mf_up h10 x0 11 (mf_w32 ((h10 x0 11) + 1)) = h11
    replace hyp := hyp _ qh11.symm
    exact mf_return (mf_dat eX1_addWorm 28 rfl) rfl ⟨hG, hyp⟩
set_option maxRecDepth 100000 in
set_option maxHeartbeats 4000000 in
theorem wX1_addBeing {C : mf_G} {l : Launch} {d : Nat} {K : mf_Kt} {x0 x1 x2 x3 x4 : Int} {g h : mf_M} (hyp : mf_is 319 x0 1 ∧ ((8 ≤ h x0 12 → K 0 g h) ∧ (¬ 8 ≤ h x0 12 → 0 ≤ h x0 12 ∧ h x0 12 < 8 ∧ (∀ h4 : mf_M, h4 = mf_up h (x0 + 4) (h x0 12) x1 → 0 ≤ h4 x0 12 ∧ h4 x0 12 < 8 ∧ (∀ h7 : mf_M, h7 = mf_up h4 (x0 + 5) (h4 x0 12) x4 → 0 ≤ h7 x0 12 ∧ h7 x0 12 < 8 ∧ (∀ h10 : mf_M, h10 = mf_up h7 (x0 + 10 + 2) (h7 x0 12) x2 → 0 ≤ h10 x0 12 ∧ h10 x0 12 < 8 ∧ (∀ h13 : mf_M, h13 = mf_up h10 (x0 + 10 + 3) (h10 x0 12) x3 → 0 ≤ h13 x0 12 ∧ h13 x0 12 < 8 ∧ (∀ h16 : mf_M, h16 = mf_up h13 (x0 + 10 + 4) (h13 x0 12) 5 → 0 ≤ h16 x0 12 ∧ h16 x0 12 < 8 ∧ (∀ h19 : mf_M, h19 = mf_up h16 (x0 + 10 + 5) (h16 x0 12) 0 → (∀ h20 : mf_M, h20 = mf_up h19 x0 12 (mf_w32 ((h19 x0 12) + 1)) → K 0 g h20)))))))))) : xM C l d YX1_addBeing [(2, x0), (0, x1), (0, x2), (0, x3), (0, x4)] g h K := by
  intro hG
  refine mf_entry (by decide) (Nat.le_of_ble_eq_true rfl) ?_
  refine mf_aload_n (mf_dat eX1_addBeing 0 rfl) rfl rfl ?_
  obtain ⟨ck1, hyp⟩ := hyp
  refine mf_getf (r := (RX1, TX1, 14)) (ci := 1) (k := 12) (t := 0) (v := h x0 12) (mf_dat eX1_addBeing 1 rfl) fl_X1_57 rfl (by decide) rfl rfl ck1 ?_
  refine mf_bipush (v := 8) (mf_dat eX1_addBeing 2 rfl) (by decide) ?_
  refine mf_icmp_ge (tgt := 92) (mf_dat eX1_addBeing 3 rfl) (by decide) (fun hc => ?_) (fun hc => ?_)
  · replace hyp := hyp.1 hc
    exact mf_return (mf_dat eX1_addBeing 50 rfl) rfl ⟨hG, hyp⟩
  · replace hyp := hyp.2 hc
    refine mf_aload_n (mf_dat eX1_addBeing 4 rfl) rfl rfl ?_
    refine mf_getf (r := (RX1, TX1, 14)) (ci := 1) (k := 3) (t := 2) (v := x0 + 4) (mf_dat eX1_addBeing 5 rfl) fl_X1_21 rfl (by decide) rfl (gf_3 hG ck1) ck1 ?_
    refine mf_aload_n (mf_dat eX1_addBeing 6 rfl) rfl rfl ?_
    refine mf_getf (r := (RX1, TX1, 14)) (ci := 1) (k := 12) (t := 0) (v := h x0 12) (mf_dat eX1_addBeing 7 rfl) fl_X1_57 rfl (by decide) rfl rfl ck1 ?_
    refine mf_iload_n (mf_dat eX1_addBeing 8 rfl) rfl rfl ?_
    obtain ⟨ck2, hyp⟩ := hyp
    obtain ⟨ck3, hyp⟩ := hyp
    refine mf_iast (mf_dat eX1_addBeing 9 rfl) (fo_is3 ck1) (fo_len3 ck1) ck2 ck3 ?_
    generalize qh4 : mf_up h (x0 + 4) (h x0 12) x1 = h4
    replace hyp := hyp _ qh4.symm
    refine mf_aload_n (mf_dat eX1_addBeing 10 rfl) rfl rfl ?_
    refine mf_getf (r := (RX1, TX1, 14)) (ci := 1) (k := 4) (t := 2) (v := x0 + 5) (mf_dat eX1_addBeing 11 rfl) fl_X1_24 rfl (by decide) rfl (gf_4 hG ck1) ck1 ?_
    refine mf_aload_n (mf_dat eX1_addBeing 12 rfl) rfl rfl ?_
    refine mf_getf (r := (RX1, TX1, 14)) (ci := 1) (k := 12) (t := 0) (v := h4 x0 12) (mf_dat eX1_addBeing 13 rfl) fl_X1_57 rfl (by decide) rfl rfl ck1 ?_
    refine mf_iload (mf_dat eX1_addBeing 14 rfl) rfl ?_
    obtain ⟨ck5, hyp⟩ := hyp
    obtain ⟨ck6, hyp⟩ := hyp
    refine mf_iast (mf_dat eX1_addBeing 15 rfl) (fo_is4 ck1) (fo_len4 ck1) ck5 ck6 ?_
    generalize qh7 : mf_up h4 (x0 + 5) (h4 x0 12) x4 = h7
    replace hyp := hyp _ qh7.symm
    refine mf_aload_n (mf_dat eX1_addBeing 16 rfl) rfl rfl ?_
    refine mf_getf (r := (RX1, TX1, 14)) (ci := 1) (k := 6) (t := 2) (v := x0 + 10) (mf_dat eX1_addBeing 17 rfl) fl_X1_37 rfl (by decide) rfl (gf_6 hG ck1) ck1 ?_
    refine mf_getf (r := (RX6, TX6, 8)) (ci := 6) (k := 1) (t := 2) (v := x0 + 10 + 2) (mf_dat eX1_addBeing 18 rfl) fl_X1_67 rfl (by decide) rfl (gs_1 hG (fo_is6 ck1)) (fo_is6 ck1) ?_
    refine mf_aload_n (mf_dat eX1_addBeing 19 rfl) rfl rfl ?_
    refine mf_getf (r := (RX1, TX1, 14)) (ci := 1) (k := 12) (t := 0) (v := h7 x0 12) (mf_dat eX1_addBeing 20 rfl) fl_X1_57 rfl (by decide) rfl rfl ck1 ?_
    refine mf_iload_n (mf_dat eX1_addBeing 21 rfl) rfl rfl ?_
    obtain ⟨ck8, hyp⟩ := hyp
    obtain ⟨ck9, hyp⟩ := hyp
    refine mf_iast (mf_dat eX1_addBeing 22 rfl) (st_is1 (fo_is6 ck1)) (st_len1 (fo_is6 ck1)) ck8 ck9 ?_
    generalize qh10 : mf_up h7 (x0 + 10 + 2) (h7 x0 12) x2 = h10
    replace hyp := hyp _ qh10.symm
    refine mf_aload_n (mf_dat eX1_addBeing 23 rfl) rfl rfl ?_
    refine mf_getf (r := (RX1, TX1, 14)) (ci := 1) (k := 6) (t := 2) (v := x0 + 10) (mf_dat eX1_addBeing 24 rfl) fl_X1_37 rfl (by decide) rfl (gf_6 hG ck1) ck1 ?_
    refine mf_getf (r := (RX6, TX6, 8)) (ci := 6) (k := 2) (t := 2) (v := x0 + 10 + 3) (mf_dat eX1_addBeing 25 rfl) fl_X1_70 rfl (by decide) rfl (gs_2 hG (fo_is6 ck1)) (fo_is6 ck1) ?_
    refine mf_aload_n (mf_dat eX1_addBeing 26 rfl) rfl rfl ?_
    refine mf_getf (r := (RX1, TX1, 14)) (ci := 1) (k := 12) (t := 0) (v := h10 x0 12) (mf_dat eX1_addBeing 27 rfl) fl_X1_57 rfl (by decide) rfl rfl ck1 ?_
    refine mf_iload_n (mf_dat eX1_addBeing 28 rfl) rfl rfl ?_
    obtain ⟨ck11, hyp⟩ := hyp
    obtain ⟨ck12, hyp⟩ := hyp
    refine mf_iast (mf_dat eX1_addBeing 29 rfl) (st_is2 (fo_is6 ck1)) (st_len2 (fo_is6 ck1)) ck11 ck12 ?_
    generalize qh13 : mf_up h10 (x0 + 10 + 3) (h10 x0 12) x3 = h13
    replace hyp := hyp _ qh13.symm
    refine mf_aload_n (mf_dat eX1_addBeing 30 rfl) rfl rfl ?_
    refine mf_getf (r := (RX1, TX1, 14)) (ci := 1) (k := 6) (t := 2) (v := x0 + 10) (mf_dat eX1_addBeing 31 rfl) fl_X1_37 rfl (by decide) rfl (gf_6 hG ck1) ck1 ?_
    refine mf_getf (r := (RX6, TX6, 8)) (ci := 6) (k := 3) (t := 2) (v := x0 + 10 + 4) (mf_dat eX1_addBeing 32 rfl) fl_X1_73 rfl (by decide) rfl (gs_3 hG (fo_is6 ck1)) (fo_is6 ck1) ?_
    refine mf_aload_n (mf_dat eX1_addBeing 33 rfl) rfl rfl ?_
    refine mf_getf (r := (RX1, TX1, 14)) (ci := 1) (k := 12) (t := 0) (v := h13 x0 12) (mf_dat eX1_addBeing 34 rfl) fl_X1_57 rfl (by decide) rfl rfl ck1 ?_
    refine mf_iconst (v := 5) (mf_dat eX1_addBeing 35 rfl) (by decide) ?_
    obtain ⟨ck14, hyp⟩ := hyp
    obtain ⟨ck15, hyp⟩ := hyp
    refine mf_iast (mf_dat eX1_addBeing 36 rfl) (st_is3 (fo_is6 ck1)) (st_len3 (fo_is6 ck1)) ck14 ck15 ?_
    generalize qh16 : mf_up h13 (x0 + 10 + 4) (h13 x0 12) 5 = h16
    replace hyp := hyp _ qh16.symm
    refine mf_aload_n (mf_dat eX1_addBeing 37 rfl) rfl rfl ?_
    refine mf_getf (r := (RX1, TX1, 14)) (ci := 1) (k := 6) (t := 2) (v := x0 + 10) (mf_dat eX1_addBeing 38 rfl) fl_X1_37 rfl (by decide) rfl (gf_6 hG ck1) ck1 ?_
    refine mf_getf (r := (RX6, TX6, 8)) (ci := 6) (k := 4) (t := 2) (v := x0 + 10 + 5) (mf_dat eX1_addBeing 39 rfl) fl_X1_76 rfl (by decide) rfl (gs_4 hG (fo_is6 ck1)) (fo_is6 ck1) ?_
    refine mf_aload_n (mf_dat eX1_addBeing 40 rfl) rfl rfl ?_
    refine mf_getf (r := (RX1, TX1, 14)) (ci := 1) (k := 12) (t := 0) (v := h16 x0 12) (mf_dat eX1_addBeing 41 rfl) fl_X1_57 rfl (by decide) rfl rfl ck1 ?_
    refine mf_iconst (v := 0) (mf_dat eX1_addBeing 42 rfl) (by decide) ?_
    obtain ⟨ck17, hyp⟩ := hyp
    obtain ⟨ck18, hyp⟩ := hyp
    refine mf_iast (mf_dat eX1_addBeing 43 rfl) (st_is4 (fo_is6 ck1)) (st_len4 (fo_is6 ck1)) ck17 ck18 ?_
    generalize qh19 : mf_up h16 (x0 + 10 + 5) (h16 x0 12) 0 = h19
    replace hyp := hyp _ qh19.symm
    refine mf_aload_n (mf_dat eX1_addBeing 44 rfl) rfl rfl ?_
    refine mf_dup (mf_dat eX1_addBeing 45 rfl) (by decide) ?_
    refine mf_getf (r := (RX1, TX1, 14)) (ci := 1) (k := 12) (t := 0) (v := h19 x0 12) (mf_dat eX1_addBeing 46 rfl) fl_X1_57 rfl (by decide) rfl rfl ck1 ?_
    refine mf_iconst (v := 1) (mf_dat eX1_addBeing 47 rfl) (by decide) ?_
    refine mf_iadd (mf_dat eX1_addBeing 48 rfl) ?_
    refine mf_putI (r := (RX1, TX1, 14)) (ci := 1) (k := 12) (kI := 12) (t := 0) (mf_dat eX1_addBeing 49 rfl) fl_X1_57 rfl rfl (by decide) rfl (by decide) rfl (by decide) (fun h9 => absurd h9 (by decide)) ck1 ?_
    generalize qh20 : mf_up h19 x0 12 (mf_w32 ((h19 x0 12) + 1)) = h20
    replace hyp := hyp _ qh20.symm
    exact mf_return (mf_dat eX1_addBeing 50 rfl) rfl ⟨hG, hyp⟩
abbrev BX1_hasName_2 (C : mf_G) (l : Launch) (d : Nat) (K : mf_Kt) (x0 x1 x2 : Int) (g h : mf_M) : Prop := jX C l d YX1_hasName K 2 [(0, (2, x0)), (1, (0, x1)), (2, (0, x2))] [] g h
set_option maxRecDepth 100000 in
set_option maxHeartbeats 4000000 in
theorem vX1_hasName_2 {C : mf_G} {l : Launch} {d : Nat} {K : mf_Kt} {x0 x1 x2 : Int} {g h : mf_M} (hyp : mf_is 319 x0 1 ∧ ((h x0 12 ≤ x2 → K 0 g h) ∧ (¬ h x0 12 ≤ x2 → ((8 ≤ x2 → K 0 g h) ∧ (¬ 8 ≤ x2 → 0 ≤ x2 ∧ x2 < 8 ∧ ((¬ h (x0 + 4) x2 = x1 → (∀ v4 : Int, v4 = mf_w32 (x2 + 1) → BX1_hasName_2 C l d K x0 x1 v4 g h)) ∧ (h (x0 + 4) x2 = x1 → K 1 g h))))))) : BX1_hasName_2 C l d K x0 x1 x2 g h := by
  intro hG
  refine mf_iload_n (mf_dat eX1_hasName 2 rfl) rfl rfl ?_
  refine mf_aload_n (mf_dat eX1_hasName 3 rfl) rfl rfl ?_
  obtain ⟨ck1, hyp⟩ := hyp
  refine mf_getf (r := (RX1, TX1, 14)) (ci := 1) (k := 12) (t := 0) (v := h x0 12) (mf_dat eX1_hasName 4 rfl) fl_X1_57 rfl (by decide) rfl rfl ck1 ?_
  refine mf_icmp_ge (tgt := 34) (mf_dat eX1_hasName 5 rfl) (by decide) (fun hc => ?_) (fun hc => ?_)
  · replace hyp := hyp.1 hc
    refine mf_iconst (v := 0) (mf_dat eX1_hasName 19 rfl) (by decide) ?_
    exact mf_ireturn (mf_dat eX1_hasName 20 rfl) rfl (Or.inr ⟨rfl, by decide⟩) ⟨hG, hyp⟩
  · replace hyp := hyp.2 hc
    refine mf_iload_n (mf_dat eX1_hasName 6 rfl) rfl rfl ?_
    refine mf_bipush (v := 8) (mf_dat eX1_hasName 7 rfl) (by decide) ?_
    refine mf_icmp_ge (tgt := 34) (mf_dat eX1_hasName 8 rfl) (by decide) (fun hc => ?_) (fun hc => ?_)
    · replace hyp := hyp.1 hc
      refine mf_iconst (v := 0) (mf_dat eX1_hasName 19 rfl) (by decide) ?_
      exact mf_ireturn (mf_dat eX1_hasName 20 rfl) rfl (Or.inr ⟨rfl, by decide⟩) ⟨hG, hyp⟩
    · replace hyp := hyp.2 hc
      refine mf_aload_n (mf_dat eX1_hasName 9 rfl) rfl rfl ?_
      refine mf_getf (r := (RX1, TX1, 14)) (ci := 1) (k := 3) (t := 2) (v := x0 + 4) (mf_dat eX1_hasName 10 rfl) fl_X1_21 rfl (by decide) rfl (gf_3 hG ck1) ck1 ?_
      refine mf_iload_n (mf_dat eX1_hasName 11 rfl) rfl rfl ?_
      obtain ⟨ck2, hyp⟩ := hyp
      obtain ⟨ck3, hyp⟩ := hyp
      refine mf_iald (mf_dat eX1_hasName 12 rfl) (fo_is3 ck1) (fo_len3 ck1) ck2 ck3 ?_
      refine mf_iload_n (mf_dat eX1_hasName 13 rfl) rfl rfl ?_
      refine mf_icmp_ne (tgt := 28) (mf_dat eX1_hasName 14 rfl) (by decide) (fun hc => ?_) (fun hc => ?_)
      · replace hyp := hyp.1 hc
        refine mf_iinc (mf_dat eX1_hasName 17 rfl) rfl (by decide) (by decide) ?_
        generalize qv4 : mf_w32 (x2 + 1) = v4
        replace hyp := hyp _ qv4.symm
        refine mf_goto (tgt := 2) (mf_dat eX1_hasName 18 rfl) (by decide) ?_
        exact mf_sub [1, 2, 0] rfl (hyp hG)
      · replace hyp := hyp.2 hc
        refine mf_iconst (v := 1) (mf_dat eX1_hasName 15 rfl) (by decide) ?_
        exact mf_ireturn (mf_dat eX1_hasName 16 rfl) rfl (Or.inr ⟨rfl, by decide⟩) ⟨hG, hyp⟩
set_option maxRecDepth 100000 in
set_option maxHeartbeats 4000000 in
theorem wX1_hasName {C : mf_G} {l : Launch} {d : Nat} {K : mf_Kt} {x0 x1 : Int} {g h : mf_M} (hyp : BX1_hasName_2 C l d K x0 x1 0 g h) : xM C l d YX1_hasName [(2, x0), (0, x1)] g h K := by
  intro hG
  refine mf_entry (by decide) (Nat.le_of_ble_eq_true rfl) ?_
  refine mf_iconst (v := 0) (mf_dat eX1_hasName 0 rfl) (by decide) ?_
  refine mf_istore_n (mf_dat eX1_hasName 1 rfl) rfl (by decide) ?_
  exact mf_sub [1, 2, 0] rfl (hyp hG)
set_option maxRecDepth 100000 in
set_option maxHeartbeats 4000000 in
theorem wX1_mirror {C : mf_G} {l : Launch} {d : Nat} {K : mf_Kt} {x0 x1 : Int} {g h : mf_M} (hyp : mf_is 319 x0 1 ∧ K (mf_w32 ((mf_w32 ((h x0 9) - 1)) - x1)) g h) : xM C l d YX1_mirror [(2, x0), (0, x1)] g h K := by
  intro hG
  refine mf_entry (by decide) (Nat.le_of_ble_eq_true rfl) ?_
  refine mf_aload_n (mf_dat eX1_mirror 0 rfl) rfl rfl ?_
  obtain ⟨ck1, hyp⟩ := hyp
  refine mf_getf (r := (RX1, TX1, 14)) (ci := 1) (k := 9) (t := 0) (v := h x0 9) (mf_dat eX1_mirror 1 rfl) fl_X1_48 rfl (by decide) rfl rfl ck1 ?_
  refine mf_iconst (v := 1) (mf_dat eX1_mirror 2 rfl) (by decide) ?_
  refine mf_isub (mf_dat eX1_mirror 3 rfl) ?_
  refine mf_iload_n (mf_dat eX1_mirror 4 rfl) rfl rfl ?_
  refine mf_isub (mf_dat eX1_mirror 5 rfl) ?_
  exact mf_ireturn (mf_dat eX1_mirror 6 rfl) rfl (Or.inl rfl) ⟨hG, hyp⟩
abbrev BX2_read_21 (C : mf_G) (l : Launch) (d : Nat) (K : mf_Kt) (x2 : Int) (g h : mf_M) : Prop := jX C l d YX2_read K 21 [(0, (2, 45)), (2, (0, x2))] [] g h
set_option maxRecDepth 100000 in
set_option maxHeartbeats 4000000 in
theorem vX2_read_21 {C : mf_G} {l : Launch} {d : Nat} {K : mf_Kt} {x2 : Int} {g h : mf_M} (hd : 127 ≤ d) (hyp : ((80 < x2 → mf_is 319 (g 45 3) 1 ∧ ((¬ h (g 45 3) 7 = 0 → K 0 g h) ∧ (h (g 45 3) 7 = 0 → xM C l 0 YX9_fail [(2, 5), (0, 1), (0, h 5 3)] g h (fun r2 g3 h4 => K 0 g3 h4)))) ∧ (¬ 80 < x2 → ((¬ h 5 8 = 0 → mf_is 319 (g 45 3) 1 ∧ ((¬ h (g 45 3) 7 = 0 → K 0 g h) ∧ (h (g 45 3) 7 = 0 → xM C l 0 YX9_fail [(2, 5), (0, 1), (0, h 5 3)] g h (fun r6 g7 h8 => K 0 g7 h8)))) ∧ (h 5 8 = 0 → ((¬ h 5 2 = 0 → ((¬ x2 = 80 → xM C l 126 YX2_readStatement [(2, 45), (0, x2)] g h (fun r9 g10 h11 => mf_is 319 (g10 45 3) 1 ∧ xM C l 0 YX4_finish [(2, g10 45 3 + 6)] g10 h11 (fun r13 g14 h15 => xM C l 3 YX9_passSign [(2, 5), (0, 59)] g14 h15 (fun r16 g17 h18 => mf_is 319 (g17 45 3) 1 ∧ (∀ h20 : mf_M, h20 = mf_up h18 (g17 45 3) 7 (mf_w32 ((h18 (g17 45 3) 7) + 1)) → (∀ v21 : Int, v21 = mf_w32 (x2 + 1) → BX2_read_21 C l d K v21 g17 h20)))))) ∧ (x2 = 80 → xM C l 0 YX9_fail [(2, 5), (0, 5), (0, h 5 3)] g h (fun r22 g23 h24 => (∀ v25 : Int, v25 = mf_w32 (x2 + 1) → BX2_read_21 C l d K v25 g23 h24))))) ∧ (h 5 2 = 0 → mf_is 319 (g 45 3) 1 ∧ ((¬ h (g 45 3) 7 = 0 → K 0 g h) ∧ (h (g 45 3) 7 = 0 → xM C l 0 YX9_fail [(2, 5), (0, 1), (0, h 5 3)] g h (fun r27 g28 h29 => K 0 g28 h29)))))))))) : BX2_read_21 C l d K x2 g h := by
  intro hG
  refine mf_iload_n (mf_dat eX2_read_p0 11 rfl) rfl rfl ?_
  refine mf_bipush (v := 80) (mf_dat eX2_read_p0 12 rfl) (by decide) ?_
  refine mf_icmp_gt (tgt := 117) (mf_dat eX2_read_p0 13 rfl) (by decide) (fun hc => ?_) (fun hc => ?_)
  · replace hyp := hyp.1 hc
    refine mf_aload_n (mf_dat eX2_read_p0 54 rfl) rfl rfl ?_
    refine mf_getf (r := (RX2, TX2, 4)) (ci := 2) (k := 3) (t := 2) (v := g 45 3) (mf_dat eX2_read_p0 55 rfl) fl_X2_23 rfl (by decide) rfl rfl is45 ?_
    obtain ⟨ck1, hyp⟩ := hyp
    refine mf_getf (r := (RX1, TX1, 14)) (ci := 1) (k := 7) (t := 0) (v := h (g 45 3) 7) (mf_dat eX2_read_p0 56 rfl) fl_X2_68 rfl (by decide) rfl rfl ck1 ?_
    refine mf_if_ne (tgt := 142) (mf_dat eX2_read_p0 57 rfl) (by decide) (fun hc => ?_) (fun hc => ?_)
    · replace hyp := hyp.1 hc
      exact mf_return (mf_dat eX2_read_p1 5 rfl) rfl ⟨hG, hyp⟩
    · replace hyp := hyp.2 hc
      refine mf_aload_n (mf_dat eX2_read_p0 58 rfl) rfl rfl ?_
      refine mf_getf (r := (RX2, TX2, 4)) (ci := 2) (k := 0) (t := 2) (v := 5) (mf_dat eX2_read_p0 59 rfl) fl_X2_9 rfl (by decide) rfl (gx_45_0 hG) is45 ?_
      refine mf_iconst (v := 1) (mf_dat eX2_read_p1 0 rfl) (by decide) ?_
      refine mf_aload_n (mf_dat eX2_read_p1 1 rfl) rfl rfl ?_
      refine mf_getf (r := (RX2, TX2, 4)) (ci := 2) (k := 0) (t := 2) (v := 5) (mf_dat eX2_read_p1 2 rfl) fl_X2_9 rfl (by decide) rfl (gx_45_0 hG) is45 ?_
      refine mf_getf (r := (RX9, TX9, 10)) (ci := 9) (k := 3) (t := 0) (v := h 5 3) (mf_dat eX2_read_p1 3 rfl) fl_X2_44 rfl (by decide) rfl rfl is5 ?_
      refine mf_callV (Yc := YX9_fail) (r := (RX9, TX9, 10)) (ci := 9) (mf_dat eX2_read_p1 4 rfl) ml_X2_47 okX9_fail im_X9_fail sl_X9_fail rfl rfl rfl rfl (Nat.le_of_ble_eq_true rfl) (mf_rr (Nat.le_trans (by decide) hd) (Nat.le_refl _)) (Nat.le_refl _) is5 (hyp hG) (fun r2 g3 h4 hyp => ?_)
      obtain ⟨hG, hyp⟩ := hyp
      exact mf_return (mf_dat eX2_read_p1 5 rfl) rfl ⟨hG, hyp⟩
  · replace hyp := hyp.2 hc
    refine mf_aload_n (mf_dat eX2_read_p0 14 rfl) rfl rfl ?_
    refine mf_getf (r := (RX2, TX2, 4)) (ci := 2) (k := 0) (t := 2) (v := 5) (mf_dat eX2_read_p0 15 rfl) fl_X2_9 rfl (by decide) rfl (gx_45_0 hG) is45 ?_
    refine mf_getf (r := (RX9, TX9, 10)) (ci := 9) (k := 8) (t := 0) (v := h 5 8) (mf_dat eX2_read_p0 16 rfl) fl_X2_37 rfl (by decide) rfl rfl is5 ?_
    refine mf_if_ne (tgt := 117) (mf_dat eX2_read_p0 17 rfl) (by decide) (fun hc => ?_) (fun hc => ?_)
    · replace hyp := hyp.1 hc
      refine mf_aload_n (mf_dat eX2_read_p0 54 rfl) rfl rfl ?_
      refine mf_getf (r := (RX2, TX2, 4)) (ci := 2) (k := 3) (t := 2) (v := g 45 3) (mf_dat eX2_read_p0 55 rfl) fl_X2_23 rfl (by decide) rfl rfl is45 ?_
      obtain ⟨ck5, hyp⟩ := hyp
      refine mf_getf (r := (RX1, TX1, 14)) (ci := 1) (k := 7) (t := 0) (v := h (g 45 3) 7) (mf_dat eX2_read_p0 56 rfl) fl_X2_68 rfl (by decide) rfl rfl ck5 ?_
      refine mf_if_ne (tgt := 142) (mf_dat eX2_read_p0 57 rfl) (by decide) (fun hc => ?_) (fun hc => ?_)
      · replace hyp := hyp.1 hc
        exact mf_return (mf_dat eX2_read_p1 5 rfl) rfl ⟨hG, hyp⟩
      · replace hyp := hyp.2 hc
        refine mf_aload_n (mf_dat eX2_read_p0 58 rfl) rfl rfl ?_
        refine mf_getf (r := (RX2, TX2, 4)) (ci := 2) (k := 0) (t := 2) (v := 5) (mf_dat eX2_read_p0 59 rfl) fl_X2_9 rfl (by decide) rfl (gx_45_0 hG) is45 ?_
        refine mf_iconst (v := 1) (mf_dat eX2_read_p1 0 rfl) (by decide) ?_
        refine mf_aload_n (mf_dat eX2_read_p1 1 rfl) rfl rfl ?_
        refine mf_getf (r := (RX2, TX2, 4)) (ci := 2) (k := 0) (t := 2) (v := 5) (mf_dat eX2_read_p1 2 rfl) fl_X2_9 rfl (by decide) rfl (gx_45_0 hG) is45 ?_
        refine mf_getf (r := (RX9, TX9, 10)) (ci := 9) (k := 3) (t := 0) (v := h 5 3) (mf_dat eX2_read_p1 3 rfl) fl_X2_44 rfl (by decide) rfl rfl is5 ?_
        refine mf_callV (Yc := YX9_fail) (r := (RX9, TX9, 10)) (ci := 9) (mf_dat eX2_read_p1 4 rfl) ml_X2_47 okX9_fail im_X9_fail sl_X9_fail rfl rfl rfl rfl (Nat.le_of_ble_eq_true rfl) (mf_rr (Nat.le_trans (by decide) hd) (Nat.le_refl _)) (Nat.le_refl _) is5 (hyp hG) (fun r6 g7 h8 hyp => ?_)
        obtain ⟨hG, hyp⟩ := hyp
        exact mf_return (mf_dat eX2_read_p1 5 rfl) rfl ⟨hG, hyp⟩
    · replace hyp := hyp.2 hc
      refine mf_aload_n (mf_dat eX2_read_p0 18 rfl) rfl rfl ?_
      refine mf_getf (r := (RX2, TX2, 4)) (ci := 2) (k := 0) (t := 2) (v := 5) (mf_dat eX2_read_p0 19 rfl) fl_X2_9 rfl (by decide) rfl (gx_45_0 hG) is45 ?_
      refine mf_getf (r := (RX9, TX9, 10)) (ci := 9) (k := 2) (t := 0) (v := h 5 2) (mf_dat eX2_read_p0 20 rfl) fl_X2_41 rfl (by decide) rfl rfl is5 ?_
      refine mf_if_ne (tgt := 50) (mf_dat eX2_read_p0 21 rfl) (by decide) (fun hc => ?_) (fun hc => ?_)
      · replace hyp := hyp.1 hc
        refine mf_iload_n (mf_dat eX2_read_p0 23 rfl) rfl rfl ?_
        refine mf_bipush (v := 80) (mf_dat eX2_read_p0 24 rfl) (by decide) ?_
        refine mf_icmp_ne (tgt := 74) (mf_dat eX2_read_p0 25 rfl) (by decide) (fun hc => ?_) (fun hc => ?_)
        · replace hyp := hyp.1 hc
          refine mf_aload_n (mf_dat eX2_read_p0 34 rfl) rfl rfl ?_
          refine mf_iload_n (mf_dat eX2_read_p0 35 rfl) rfl rfl ?_
          refine mf_callV (Yc := YX2_readStatement) (r := (RX2, TX2, 4)) (ci := 2) (mf_dat eX2_read_p0 36 rfl) ml_X2_51 okX2_readStatement im_X2_readStatement sl_X2_readStatement rfl rfl rfl rfl (Nat.le_of_ble_eq_true rfl) (mf_rr (Nat.le_trans (by decide) hd) (Nat.le_refl _)) (Nat.le_refl _) is45 (hyp hG) (fun r9 g10 h11 hyp => ?_)
          obtain ⟨hG, hyp⟩ := hyp
          refine mf_aload_n (mf_dat eX2_read_p0 37 rfl) rfl rfl ?_
          refine mf_getf (r := (RX2, TX2, 4)) (ci := 2) (k := 3) (t := 2) (v := g10 45 3) (mf_dat eX2_read_p0 38 rfl) fl_X2_23 rfl (by decide) rfl rfl is45 ?_
          obtain ⟨ck12, hyp⟩ := hyp
          refine mf_getf (r := (RX1, TX1, 14)) (ci := 1) (k := 5) (t := 2) (v := g10 45 3 + 6) (mf_dat eX2_read_p0 39 rfl) fl_X2_55 rfl (by decide) rfl (gf_5 hG ck12) ck12 ?_
          refine mf_callV (Yc := YX4_finish) (r := (RX4, TX4, 5)) (ci := 4) (mf_dat eX2_read_p0 40 rfl) ml_X2_59 okX4_finish im_X4_finish sl_X4_finish rfl rfl rfl rfl (Nat.le_of_ble_eq_true rfl) (mf_rr (Nat.le_trans (by decide) hd) (Nat.le_refl _)) (Nat.le_refl _) (fo_is5 ck12) (hyp hG) (fun r13 g14 h15 hyp => ?_)
          obtain ⟨hG, hyp⟩ := hyp
          refine mf_aload_n (mf_dat eX2_read_p0 41 rfl) rfl rfl ?_
          refine mf_getf (r := (RX2, TX2, 4)) (ci := 2) (k := 0) (t := 2) (v := 5) (mf_dat eX2_read_p0 42 rfl) fl_X2_9 rfl (by decide) rfl (gx_45_0 hG) is45 ?_
          refine mf_bipush (v := 59) (mf_dat eX2_read_p0 43 rfl) (by decide) ?_
          refine mf_callV (Yc := YX9_passSign) (r := (RX9, TX9, 10)) (ci := 9) (mf_dat eX2_read_p0 44 rfl) ml_X2_64 okX9_passSign im_X9_passSign sl_X9_passSign rfl rfl rfl rfl (Nat.le_of_ble_eq_true rfl) (mf_rr (Nat.le_trans (by decide) hd) (Nat.le_refl _)) (Nat.le_refl _) is5 (hyp hG) (fun r16 g17 h18 hyp => ?_)
          obtain ⟨hG, hyp⟩ := hyp
          refine mf_aload_n (mf_dat eX2_read_p0 45 rfl) rfl rfl ?_
          refine mf_getf (r := (RX2, TX2, 4)) (ci := 2) (k := 3) (t := 2) (v := g17 45 3) (mf_dat eX2_read_p0 46 rfl) fl_X2_23 rfl (by decide) rfl rfl is45 ?_
          refine mf_dup (mf_dat eX2_read_p0 47 rfl) (by decide) ?_
          obtain ⟨ck19, hyp⟩ := hyp
          refine mf_getf (r := (RX1, TX1, 14)) (ci := 1) (k := 7) (t := 0) (v := h18 (g17 45 3) 7) (mf_dat eX2_read_p0 48 rfl) fl_X2_68 rfl (by decide) rfl rfl ck19 ?_
          refine mf_iconst (v := 1) (mf_dat eX2_read_p0 49 rfl) (by decide) ?_
          refine mf_iadd (mf_dat eX2_read_p0 50 rfl) ?_
          refine mf_putI (r := (RX1, TX1, 14)) (ci := 1) (k := 7) (kI := 7) (t := 0) (mf_dat eX2_read_p0 51 rfl) fl_X2_68 rfl rfl (by decide) rfl (by decide) rfl (by decide) (fun h9 => absurd h9 (by decide)) ck19 ?_
          generalize qh20 : mf_up h18 (g17 45 3) 7 (mf_w32 ((h18 (g17 45 3) 7) + 1)) = h20
          replace hyp := hyp _ qh20.symm
          refine mf_iinc (mf_dat eX2_read_p0 52 rfl) rfl (by decide) (by decide) ?_
          generalize qv21 : mf_w32 (x2 + 1) = v21
          replace hyp := hyp _ qv21.symm
          refine mf_goto (tgt := 21) (mf_dat eX2_read_p0 53 rfl) (by decide) ?_
          exact mf_sub [1, 0] rfl (hyp hG)
        · replace hyp := hyp.2 hc
          refine mf_aload_n (mf_dat eX2_read_p0 26 rfl) rfl rfl ?_
          refine mf_getf (r := (RX2, TX2, 4)) (ci := 2) (k := 0) (t := 2) (v := 5) (mf_dat eX2_read_p0 27 rfl) fl_X2_9 rfl (by decide) rfl (gx_45_0 hG) is45 ?_
          refine mf_iconst (v := 5) (mf_dat eX2_read_p0 28 rfl) (by decide) ?_
          refine mf_aload_n (mf_dat eX2_read_p0 29 rfl) rfl rfl ?_
          refine mf_getf (r := (RX2, TX2, 4)) (ci := 2) (k := 0) (t := 2) (v := 5) (mf_dat eX2_read_p0 30 rfl) fl_X2_9 rfl (by decide) rfl (gx_45_0 hG) is45 ?_
          refine mf_getf (r := (RX9, TX9, 10)) (ci := 9) (k := 3) (t := 0) (v := h 5 3) (mf_dat eX2_read_p0 31 rfl) fl_X2_44 rfl (by decide) rfl rfl is5 ?_
          refine mf_callV (Yc := YX9_fail) (r := (RX9, TX9, 10)) (ci := 9) (mf_dat eX2_read_p0 32 rfl) ml_X2_47 okX9_fail im_X9_fail sl_X9_fail rfl rfl rfl rfl (Nat.le_of_ble_eq_true rfl) (mf_rr (Nat.le_trans (by decide) hd) (Nat.le_refl _)) (Nat.le_refl _) is5 (hyp hG) (fun r22 g23 h24 hyp => ?_)
          obtain ⟨hG, hyp⟩ := hyp
          refine mf_goto (tgt := 111) (mf_dat eX2_read_p0 33 rfl) (by decide) ?_
          refine mf_iinc (mf_dat eX2_read_p0 52 rfl) rfl (by decide) (by decide) ?_
          generalize qv25 : mf_w32 (x2 + 1) = v25
          replace hyp := hyp _ qv25.symm
          refine mf_goto (tgt := 21) (mf_dat eX2_read_p0 53 rfl) (by decide) ?_
          exact mf_sub [1, 0] rfl (hyp hG)
      · replace hyp := hyp.2 hc
        refine mf_goto (tgt := 117) (mf_dat eX2_read_p0 22 rfl) (by decide) ?_
        refine mf_aload_n (mf_dat eX2_read_p0 54 rfl) rfl rfl ?_
        refine mf_getf (r := (RX2, TX2, 4)) (ci := 2) (k := 3) (t := 2) (v := g 45 3) (mf_dat eX2_read_p0 55 rfl) fl_X2_23 rfl (by decide) rfl rfl is45 ?_
        obtain ⟨ck26, hyp⟩ := hyp
        refine mf_getf (r := (RX1, TX1, 14)) (ci := 1) (k := 7) (t := 0) (v := h (g 45 3) 7) (mf_dat eX2_read_p0 56 rfl) fl_X2_68 rfl (by decide) rfl rfl ck26 ?_
        refine mf_if_ne (tgt := 142) (mf_dat eX2_read_p0 57 rfl) (by decide) (fun hc => ?_) (fun hc => ?_)
        · replace hyp := hyp.1 hc
          exact mf_return (mf_dat eX2_read_p1 5 rfl) rfl ⟨hG, hyp⟩
        · replace hyp := hyp.2 hc
          refine mf_aload_n (mf_dat eX2_read_p0 58 rfl) rfl rfl ?_
          refine mf_getf (r := (RX2, TX2, 4)) (ci := 2) (k := 0) (t := 2) (v := 5) (mf_dat eX2_read_p0 59 rfl) fl_X2_9 rfl (by decide) rfl (gx_45_0 hG) is45 ?_
          refine mf_iconst (v := 1) (mf_dat eX2_read_p1 0 rfl) (by decide) ?_
          refine mf_aload_n (mf_dat eX2_read_p1 1 rfl) rfl rfl ?_
          refine mf_getf (r := (RX2, TX2, 4)) (ci := 2) (k := 0) (t := 2) (v := 5) (mf_dat eX2_read_p1 2 rfl) fl_X2_9 rfl (by decide) rfl (gx_45_0 hG) is45 ?_
          refine mf_getf (r := (RX9, TX9, 10)) (ci := 9) (k := 3) (t := 0) (v := h 5 3) (mf_dat eX2_read_p1 3 rfl) fl_X2_44 rfl (by decide) rfl rfl is5 ?_
          refine mf_callV (Yc := YX9_fail) (r := (RX9, TX9, 10)) (ci := 9) (mf_dat eX2_read_p1 4 rfl) ml_X2_47 okX9_fail im_X9_fail sl_X9_fail rfl rfl rfl rfl (Nat.le_of_ble_eq_true rfl) (mf_rr (Nat.le_trans (by decide) hd) (Nat.le_refl _)) (Nat.le_refl _) is5 (hyp hG) (fun r27 g28 h29 hyp => ?_)
          obtain ⟨hG, hyp⟩ := hyp
          exact mf_return (mf_dat eX2_read_p1 5 rfl) rfl ⟨hG, hyp⟩
set_option maxRecDepth 100000 in
set_option maxHeartbeats 4000000 in
theorem wX2_read {C : mf_G} {l : Launch} {d : Nat} {K : mf_Kt} {x1 : Int} {g h : mf_M} (hd : 4 ≤ d) (hyp : (∀ g1 : mf_M, g1 = mf_up g 45 3 x1 → mf_is 319 (g1 45 3) 1 ∧ xM C l 1 YX1_forget [(2, g1 45 3)] g1 h (fun r2 g3 h4 => xM C l 3 YX9_start [(2, 5)] g3 h4 (fun r6 g7 h8 => BX2_read_21 C l d K 0 g7 h8)))) : xM C l d YX2_read [(2, 45), (2, x1)] g h K := by
  intro hG
  refine mf_entry (by decide) (Nat.le_of_ble_eq_true rfl) ?_
  refine mf_aload_n (mf_dat eX2_read_p0 0 rfl) rfl rfl ?_
  refine mf_aload_n (mf_dat eX2_read_p0 1 rfl) rfl rfl ?_
  refine mf_putR (r := (RX2, TX2, 4)) (ci := 2) (k := 3) (kI := 3) (t := 2) (mf_dat eX2_read_p0 2 rfl) fl_X2_23 rfl rfl (by decide) rfl (by decide) rfl (by decide) (fun h9 => absurd h9 (by decide)) is45 ?_
  replace hG := hG.up (a := 45) (k := 3) (v := x1) (by decide)
  generalize qg1 : mf_up g 45 3 x1 = g1 at hG ⊢
  replace hyp := hyp _ qg1.symm
  refine mf_aload_n (mf_dat eX2_read_p0 3 rfl) rfl rfl ?_
  refine mf_getf (r := (RX2, TX2, 4)) (ci := 2) (k := 3) (t := 2) (v := g1 45 3) (mf_dat eX2_read_p0 4 rfl) fl_X2_23 rfl (by decide) rfl rfl is45 ?_
  obtain ⟨ck5, hyp⟩ := hyp
  refine mf_callV (Yc := YX1_forget) (r := (RX1, TX1, 14)) (ci := 1) (mf_dat eX2_read_p0 5 rfl) ml_X2_27 okX1_forget im_X1_forget sl_X1_forget rfl rfl rfl rfl (Nat.le_of_ble_eq_true rfl) (mf_rr (Nat.le_trans (by decide) hd) (Nat.le_refl _)) (Nat.le_refl _) ck5 (hyp hG) (fun r2 g3 h4 hyp => ?_)
  obtain ⟨hG, hyp⟩ := hyp
  refine mf_aload_n (mf_dat eX2_read_p0 6 rfl) rfl rfl ?_
  refine mf_getf (r := (RX2, TX2, 4)) (ci := 2) (k := 0) (t := 2) (v := 5) (mf_dat eX2_read_p0 7 rfl) fl_X2_9 rfl (by decide) rfl (gx_45_0 hG) is45 ?_
  refine mf_callV (Yc := YX9_start) (r := (RX9, TX9, 10)) (ci := 9) (mf_dat eX2_read_p0 8 rfl) ml_X2_32 okX9_start im_X9_start sl_X9_start rfl rfl rfl rfl (Nat.le_of_ble_eq_true rfl) (mf_rr (Nat.le_trans (by decide) hd) (Nat.le_refl _)) (Nat.le_refl _) is5 (hyp hG) (fun r6 g7 h8 hyp => ?_)
  obtain ⟨hG, hyp⟩ := hyp
  refine mf_iconst (v := 0) (mf_dat eX2_read_p0 9 rfl) (by decide) ?_
  refine mf_istore_n (mf_dat eX2_read_p0 10 rfl) rfl (by decide) ?_
  exact mf_sub [1, 0] rfl (hyp hG)
abbrev BX2_readStatement_29 (C : mf_G) (l : Launch) (d : Nat) (K : mf_Kt) (x1 s0 : Int) (g h : mf_M) : Prop := jX C l d YX2_readStatement K 29 [(0, (2, 45)), (1, (0, x1))] [(0, s0)] g h
abbrev BX2_readStatement_50 (C : mf_G) (l : Launch) (d : Nat) (K : mf_Kt) (x2 s0 s1 : Int) (g h : mf_M) : Prop := jX C l d YX2_readStatement K 50 [(0, (2, 45)), (2, (0, x2))] [(0, s1), (0, s0)] g h
set_option maxRecDepth 100000 in
set_option maxHeartbeats 4000000 in
theorem vX2_readStatement_29 {C : mf_G} {l : Launch} {d : Nat} {K : mf_Kt} {x1 s0 : Int} {g h : mf_M} (hyp : ((¬ x1 = 0 → ((¬ s0 = 16 → BX2_readStatement_50 C l d K s0 0 0 g h) ∧ (s0 = 16 → BX2_readStatement_50 C l d K s0 0 1 g h))) ∧ (x1 = 0 → ((¬ s0 = 16 → BX2_readStatement_50 C l d K s0 1 0 g h) ∧ (s0 = 16 → BX2_readStatement_50 C l d K s0 1 1 g h))))) : BX2_readStatement_29 C l d K x1 s0 g h := by
  intro hG
  refine mf_istore_n (mf_dat eX2_readStatement_p0 13 rfl) rfl (by decide) ?_
  refine mf_iload_n (mf_dat eX2_readStatement_p0 14 rfl) rfl rfl ?_
  refine mf_if_ne (tgt := 38) (mf_dat eX2_readStatement_p0 15 rfl) (by decide) (fun hc => ?_) (fun hc => ?_)
  · replace hyp := hyp.1 hc
    refine mf_iconst (v := 0) (mf_dat eX2_readStatement_p0 18 rfl) (by decide) ?_
    refine mf_iload_n (mf_dat eX2_readStatement_p0 19 rfl) rfl rfl ?_
    refine mf_bipush (v := 16) (mf_dat eX2_readStatement_p0 20 rfl) (by decide) ?_
    refine mf_icmp_ne (tgt := 49) (mf_dat eX2_readStatement_p0 21 rfl) (by decide) (fun hc => ?_) (fun hc => ?_)
    · replace hyp := hyp.1 hc
      refine mf_iconst (v := 0) (mf_dat eX2_readStatement_p0 24 rfl) (by decide) ?_
      exact mf_sub [1, 0] rfl (hyp hG)
    · replace hyp := hyp.2 hc
      refine mf_iconst (v := 1) (mf_dat eX2_readStatement_p0 22 rfl) (by decide) ?_
      refine mf_goto (tgt := 50) (mf_dat eX2_readStatement_p0 23 rfl) (by decide) ?_
      exact mf_sub [1, 0] rfl (hyp hG)
  · replace hyp := hyp.2 hc
    refine mf_iconst (v := 1) (mf_dat eX2_readStatement_p0 16 rfl) (by decide) ?_
    refine mf_goto (tgt := 39) (mf_dat eX2_readStatement_p0 17 rfl) (by decide) ?_
    refine mf_iload_n (mf_dat eX2_readStatement_p0 19 rfl) rfl rfl ?_
    refine mf_bipush (v := 16) (mf_dat eX2_readStatement_p0 20 rfl) (by decide) ?_
    refine mf_icmp_ne (tgt := 49) (mf_dat eX2_readStatement_p0 21 rfl) (by decide) (fun hc => ?_) (fun hc => ?_)
    · replace hyp := hyp.1 hc
      refine mf_iconst (v := 0) (mf_dat eX2_readStatement_p0 24 rfl) (by decide) ?_
      exact mf_sub [1, 0] rfl (hyp hG)
    · replace hyp := hyp.2 hc
      refine mf_iconst (v := 1) (mf_dat eX2_readStatement_p0 22 rfl) (by decide) ?_
      refine mf_goto (tgt := 50) (mf_dat eX2_readStatement_p0 23 rfl) (by decide) ?_
      exact mf_sub [1, 0] rfl (hyp hG)
set_option maxRecDepth 100000 in
set_option maxHeartbeats 4000000 in
theorem vX2_readStatement_50 {C : mf_G} {l : Launch} {d : Nat} {K : mf_Kt} {x2 s0 s1 : Int} {g h : mf_M} (hd : 126 ≤ d) (hyp : ((s0 = s1 → ((x2 = 16 → xM C l 5 YX2_readSize [(2, 45)] g h (fun r1 g2 h3 => K 0 g2 h3)) ∧ (x2 = 17 → xM C l 0 YX9_fail [(2, 5), (0, 1), (0, h 5 3)] g h (fun r4 g5 h6 => K 0 g5 h6)) ∧ (x2 = 18 → xM C l 6 YX2_readGloss [(2, 45)] g h (fun r7 g8 h9 => K 0 g8 h9)) ∧ (x2 = 19 → xM C l 5 YX2_readWorm [(2, 45)] g h (fun r10 g11 h12 => K 0 g11 h12)) ∧ (x2 = 20 → xM C l 6 YX2_readBeing [(2, 45)] g h (fun r13 g14 h15 => K 0 g14 h15)) ∧ (x2 = 21 → xM C l 0 YX9_fail [(2, 5), (0, 1), (0, h 5 3)] g h (fun r16 g17 h18 => K 0 g17 h18)) ∧ (x2 = 22 → xM C l 0 YX9_fail [(2, 5), (0, 1), (0, h 5 3)] g h (fun r19 g20 h21 => K 0 g20 h21)) ∧ (x2 = 23 → xM C l 4 YX2_beginRule [(2, 45), (0, 0), (0, 1)] g h (fun r22 g23 h24 => ((r22 = 0 → K 0 g23 h24) ∧ (¬ r22 = 0 → xM C l 64 YX7_readSum [(2, 10), (0, 0)] g23 h24 (fun r25 g26 h27 => K 0 g26 h27))))) ∧ (x2 = 24 → xM C l 4 YX2_beginRule [(2, 45), (0, 1), (0, 63)] g h (fun r28 g29 h30 => ((r28 = 0 → K 0 g29 h30) ∧ (¬ r28 = 0 → xM C l 64 YX7_readSum [(2, 10), (0, 0)] g29 h30 (fun r31 g32 h33 => K 0 g32 h33))))) ∧ (x2 = 25 → xM C l 4 YX2_beginRule [(2, 45), (0, 2), (0, 127)] g h (fun r34 g35 h36 => ((r34 = 0 → K 0 g35 h36) ∧ (¬ r34 = 0 → xM C l 64 YX7_readSum [(2, 10), (0, 0)] g35 h36 (fun r37 g38 h39 => K 0 g38 h39))))) ∧ (x2 = 26 → xM C l 4 YX2_beginRule [(2, 45), (0, 3), (0, 63)] g h (fun r40 g41 h42 => ((r40 = 0 → K 0 g41 h42) ∧ (¬ r40 = 0 → xM C l 125 YX7_readTest [(2, 10), (0, 0)] g41 h42 (fun r43 g44 h45 => K 0 g44 h45))))) ∧ (x2 = 27 → xM C l 2 YX9_step [(2, 5)] g h (fun r46 g47 h48 => xM C l 3 YX9_passNumber [(2, 5), (0, 0), (0, 100)] g47 h48 (fun r49 g50 h51 => mf_is 319 (g47 45 3) 1 ∧ (∀ h53 : mf_M, h53 = mf_up h51 (g47 45 3) 13 r49 → K 0 g50 h53)))) ∧ ((x2 < 16 ∨ 27 < x2) → xM C l 0 YX9_fail [(2, 5), (0, 1), (0, h 5 3)] g h (fun r54 g55 h56 => K 0 g55 h56)))) ∧ (¬ s0 = s1 → xM C l 0 YX9_fail [(2, 5), (0, 1), (0, h 5 3)] g h (fun r57 g58 h59 => K 0 g58 h59)))) : BX2_readStatement_50 C l d K x2 s0 s1 g h := by
  intro hG
  refine mf_icmp_eq (tgt := 69) (mf_dat eX2_readStatement_p0 25 rfl) (by decide) (fun hc => ?_) (fun hc => ?_)
  · replace hyp := hyp.1 hc
    refine mf_iload_n (mf_dat eX2_readStatement_p0 34 rfl) rfl rfl ?_
    refine mf_tsw1 (v := 16) (tgt := 132) (mf_dat eX2_readStatement_p0 35 rfl) (by decide) (by decide) (off := 62) (by decide) (by decide) (fun hc => ?_) (fun hc0 => ?_)
    · replace hyp := hyp.1 hc
      refine mf_aload_n (mf_dat eX2_readStatement_p0 36 rfl) rfl rfl ?_
      refine mf_callV (Yc := YX2_readSize) (r := (RX2, TX2, 4)) (ci := 2) (mf_dat eX2_readStatement_p0 37 rfl) ml_X2_80 okX2_readSize im_X2_readSize sl_X2_readSize rfl rfl rfl rfl (Nat.le_of_ble_eq_true rfl) (mf_rr (Nat.le_trans (by decide) hd) (Nat.le_refl _)) (Nat.le_refl _) is45 (hyp hG) (fun r1 g2 h3 hyp => ?_)
      obtain ⟨hG, hyp⟩ := hyp
      refine mf_goto (tgt := 285) (mf_dat eX2_readStatement_p0 38 rfl) (by decide) ?_
      exact mf_return (mf_dat eX2_readStatement_p1 47 rfl) rfl ⟨hG, hyp⟩
    replace hyp := hyp.2
    refine mf_tsw1 (v := 17) (tgt := 270) (mf_dat eX2_readStatement_p0 35 rfl) (by decide) (by decide) (off := 200) (by decide) (by decide) (fun hc => ?_) (fun hc1 => ?_)
    · replace hyp := hyp.1 hc
      refine mf_aload_n (mf_dat eX2_readStatement_p1 40 rfl) rfl rfl ?_
      refine mf_getf (r := (RX2, TX2, 4)) (ci := 2) (k := 0) (t := 2) (v := 5) (mf_dat eX2_readStatement_p1 41 rfl) fl_X2_9 rfl (by decide) rfl (gx_45_0 hG) is45 ?_
      refine mf_iconst (v := 1) (mf_dat eX2_readStatement_p1 42 rfl) (by decide) ?_
      refine mf_aload_n (mf_dat eX2_readStatement_p1 43 rfl) rfl rfl ?_
      refine mf_getf (r := (RX2, TX2, 4)) (ci := 2) (k := 0) (t := 2) (v := 5) (mf_dat eX2_readStatement_p1 44 rfl) fl_X2_9 rfl (by decide) rfl (gx_45_0 hG) is45 ?_
      refine mf_getf (r := (RX9, TX9, 10)) (ci := 9) (k := 3) (t := 0) (v := h 5 3) (mf_dat eX2_readStatement_p1 45 rfl) fl_X2_44 rfl (by decide) rfl rfl is5 ?_
      refine mf_callV (Yc := YX9_fail) (r := (RX9, TX9, 10)) (ci := 9) (mf_dat eX2_readStatement_p1 46 rfl) ml_X2_47 okX9_fail im_X9_fail sl_X9_fail rfl rfl rfl rfl (Nat.le_of_ble_eq_true rfl) (mf_rr (Nat.le_trans (by decide) hd) (Nat.le_refl _)) (Nat.le_refl _) is5 (hyp hG) (fun r4 g5 h6 hyp => ?_)
      obtain ⟨hG, hyp⟩ := hyp
      exact mf_return (mf_dat eX2_readStatement_p1 47 rfl) rfl ⟨hG, hyp⟩
    replace hyp := hyp.2
    refine mf_tsw1 (v := 18) (tgt := 139) (mf_dat eX2_readStatement_p0 35 rfl) (by decide) (by decide) (off := 69) (by decide) (by decide) (fun hc => ?_) (fun hc2 => ?_)
    · replace hyp := hyp.1 hc
      refine mf_aload_n (mf_dat eX2_readStatement_p0 39 rfl) rfl rfl ?_
      refine mf_callV (Yc := YX2_readGloss) (r := (RX2, TX2, 4)) (ci := 2) (mf_dat eX2_readStatement_p0 40 rfl) ml_X2_83 okX2_readGloss im_X2_readGloss sl_X2_readGloss rfl rfl rfl rfl (Nat.le_of_ble_eq_true rfl) (mf_rr (Nat.le_trans (by decide) hd) (Nat.le_refl _)) (Nat.le_refl _) is45 (hyp hG) (fun r7 g8 h9 hyp => ?_)
      obtain ⟨hG, hyp⟩ := hyp
      refine mf_goto (tgt := 285) (mf_dat eX2_readStatement_p0 41 rfl) (by decide) ?_
      exact mf_return (mf_dat eX2_readStatement_p1 47 rfl) rfl ⟨hG, hyp⟩
    replace hyp := hyp.2
    refine mf_tsw1 (v := 19) (tgt := 146) (mf_dat eX2_readStatement_p0 35 rfl) (by decide) (by decide) (off := 76) (by decide) (by decide) (fun hc => ?_) (fun hc3 => ?_)
    · replace hyp := hyp.1 hc
      refine mf_aload_n (mf_dat eX2_readStatement_p0 42 rfl) rfl rfl ?_
      refine mf_callV (Yc := YX2_readWorm) (r := (RX2, TX2, 4)) (ci := 2) (mf_dat eX2_readStatement_p0 43 rfl) ml_X2_86 okX2_readWorm im_X2_readWorm sl_X2_readWorm rfl rfl rfl rfl (Nat.le_of_ble_eq_true rfl) (mf_rr (Nat.le_trans (by decide) hd) (Nat.le_refl _)) (Nat.le_refl _) is45 (hyp hG) (fun r10 g11 h12 hyp => ?_)
      obtain ⟨hG, hyp⟩ := hyp
      refine mf_goto (tgt := 285) (mf_dat eX2_readStatement_p0 44 rfl) (by decide) ?_
      exact mf_return (mf_dat eX2_readStatement_p1 47 rfl) rfl ⟨hG, hyp⟩
    replace hyp := hyp.2
    refine mf_tsw1 (v := 20) (tgt := 153) (mf_dat eX2_readStatement_p0 35 rfl) (by decide) (by decide) (off := 83) (by decide) (by decide) (fun hc => ?_) (fun hc4 => ?_)
    · replace hyp := hyp.1 hc
      refine mf_aload_n (mf_dat eX2_readStatement_p0 45 rfl) rfl rfl ?_
      refine mf_callV (Yc := YX2_readBeing) (r := (RX2, TX2, 4)) (ci := 2) (mf_dat eX2_readStatement_p0 46 rfl) ml_X2_89 okX2_readBeing im_X2_readBeing sl_X2_readBeing rfl rfl rfl rfl (Nat.le_of_ble_eq_true rfl) (mf_rr (Nat.le_trans (by decide) hd) (Nat.le_refl _)) (Nat.le_refl _) is45 (hyp hG) (fun r13 g14 h15 hyp => ?_)
      obtain ⟨hG, hyp⟩ := hyp
      refine mf_goto (tgt := 285) (mf_dat eX2_readStatement_p0 47 rfl) (by decide) ?_
      exact mf_return (mf_dat eX2_readStatement_p1 47 rfl) rfl ⟨hG, hyp⟩
    replace hyp := hyp.2
    refine mf_tsw1 (v := 21) (tgt := 270) (mf_dat eX2_readStatement_p0 35 rfl) (by decide) (by decide) (off := 200) (by decide) (by decide) (fun hc => ?_) (fun hc5 => ?_)
    · replace hyp := hyp.1 hc
      refine mf_aload_n (mf_dat eX2_readStatement_p1 40 rfl) rfl rfl ?_
      refine mf_getf (r := (RX2, TX2, 4)) (ci := 2) (k := 0) (t := 2) (v := 5) (mf_dat eX2_readStatement_p1 41 rfl) fl_X2_9 rfl (by decide) rfl (gx_45_0 hG) is45 ?_
      refine mf_iconst (v := 1) (mf_dat eX2_readStatement_p1 42 rfl) (by decide) ?_
      refine mf_aload_n (mf_dat eX2_readStatement_p1 43 rfl) rfl rfl ?_
      refine mf_getf (r := (RX2, TX2, 4)) (ci := 2) (k := 0) (t := 2) (v := 5) (mf_dat eX2_readStatement_p1 44 rfl) fl_X2_9 rfl (by decide) rfl (gx_45_0 hG) is45 ?_
      refine mf_getf (r := (RX9, TX9, 10)) (ci := 9) (k := 3) (t := 0) (v := h 5 3) (mf_dat eX2_readStatement_p1 45 rfl) fl_X2_44 rfl (by decide) rfl rfl is5 ?_
      refine mf_callV (Yc := YX9_fail) (r := (RX9, TX9, 10)) (ci := 9) (mf_dat eX2_readStatement_p1 46 rfl) ml_X2_47 okX9_fail im_X9_fail sl_X9_fail rfl rfl rfl rfl (Nat.le_of_ble_eq_true rfl) (mf_rr (Nat.le_trans (by decide) hd) (Nat.le_refl _)) (Nat.le_refl _) is5 (hyp hG) (fun r16 g17 h18 hyp => ?_)
      obtain ⟨hG, hyp⟩ := hyp
      exact mf_return (mf_dat eX2_readStatement_p1 47 rfl) rfl ⟨hG, hyp⟩
    replace hyp := hyp.2
    refine mf_tsw1 (v := 22) (tgt := 270) (mf_dat eX2_readStatement_p0 35 rfl) (by decide) (by decide) (off := 200) (by decide) (by decide) (fun hc => ?_) (fun hc6 => ?_)
    · replace hyp := hyp.1 hc
      refine mf_aload_n (mf_dat eX2_readStatement_p1 40 rfl) rfl rfl ?_
      refine mf_getf (r := (RX2, TX2, 4)) (ci := 2) (k := 0) (t := 2) (v := 5) (mf_dat eX2_readStatement_p1 41 rfl) fl_X2_9 rfl (by decide) rfl (gx_45_0 hG) is45 ?_
      refine mf_iconst (v := 1) (mf_dat eX2_readStatement_p1 42 rfl) (by decide) ?_
      refine mf_aload_n (mf_dat eX2_readStatement_p1 43 rfl) rfl rfl ?_
      refine mf_getf (r := (RX2, TX2, 4)) (ci := 2) (k := 0) (t := 2) (v := 5) (mf_dat eX2_readStatement_p1 44 rfl) fl_X2_9 rfl (by decide) rfl (gx_45_0 hG) is45 ?_
      refine mf_getf (r := (RX9, TX9, 10)) (ci := 9) (k := 3) (t := 0) (v := h 5 3) (mf_dat eX2_readStatement_p1 45 rfl) fl_X2_44 rfl (by decide) rfl rfl is5 ?_
      refine mf_callV (Yc := YX9_fail) (r := (RX9, TX9, 10)) (ci := 9) (mf_dat eX2_readStatement_p1 46 rfl) ml_X2_47 okX9_fail im_X9_fail sl_X9_fail rfl rfl rfl rfl (Nat.le_of_ble_eq_true rfl) (mf_rr (Nat.le_trans (by decide) hd) (Nat.le_refl _)) (Nat.le_refl _) is5 (hyp hG) (fun r19 g20 h21 hyp => ?_)
      obtain ⟨hG, hyp⟩ := hyp
      exact mf_return (mf_dat eX2_readStatement_p1 47 rfl) rfl ⟨hG, hyp⟩
    replace hyp := hyp.2
    refine mf_tsw1 (v := 23) (tgt := 160) (mf_dat eX2_readStatement_p0 35 rfl) (by decide) (by decide) (off := 90) (by decide) (by decide) (fun hc => ?_) (fun hc7 => ?_)
    · replace hyp := hyp.1 hc
      refine mf_aload_n (mf_dat eX2_readStatement_p0 48 rfl) rfl rfl ?_
      refine mf_iconst (v := 0) (mf_dat eX2_readStatement_p0 49 rfl) (by decide) ?_
      refine mf_iconst (v := 1) (mf_dat eX2_readStatement_p0 50 rfl) (by decide) ?_
      refine mf_callV (Yc := YX2_beginRule) (r := (RX2, TX2, 4)) (ci := 2) (mf_dat eX2_readStatement_p0 51 rfl) ml_X2_94 okX2_beginRule im_X2_beginRule sl_X2_beginRule rfl rfl rfl rfl (Nat.le_of_ble_eq_true rfl) (mf_rr (Nat.le_trans (by decide) hd) (Nat.le_refl _)) (Nat.le_refl _) is45 (hyp hG) (fun r22 g23 h24 hyp => ?_)
      obtain ⟨hG, hyp⟩ := hyp
      refine mf_if_eq (tgt := 285) (mf_dat eX2_readStatement_p0 52 rfl) (by decide) (fun hc => ?_) (fun hc => ?_)
      · replace hyp := hyp.1 hc
        exact mf_return (mf_dat eX2_readStatement_p1 47 rfl) rfl ⟨hG, hyp⟩
      · replace hyp := hyp.2 hc
        refine mf_aload_n (mf_dat eX2_readStatement_p0 53 rfl) rfl rfl ?_
        refine mf_getf (r := (RX2, TX2, 4)) (ci := 2) (k := 2) (t := 2) (v := 10) (mf_dat eX2_readStatement_p0 54 rfl) fl_X2_19 rfl (by decide) rfl (gx_45_2 hG) is45 ?_
        refine mf_iconst (v := 0) (mf_dat eX2_readStatement_p0 55 rfl) (by decide) ?_
        refine mf_callVN (Yc := YX7_readSum) (r := (RX7, TX7, 4)) (ci := 7) (host := "MarginFolk") (mf_dat eX2_readStatement_p0 56 rfl) (List.mem_of_getElem? (i := 9) rfl) okX7_readSum im_X7_readSum sl_X7_readSum rfl rfl rfl rfl (Nat.le_of_ble_eq_true rfl) (mf_rr (Nat.le_trans (by decide) hd) (Nat.le_refl _)) (Nat.le_refl _) is10 (hyp hG) (fun r25 g26 h27 hyp => ?_)
        obtain ⟨hG, hyp⟩ := hyp
        refine mf_goto (tgt := 285) (mf_dat eX2_readStatement_p0 57 rfl) (by decide) ?_
        exact mf_return (mf_dat eX2_readStatement_p1 47 rfl) rfl ⟨hG, hyp⟩
    replace hyp := hyp.2
    refine mf_tsw1 (v := 24) (tgt := 180) (mf_dat eX2_readStatement_p0 35 rfl) (by decide) (by decide) (off := 110) (by decide) (by decide) (fun hc => ?_) (fun hc8 => ?_)
    · replace hyp := hyp.1 hc
      refine mf_aload_n (mf_dat eX2_readStatement_p0 58 rfl) rfl rfl ?_
      refine mf_iconst (v := 1) (mf_dat eX2_readStatement_p0 59 rfl) (by decide) ?_
      refine mf_bipush (v := 63) (mf_dat eX2_readStatement_p1 0 rfl) (by decide) ?_
      refine mf_callV (Yc := YX2_beginRule) (r := (RX2, TX2, 4)) (ci := 2) (mf_dat eX2_readStatement_p1 1 rfl) ml_X2_94 okX2_beginRule im_X2_beginRule sl_X2_beginRule rfl rfl rfl rfl (Nat.le_of_ble_eq_true rfl) (mf_rr (Nat.le_trans (by decide) hd) (Nat.le_refl _)) (Nat.le_refl _) is45 (hyp hG) (fun r28 g29 h30 hyp => ?_)
      obtain ⟨hG, hyp⟩ := hyp
      refine mf_if_eq (tgt := 285) (mf_dat eX2_readStatement_p1 2 rfl) (by decide) (fun hc => ?_) (fun hc => ?_)
      · replace hyp := hyp.1 hc
        exact mf_return (mf_dat eX2_readStatement_p1 47 rfl) rfl ⟨hG, hyp⟩
      · replace hyp := hyp.2 hc
        refine mf_aload_n (mf_dat eX2_readStatement_p1 3 rfl) rfl rfl ?_
        refine mf_getf (r := (RX2, TX2, 4)) (ci := 2) (k := 2) (t := 2) (v := 10) (mf_dat eX2_readStatement_p1 4 rfl) fl_X2_19 rfl (by decide) rfl (gx_45_2 hG) is45 ?_
        refine mf_iconst (v := 0) (mf_dat eX2_readStatement_p1 5 rfl) (by decide) ?_
        refine mf_callVN (Yc := YX7_readSum) (r := (RX7, TX7, 4)) (ci := 7) (host := "MarginFolk") (mf_dat eX2_readStatement_p1 6 rfl) (List.mem_of_getElem? (i := 9) rfl) okX7_readSum im_X7_readSum sl_X7_readSum rfl rfl rfl rfl (Nat.le_of_ble_eq_true rfl) (mf_rr (Nat.le_trans (by decide) hd) (Nat.le_refl _)) (Nat.le_refl _) is10 (hyp hG) (fun r31 g32 h33 hyp => ?_)
        obtain ⟨hG, hyp⟩ := hyp
        refine mf_goto (tgt := 285) (mf_dat eX2_readStatement_p1 7 rfl) (by decide) ?_
        exact mf_return (mf_dat eX2_readStatement_p1 47 rfl) rfl ⟨hG, hyp⟩
    replace hyp := hyp.2
    refine mf_tsw1 (v := 25) (tgt := 201) (mf_dat eX2_readStatement_p0 35 rfl) (by decide) (by decide) (off := 131) (by decide) (by decide) (fun hc => ?_) (fun hc9 => ?_)
    · replace hyp := hyp.1 hc
      refine mf_aload_n (mf_dat eX2_readStatement_p1 8 rfl) rfl rfl ?_
      refine mf_iconst (v := 2) (mf_dat eX2_readStatement_p1 9 rfl) (by decide) ?_
      refine mf_bipush (v := 127) (mf_dat eX2_readStatement_p1 10 rfl) (by decide) ?_
      refine mf_callV (Yc := YX2_beginRule) (r := (RX2, TX2, 4)) (ci := 2) (mf_dat eX2_readStatement_p1 11 rfl) ml_X2_94 okX2_beginRule im_X2_beginRule sl_X2_beginRule rfl rfl rfl rfl (Nat.le_of_ble_eq_true rfl) (mf_rr (Nat.le_trans (by decide) hd) (Nat.le_refl _)) (Nat.le_refl _) is45 (hyp hG) (fun r34 g35 h36 hyp => ?_)
      obtain ⟨hG, hyp⟩ := hyp
      refine mf_if_eq (tgt := 285) (mf_dat eX2_readStatement_p1 12 rfl) (by decide) (fun hc => ?_) (fun hc => ?_)
      · replace hyp := hyp.1 hc
        exact mf_return (mf_dat eX2_readStatement_p1 47 rfl) rfl ⟨hG, hyp⟩
      · replace hyp := hyp.2 hc
        refine mf_aload_n (mf_dat eX2_readStatement_p1 13 rfl) rfl rfl ?_
        refine mf_getf (r := (RX2, TX2, 4)) (ci := 2) (k := 2) (t := 2) (v := 10) (mf_dat eX2_readStatement_p1 14 rfl) fl_X2_19 rfl (by decide) rfl (gx_45_2 hG) is45 ?_
        refine mf_iconst (v := 0) (mf_dat eX2_readStatement_p1 15 rfl) (by decide) ?_
        refine mf_callVN (Yc := YX7_readSum) (r := (RX7, TX7, 4)) (ci := 7) (host := "MarginFolk") (mf_dat eX2_readStatement_p1 16 rfl) (List.mem_of_getElem? (i := 9) rfl) okX7_readSum im_X7_readSum sl_X7_readSum rfl rfl rfl rfl (Nat.le_of_ble_eq_true rfl) (mf_rr (Nat.le_trans (by decide) hd) (Nat.le_refl _)) (Nat.le_refl _) is10 (hyp hG) (fun r37 g38 h39 hyp => ?_)
        obtain ⟨hG, hyp⟩ := hyp
        refine mf_goto (tgt := 285) (mf_dat eX2_readStatement_p1 17 rfl) (by decide) ?_
        exact mf_return (mf_dat eX2_readStatement_p1 47 rfl) rfl ⟨hG, hyp⟩
    replace hyp := hyp.2
    refine mf_tsw1 (v := 26) (tgt := 222) (mf_dat eX2_readStatement_p0 35 rfl) (by decide) (by decide) (off := 152) (by decide) (by decide) (fun hc => ?_) (fun hc10 => ?_)
    · replace hyp := hyp.1 hc
      refine mf_aload_n (mf_dat eX2_readStatement_p1 18 rfl) rfl rfl ?_
      refine mf_iconst (v := 3) (mf_dat eX2_readStatement_p1 19 rfl) (by decide) ?_
      refine mf_bipush (v := 63) (mf_dat eX2_readStatement_p1 20 rfl) (by decide) ?_
      refine mf_callV (Yc := YX2_beginRule) (r := (RX2, TX2, 4)) (ci := 2) (mf_dat eX2_readStatement_p1 21 rfl) ml_X2_94 okX2_beginRule im_X2_beginRule sl_X2_beginRule rfl rfl rfl rfl (Nat.le_of_ble_eq_true rfl) (mf_rr (Nat.le_trans (by decide) hd) (Nat.le_refl _)) (Nat.le_refl _) is45 (hyp hG) (fun r40 g41 h42 hyp => ?_)
      obtain ⟨hG, hyp⟩ := hyp
      refine mf_if_eq (tgt := 285) (mf_dat eX2_readStatement_p1 22 rfl) (by decide) (fun hc => ?_) (fun hc => ?_)
      · replace hyp := hyp.1 hc
        exact mf_return (mf_dat eX2_readStatement_p1 47 rfl) rfl ⟨hG, hyp⟩
      · replace hyp := hyp.2 hc
        refine mf_aload_n (mf_dat eX2_readStatement_p1 23 rfl) rfl rfl ?_
        refine mf_getf (r := (RX2, TX2, 4)) (ci := 2) (k := 2) (t := 2) (v := 10) (mf_dat eX2_readStatement_p1 24 rfl) fl_X2_19 rfl (by decide) rfl (gx_45_2 hG) is45 ?_
        refine mf_iconst (v := 0) (mf_dat eX2_readStatement_p1 25 rfl) (by decide) ?_
        refine mf_callVN (Yc := YX7_readTest) (r := (RX7, TX7, 4)) (ci := 7) (host := "MarginFolk") (mf_dat eX2_readStatement_p1 26 rfl) (List.mem_of_getElem? (i := 10) rfl) okX7_readTest im_X7_readTest sl_X7_readTest rfl rfl rfl rfl (Nat.le_of_ble_eq_true rfl) (mf_rr (Nat.le_trans (by decide) hd) (Nat.le_refl _)) (Nat.le_refl _) is10 (hyp hG) (fun r43 g44 h45 hyp => ?_)
        obtain ⟨hG, hyp⟩ := hyp
        refine mf_goto (tgt := 285) (mf_dat eX2_readStatement_p1 27 rfl) (by decide) ?_
        exact mf_return (mf_dat eX2_readStatement_p1 47 rfl) rfl ⟨hG, hyp⟩
    replace hyp := hyp.2
    refine mf_tsw1 (v := 27) (tgt := 243) (mf_dat eX2_readStatement_p0 35 rfl) (by decide) (by decide) (off := 173) (by decide) (by decide) (fun hc => ?_) (fun hc11 => ?_)
    · replace hyp := hyp.1 hc
      refine mf_aload_n (mf_dat eX2_readStatement_p1 28 rfl) rfl rfl ?_
      refine mf_getf (r := (RX2, TX2, 4)) (ci := 2) (k := 0) (t := 2) (v := 5) (mf_dat eX2_readStatement_p1 29 rfl) fl_X2_9 rfl (by decide) rfl (gx_45_0 hG) is45 ?_
      refine mf_callV (Yc := YX9_step) (r := (RX9, TX9, 10)) (ci := 9) (mf_dat eX2_readStatement_p1 30 rfl) ml_X2_104 okX9_step im_X9_step sl_X9_step rfl rfl rfl rfl (Nat.le_of_ble_eq_true rfl) (mf_rr (Nat.le_trans (by decide) hd) (Nat.le_refl _)) (Nat.le_refl _) is5 (hyp hG) (fun r46 g47 h48 hyp => ?_)
      obtain ⟨hG, hyp⟩ := hyp
      refine mf_aload_n (mf_dat eX2_readStatement_p1 31 rfl) rfl rfl ?_
      refine mf_getf (r := (RX2, TX2, 4)) (ci := 2) (k := 3) (t := 2) (v := g47 45 3) (mf_dat eX2_readStatement_p1 32 rfl) fl_X2_23 rfl (by decide) rfl rfl is45 ?_
      refine mf_aload_n (mf_dat eX2_readStatement_p1 33 rfl) rfl rfl ?_
      refine mf_getf (r := (RX2, TX2, 4)) (ci := 2) (k := 0) (t := 2) (v := 5) (mf_dat eX2_readStatement_p1 34 rfl) fl_X2_9 rfl (by decide) rfl (gx_45_0 hG) is45 ?_
      refine mf_iconst (v := 0) (mf_dat eX2_readStatement_p1 35 rfl) (by decide) ?_
      refine mf_bipush (v := 100) (mf_dat eX2_readStatement_p1 36 rfl) (by decide) ?_
      refine mf_callV (Yc := YX9_passNumber) (r := (RX9, TX9, 10)) (ci := 9) (mf_dat eX2_readStatement_p1 37 rfl) ml_X2_107 okX9_passNumber im_X9_passNumber sl_X9_passNumber rfl rfl rfl rfl (Nat.le_of_ble_eq_true rfl) (mf_rr (Nat.le_trans (by decide) hd) (Nat.le_refl _)) (Nat.le_refl _) is5 (hyp hG) (fun r49 g50 h51 hyp => ?_)
      obtain ⟨hG, hyp⟩ := hyp
      obtain ⟨ck52, hyp⟩ := hyp
      refine mf_putI (r := (RX1, TX1, 14)) (ci := 1) (k := 13) (kI := 13) (t := 0) (mf_dat eX2_readStatement_p1 38 rfl) fl_X2_111 rfl rfl (by decide) rfl (by decide) rfl (by decide) (fun h9 => absurd h9 (by decide)) ck52 ?_
      generalize qh53 : mf_up h51 (g47 45 3) 13 r49 = h53
      replace hyp := hyp _ qh53.symm
      refine mf_goto (tgt := 285) (mf_dat eX2_readStatement_p1 39 rfl) (by decide) ?_
      exact mf_return (mf_dat eX2_readStatement_p1 47 rfl) rfl ⟨hG, hyp⟩
    replace hyp := hyp.2
    refine mf_tswO (tgt := 270) (mf_dat eX2_readStatement_p0 35 rfl) (by omega) (by decide) ?_
    replace hyp := hyp (by omega)
    refine mf_aload_n (mf_dat eX2_readStatement_p1 40 rfl) rfl rfl ?_
    refine mf_getf (r := (RX2, TX2, 4)) (ci := 2) (k := 0) (t := 2) (v := 5) (mf_dat eX2_readStatement_p1 41 rfl) fl_X2_9 rfl (by decide) rfl (gx_45_0 hG) is45 ?_
    refine mf_iconst (v := 1) (mf_dat eX2_readStatement_p1 42 rfl) (by decide) ?_
    refine mf_aload_n (mf_dat eX2_readStatement_p1 43 rfl) rfl rfl ?_
    refine mf_getf (r := (RX2, TX2, 4)) (ci := 2) (k := 0) (t := 2) (v := 5) (mf_dat eX2_readStatement_p1 44 rfl) fl_X2_9 rfl (by decide) rfl (gx_45_0 hG) is45 ?_
    refine mf_getf (r := (RX9, TX9, 10)) (ci := 9) (k := 3) (t := 0) (v := h 5 3) (mf_dat eX2_readStatement_p1 45 rfl) fl_X2_44 rfl (by decide) rfl rfl is5 ?_
    refine mf_callV (Yc := YX9_fail) (r := (RX9, TX9, 10)) (ci := 9) (mf_dat eX2_readStatement_p1 46 rfl) ml_X2_47 okX9_fail im_X9_fail sl_X9_fail rfl rfl rfl rfl (Nat.le_of_ble_eq_true rfl) (mf_rr (Nat.le_trans (by decide) hd) (Nat.le_refl _)) (Nat.le_refl _) is5 (hyp hG) (fun r54 g55 h56 hyp => ?_)
    obtain ⟨hG, hyp⟩ := hyp
    exact mf_return (mf_dat eX2_readStatement_p1 47 rfl) rfl ⟨hG, hyp⟩
  · replace hyp := hyp.2 hc
    refine mf_aload_n (mf_dat eX2_readStatement_p0 26 rfl) rfl rfl ?_
    refine mf_getf (r := (RX2, TX2, 4)) (ci := 2) (k := 0) (t := 2) (v := 5) (mf_dat eX2_readStatement_p0 27 rfl) fl_X2_9 rfl (by decide) rfl (gx_45_0 hG) is45 ?_
    refine mf_iconst (v := 1) (mf_dat eX2_readStatement_p0 28 rfl) (by decide) ?_
    refine mf_aload_n (mf_dat eX2_readStatement_p0 29 rfl) rfl rfl ?_
    refine mf_getf (r := (RX2, TX2, 4)) (ci := 2) (k := 0) (t := 2) (v := 5) (mf_dat eX2_readStatement_p0 30 rfl) fl_X2_9 rfl (by decide) rfl (gx_45_0 hG) is45 ?_
    refine mf_getf (r := (RX9, TX9, 10)) (ci := 9) (k := 3) (t := 0) (v := h 5 3) (mf_dat eX2_readStatement_p0 31 rfl) fl_X2_44 rfl (by decide) rfl rfl is5 ?_
    refine mf_callV (Yc := YX9_fail) (r := (RX9, TX9, 10)) (ci := 9) (mf_dat eX2_readStatement_p0 32 rfl) ml_X2_47 okX9_fail im_X9_fail sl_X9_fail rfl rfl rfl rfl (Nat.le_of_ble_eq_true rfl) (mf_rr (Nat.le_trans (by decide) hd) (Nat.le_refl _)) (Nat.le_refl _) is5 (hyp hG) (fun r57 g58 h59 hyp => ?_)
    obtain ⟨hG, hyp⟩ := hyp
    exact mf_return (mf_dat eX2_readStatement_p0 33 rfl) rfl ⟨hG, hyp⟩
set_option maxRecDepth 100000 in
set_option maxHeartbeats 4000000 in
theorem wX2_readStatement {C : mf_G} {l : Launch} {d : Nat} {K : mf_Kt} {x1 : Int} {g h : mf_M} (hd : 1 ≤ d) (hyp : ((¬ h 5 2 = 1 → BX2_readStatement_29 C l d K x1 (-1) g h) ∧ (h 5 2 = 1 → xM C l 0 YX10_find [(2, 1), (0, h 5 5)] g h (fun r1 g2 h3 => BX2_readStatement_29 C l d K x1 r1 g2 h3)))) : xM C l d YX2_readStatement [(2, 45), (0, x1)] g h K := by
  intro hG
  refine mf_entry (by decide) (Nat.le_of_ble_eq_true rfl) ?_
  refine mf_aload_n (mf_dat eX2_readStatement_p0 0 rfl) rfl rfl ?_
  refine mf_getf (r := (RX2, TX2, 4)) (ci := 2) (k := 0) (t := 2) (v := 5) (mf_dat eX2_readStatement_p0 1 rfl) fl_X2_9 rfl (by decide) rfl (gx_45_0 hG) is45 ?_
  refine mf_getf (r := (RX9, TX9, 10)) (ci := 9) (k := 2) (t := 0) (v := h 5 2) (mf_dat eX2_readStatement_p0 2 rfl) fl_X2_41 rfl (by decide) rfl rfl is5 ?_
  refine mf_iconst (v := 1) (mf_dat eX2_readStatement_p0 3 rfl) (by decide) ?_
  refine mf_icmp_ne (tgt := 28) (mf_dat eX2_readStatement_p0 4 rfl) (by decide) (fun hc => ?_) (fun hc => ?_)
  · replace hyp := hyp.1 hc
    refine mf_iconst (v := (-1)) (mf_dat eX2_readStatement_p0 12 rfl) (by decide) ?_
    exact mf_sub [0, 1] rfl (hyp hG)
  · replace hyp := hyp.2 hc
    refine mf_aload_n (mf_dat eX2_readStatement_p0 5 rfl) rfl rfl ?_
    refine mf_getf (r := (RX2, TX2, 4)) (ci := 2) (k := 1) (t := 2) (v := 1) (mf_dat eX2_readStatement_p0 6 rfl) fl_X2_15 rfl (by decide) rfl (gx_45_1 hG) is45 ?_
    refine mf_aload_n (mf_dat eX2_readStatement_p0 7 rfl) rfl rfl ?_
    refine mf_getf (r := (RX2, TX2, 4)) (ci := 2) (k := 0) (t := 2) (v := 5) (mf_dat eX2_readStatement_p0 8 rfl) fl_X2_9 rfl (by decide) rfl (gx_45_0 hG) is45 ?_
    refine mf_getf (r := (RX9, TX9, 10)) (ci := 9) (k := 5) (t := 0) (v := h 5 5) (mf_dat eX2_readStatement_p0 9 rfl) fl_X2_71 rfl (by decide) rfl rfl is5 ?_
    refine mf_callV (Yc := YX10_find) (r := (RX10, TX10, 1)) (ci := 10) (mf_dat eX2_readStatement_p0 10 rfl) ml_X2_74 okX10_find im_X10_find sl_X10_find rfl rfl rfl rfl (Nat.le_of_ble_eq_true rfl) (mf_rr (Nat.le_trans (by decide) hd) (Nat.le_refl _)) (Nat.le_refl _) is1 (hyp hG) (fun r1 g2 h3 hyp => ?_)
    obtain ⟨hG, hyp⟩ := hyp
    refine mf_goto (tgt := 29) (mf_dat eX2_readStatement_p0 11 rfl) (by decide) ?_
    exact mf_sub [0, 1] rfl (hyp hG)
abbrev BX2_beginRule_20 (C : mf_G) (l : Launch) (d : Nat) (K : mf_Kt) (x1 x2 s0 s1 : Int) (g h : mf_M) : Prop := jX C l d YX2_beginRule K 20 [(0, (2, 45)), (1, (0, x1)), (2, (0, x2))] [(0, s1), (2, s0)] g h
set_option maxRecDepth 100000 in
set_option maxHeartbeats 4000000 in
theorem vX2_beginRule_20 {C : mf_G} {l : Launch} {d : Nat} {K : mf_Kt} {x1 x2 s0 s1 : Int} {g h : mf_M} (hd : 4 ≤ d) (hyp : mf_is 319 s0 2 ∧ xM C l 3 YX2_mayBegin [(2, s0), (0, s1), (0, 1)] g h (fun r1 g2 h3 => ((¬ r1 = 0 → mf_is 319 (g2 45 3) 1 ∧ xM C l 0 YX4_begin [(2, g2 45 3 + 6), (0, x1)] g2 h3 (fun r6 g7 h8 => mf_is 319 (g7 45 3) 1 ∧ xM C l 0 YX7_writeTo [(2, 10), (2, g7 45 3 + 6), (0, x2)] g7 h8 (fun r10 g11 h12 => K 1 g11 h12))) ∧ (r1 = 0 → K 0 g2 h3)))) : BX2_beginRule_20 C l d K x1 x2 s0 s1 g h := by
  intro hG
  refine mf_iconst (v := 1) (mf_dat eX2_beginRule 10 rfl) (by decide) ?_
  obtain ⟨ck4, hyp⟩ := hyp
  refine mf_callV (Yc := YX2_mayBegin) (r := (RX2, TX2, 4)) (ci := 2) (mf_dat eX2_beginRule 11 rfl) ml_X2_118 okX2_mayBegin im_X2_mayBegin sl_X2_mayBegin rfl rfl rfl rfl (Nat.le_of_ble_eq_true rfl) (mf_rr (Nat.le_trans (by decide) hd) (Nat.le_refl _)) (Nat.le_refl _) ck4 (hyp hG) (fun r1 g2 h3 hyp => ?_)
  obtain ⟨hG, hyp⟩ := hyp
  refine mf_if_ne (tgt := 29) (mf_dat eX2_beginRule 12 rfl) (by decide) (fun hc => ?_) (fun hc => ?_)
  · replace hyp := hyp.1 hc
    refine mf_aload_n (mf_dat eX2_beginRule 15 rfl) rfl rfl ?_
    refine mf_getf (r := (RX2, TX2, 4)) (ci := 2) (k := 3) (t := 2) (v := g2 45 3) (mf_dat eX2_beginRule 16 rfl) fl_X2_23 rfl (by decide) rfl rfl is45 ?_
    obtain ⟨ck5, hyp⟩ := hyp
    refine mf_getf (r := (RX1, TX1, 14)) (ci := 1) (k := 5) (t := 2) (v := g2 45 3 + 6) (mf_dat eX2_beginRule 17 rfl) fl_X2_55 rfl (by decide) rfl (gf_5 hG ck5) ck5 ?_
    refine mf_iload_n (mf_dat eX2_beginRule 18 rfl) rfl rfl ?_
    refine mf_callV (Yc := YX4_begin) (r := (RX4, TX4, 5)) (ci := 4) (mf_dat eX2_beginRule 19 rfl) ml_X2_121 okX4_begin im_X4_begin sl_X4_begin rfl rfl rfl rfl (Nat.le_of_ble_eq_true rfl) (mf_rr (Nat.le_trans (by decide) hd) (Nat.le_refl _)) (Nat.le_refl _) (fo_is5 ck5) (hyp hG) (fun r6 g7 h8 hyp => ?_)
    obtain ⟨hG, hyp⟩ := hyp
    refine mf_aload_n (mf_dat eX2_beginRule 20 rfl) rfl rfl ?_
    refine mf_getf (r := (RX2, TX2, 4)) (ci := 2) (k := 2) (t := 2) (v := 10) (mf_dat eX2_beginRule 21 rfl) fl_X2_19 rfl (by decide) rfl (gx_45_2 hG) is45 ?_
    refine mf_aload_n (mf_dat eX2_beginRule 22 rfl) rfl rfl ?_
    refine mf_getf (r := (RX2, TX2, 4)) (ci := 2) (k := 3) (t := 2) (v := g7 45 3) (mf_dat eX2_beginRule 23 rfl) fl_X2_23 rfl (by decide) rfl rfl is45 ?_
    obtain ⟨ck9, hyp⟩ := hyp
    refine mf_getf (r := (RX1, TX1, 14)) (ci := 1) (k := 5) (t := 2) (v := g7 45 3 + 6) (mf_dat eX2_beginRule 24 rfl) fl_X2_55 rfl (by decide) rfl (gf_5 hG ck9) ck9 ?_
    refine mf_iload_n (mf_dat eX2_beginRule 25 rfl) rfl rfl ?_
    refine mf_callV (Yc := YX7_writeTo) (r := (RX7, TX7, 4)) (ci := 7) (mf_dat eX2_beginRule 26 rfl) ml_X2_124 okX7_writeTo im_X7_writeTo sl_X7_writeTo rfl rfl rfl rfl (Nat.le_of_ble_eq_true rfl) (mf_rr (Nat.le_trans (by decide) hd) (Nat.le_refl _)) (Nat.le_refl _) is10 (hyp hG) (fun r10 g11 h12 hyp => ?_)
    obtain ⟨hG, hyp⟩ := hyp
    refine mf_iconst (v := 1) (mf_dat eX2_beginRule 27 rfl) (by decide) ?_
    exact mf_ireturn (mf_dat eX2_beginRule 28 rfl) rfl (Or.inr ⟨rfl, by decide⟩) ⟨hG, hyp⟩
  · replace hyp := hyp.2 hc
    refine mf_iconst (v := 0) (mf_dat eX2_beginRule 13 rfl) (by decide) ?_
    exact mf_ireturn (mf_dat eX2_beginRule 14 rfl) rfl (Or.inr ⟨rfl, by decide⟩) ⟨hG, hyp⟩
set_option maxRecDepth 100000 in
set_option maxHeartbeats 4000000 in
theorem wX2_beginRule {C : mf_G} {l : Launch} {d : Nat} {K : mf_Kt} {x1 x2 : Int} {g h : mf_M} (hd : 1 ≤ d) (hyp : mf_is 319 (g 45 3) 1 ∧ xM C l 0 YX4_isTold [(2, g 45 3 + 6), (0, x1)] g h (fun r2 g3 h4 => ((r2 = 0 → BX2_beginRule_20 C l d K x1 x2 45 0 g3 h4) ∧ (¬ r2 = 0 → BX2_beginRule_20 C l d K x1 x2 45 1 g3 h4)))) : xM C l d YX2_beginRule [(2, 45), (0, x1), (0, x2)] g h K := by
  intro hG
  refine mf_entry (by decide) (Nat.le_of_ble_eq_true rfl) ?_
  refine mf_aload_n (mf_dat eX2_beginRule 0 rfl) rfl rfl ?_
  refine mf_aload_n (mf_dat eX2_beginRule 1 rfl) rfl rfl ?_
  refine mf_getf (r := (RX2, TX2, 4)) (ci := 2) (k := 3) (t := 2) (v := g 45 3) (mf_dat eX2_beginRule 2 rfl) fl_X2_23 rfl (by decide) rfl rfl is45 ?_
  obtain ⟨ck1, hyp⟩ := hyp
  refine mf_getf (r := (RX1, TX1, 14)) (ci := 1) (k := 5) (t := 2) (v := g 45 3 + 6) (mf_dat eX2_beginRule 3 rfl) fl_X2_55 rfl (by decide) rfl (gf_5 hG ck1) ck1 ?_
  refine mf_iload_n (mf_dat eX2_beginRule 4 rfl) rfl rfl ?_
  refine mf_callV (Yc := YX4_isTold) (r := (RX4, TX4, 5)) (ci := 4) (mf_dat eX2_beginRule 5 rfl) ml_X2_114 okX4_isTold im_X4_isTold sl_X4_isTold rfl rfl rfl rfl (Nat.le_of_ble_eq_true rfl) (mf_rr (Nat.le_trans (by decide) hd) (Nat.le_refl _)) (Nat.le_refl _) (fo_is5 ck1) (hyp hG) (fun r2 g3 h4 hyp => ?_)
  obtain ⟨hG, hyp⟩ := hyp
  refine mf_if_eq (tgt := 19) (mf_dat eX2_beginRule 6 rfl) (by decide) (fun hc => ?_) (fun hc => ?_)
  · replace hyp := hyp.1 hc
    refine mf_iconst (v := 0) (mf_dat eX2_beginRule 9 rfl) (by decide) ?_
    exact mf_sub [0, 1, 2] rfl (hyp hG)
  · replace hyp := hyp.2 hc
    refine mf_iconst (v := 1) (mf_dat eX2_beginRule 7 rfl) (by decide) ?_
    refine mf_goto (tgt := 20) (mf_dat eX2_beginRule 8 rfl) (by decide) ?_
    exact mf_sub [0, 1, 2] rfl (hyp hG)
set_option maxRecDepth 100000 in
set_option maxHeartbeats 4000000 in
theorem wX2_mayBegin {C : mf_G} {l : Launch} {d : Nat} {K : mf_Kt} {x1 x2 : Int} {g h : mf_M} (hd : 3 ≤ d) (hyp : ((x1 < x2 → xM C l 2 YX9_step [(2, 5)] g h (fun r1 g2 h3 => K 1 g2 h3)) ∧ (¬ x1 < x2 → xM C l 0 YX9_fail [(2, 5), (0, 5), (0, h 5 3)] g h (fun r4 g5 h6 => K 0 g5 h6)))) : xM C l d YX2_mayBegin [(2, 45), (0, x1), (0, x2)] g h K := by
  intro hG
  refine mf_entry (by decide) (Nat.le_of_ble_eq_true rfl) ?_
  refine mf_iload_n (mf_dat eX2_mayBegin 0 rfl) rfl rfl ?_
  refine mf_iload_n (mf_dat eX2_mayBegin 1 rfl) rfl rfl ?_
  refine mf_icmp_lt (tgt := 22) (mf_dat eX2_mayBegin 2 rfl) (by decide) (fun hc => ?_) (fun hc => ?_)
  · replace hyp := hyp.1 hc
    refine mf_aload_n (mf_dat eX2_mayBegin 12 rfl) rfl rfl ?_
    refine mf_getf (r := (RX2, TX2, 4)) (ci := 2) (k := 0) (t := 2) (v := 5) (mf_dat eX2_mayBegin 13 rfl) fl_X2_9 rfl (by decide) rfl (gx_45_0 hG) is45 ?_
    refine mf_callV (Yc := YX9_step) (r := (RX9, TX9, 10)) (ci := 9) (mf_dat eX2_mayBegin 14 rfl) ml_X2_104 okX9_step im_X9_step sl_X9_step rfl rfl rfl rfl (Nat.le_of_ble_eq_true rfl) (mf_rr (Nat.le_trans (by decide) hd) (Nat.le_refl _)) (Nat.le_refl _) is5 (hyp hG) (fun r1 g2 h3 hyp => ?_)
    obtain ⟨hG, hyp⟩ := hyp
    refine mf_iconst (v := 1) (mf_dat eX2_mayBegin 15 rfl) (by decide) ?_
    exact mf_ireturn (mf_dat eX2_mayBegin 16 rfl) rfl (Or.inr ⟨rfl, by decide⟩) ⟨hG, hyp⟩
  · replace hyp := hyp.2 hc
    refine mf_aload_n (mf_dat eX2_mayBegin 3 rfl) rfl rfl ?_
    refine mf_getf (r := (RX2, TX2, 4)) (ci := 2) (k := 0) (t := 2) (v := 5) (mf_dat eX2_mayBegin 4 rfl) fl_X2_9 rfl (by decide) rfl (gx_45_0 hG) is45 ?_
    refine mf_iconst (v := 5) (mf_dat eX2_mayBegin 5 rfl) (by decide) ?_
    refine mf_aload_n (mf_dat eX2_mayBegin 6 rfl) rfl rfl ?_
    refine mf_getf (r := (RX2, TX2, 4)) (ci := 2) (k := 0) (t := 2) (v := 5) (mf_dat eX2_mayBegin 7 rfl) fl_X2_9 rfl (by decide) rfl (gx_45_0 hG) is45 ?_
    refine mf_getf (r := (RX9, TX9, 10)) (ci := 9) (k := 3) (t := 0) (v := h 5 3) (mf_dat eX2_mayBegin 8 rfl) fl_X2_44 rfl (by decide) rfl rfl is5 ?_
    refine mf_callV (Yc := YX9_fail) (r := (RX9, TX9, 10)) (ci := 9) (mf_dat eX2_mayBegin 9 rfl) ml_X2_47 okX9_fail im_X9_fail sl_X9_fail rfl rfl rfl rfl (Nat.le_of_ble_eq_true rfl) (mf_rr (Nat.le_trans (by decide) hd) (Nat.le_refl _)) (Nat.le_refl _) is5 (hyp hG) (fun r4 g5 h6 hyp => ?_)
    obtain ⟨hG, hyp⟩ := hyp
    refine mf_iconst (v := 0) (mf_dat eX2_mayBegin 10 rfl) (by decide) ?_
    exact mf_ireturn (mf_dat eX2_mayBegin 11 rfl) rfl (Or.inr ⟨rfl, by decide⟩) ⟨hG, hyp⟩
set_option maxRecDepth 100000 in
set_option maxHeartbeats 4000000 in
theorem wX2_readSize {C : mf_G} {l : Launch} {d : Nat} {K : mf_Kt} {g h : mf_M} (hd : 4 ≤ d) (hyp : xM C l 2 YX9_step [(2, 5)] g h (fun r1 g2 h3 => xM C l 3 YX9_passNumber [(2, 5), (0, 1), (0, 6)] g2 h3 (fun r4 g5 h6 => xM C l 3 YX9_passWord [(2, 5), (0, 17)] g5 h6 (fun r7 g8 h9 => xM C l 3 YX9_passNumber [(2, 5), (0, 2), (0, 8)] g8 h9 (fun r10 g11 h12 => ((¬ h12 5 8 = 0 → K 0 g11 h12) ∧ (h12 5 8 = 0 → mf_is 319 (g11 45 3) 1 ∧ (∀ h14 : mf_M, h14 = mf_up h12 (g11 45 3) 8 r4 → (∀ h15 : mf_M, h15 = mf_up h14 (g11 45 3) 9 r10 → K 0 g11 h15))))))))) : xM C l d YX2_readSize [(2, 45)] g h K := by
  intro hG
  refine mf_entry (by decide) (Nat.le_of_ble_eq_true rfl) ?_
  refine mf_aload_n (mf_dat eX2_readSize 0 rfl) rfl rfl ?_
  refine mf_getf (r := (RX2, TX2, 4)) (ci := 2) (k := 0) (t := 2) (v := 5) (mf_dat eX2_readSize 1 rfl) fl_X2_9 rfl (by decide) rfl (gx_45_0 hG) is45 ?_
  refine mf_callV (Yc := YX9_step) (r := (RX9, TX9, 10)) (ci := 9) (mf_dat eX2_readSize 2 rfl) ml_X2_104 okX9_step im_X9_step sl_X9_step rfl rfl rfl rfl (Nat.le_of_ble_eq_true rfl) (mf_rr (Nat.le_trans (by decide) hd) (Nat.le_refl _)) (Nat.le_refl _) is5 (hyp hG) (fun r1 g2 h3 hyp => ?_)
  obtain ⟨hG, hyp⟩ := hyp
  refine mf_aload_n (mf_dat eX2_readSize 3 rfl) rfl rfl ?_
  refine mf_getf (r := (RX2, TX2, 4)) (ci := 2) (k := 0) (t := 2) (v := 5) (mf_dat eX2_readSize 4 rfl) fl_X2_9 rfl (by decide) rfl (gx_45_0 hG) is45 ?_
  refine mf_iconst (v := 1) (mf_dat eX2_readSize 5 rfl) (by decide) ?_
  refine mf_bipush (v := 6) (mf_dat eX2_readSize 6 rfl) (by decide) ?_
  refine mf_callV (Yc := YX9_passNumber) (r := (RX9, TX9, 10)) (ci := 9) (mf_dat eX2_readSize 7 rfl) ml_X2_107 okX9_passNumber im_X9_passNumber sl_X9_passNumber rfl rfl rfl rfl (Nat.le_of_ble_eq_true rfl) (mf_rr (Nat.le_trans (by decide) hd) (Nat.le_refl _)) (Nat.le_refl _) is5 (hyp hG) (fun r4 g5 h6 hyp => ?_)
  obtain ⟨hG, hyp⟩ := hyp
  refine mf_istore_n (mf_dat eX2_readSize 8 rfl) rfl (by decide) ?_
  refine mf_aload_n (mf_dat eX2_readSize 9 rfl) rfl rfl ?_
  refine mf_getf (r := (RX2, TX2, 4)) (ci := 2) (k := 0) (t := 2) (v := 5) (mf_dat eX2_readSize 10 rfl) fl_X2_9 rfl (by decide) rfl (gx_45_0 hG) is45 ?_
  refine mf_bipush (v := 17) (mf_dat eX2_readSize 11 rfl) (by decide) ?_
  refine mf_callV (Yc := YX9_passWord) (r := (RX9, TX9, 10)) (ci := 9) (mf_dat eX2_readSize 12 rfl) ml_X2_128 okX9_passWord im_X9_passWord sl_X9_passWord rfl rfl rfl rfl (Nat.le_of_ble_eq_true rfl) (mf_rr (Nat.le_trans (by decide) hd) (Nat.le_refl _)) (Nat.le_refl _) is5 (hyp hG) (fun r7 g8 h9 hyp => ?_)
  obtain ⟨hG, hyp⟩ := hyp
  refine mf_aload_n (mf_dat eX2_readSize 13 rfl) rfl rfl ?_
  refine mf_getf (r := (RX2, TX2, 4)) (ci := 2) (k := 0) (t := 2) (v := 5) (mf_dat eX2_readSize 14 rfl) fl_X2_9 rfl (by decide) rfl (gx_45_0 hG) is45 ?_
  refine mf_iconst (v := 2) (mf_dat eX2_readSize 15 rfl) (by decide) ?_
  refine mf_bipush (v := 8) (mf_dat eX2_readSize 16 rfl) (by decide) ?_
  refine mf_callV (Yc := YX9_passNumber) (r := (RX9, TX9, 10)) (ci := 9) (mf_dat eX2_readSize 17 rfl) ml_X2_107 okX9_passNumber im_X9_passNumber sl_X9_passNumber rfl rfl rfl rfl (Nat.le_of_ble_eq_true rfl) (mf_rr (Nat.le_trans (by decide) hd) (Nat.le_refl _)) (Nat.le_refl _) is5 (hyp hG) (fun r10 g11 h12 hyp => ?_)
  obtain ⟨hG, hyp⟩ := hyp
  refine mf_istore_n (mf_dat eX2_readSize 18 rfl) rfl (by decide) ?_
  refine mf_aload_n (mf_dat eX2_readSize 19 rfl) rfl rfl ?_
  refine mf_getf (r := (RX2, TX2, 4)) (ci := 2) (k := 0) (t := 2) (v := 5) (mf_dat eX2_readSize 20 rfl) fl_X2_9 rfl (by decide) rfl (gx_45_0 hG) is45 ?_
  refine mf_getf (r := (RX9, TX9, 10)) (ci := 9) (k := 8) (t := 0) (v := h12 5 8) (mf_dat eX2_readSize 21 rfl) fl_X2_37 rfl (by decide) rfl rfl is5 ?_
  refine mf_if_ne (tgt := 64) (mf_dat eX2_readSize 22 rfl) (by decide) (fun hc => ?_) (fun hc => ?_)
  · replace hyp := hyp.1 hc
    exact mf_return (mf_dat eX2_readSize 31 rfl) rfl ⟨hG, hyp⟩
  · replace hyp := hyp.2 hc
    refine mf_aload_n (mf_dat eX2_readSize 23 rfl) rfl rfl ?_
    refine mf_getf (r := (RX2, TX2, 4)) (ci := 2) (k := 3) (t := 2) (v := g11 45 3) (mf_dat eX2_readSize 24 rfl) fl_X2_23 rfl (by decide) rfl rfl is45 ?_
    refine mf_iload_n (mf_dat eX2_readSize 25 rfl) rfl rfl ?_
    obtain ⟨ck13, hyp⟩ := hyp
    refine mf_putI (r := (RX1, TX1, 14)) (ci := 1) (k := 8) (kI := 8) (t := 0) (mf_dat eX2_readSize 26 rfl) fl_X2_131 rfl rfl (by decide) rfl (by decide) rfl (by decide) (fun h9 => absurd h9 (by decide)) ck13 ?_
    generalize qh14 : mf_up h12 (g11 45 3) 8 r4 = h14
    replace hyp := hyp _ qh14.symm
    refine mf_aload_n (mf_dat eX2_readSize 27 rfl) rfl rfl ?_
    refine mf_getf (r := (RX2, TX2, 4)) (ci := 2) (k := 3) (t := 2) (v := g11 45 3) (mf_dat eX2_readSize 28 rfl) fl_X2_23 rfl (by decide) rfl rfl is45 ?_
    refine mf_iload_n (mf_dat eX2_readSize 29 rfl) rfl rfl ?_
    refine mf_putI (r := (RX1, TX1, 14)) (ci := 1) (k := 9) (kI := 9) (t := 0) (mf_dat eX2_readSize 30 rfl) fl_X2_134 rfl rfl (by decide) rfl (by decide) rfl (by decide) (fun h9 => absurd h9 (by decide)) ck13 ?_
    generalize qh15 : mf_up h14 (g11 45 3) 9 r10 = h15
    replace hyp := hyp _ qh15.symm
    exact mf_return (mf_dat eX2_readSize 31 rfl) rfl ⟨hG, hyp⟩
set_option maxRecDepth 100000 in
set_option maxHeartbeats 4000000 in
theorem wX2_readGloss {C : mf_G} {l : Launch} {d : Nat} {K : mf_Kt} {g h : mf_M} (hd : 6 ≤ d) (hyp : mf_is 319 (g 45 3) 1 ∧ xM C l 3 YX2_mayBegin [(2, 45), (0, h (g 45 3) 10), (0, 20)] g h (fun r2 g3 h4 => ((¬ r2 = 0 → mf_is 319 (g3 45 3) 1 ∧ xM C l 3 YX9_passNumber [(2, 5), (0, 0), (0, mf_w32 ((h4 (g3 45 3) 8) - 1))] g3 h4 (fun r6 g7 h8 => xM C l 5 YX2_readFreeCell [(2, 45), (0, r6)] g7 h8 (fun r9 g10 h11 => ((¬ h11 5 8 = 0 → K 0 g10 h11) ∧ (h11 5 8 = 0 → mf_is 319 (g10 45 3) 1 ∧ xM C l 0 YX6_writeGloss [(2, g10 45 3 + 10), (0, r6), (0, r9)] g10 h11 (fun r13 g14 h15 => mf_is 319 (g14 45 3) 1 ∧ (∀ h17 : mf_M, h17 = mf_up h15 (g14 45 3) 10 (mf_w32 ((h15 (g14 45 3) 10) + 1)) → K 0 g14 h17))))))) ∧ (r2 = 0 → K 0 g3 h4)))) : xM C l d YX2_readGloss [(2, 45)] g h K := by
  intro hG
  refine mf_entry (by decide) (Nat.le_of_ble_eq_true rfl) ?_
  refine mf_aload_n (mf_dat eX2_readGloss 0 rfl) rfl rfl ?_
  refine mf_aload_n (mf_dat eX2_readGloss 1 rfl) rfl rfl ?_
  refine mf_getf (r := (RX2, TX2, 4)) (ci := 2) (k := 3) (t := 2) (v := g 45 3) (mf_dat eX2_readGloss 2 rfl) fl_X2_23 rfl (by decide) rfl rfl is45 ?_
  obtain ⟨ck1, hyp⟩ := hyp
  refine mf_getf (r := (RX1, TX1, 14)) (ci := 1) (k := 10) (t := 0) (v := h (g 45 3) 10) (mf_dat eX2_readGloss 3 rfl) fl_X2_137 rfl (by decide) rfl rfl ck1 ?_
  refine mf_bipush (v := 20) (mf_dat eX2_readGloss 4 rfl) (by decide) ?_
  refine mf_callV (Yc := YX2_mayBegin) (r := (RX2, TX2, 4)) (ci := 2) (mf_dat eX2_readGloss 5 rfl) ml_X2_118 okX2_mayBegin im_X2_mayBegin sl_X2_mayBegin rfl rfl rfl rfl (Nat.le_of_ble_eq_true rfl) (mf_rr (Nat.le_trans (by decide) hd) (Nat.le_refl _)) (Nat.le_refl _) is45 (hyp hG) (fun r2 g3 h4 hyp => ?_)
  obtain ⟨hG, hyp⟩ := hyp
  refine mf_if_ne (tgt := 17) (mf_dat eX2_readGloss 6 rfl) (by decide) (fun hc => ?_) (fun hc => ?_)
  · replace hyp := hyp.1 hc
    refine mf_aload_n (mf_dat eX2_readGloss 8 rfl) rfl rfl ?_
    refine mf_getf (r := (RX2, TX2, 4)) (ci := 2) (k := 0) (t := 2) (v := 5) (mf_dat eX2_readGloss 9 rfl) fl_X2_9 rfl (by decide) rfl (gx_45_0 hG) is45 ?_
    refine mf_iconst (v := 0) (mf_dat eX2_readGloss 10 rfl) (by decide) ?_
    refine mf_aload_n (mf_dat eX2_readGloss 11 rfl) rfl rfl ?_
    refine mf_getf (r := (RX2, TX2, 4)) (ci := 2) (k := 3) (t := 2) (v := g3 45 3) (mf_dat eX2_readGloss 12 rfl) fl_X2_23 rfl (by decide) rfl rfl is45 ?_
    obtain ⟨ck5, hyp⟩ := hyp
    refine mf_getf (r := (RX1, TX1, 14)) (ci := 1) (k := 8) (t := 0) (v := h4 (g3 45 3) 8) (mf_dat eX2_readGloss 13 rfl) fl_X2_131 rfl (by decide) rfl rfl ck5 ?_
    refine mf_iconst (v := 1) (mf_dat eX2_readGloss 14 rfl) (by decide) ?_
    refine mf_isub (mf_dat eX2_readGloss 15 rfl) ?_
    refine mf_callV (Yc := YX9_passNumber) (r := (RX9, TX9, 10)) (ci := 9) (mf_dat eX2_readGloss 16 rfl) ml_X2_107 okX9_passNumber im_X9_passNumber sl_X9_passNumber rfl rfl rfl rfl (Nat.le_of_ble_eq_true rfl) (mf_rr (Nat.le_trans (by decide) hd) (Nat.le_refl _)) (Nat.le_refl _) is5 (hyp hG) (fun r6 g7 h8 hyp => ?_)
    obtain ⟨hG, hyp⟩ := hyp
    refine mf_istore_n (mf_dat eX2_readGloss 17 rfl) rfl (by decide) ?_
    refine mf_aload_n (mf_dat eX2_readGloss 18 rfl) rfl rfl ?_
    refine mf_iload_n (mf_dat eX2_readGloss 19 rfl) rfl rfl ?_
    refine mf_callV (Yc := YX2_readFreeCell) (r := (RX2, TX2, 4)) (ci := 2) (mf_dat eX2_readGloss 20 rfl) ml_X2_140 okX2_readFreeCell im_X2_readFreeCell sl_X2_readFreeCell rfl rfl rfl rfl (Nat.le_of_ble_eq_true rfl) (mf_rr (Nat.le_trans (by decide) hd) (Nat.le_refl _)) (Nat.le_refl _) is45 (hyp hG) (fun r9 g10 h11 hyp => ?_)
    obtain ⟨hG, hyp⟩ := hyp
    refine mf_istore_n (mf_dat eX2_readGloss 21 rfl) rfl (by decide) ?_
    refine mf_aload_n (mf_dat eX2_readGloss 22 rfl) rfl rfl ?_
    refine mf_getf (r := (RX2, TX2, 4)) (ci := 2) (k := 0) (t := 2) (v := 5) (mf_dat eX2_readGloss 23 rfl) fl_X2_9 rfl (by decide) rfl (gx_45_0 hG) is45 ?_
    refine mf_getf (r := (RX9, TX9, 10)) (ci := 9) (k := 8) (t := 0) (v := h11 5 8) (mf_dat eX2_readGloss 24 rfl) fl_X2_37 rfl (by decide) rfl rfl is5 ?_
    refine mf_if_ne (tgt := 76) (mf_dat eX2_readGloss 25 rfl) (by decide) (fun hc => ?_) (fun hc => ?_)
    · replace hyp := hyp.1 hc
      exact mf_return (mf_dat eX2_readGloss 39 rfl) rfl ⟨hG, hyp⟩
    · replace hyp := hyp.2 hc
      refine mf_aload_n (mf_dat eX2_readGloss 26 rfl) rfl rfl ?_
      refine mf_getf (r := (RX2, TX2, 4)) (ci := 2) (k := 3) (t := 2) (v := g10 45 3) (mf_dat eX2_readGloss 27 rfl) fl_X2_23 rfl (by decide) rfl rfl is45 ?_
      obtain ⟨ck12, hyp⟩ := hyp
      refine mf_getf (r := (RX1, TX1, 14)) (ci := 1) (k := 6) (t := 2) (v := g10 45 3 + 10) (mf_dat eX2_readGloss 28 rfl) fl_X2_143 rfl (by decide) rfl (gf_6 hG ck12) ck12 ?_
      refine mf_iload_n (mf_dat eX2_readGloss 29 rfl) rfl rfl ?_
      refine mf_iload_n (mf_dat eX2_readGloss 30 rfl) rfl rfl ?_
      refine mf_callV (Yc := YX6_writeGloss) (r := (RX6, TX6, 8)) (ci := 6) (mf_dat eX2_readGloss 31 rfl) ml_X2_147 okX6_writeGloss im_X6_writeGloss sl_X6_writeGloss rfl rfl rfl rfl (Nat.le_of_ble_eq_true rfl) (mf_rr (Nat.le_trans (by decide) hd) (Nat.le_refl _)) (Nat.le_refl _) (fo_is6 ck12) (hyp hG) (fun r13 g14 h15 hyp => ?_)
      obtain ⟨hG, hyp⟩ := hyp
      refine mf_aload_n (mf_dat eX2_readGloss 32 rfl) rfl rfl ?_
      refine mf_getf (r := (RX2, TX2, 4)) (ci := 2) (k := 3) (t := 2) (v := g14 45 3) (mf_dat eX2_readGloss 33 rfl) fl_X2_23 rfl (by decide) rfl rfl is45 ?_
      refine mf_dup (mf_dat eX2_readGloss 34 rfl) (by decide) ?_
      obtain ⟨ck16, hyp⟩ := hyp
      refine mf_getf (r := (RX1, TX1, 14)) (ci := 1) (k := 10) (t := 0) (v := h15 (g14 45 3) 10) (mf_dat eX2_readGloss 35 rfl) fl_X2_137 rfl (by decide) rfl rfl ck16 ?_
      refine mf_iconst (v := 1) (mf_dat eX2_readGloss 36 rfl) (by decide) ?_
      refine mf_iadd (mf_dat eX2_readGloss 37 rfl) ?_
      refine mf_putI (r := (RX1, TX1, 14)) (ci := 1) (k := 10) (kI := 10) (t := 0) (mf_dat eX2_readGloss 38 rfl) fl_X2_137 rfl rfl (by decide) rfl (by decide) rfl (by decide) (fun h9 => absurd h9 (by decide)) ck16 ?_
      generalize qh17 : mf_up h15 (g14 45 3) 10 (mf_w32 ((h15 (g14 45 3) 10) + 1)) = h17
      replace hyp := hyp _ qh17.symm
      exact mf_return (mf_dat eX2_readGloss 39 rfl) rfl ⟨hG, hyp⟩
  · replace hyp := hyp.2 hc
    exact mf_return (mf_dat eX2_readGloss 7 rfl) rfl ⟨hG, hyp⟩
set_option maxRecDepth 100000 in
set_option maxHeartbeats 4000000 in
theorem wX2_readFreeCell {C : mf_G} {l : Launch} {d : Nat} {K : mf_Kt} {x1 : Int} {g h : mf_M} (hd : 4 ≤ d) (hyp : mf_is 319 (g 45 3) 1 ∧ xM C l 3 YX9_passNumber [(2, 5), (0, 0), (0, mf_w32 ((h (g 45 3) 9) - 1))] g h (fun r2 g3 h4 => ((¬ h4 5 8 = 0 → K r2 g3 h4) ∧ (h4 5 8 = 0 → mf_is 319 (g3 45 3) 1 ∧ xM C l 1 YX6_isFree [(2, g3 45 3 + 10), (0, x1), (0, r2), (0, h4 (g3 45 3) 12)] g3 h4 (fun r6 g7 h8 => ((¬ r6 = 0 → K r2 g7 h8) ∧ (r6 = 0 → xM C l 0 YX9_fail [(2, 5), (0, 2), (0, h8 5 7)] g7 h8 (fun r9 g10 h11 => K r2 g10 h11)))))))) : xM C l d YX2_readFreeCell [(2, 45), (0, x1)] g h K := by
  intro hG
  refine mf_entry (by decide) (Nat.le_of_ble_eq_true rfl) ?_
  refine mf_aload_n (mf_dat eX2_readFreeCell 0 rfl) rfl rfl ?_
  refine mf_getf (r := (RX2, TX2, 4)) (ci := 2) (k := 0) (t := 2) (v := 5) (mf_dat eX2_readFreeCell 1 rfl) fl_X2_9 rfl (by decide) rfl (gx_45_0 hG) is45 ?_
  refine mf_iconst (v := 0) (mf_dat eX2_readFreeCell 2 rfl) (by decide) ?_
  refine mf_aload_n (mf_dat eX2_readFreeCell 3 rfl) rfl rfl ?_
  refine mf_getf (r := (RX2, TX2, 4)) (ci := 2) (k := 3) (t := 2) (v := g 45 3) (mf_dat eX2_readFreeCell 4 rfl) fl_X2_23 rfl (by decide) rfl rfl is45 ?_
  obtain ⟨ck1, hyp⟩ := hyp
  refine mf_getf (r := (RX1, TX1, 14)) (ci := 1) (k := 9) (t := 0) (v := h (g 45 3) 9) (mf_dat eX2_readFreeCell 5 rfl) fl_X2_134 rfl (by decide) rfl rfl ck1 ?_
  refine mf_iconst (v := 1) (mf_dat eX2_readFreeCell 6 rfl) (by decide) ?_
  refine mf_isub (mf_dat eX2_readFreeCell 7 rfl) ?_
  refine mf_callV (Yc := YX9_passNumber) (r := (RX9, TX9, 10)) (ci := 9) (mf_dat eX2_readFreeCell 8 rfl) ml_X2_107 okX9_passNumber im_X9_passNumber sl_X9_passNumber rfl rfl rfl rfl (Nat.le_of_ble_eq_true rfl) (mf_rr (Nat.le_trans (by decide) hd) (Nat.le_refl _)) (Nat.le_refl _) is5 (hyp hG) (fun r2 g3 h4 hyp => ?_)
  obtain ⟨hG, hyp⟩ := hyp
  refine mf_istore_n (mf_dat eX2_readFreeCell 9 rfl) rfl (by decide) ?_
  refine mf_aload_n (mf_dat eX2_readFreeCell 10 rfl) rfl rfl ?_
  refine mf_getf (r := (RX2, TX2, 4)) (ci := 2) (k := 0) (t := 2) (v := 5) (mf_dat eX2_readFreeCell 11 rfl) fl_X2_9 rfl (by decide) rfl (gx_45_0 hG) is45 ?_
  refine mf_getf (r := (RX9, TX9, 10)) (ci := 9) (k := 8) (t := 0) (v := h4 5 8) (mf_dat eX2_readFreeCell 12 rfl) fl_X2_37 rfl (by decide) rfl rfl is5 ?_
  refine mf_if_ne (tgt := 65) (mf_dat eX2_readFreeCell 13 rfl) (by decide) (fun hc => ?_) (fun hc => ?_)
  · replace hyp := hyp.1 hc
    refine mf_iload_n (mf_dat eX2_readFreeCell 31 rfl) rfl rfl ?_
    exact mf_ireturn (mf_dat eX2_readFreeCell 32 rfl) rfl (Or.inl rfl) ⟨hG, hyp⟩
  · replace hyp := hyp.2 hc
    refine mf_aload_n (mf_dat eX2_readFreeCell 14 rfl) rfl rfl ?_
    refine mf_getf (r := (RX2, TX2, 4)) (ci := 2) (k := 3) (t := 2) (v := g3 45 3) (mf_dat eX2_readFreeCell 15 rfl) fl_X2_23 rfl (by decide) rfl rfl is45 ?_
    obtain ⟨ck5, hyp⟩ := hyp
    refine mf_getf (r := (RX1, TX1, 14)) (ci := 1) (k := 6) (t := 2) (v := g3 45 3 + 10) (mf_dat eX2_readFreeCell 16 rfl) fl_X2_143 rfl (by decide) rfl (gf_6 hG ck5) ck5 ?_
    refine mf_iload_n (mf_dat eX2_readFreeCell 17 rfl) rfl rfl ?_
    refine mf_iload_n (mf_dat eX2_readFreeCell 18 rfl) rfl rfl ?_
    refine mf_aload_n (mf_dat eX2_readFreeCell 19 rfl) rfl rfl ?_
    refine mf_getf (r := (RX2, TX2, 4)) (ci := 2) (k := 3) (t := 2) (v := g3 45 3) (mf_dat eX2_readFreeCell 20 rfl) fl_X2_23 rfl (by decide) rfl rfl is45 ?_
    refine mf_getf (r := (RX1, TX1, 14)) (ci := 1) (k := 12) (t := 0) (v := h4 (g3 45 3) 12) (mf_dat eX2_readFreeCell 21 rfl) fl_X2_152 rfl (by decide) rfl rfl ck5 ?_
    refine mf_callV (Yc := YX6_isFree) (r := (RX6, TX6, 8)) (ci := 6) (mf_dat eX2_readFreeCell 22 rfl) ml_X2_155 okX6_isFree im_X6_isFree sl_X6_isFree rfl rfl rfl rfl (Nat.le_of_ble_eq_true rfl) (mf_rr (Nat.le_trans (by decide) hd) (Nat.le_refl _)) (Nat.le_refl _) (fo_is6 ck5) (hyp hG) (fun r6 g7 h8 hyp => ?_)
    obtain ⟨hG, hyp⟩ := hyp
    refine mf_if_ne (tgt := 65) (mf_dat eX2_readFreeCell 23 rfl) (by decide) (fun hc => ?_) (fun hc => ?_)
    · replace hyp := hyp.1 hc
      refine mf_iload_n (mf_dat eX2_readFreeCell 31 rfl) rfl rfl ?_
      exact mf_ireturn (mf_dat eX2_readFreeCell 32 rfl) rfl (Or.inl rfl) ⟨hG, hyp⟩
    · replace hyp := hyp.2 hc
      refine mf_aload_n (mf_dat eX2_readFreeCell 24 rfl) rfl rfl ?_
      refine mf_getf (r := (RX2, TX2, 4)) (ci := 2) (k := 0) (t := 2) (v := 5) (mf_dat eX2_readFreeCell 25 rfl) fl_X2_9 rfl (by decide) rfl (gx_45_0 hG) is45 ?_
      refine mf_iconst (v := 2) (mf_dat eX2_readFreeCell 26 rfl) (by decide) ?_
      refine mf_aload_n (mf_dat eX2_readFreeCell 27 rfl) rfl rfl ?_
      refine mf_getf (r := (RX2, TX2, 4)) (ci := 2) (k := 0) (t := 2) (v := 5) (mf_dat eX2_readFreeCell 28 rfl) fl_X2_9 rfl (by decide) rfl (gx_45_0 hG) is45 ?_
      refine mf_getf (r := (RX9, TX9, 10)) (ci := 9) (k := 7) (t := 0) (v := h8 5 7) (mf_dat eX2_readFreeCell 29 rfl) fl_X2_159 rfl (by decide) rfl rfl is5 ?_
      refine mf_callV (Yc := YX9_fail) (r := (RX9, TX9, 10)) (ci := 9) (mf_dat eX2_readFreeCell 30 rfl) ml_X2_47 okX9_fail im_X9_fail sl_X9_fail rfl rfl rfl rfl (Nat.le_of_ble_eq_true rfl) (mf_rr (Nat.le_trans (by decide) hd) (Nat.le_refl _)) (Nat.le_refl _) is5 (hyp hG) (fun r9 g10 h11 hyp => ?_)
      obtain ⟨hG, hyp⟩ := hyp
      refine mf_iload_n (mf_dat eX2_readFreeCell 31 rfl) rfl rfl ?_
      exact mf_ireturn (mf_dat eX2_readFreeCell 32 rfl) rfl (Or.inl rfl) ⟨hG, hyp⟩
abbrev BX2_readWorm_73 (C : mf_G) (l : Launch) (d : Nat) (K : mf_Kt) (x1 x2 : Int) (g h : mf_M) : Prop := jX C l d YX2_readWorm K 73 [(0, (2, 45)), (1, (0, x1)), (2, (0, x2))] [] g h
set_option maxRecDepth 100000 in
set_option maxHeartbeats 4000000 in
theorem vX2_readWorm_73 {C : mf_G} {l : Launch} {d : Nat} {K : mf_Kt} {x1 x2 : Int} {g h : mf_M} (hd : 4 ≤ d) (hyp : mf_is 319 (g 45 3) 1 ∧ xM C l 3 YX9_passNumber [(2, 5), (0, 0), (0, mf_w32 ((h (g 45 3) 9) - 1))] g h (fun r2 g3 h4 => ((¬ h4 5 8 = 0 → K 0 g3 h4) ∧ (h4 5 8 = 0 → mf_is 319 (g3 45 3) 1 ∧ xM C l 0 YX1_addWorm [(2, g3 45 3), (0, x1), (0, x2), (0, r2)] g3 h4 (fun r5 g6 h7 => K 0 g6 h7))))) : BX2_readWorm_73 C l d K x1 x2 g h := by
  intro hG
  refine mf_aload_n (mf_dat eX2_readWorm 38 rfl) rfl rfl ?_
  refine mf_getf (r := (RX2, TX2, 4)) (ci := 2) (k := 0) (t := 2) (v := 5) (mf_dat eX2_readWorm 39 rfl) fl_X2_9 rfl (by decide) rfl (gx_45_0 hG) is45 ?_
  refine mf_iconst (v := 0) (mf_dat eX2_readWorm 40 rfl) (by decide) ?_
  refine mf_aload_n (mf_dat eX2_readWorm 41 rfl) rfl rfl ?_
  refine mf_getf (r := (RX2, TX2, 4)) (ci := 2) (k := 3) (t := 2) (v := g 45 3) (mf_dat eX2_readWorm 42 rfl) fl_X2_23 rfl (by decide) rfl rfl is45 ?_
  obtain ⟨ck1, hyp⟩ := hyp
  refine mf_getf (r := (RX1, TX1, 14)) (ci := 1) (k := 9) (t := 0) (v := h (g 45 3) 9) (mf_dat eX2_readWorm 43 rfl) fl_X2_134 rfl (by decide) rfl rfl ck1 ?_
  refine mf_iconst (v := 1) (mf_dat eX2_readWorm 44 rfl) (by decide) ?_
  refine mf_isub (mf_dat eX2_readWorm 45 rfl) ?_
  refine mf_callV (Yc := YX9_passNumber) (r := (RX9, TX9, 10)) (ci := 9) (mf_dat eX2_readWorm 46 rfl) ml_X2_107 okX9_passNumber im_X9_passNumber sl_X9_passNumber rfl rfl rfl rfl (Nat.le_of_ble_eq_true rfl) (mf_rr (Nat.le_trans (by decide) hd) (Nat.le_refl _)) (Nat.le_refl _) is5 (hyp hG) (fun r2 g3 h4 hyp => ?_)
  obtain ⟨hG, hyp⟩ := hyp
  refine mf_istore_n (mf_dat eX2_readWorm 47 rfl) rfl (by decide) ?_
  refine mf_aload_n (mf_dat eX2_readWorm 48 rfl) rfl rfl ?_
  refine mf_getf (r := (RX2, TX2, 4)) (ci := 2) (k := 0) (t := 2) (v := 5) (mf_dat eX2_readWorm 49 rfl) fl_X2_9 rfl (by decide) rfl (gx_45_0 hG) is45 ?_
  refine mf_getf (r := (RX9, TX9, 10)) (ci := 9) (k := 8) (t := 0) (v := h4 5 8) (mf_dat eX2_readWorm 50 rfl) fl_X2_37 rfl (by decide) rfl rfl is5 ?_
  refine mf_if_ne (tgt := 111) (mf_dat eX2_readWorm 51 rfl) (by decide) (fun hc => ?_) (fun hc => ?_)
  · replace hyp := hyp.1 hc
    exact mf_return (mf_dat eX2_readWorm 58 rfl) rfl ⟨hG, hyp⟩
  · replace hyp := hyp.2 hc
    refine mf_aload_n (mf_dat eX2_readWorm 52 rfl) rfl rfl ?_
    refine mf_getf (r := (RX2, TX2, 4)) (ci := 2) (k := 3) (t := 2) (v := g3 45 3) (mf_dat eX2_readWorm 53 rfl) fl_X2_23 rfl (by decide) rfl rfl is45 ?_
    refine mf_iload_n (mf_dat eX2_readWorm 54 rfl) rfl rfl ?_
    refine mf_iload_n (mf_dat eX2_readWorm 55 rfl) rfl rfl ?_
    refine mf_iload_n (mf_dat eX2_readWorm 56 rfl) rfl rfl ?_
    obtain ⟨ck8, hyp⟩ := hyp
    refine mf_callV (Yc := YX1_addWorm) (r := (RX1, TX1, 14)) (ci := 1) (mf_dat eX2_readWorm 57 rfl) ml_X2_165 okX1_addWorm im_X1_addWorm sl_X1_addWorm rfl rfl rfl rfl (Nat.le_of_ble_eq_true rfl) (mf_rr (Nat.le_trans (by decide) hd) (Nat.le_refl _)) (Nat.le_refl _) ck8 (hyp hG) (fun r5 g6 h7 hyp => ?_)
    obtain ⟨hG, hyp⟩ := hyp
    exact mf_return (mf_dat eX2_readWorm 58 rfl) rfl ⟨hG, hyp⟩
set_option maxRecDepth 100000 in
set_option maxHeartbeats 4000000 in
theorem wX2_readWorm {C : mf_G} {l : Launch} {d : Nat} {K : mf_Kt} {g h : mf_M} (hd : 4 ≤ d) (hyp : mf_is 319 (g 45 3) 1 ∧ xM C l 3 YX2_mayBegin [(2, 45), (0, h (g 45 3) 11), (0, 12)] g h (fun r2 g3 h4 => ((¬ r2 = 0 → mf_is 319 (g3 45 3) 1 ∧ xM C l 3 YX9_passNumber [(2, 5), (0, 0), (0, mf_w32 ((h4 (g3 45 3) 8) - 1))] g3 h4 (fun r6 g7 h8 => mf_is 319 (g7 45 3) 1 ∧ xM C l 3 YX9_passNumber [(2, 5), (0, 0), (0, mf_w32 ((h8 (g7 45 3) 8) - 1))] g7 h8 (fun r10 g11 h12 => ((¬ r10 = r6 → BX2_readWorm_73 C l d K r6 r10 g11 h12) ∧ (r10 = r6 → xM C l 0 YX9_fail [(2, 5), (0, 2), (0, h12 5 7)] g11 h12 (fun r13 g14 h15 => BX2_readWorm_73 C l d K r6 r10 g14 h15)))))) ∧ (r2 = 0 → K 0 g3 h4)))) : xM C l d YX2_readWorm [(2, 45)] g h K := by
  intro hG
  refine mf_entry (by decide) (Nat.le_of_ble_eq_true rfl) ?_
  refine mf_aload_n (mf_dat eX2_readWorm 0 rfl) rfl rfl ?_
  refine mf_aload_n (mf_dat eX2_readWorm 1 rfl) rfl rfl ?_
  refine mf_getf (r := (RX2, TX2, 4)) (ci := 2) (k := 3) (t := 2) (v := g 45 3) (mf_dat eX2_readWorm 2 rfl) fl_X2_23 rfl (by decide) rfl rfl is45 ?_
  obtain ⟨ck1, hyp⟩ := hyp
  refine mf_getf (r := (RX1, TX1, 14)) (ci := 1) (k := 11) (t := 0) (v := h (g 45 3) 11) (mf_dat eX2_readWorm 3 rfl) fl_X2_162 rfl (by decide) rfl rfl ck1 ?_
  refine mf_bipush (v := 12) (mf_dat eX2_readWorm 4 rfl) (by decide) ?_
  refine mf_callV (Yc := YX2_mayBegin) (r := (RX2, TX2, 4)) (ci := 2) (mf_dat eX2_readWorm 5 rfl) ml_X2_118 okX2_mayBegin im_X2_mayBegin sl_X2_mayBegin rfl rfl rfl rfl (Nat.le_of_ble_eq_true rfl) (mf_rr (Nat.le_trans (by decide) hd) (Nat.le_refl _)) (Nat.le_refl _) is45 (hyp hG) (fun r2 g3 h4 hyp => ?_)
  obtain ⟨hG, hyp⟩ := hyp
  refine mf_if_ne (tgt := 17) (mf_dat eX2_readWorm 6 rfl) (by decide) (fun hc => ?_) (fun hc => ?_)
  · replace hyp := hyp.1 hc
    refine mf_aload_n (mf_dat eX2_readWorm 8 rfl) rfl rfl ?_
    refine mf_getf (r := (RX2, TX2, 4)) (ci := 2) (k := 0) (t := 2) (v := 5) (mf_dat eX2_readWorm 9 rfl) fl_X2_9 rfl (by decide) rfl (gx_45_0 hG) is45 ?_
    refine mf_iconst (v := 0) (mf_dat eX2_readWorm 10 rfl) (by decide) ?_
    refine mf_aload_n (mf_dat eX2_readWorm 11 rfl) rfl rfl ?_
    refine mf_getf (r := (RX2, TX2, 4)) (ci := 2) (k := 3) (t := 2) (v := g3 45 3) (mf_dat eX2_readWorm 12 rfl) fl_X2_23 rfl (by decide) rfl rfl is45 ?_
    obtain ⟨ck5, hyp⟩ := hyp
    refine mf_getf (r := (RX1, TX1, 14)) (ci := 1) (k := 8) (t := 0) (v := h4 (g3 45 3) 8) (mf_dat eX2_readWorm 13 rfl) fl_X2_131 rfl (by decide) rfl rfl ck5 ?_
    refine mf_iconst (v := 1) (mf_dat eX2_readWorm 14 rfl) (by decide) ?_
    refine mf_isub (mf_dat eX2_readWorm 15 rfl) ?_
    refine mf_callV (Yc := YX9_passNumber) (r := (RX9, TX9, 10)) (ci := 9) (mf_dat eX2_readWorm 16 rfl) ml_X2_107 okX9_passNumber im_X9_passNumber sl_X9_passNumber rfl rfl rfl rfl (Nat.le_of_ble_eq_true rfl) (mf_rr (Nat.le_trans (by decide) hd) (Nat.le_refl _)) (Nat.le_refl _) is5 (hyp hG) (fun r6 g7 h8 hyp => ?_)
    obtain ⟨hG, hyp⟩ := hyp
    refine mf_istore_n (mf_dat eX2_readWorm 17 rfl) rfl (by decide) ?_
    refine mf_aload_n (mf_dat eX2_readWorm 18 rfl) rfl rfl ?_
    refine mf_getf (r := (RX2, TX2, 4)) (ci := 2) (k := 0) (t := 2) (v := 5) (mf_dat eX2_readWorm 19 rfl) fl_X2_9 rfl (by decide) rfl (gx_45_0 hG) is45 ?_
    refine mf_iconst (v := 0) (mf_dat eX2_readWorm 20 rfl) (by decide) ?_
    refine mf_aload_n (mf_dat eX2_readWorm 21 rfl) rfl rfl ?_
    refine mf_getf (r := (RX2, TX2, 4)) (ci := 2) (k := 3) (t := 2) (v := g7 45 3) (mf_dat eX2_readWorm 22 rfl) fl_X2_23 rfl (by decide) rfl rfl is45 ?_
    obtain ⟨ck9, hyp⟩ := hyp
    refine mf_getf (r := (RX1, TX1, 14)) (ci := 1) (k := 8) (t := 0) (v := h8 (g7 45 3) 8) (mf_dat eX2_readWorm 23 rfl) fl_X2_131 rfl (by decide) rfl rfl ck9 ?_
    refine mf_iconst (v := 1) (mf_dat eX2_readWorm 24 rfl) (by decide) ?_
    refine mf_isub (mf_dat eX2_readWorm 25 rfl) ?_
    refine mf_callV (Yc := YX9_passNumber) (r := (RX9, TX9, 10)) (ci := 9) (mf_dat eX2_readWorm 26 rfl) ml_X2_107 okX9_passNumber im_X9_passNumber sl_X9_passNumber rfl rfl rfl rfl (Nat.le_of_ble_eq_true rfl) (mf_rr (Nat.le_trans (by decide) hd) (Nat.le_refl _)) (Nat.le_refl _) is5 (hyp hG) (fun r10 g11 h12 hyp => ?_)
    obtain ⟨hG, hyp⟩ := hyp
    refine mf_istore_n (mf_dat eX2_readWorm 27 rfl) rfl (by decide) ?_
    refine mf_iload_n (mf_dat eX2_readWorm 28 rfl) rfl rfl ?_
    refine mf_iload_n (mf_dat eX2_readWorm 29 rfl) rfl rfl ?_
    refine mf_icmp_ne (tgt := 73) (mf_dat eX2_readWorm 30 rfl) (by decide) (fun hc => ?_) (fun hc => ?_)
    · replace hyp := hyp.1 hc
      exact mf_sub [2, 1, 0] rfl (hyp hG)
    · replace hyp := hyp.2 hc
      refine mf_aload_n (mf_dat eX2_readWorm 31 rfl) rfl rfl ?_
      refine mf_getf (r := (RX2, TX2, 4)) (ci := 2) (k := 0) (t := 2) (v := 5) (mf_dat eX2_readWorm 32 rfl) fl_X2_9 rfl (by decide) rfl (gx_45_0 hG) is45 ?_
      refine mf_iconst (v := 2) (mf_dat eX2_readWorm 33 rfl) (by decide) ?_
      refine mf_aload_n (mf_dat eX2_readWorm 34 rfl) rfl rfl ?_
      refine mf_getf (r := (RX2, TX2, 4)) (ci := 2) (k := 0) (t := 2) (v := 5) (mf_dat eX2_readWorm 35 rfl) fl_X2_9 rfl (by decide) rfl (gx_45_0 hG) is45 ?_
      refine mf_getf (r := (RX9, TX9, 10)) (ci := 9) (k := 7) (t := 0) (v := h12 5 7) (mf_dat eX2_readWorm 36 rfl) fl_X2_159 rfl (by decide) rfl rfl is5 ?_
      refine mf_callV (Yc := YX9_fail) (r := (RX9, TX9, 10)) (ci := 9) (mf_dat eX2_readWorm 37 rfl) ml_X2_47 okX9_fail im_X9_fail sl_X9_fail rfl rfl rfl rfl (Nat.le_of_ble_eq_true rfl) (mf_rr (Nat.le_trans (by decide) hd) (Nat.le_refl _)) (Nat.le_refl _) is5 (hyp hG) (fun r13 g14 h15 hyp => ?_)
      obtain ⟨hG, hyp⟩ := hyp
      exact mf_sub [2, 1, 0] rfl (hyp hG)
  · replace hyp := hyp.2 hc
    exact mf_return (mf_dat eX2_readWorm 7 rfl) rfl ⟨hG, hyp⟩
set_option maxRecDepth 100000 in
set_option maxHeartbeats 4000000 in
theorem wX2_readBeing {C : mf_G} {l : Launch} {d : Nat} {K : mf_Kt} {g h : mf_M} (hd : 6 ≤ d) (hyp : mf_is 319 (g 45 3) 1 ∧ xM C l 3 YX2_mayBegin [(2, 45), (0, h (g 45 3) 12), (0, 8)] g h (fun r2 g3 h4 => ((¬ r2 = 0 → xM C l 3 YX2_readName [(2, 45)] g3 h4 (fun r5 g6 h7 => xM C l 3 YX9_passWord [(2, 5), (0, 21)] g6 h7 (fun r8 g9 h10 => mf_is 319 (g9 45 3) 1 ∧ xM C l 3 YX9_passNumber [(2, 5), (0, 0), (0, mf_w32 ((h10 (g9 45 3) 8) - 1))] g9 h10 (fun r12 g13 h14 => xM C l 3 YX9_passWord [(2, 5), (0, 22)] g13 h14 (fun r15 g16 h17 => xM C l 5 YX2_readFreeCell [(2, 45), (0, r12)] g16 h17 (fun r18 g19 h20 => xM C l 3 YX9_passWord [(2, 5), (0, 3)] g19 h20 (fun r21 g22 h23 => xM C l 3 YX9_passNumber [(2, 5), (0, 0), (0, 9)] g22 h23 (fun r24 g25 h26 => ((¬ h26 5 8 = 0 → K 0 g25 h26) ∧ (h26 5 8 = 0 → mf_is 319 (g25 45 3) 1 ∧ xM C l 0 YX1_addBeing [(2, g25 45 3), (0, r5), (0, r12), (0, r18), (0, r24)] g25 h26 (fun r27 g28 h29 => K 0 g28 h29))))))))))) ∧ (r2 = 0 → K 0 g3 h4)))) : xM C l d YX2_readBeing [(2, 45)] g h K := by
  intro hG
  refine mf_entry (by decide) (Nat.le_of_ble_eq_true rfl) ?_
  refine mf_aload_n (mf_dat eX2_readBeing 0 rfl) rfl rfl ?_
  refine mf_aload_n (mf_dat eX2_readBeing 1 rfl) rfl rfl ?_
  refine mf_getf (r := (RX2, TX2, 4)) (ci := 2) (k := 3) (t := 2) (v := g 45 3) (mf_dat eX2_readBeing 2 rfl) fl_X2_23 rfl (by decide) rfl rfl is45 ?_
  obtain ⟨ck1, hyp⟩ := hyp
  refine mf_getf (r := (RX1, TX1, 14)) (ci := 1) (k := 12) (t := 0) (v := h (g 45 3) 12) (mf_dat eX2_readBeing 3 rfl) fl_X2_152 rfl (by decide) rfl rfl ck1 ?_
  refine mf_bipush (v := 8) (mf_dat eX2_readBeing 4 rfl) (by decide) ?_
  refine mf_callV (Yc := YX2_mayBegin) (r := (RX2, TX2, 4)) (ci := 2) (mf_dat eX2_readBeing 5 rfl) ml_X2_118 okX2_mayBegin im_X2_mayBegin sl_X2_mayBegin rfl rfl rfl rfl (Nat.le_of_ble_eq_true rfl) (mf_rr (Nat.le_trans (by decide) hd) (Nat.le_refl _)) (Nat.le_refl _) is45 (hyp hG) (fun r2 g3 h4 hyp => ?_)
  obtain ⟨hG, hyp⟩ := hyp
  refine mf_if_ne (tgt := 17) (mf_dat eX2_readBeing 6 rfl) (by decide) (fun hc => ?_) (fun hc => ?_)
  · replace hyp := hyp.1 hc
    refine mf_aload_n (mf_dat eX2_readBeing 8 rfl) rfl rfl ?_
    refine mf_callV (Yc := YX2_readName) (r := (RX2, TX2, 4)) (ci := 2) (mf_dat eX2_readBeing 9 rfl) ml_X2_169 okX2_readName im_X2_readName sl_X2_readName rfl rfl rfl rfl (Nat.le_of_ble_eq_true rfl) (mf_rr (Nat.le_trans (by decide) hd) (Nat.le_refl _)) (Nat.le_refl _) is45 (hyp hG) (fun r5 g6 h7 hyp => ?_)
    obtain ⟨hG, hyp⟩ := hyp
    refine mf_istore_n (mf_dat eX2_readBeing 10 rfl) rfl (by decide) ?_
    refine mf_aload_n (mf_dat eX2_readBeing 11 rfl) rfl rfl ?_
    refine mf_getf (r := (RX2, TX2, 4)) (ci := 2) (k := 0) (t := 2) (v := 5) (mf_dat eX2_readBeing 12 rfl) fl_X2_9 rfl (by decide) rfl (gx_45_0 hG) is45 ?_
    refine mf_bipush (v := 21) (mf_dat eX2_readBeing 13 rfl) (by decide) ?_
    refine mf_callV (Yc := YX9_passWord) (r := (RX9, TX9, 10)) (ci := 9) (mf_dat eX2_readBeing 14 rfl) ml_X2_128 okX9_passWord im_X9_passWord sl_X9_passWord rfl rfl rfl rfl (Nat.le_of_ble_eq_true rfl) (mf_rr (Nat.le_trans (by decide) hd) (Nat.le_refl _)) (Nat.le_refl _) is5 (hyp hG) (fun r8 g9 h10 hyp => ?_)
    obtain ⟨hG, hyp⟩ := hyp
    refine mf_aload_n (mf_dat eX2_readBeing 15 rfl) rfl rfl ?_
    refine mf_getf (r := (RX2, TX2, 4)) (ci := 2) (k := 0) (t := 2) (v := 5) (mf_dat eX2_readBeing 16 rfl) fl_X2_9 rfl (by decide) rfl (gx_45_0 hG) is45 ?_
    refine mf_iconst (v := 0) (mf_dat eX2_readBeing 17 rfl) (by decide) ?_
    refine mf_aload_n (mf_dat eX2_readBeing 18 rfl) rfl rfl ?_
    refine mf_getf (r := (RX2, TX2, 4)) (ci := 2) (k := 3) (t := 2) (v := g9 45 3) (mf_dat eX2_readBeing 19 rfl) fl_X2_23 rfl (by decide) rfl rfl is45 ?_
    obtain ⟨ck11, hyp⟩ := hyp
    refine mf_getf (r := (RX1, TX1, 14)) (ci := 1) (k := 8) (t := 0) (v := h10 (g9 45 3) 8) (mf_dat eX2_readBeing 20 rfl) fl_X2_131 rfl (by decide) rfl rfl ck11 ?_
    refine mf_iconst (v := 1) (mf_dat eX2_readBeing 21 rfl) (by decide) ?_
    refine mf_isub (mf_dat eX2_readBeing 22 rfl) ?_
    refine mf_callV (Yc := YX9_passNumber) (r := (RX9, TX9, 10)) (ci := 9) (mf_dat eX2_readBeing 23 rfl) ml_X2_107 okX9_passNumber im_X9_passNumber sl_X9_passNumber rfl rfl rfl rfl (Nat.le_of_ble_eq_true rfl) (mf_rr (Nat.le_trans (by decide) hd) (Nat.le_refl _)) (Nat.le_refl _) is5 (hyp hG) (fun r12 g13 h14 hyp => ?_)
    obtain ⟨hG, hyp⟩ := hyp
    refine mf_istore_n (mf_dat eX2_readBeing 24 rfl) rfl (by decide) ?_
    refine mf_aload_n (mf_dat eX2_readBeing 25 rfl) rfl rfl ?_
    refine mf_getf (r := (RX2, TX2, 4)) (ci := 2) (k := 0) (t := 2) (v := 5) (mf_dat eX2_readBeing 26 rfl) fl_X2_9 rfl (by decide) rfl (gx_45_0 hG) is45 ?_
    refine mf_bipush (v := 22) (mf_dat eX2_readBeing 27 rfl) (by decide) ?_
    refine mf_callV (Yc := YX9_passWord) (r := (RX9, TX9, 10)) (ci := 9) (mf_dat eX2_readBeing 28 rfl) ml_X2_128 okX9_passWord im_X9_passWord sl_X9_passWord rfl rfl rfl rfl (Nat.le_of_ble_eq_true rfl) (mf_rr (Nat.le_trans (by decide) hd) (Nat.le_refl _)) (Nat.le_refl _) is5 (hyp hG) (fun r15 g16 h17 hyp => ?_)
    obtain ⟨hG, hyp⟩ := hyp
    refine mf_aload_n (mf_dat eX2_readBeing 29 rfl) rfl rfl ?_
    refine mf_iload_n (mf_dat eX2_readBeing 30 rfl) rfl rfl ?_
    refine mf_callV (Yc := YX2_readFreeCell) (r := (RX2, TX2, 4)) (ci := 2) (mf_dat eX2_readBeing 31 rfl) ml_X2_140 okX2_readFreeCell im_X2_readFreeCell sl_X2_readFreeCell rfl rfl rfl rfl (Nat.le_of_ble_eq_true rfl) (mf_rr (Nat.le_trans (by decide) hd) (Nat.le_refl _)) (Nat.le_refl _) is45 (hyp hG) (fun r18 g19 h20 hyp => ?_)
    obtain ⟨hG, hyp⟩ := hyp
    refine mf_istore_n (mf_dat eX2_readBeing 32 rfl) rfl (by decide) ?_
    refine mf_aload_n (mf_dat eX2_readBeing 33 rfl) rfl rfl ?_
    refine mf_getf (r := (RX2, TX2, 4)) (ci := 2) (k := 0) (t := 2) (v := 5) (mf_dat eX2_readBeing 34 rfl) fl_X2_9 rfl (by decide) rfl (gx_45_0 hG) is45 ?_
    refine mf_iconst (v := 3) (mf_dat eX2_readBeing 35 rfl) (by decide) ?_
    refine mf_callV (Yc := YX9_passWord) (r := (RX9, TX9, 10)) (ci := 9) (mf_dat eX2_readBeing 36 rfl) ml_X2_128 okX9_passWord im_X9_passWord sl_X9_passWord rfl rfl rfl rfl (Nat.le_of_ble_eq_true rfl) (mf_rr (Nat.le_trans (by decide) hd) (Nat.le_refl _)) (Nat.le_refl _) is5 (hyp hG) (fun r21 g22 h23 hyp => ?_)
    obtain ⟨hG, hyp⟩ := hyp
    refine mf_aload_n (mf_dat eX2_readBeing 37 rfl) rfl rfl ?_
    refine mf_getf (r := (RX2, TX2, 4)) (ci := 2) (k := 0) (t := 2) (v := 5) (mf_dat eX2_readBeing 38 rfl) fl_X2_9 rfl (by decide) rfl (gx_45_0 hG) is45 ?_
    refine mf_iconst (v := 0) (mf_dat eX2_readBeing 39 rfl) (by decide) ?_
    refine mf_bipush (v := 9) (mf_dat eX2_readBeing 40 rfl) (by decide) ?_
    refine mf_callV (Yc := YX9_passNumber) (r := (RX9, TX9, 10)) (ci := 9) (mf_dat eX2_readBeing 41 rfl) ml_X2_107 okX9_passNumber im_X9_passNumber sl_X9_passNumber rfl rfl rfl rfl (Nat.le_of_ble_eq_true rfl) (mf_rr (Nat.le_trans (by decide) hd) (Nat.le_refl _)) (Nat.le_refl _) is5 (hyp hG) (fun r24 g25 h26 hyp => ?_)
    obtain ⟨hG, hyp⟩ := hyp
    refine mf_istore (mf_dat eX2_readBeing 42 rfl) (by decide) ?_
    refine mf_aload_n (mf_dat eX2_readBeing 43 rfl) rfl rfl ?_
    refine mf_getf (r := (RX2, TX2, 4)) (ci := 2) (k := 0) (t := 2) (v := 5) (mf_dat eX2_readBeing 44 rfl) fl_X2_9 rfl (by decide) rfl (gx_45_0 hG) is45 ?_
    refine mf_getf (r := (RX9, TX9, 10)) (ci := 9) (k := 8) (t := 0) (v := h26 5 8) (mf_dat eX2_readBeing 45 rfl) fl_X2_37 rfl (by decide) rfl rfl is5 ?_
    refine mf_if_ne (tgt := 106) (mf_dat eX2_readBeing 46 rfl) (by decide) (fun hc => ?_) (fun hc => ?_)
    · replace hyp := hyp.1 hc
      exact mf_return (mf_dat eX2_readBeing 54 rfl) rfl ⟨hG, hyp⟩
    · replace hyp := hyp.2 hc
      refine mf_aload_n (mf_dat eX2_readBeing 47 rfl) rfl rfl ?_
      refine mf_getf (r := (RX2, TX2, 4)) (ci := 2) (k := 3) (t := 2) (v := g25 45 3) (mf_dat eX2_readBeing 48 rfl) fl_X2_23 rfl (by decide) rfl rfl is45 ?_
      refine mf_iload_n (mf_dat eX2_readBeing 49 rfl) rfl rfl ?_
      refine mf_iload_n (mf_dat eX2_readBeing 50 rfl) rfl rfl ?_
      refine mf_iload_n (mf_dat eX2_readBeing 51 rfl) rfl rfl ?_
      refine mf_iload (mf_dat eX2_readBeing 52 rfl) rfl ?_
      obtain ⟨ck30, hyp⟩ := hyp
      refine mf_callV (Yc := YX1_addBeing) (r := (RX1, TX1, 14)) (ci := 1) (mf_dat eX2_readBeing 53 rfl) ml_X2_173 okX1_addBeing im_X1_addBeing sl_X1_addBeing rfl rfl rfl rfl (Nat.le_of_ble_eq_true rfl) (mf_rr (Nat.le_trans (by decide) hd) (Nat.le_refl _)) (Nat.le_refl _) ck30 (hyp hG) (fun r27 g28 h29 hyp => ?_)
      obtain ⟨hG, hyp⟩ := hyp
      exact mf_return (mf_dat eX2_readBeing 54 rfl) rfl ⟨hG, hyp⟩
  · replace hyp := hyp.2 hc
    exact mf_return (mf_dat eX2_readBeing 7 rfl) rfl ⟨hG, hyp⟩
set_option maxRecDepth 100000 in
set_option maxHeartbeats 4000000 in
theorem wX2_readName {C : mf_G} {l : Launch} {d : Nat} {K : mf_Kt} {g h : mf_M} (hd : 3 ≤ d) (hyp : (∀ v1 : Int, v1 = h 5 5 → ((h 5 2 = 1 → ((h 5 4 ≤ 6 → xM C l 1 YX2_isOwnWord [(2, 45), (0, v1)] g h (fun r2 g3 h4 => ((r2 = 0 → mf_is 319 (g3 45 3) 1 ∧ xM C l 0 YX1_hasName [(2, g3 45 3), (0, v1)] g3 h4 (fun r5 g6 h7 => ((r5 = 0 → xM C l 2 YX9_step [(2, 5)] g6 h7 (fun r9 g10 h11 => K v1 g10 h11)) ∧ (¬ r5 = 0 → xM C l 0 YX9_fail [(2, 5), (0, 3), (0, h7 5 3)] g6 h7 (fun r12 g13 h14 => K v1 g13 h14))))) ∧ (¬ r2 = 0 → xM C l 0 YX9_fail [(2, 5), (0, 1), (0, h4 5 3)] g3 h4 (fun r15 g16 h17 => K v1 g16 h17))))) ∧ (¬ h 5 4 ≤ 6 → xM C l 0 YX9_fail [(2, 5), (0, 1), (0, mf_w32 ((h 5 3) + 6))] g h (fun r18 g19 h20 => K v1 g19 h20)))) ∧ (¬ h 5 2 = 1 → xM C l 0 YX9_fail [(2, 5), (0, 1), (0, h 5 3)] g h (fun r21 g22 h23 => K v1 g22 h23))))) : xM C l d YX2_readName [(2, 45)] g h K := by
  intro hG
  refine mf_entry (by decide) (Nat.le_of_ble_eq_true rfl) ?_
  refine mf_aload_n (mf_dat eX2_readName_p0 0 rfl) rfl rfl ?_
  refine mf_getf (r := (RX2, TX2, 4)) (ci := 2) (k := 0) (t := 2) (v := 5) (mf_dat eX2_readName_p0 1 rfl) fl_X2_9 rfl (by decide) rfl (gx_45_0 hG) is45 ?_
  refine mf_getf (r := (RX9, TX9, 10)) (ci := 9) (k := 5) (t := 0) (v := h 5 5) (mf_dat eX2_readName_p0 2 rfl) fl_X2_71 rfl (by decide) rfl rfl is5 ?_
  generalize qv1 : h 5 5 = v1
  replace hyp := hyp _ qv1.symm
  refine mf_istore_n (mf_dat eX2_readName_p0 3 rfl) rfl (by decide) ?_
  refine mf_aload_n (mf_dat eX2_readName_p0 4 rfl) rfl rfl ?_
  refine mf_getf (r := (RX2, TX2, 4)) (ci := 2) (k := 0) (t := 2) (v := 5) (mf_dat eX2_readName_p0 5 rfl) fl_X2_9 rfl (by decide) rfl (gx_45_0 hG) is45 ?_
  refine mf_getf (r := (RX9, TX9, 10)) (ci := 9) (k := 2) (t := 0) (v := h 5 2) (mf_dat eX2_readName_p0 6 rfl) fl_X2_41 rfl (by decide) rfl rfl is5 ?_
  refine mf_iconst (v := 1) (mf_dat eX2_readName_p0 7 rfl) (by decide) ?_
  refine mf_icmp_eq (tgt := 37) (mf_dat eX2_readName_p0 8 rfl) (by decide) (fun hc => ?_) (fun hc => ?_)
  · replace hyp := hyp.1 hc
    refine mf_aload_n (mf_dat eX2_readName_p0 17 rfl) rfl rfl ?_
    refine mf_getf (r := (RX2, TX2, 4)) (ci := 2) (k := 0) (t := 2) (v := 5) (mf_dat eX2_readName_p0 18 rfl) fl_X2_9 rfl (by decide) rfl (gx_45_0 hG) is45 ?_
    refine mf_getf (r := (RX9, TX9, 10)) (ci := 9) (k := 4) (t := 0) (v := h 5 4) (mf_dat eX2_readName_p0 19 rfl) fl_X2_177 rfl (by decide) rfl rfl is5 ?_
    refine mf_bipush (v := 6) (mf_dat eX2_readName_p0 20 rfl) (by decide) ?_
    refine mf_icmp_le (tgt := 70) (mf_dat eX2_readName_p0 21 rfl) (by decide) (fun hc => ?_) (fun hc => ?_)
    · replace hyp := hyp.1 hc
      refine mf_aload_n (mf_dat eX2_readName_p0 32 rfl) rfl rfl ?_
      refine mf_iload_n (mf_dat eX2_readName_p0 33 rfl) rfl rfl ?_
      refine mf_callV (Yc := YX2_isOwnWord) (r := (RX2, TX2, 4)) (ci := 2) (mf_dat eX2_readName_p0 34 rfl) ml_X2_180 okX2_isOwnWord im_X2_isOwnWord sl_X2_isOwnWord rfl rfl rfl rfl (Nat.le_of_ble_eq_true rfl) (mf_rr (Nat.le_trans (by decide) hd) (Nat.le_refl _)) (Nat.le_refl _) is45 (hyp hG) (fun r2 g3 h4 hyp => ?_)
      obtain ⟨hG, hyp⟩ := hyp
      refine mf_if_eq (tgt := 96) (mf_dat eX2_readName_p0 35 rfl) (by decide) (fun hc => ?_) (fun hc => ?_)
      · replace hyp := hyp.1 hc
        refine mf_aload_n (mf_dat eX2_readName_p0 44 rfl) rfl rfl ?_
        refine mf_getf (r := (RX2, TX2, 4)) (ci := 2) (k := 3) (t := 2) (v := g3 45 3) (mf_dat eX2_readName_p0 45 rfl) fl_X2_23 rfl (by decide) rfl rfl is45 ?_
        refine mf_iload_n (mf_dat eX2_readName_p0 46 rfl) rfl rfl ?_
        obtain ⟨ck8, hyp⟩ := hyp
        refine mf_callV (Yc := YX1_hasName) (r := (RX1, TX1, 14)) (ci := 1) (mf_dat eX2_readName_p0 47 rfl) ml_X2_183 okX1_hasName im_X1_hasName sl_X1_hasName rfl rfl rfl rfl (Nat.le_of_ble_eq_true rfl) (mf_rr (Nat.le_trans (by decide) hd) (Nat.le_refl _)) (Nat.le_refl _) ck8 (hyp hG) (fun r5 g6 h7 hyp => ?_)
        obtain ⟨hG, hyp⟩ := hyp
        refine mf_if_eq (tgt := 125) (mf_dat eX2_readName_p0 48 rfl) (by decide) (fun hc => ?_) (fun hc => ?_)
        · replace hyp := hyp.1 hc
          refine mf_aload_n (mf_dat eX2_readName_p0 57 rfl) rfl rfl ?_
          refine mf_getf (r := (RX2, TX2, 4)) (ci := 2) (k := 0) (t := 2) (v := 5) (mf_dat eX2_readName_p0 58 rfl) fl_X2_9 rfl (by decide) rfl (gx_45_0 hG) is45 ?_
          refine mf_callV (Yc := YX9_step) (r := (RX9, TX9, 10)) (ci := 9) (mf_dat eX2_readName_p0 59 rfl) ml_X2_104 okX9_step im_X9_step sl_X9_step rfl rfl rfl rfl (Nat.le_of_ble_eq_true rfl) (mf_rr (Nat.le_trans (by decide) hd) (Nat.le_refl _)) (Nat.le_refl _) is5 (hyp hG) (fun r9 g10 h11 hyp => ?_)
          obtain ⟨hG, hyp⟩ := hyp
          refine mf_iload_n (mf_dat eX2_readName_p1 0 rfl) rfl rfl ?_
          exact mf_ireturn (mf_dat eX2_readName_p1 1 rfl) rfl (Or.inl rfl) ⟨hG, hyp⟩
        · replace hyp := hyp.2 hc
          refine mf_aload_n (mf_dat eX2_readName_p0 49 rfl) rfl rfl ?_
          refine mf_getf (r := (RX2, TX2, 4)) (ci := 2) (k := 0) (t := 2) (v := 5) (mf_dat eX2_readName_p0 50 rfl) fl_X2_9 rfl (by decide) rfl (gx_45_0 hG) is45 ?_
          refine mf_iconst (v := 3) (mf_dat eX2_readName_p0 51 rfl) (by decide) ?_
          refine mf_aload_n (mf_dat eX2_readName_p0 52 rfl) rfl rfl ?_
          refine mf_getf (r := (RX2, TX2, 4)) (ci := 2) (k := 0) (t := 2) (v := 5) (mf_dat eX2_readName_p0 53 rfl) fl_X2_9 rfl (by decide) rfl (gx_45_0 hG) is45 ?_
          refine mf_getf (r := (RX9, TX9, 10)) (ci := 9) (k := 3) (t := 0) (v := h7 5 3) (mf_dat eX2_readName_p0 54 rfl) fl_X2_44 rfl (by decide) rfl rfl is5 ?_
          refine mf_callV (Yc := YX9_fail) (r := (RX9, TX9, 10)) (ci := 9) (mf_dat eX2_readName_p0 55 rfl) ml_X2_47 okX9_fail im_X9_fail sl_X9_fail rfl rfl rfl rfl (Nat.le_of_ble_eq_true rfl) (mf_rr (Nat.le_trans (by decide) hd) (Nat.le_refl _)) (Nat.le_refl _) is5 (hyp hG) (fun r12 g13 h14 hyp => ?_)
          obtain ⟨hG, hyp⟩ := hyp
          refine mf_goto (tgt := 132) (mf_dat eX2_readName_p0 56 rfl) (by decide) ?_
          refine mf_iload_n (mf_dat eX2_readName_p1 0 rfl) rfl rfl ?_
          exact mf_ireturn (mf_dat eX2_readName_p1 1 rfl) rfl (Or.inl rfl) ⟨hG, hyp⟩
      · replace hyp := hyp.2 hc
        refine mf_aload_n (mf_dat eX2_readName_p0 36 rfl) rfl rfl ?_
        refine mf_getf (r := (RX2, TX2, 4)) (ci := 2) (k := 0) (t := 2) (v := 5) (mf_dat eX2_readName_p0 37 rfl) fl_X2_9 rfl (by decide) rfl (gx_45_0 hG) is45 ?_
        refine mf_iconst (v := 1) (mf_dat eX2_readName_p0 38 rfl) (by decide) ?_
        refine mf_aload_n (mf_dat eX2_readName_p0 39 rfl) rfl rfl ?_
        refine mf_getf (r := (RX2, TX2, 4)) (ci := 2) (k := 0) (t := 2) (v := 5) (mf_dat eX2_readName_p0 40 rfl) fl_X2_9 rfl (by decide) rfl (gx_45_0 hG) is45 ?_
        refine mf_getf (r := (RX9, TX9, 10)) (ci := 9) (k := 3) (t := 0) (v := h4 5 3) (mf_dat eX2_readName_p0 41 rfl) fl_X2_44 rfl (by decide) rfl rfl is5 ?_
        refine mf_callV (Yc := YX9_fail) (r := (RX9, TX9, 10)) (ci := 9) (mf_dat eX2_readName_p0 42 rfl) ml_X2_47 okX9_fail im_X9_fail sl_X9_fail rfl rfl rfl rfl (Nat.le_of_ble_eq_true rfl) (mf_rr (Nat.le_trans (by decide) hd) (Nat.le_refl _)) (Nat.le_refl _) is5 (hyp hG) (fun r15 g16 h17 hyp => ?_)
        obtain ⟨hG, hyp⟩ := hyp
        refine mf_goto (tgt := 132) (mf_dat eX2_readName_p0 43 rfl) (by decide) ?_
        refine mf_iload_n (mf_dat eX2_readName_p1 0 rfl) rfl rfl ?_
        exact mf_ireturn (mf_dat eX2_readName_p1 1 rfl) rfl (Or.inl rfl) ⟨hG, hyp⟩
    · replace hyp := hyp.2 hc
      refine mf_aload_n (mf_dat eX2_readName_p0 22 rfl) rfl rfl ?_
      refine mf_getf (r := (RX2, TX2, 4)) (ci := 2) (k := 0) (t := 2) (v := 5) (mf_dat eX2_readName_p0 23 rfl) fl_X2_9 rfl (by decide) rfl (gx_45_0 hG) is45 ?_
      refine mf_iconst (v := 1) (mf_dat eX2_readName_p0 24 rfl) (by decide) ?_
      refine mf_aload_n (mf_dat eX2_readName_p0 25 rfl) rfl rfl ?_
      refine mf_getf (r := (RX2, TX2, 4)) (ci := 2) (k := 0) (t := 2) (v := 5) (mf_dat eX2_readName_p0 26 rfl) fl_X2_9 rfl (by decide) rfl (gx_45_0 hG) is45 ?_
      refine mf_getf (r := (RX9, TX9, 10)) (ci := 9) (k := 3) (t := 0) (v := h 5 3) (mf_dat eX2_readName_p0 27 rfl) fl_X2_44 rfl (by decide) rfl rfl is5 ?_
      refine mf_bipush (v := 6) (mf_dat eX2_readName_p0 28 rfl) (by decide) ?_
      refine mf_iadd (mf_dat eX2_readName_p0 29 rfl) ?_
      refine mf_callV (Yc := YX9_fail) (r := (RX9, TX9, 10)) (ci := 9) (mf_dat eX2_readName_p0 30 rfl) ml_X2_47 okX9_fail im_X9_fail sl_X9_fail rfl rfl rfl rfl (Nat.le_of_ble_eq_true rfl) (mf_rr (Nat.le_trans (by decide) hd) (Nat.le_refl _)) (Nat.le_refl _) is5 (hyp hG) (fun r18 g19 h20 hyp => ?_)
      obtain ⟨hG, hyp⟩ := hyp
      refine mf_goto (tgt := 132) (mf_dat eX2_readName_p0 31 rfl) (by decide) ?_
      refine mf_iload_n (mf_dat eX2_readName_p1 0 rfl) rfl rfl ?_
      exact mf_ireturn (mf_dat eX2_readName_p1 1 rfl) rfl (Or.inl rfl) ⟨hG, hyp⟩
  · replace hyp := hyp.2 hc
    refine mf_aload_n (mf_dat eX2_readName_p0 9 rfl) rfl rfl ?_
    refine mf_getf (r := (RX2, TX2, 4)) (ci := 2) (k := 0) (t := 2) (v := 5) (mf_dat eX2_readName_p0 10 rfl) fl_X2_9 rfl (by decide) rfl (gx_45_0 hG) is45 ?_
    refine mf_iconst (v := 1) (mf_dat eX2_readName_p0 11 rfl) (by decide) ?_
    refine mf_aload_n (mf_dat eX2_readName_p0 12 rfl) rfl rfl ?_
    refine mf_getf (r := (RX2, TX2, 4)) (ci := 2) (k := 0) (t := 2) (v := 5) (mf_dat eX2_readName_p0 13 rfl) fl_X2_9 rfl (by decide) rfl (gx_45_0 hG) is45 ?_
    refine mf_getf (r := (RX9, TX9, 10)) (ci := 9) (k := 3) (t := 0) (v := h 5 3) (mf_dat eX2_readName_p0 14 rfl) fl_X2_44 rfl (by decide) rfl rfl is5 ?_
    refine mf_callV (Yc := YX9_fail) (r := (RX9, TX9, 10)) (ci := 9) (mf_dat eX2_readName_p0 15 rfl) ml_X2_47 okX9_fail im_X9_fail sl_X9_fail rfl rfl rfl rfl (Nat.le_of_ble_eq_true rfl) (mf_rr (Nat.le_trans (by decide) hd) (Nat.le_refl _)) (Nat.le_refl _) is5 (hyp hG) (fun r21 g22 h23 hyp => ?_)
    obtain ⟨hG, hyp⟩ := hyp
    refine mf_goto (tgt := 132) (mf_dat eX2_readName_p0 16 rfl) (by decide) ?_
    refine mf_iload_n (mf_dat eX2_readName_p1 0 rfl) rfl rfl ?_
    exact mf_ireturn (mf_dat eX2_readName_p1 1 rfl) rfl (Or.inl rfl) ⟨hG, hyp⟩
set_option maxRecDepth 100000 in
set_option maxHeartbeats 4000000 in
theorem wX2_isOwnWord {C : mf_G} {l : Launch} {d : Nat} {K : mf_Kt} {x1 : Int} {g h : mf_M} (hd : 1 ≤ d) (hyp : xM C l 0 YX10_find [(2, 1), (0, x1)] g h (fun r1 g2 h3 => ((r1 < 0 → K 0 g2 h3) ∧ (¬ r1 < 0 → ((28 ≤ r1 → K 0 g2 h3) ∧ (¬ 28 ≤ r1 → K 1 g2 h3)))))) : xM C l d YX2_isOwnWord [(2, 45), (0, x1)] g h K := by
  intro hG
  refine mf_entry (by decide) (Nat.le_of_ble_eq_true rfl) ?_
  refine mf_aload_n (mf_dat eX2_isOwnWord 0 rfl) rfl rfl ?_
  refine mf_getf (r := (RX2, TX2, 4)) (ci := 2) (k := 1) (t := 2) (v := 1) (mf_dat eX2_isOwnWord 1 rfl) fl_X2_15 rfl (by decide) rfl (gx_45_1 hG) is45 ?_
  refine mf_iload_n (mf_dat eX2_isOwnWord 2 rfl) rfl rfl ?_
  refine mf_callV (Yc := YX10_find) (r := (RX10, TX10, 1)) (ci := 10) (mf_dat eX2_isOwnWord 3 rfl) ml_X2_74 okX10_find im_X10_find sl_X10_find rfl rfl rfl rfl (Nat.le_of_ble_eq_true rfl) (mf_rr (Nat.le_trans (by decide) hd) (Nat.le_refl _)) (Nat.le_refl _) is1 (hyp hG) (fun r1 g2 h3 hyp => ?_)
  obtain ⟨hG, hyp⟩ := hyp
  refine mf_istore_n (mf_dat eX2_isOwnWord 4 rfl) rfl (by decide) ?_
  refine mf_iload_n (mf_dat eX2_isOwnWord 5 rfl) rfl rfl ?_
  refine mf_if_lt (tgt := 23) (mf_dat eX2_isOwnWord 6 rfl) (by decide) (fun hc => ?_) (fun hc => ?_)
  · replace hyp := hyp.1 hc
    refine mf_iconst (v := 0) (mf_dat eX2_isOwnWord 12 rfl) (by decide) ?_
    exact mf_ireturn (mf_dat eX2_isOwnWord 13 rfl) rfl (Or.inr ⟨rfl, by decide⟩) ⟨hG, hyp⟩
  · replace hyp := hyp.2 hc
    refine mf_iload_n (mf_dat eX2_isOwnWord 7 rfl) rfl rfl ?_
    refine mf_bipush (v := 28) (mf_dat eX2_isOwnWord 8 rfl) (by decide) ?_
    refine mf_icmp_ge (tgt := 23) (mf_dat eX2_isOwnWord 9 rfl) (by decide) (fun hc => ?_) (fun hc => ?_)
    · replace hyp := hyp.1 hc
      refine mf_iconst (v := 0) (mf_dat eX2_isOwnWord 12 rfl) (by decide) ?_
      exact mf_ireturn (mf_dat eX2_isOwnWord 13 rfl) rfl (Or.inr ⟨rfl, by decide⟩) ⟨hG, hyp⟩
    · replace hyp := hyp.2 hc
      refine mf_iconst (v := 1) (mf_dat eX2_isOwnWord 10 rfl) (by decide) ?_
      refine mf_goto (tgt := 24) (mf_dat eX2_isOwnWord 11 rfl) (by decide) ?_
      exact mf_ireturn (mf_dat eX2_isOwnWord 13 rfl) rfl (Or.inr ⟨rfl, by decide⟩) ⟨hG, hyp⟩
abbrev BX3_reckon_42 (C : mf_G) (l : Launch) (d : Nat) (K : mf_Kt) (x1 x3 x4 : Int) (g h : mf_M) : Prop := jX C l d YX3_reckon K 42 [(0, (2, 47)), (1, (2, x1)), (3, (0, x3)), (4, (0, x4))] [] g h
set_option maxRecDepth 100000 in
set_option maxHeartbeats 4000000 in
theorem vX3_reckon_42 {C : mf_G} {l : Launch} {d : Nat} {K : mf_Kt} {x1 x3 x4 : Int} {g h : mf_M} (hd : 2 ≤ d) (hyp : ((x3 ≤ x4 → ((h 47 3 ≤ 0 → K 0 g h) ∧ (¬ h 47 3 ≤ 0 → 0 ≤ mf_w32 ((h 47 3) - 1) ∧ mf_w32 ((h 47 3) - 1) < 64 ∧ K (h 50 (mf_w32 ((h 47 3) - 1))) g h))) ∧ (¬ x3 ≤ x4 → mf_is 319 x1 4 ∧ 0 ≤ x4 ∧ x4 < 1600 ∧ (∀ v6 : Int, v6 = h (x1 + 1) x4 → ((v6 < 40 → ((v6 < 20 → ((v6 = 12 → xM C l 0 YX3_changeTop [(2, 47), (0, v6)] g h (fun r7 g8 h9 => (∀ v10 : Int, v10 = mf_w32 (x4 + 1) → BX3_reckon_42 C l d K x1 x3 v10 g8 h9))) ∧ (¬ v6 = 12 → ((¬ v6 = 13 → ((h 47 3 < 2 → (∀ v11 : Int, v11 = mf_w32 (x4 + 1) → BX3_reckon_42 C l d K x1 x3 v11 g h)) ∧ (¬ h 47 3 < 2 → ((64 < h 47 3 → (∀ v12 : Int, v12 = mf_w32 (x4 + 1) → BX3_reckon_42 C l d K x1 x3 v12 g h)) ∧ (¬ 64 < h 47 3 → (∀ h13 : mf_M, h13 = mf_up h 47 3 (mf_w32 ((h 47 3) - 1)) → 0 ≤ mf_w32 ((h13 47 3) - 1) ∧ mf_w32 ((h13 47 3) - 1) < 64 ∧ 0 ≤ h13 47 3 ∧ h13 47 3 < 64 ∧ xM C l 1 YX3_join [(0, v6), (0, h13 50 (mf_w32 ((h13 47 3) - 1))), (0, h13 50 (h13 47 3))] g h13 (fun r18 g19 h20 => (∀ h21 : mf_M, h21 = mf_up h20 50 (mf_w32 ((h13 47 3) - 1)) r18 → (∀ v22 : Int, v22 = mf_w32 (x4 + 1) → BX3_reckon_42 C l d K x1 x3 v22 g19 h21))))))))) ∧ (v6 = 13 → xM C l 0 YX3_changeTop [(2, 47), (0, v6)] g h (fun r23 g24 h25 => (∀ v26 : Int, v26 = mf_w32 (x4 + 1) → BX3_reckon_42 C l d K x1 x3 v26 g24 h25))))))) ∧ (¬ v6 < 20 → ((9 ≤ mf_w32 (v6 - 20) → xM C l 0 YX3_push [(2, 47), (0, 0)] g h (fun r27 g28 h29 => (∀ v30 : Int, v30 = mf_w32 (x4 + 1) → BX3_reckon_42 C l d K x1 x3 v30 g28 h29))) ∧ (¬ 9 ≤ mf_w32 (v6 - 20) → 0 ≤ mf_w32 (v6 - 20) ∧ mf_w32 (v6 - 20) < 9 ∧ xM C l 0 YX3_push [(2, 47), (0, h 48 (mf_w32 (v6 - 20)))] g h (fun r33 g34 h35 => (∀ v36 : Int, v36 = mf_w32 (x4 + 1) → BX3_reckon_42 C l d K x1 x3 v36 g34 h35))))))) ∧ (¬ v6 < 40 → xM C l 0 YX3_push [(2, 47), (0, mf_w32 (v6 - 40))] g h (fun r37 g38 h39 => (∀ v40 : Int, v40 = mf_w32 (x4 + 1) → BX3_reckon_42 C l d K x1 x3 v40 g38 h39)))))))) : BX3_reckon_42 C l d K x1 x3 x4 g h := by
  intro hG
  refine mf_iload (mf_dat eX3_reckon_p0 25 rfl) rfl ?_
  refine mf_iload_n (mf_dat eX3_reckon_p0 26 rfl) rfl rfl ?_
  refine mf_icmp_ge (tgt := 212) (mf_dat eX3_reckon_p0 27 rfl) (by decide) (fun hc => ?_) (fun hc => ?_)
  · replace hyp := hyp.1 hc
    refine mf_aload_n (mf_dat eX3_reckon_p1 52 rfl) rfl rfl ?_
    refine mf_getf (r := (RX3, TX3, 4)) (ci := 3) (k := 3) (t := 0) (v := h 47 3) (mf_dat eX3_reckon_p1 53 rfl) fl_X3_24 rfl (by decide) rfl rfl is47 ?_
    refine mf_if_le (tgt := 233) (mf_dat eX3_reckon_p1 54 rfl) (by decide) (fun hc => ?_) (fun hc => ?_)
    · replace hyp := hyp.1 hc
      refine mf_iconst (v := 0) (mf_dat eX3_reckon_p2 3 rfl) (by decide) ?_
      exact mf_ireturn (mf_dat eX3_reckon_p2 4 rfl) rfl (Or.inl rfl) ⟨hG, hyp⟩
    · replace hyp := hyp.2 hc
      refine mf_aload_n (mf_dat eX3_reckon_p1 55 rfl) rfl rfl ?_
      refine mf_getf (r := (RX3, TX3, 4)) (ci := 3) (k := 2) (t := 2) (v := 50) (mf_dat eX3_reckon_p1 56 rfl) fl_X3_21 rfl (by decide) rfl (gx_47_2 hG) is47 ?_
      refine mf_aload_n (mf_dat eX3_reckon_p1 57 rfl) rfl rfl ?_
      refine mf_getf (r := (RX3, TX3, 4)) (ci := 3) (k := 3) (t := 0) (v := h 47 3) (mf_dat eX3_reckon_p1 58 rfl) fl_X3_24 rfl (by decide) rfl rfl is47 ?_
      refine mf_iconst (v := 1) (mf_dat eX3_reckon_p1 59 rfl) (by decide) ?_
      refine mf_isub (mf_dat eX3_reckon_p2 0 rfl) ?_
      obtain ⟨ck1, hyp⟩ := hyp
      obtain ⟨ck2, hyp⟩ := hyp
      refine mf_iald (mf_dat eX3_reckon_p2 1 rfl) is50 len50 ck1 ck2 ?_
      refine mf_goto (tgt := 234) (mf_dat eX3_reckon_p2 2 rfl) (by decide) ?_
      exact mf_ireturn (mf_dat eX3_reckon_p2 4 rfl) rfl (Or.inl rfl) ⟨hG, hyp⟩
  · replace hyp := hyp.2 hc
    refine mf_aload_n (mf_dat eX3_reckon_p0 28 rfl) rfl rfl ?_
    obtain ⟨ck3, hyp⟩ := hyp
    refine mf_getf (r := (RX4, TX4, 5)) (ci := 4) (k := 0) (t := 2) (v := x1 + 1) (mf_dat eX3_reckon_p0 29 rfl) fl_X3_37 rfl (by decide) rfl (gc_0 hG ck3) ck3 ?_
    refine mf_iload (mf_dat eX3_reckon_p0 30 rfl) rfl ?_
    obtain ⟨ck4, hyp⟩ := hyp
    obtain ⟨ck5, hyp⟩ := hyp
    refine mf_iald (mf_dat eX3_reckon_p0 31 rfl) (sc_is0 ck3) (sc_len0 ck3) ck4 ck5 ?_
    generalize qv6 : h (x1 + 1) x4 = v6
    replace hyp := hyp _ qv6.symm
    refine mf_istore (mf_dat eX3_reckon_p0 32 rfl) (by decide) ?_
    refine mf_iload (mf_dat eX3_reckon_p0 33 rfl) rfl ?_
    refine mf_bipush (v := 40) (mf_dat eX3_reckon_p0 34 rfl) (by decide) ?_
    refine mf_icmp_lt (tgt := 76) (mf_dat eX3_reckon_p0 35 rfl) (by decide) (fun hc => ?_) (fun hc => ?_)
    · replace hyp := hyp.1 hc
      refine mf_iload (mf_dat eX3_reckon_p0 42 rfl) rfl ?_
      refine mf_bipush (v := 20) (mf_dat eX3_reckon_p0 43 rfl) (by decide) ?_
      refine mf_icmp_lt (tgt := 117) (mf_dat eX3_reckon_p0 44 rfl) (by decide) (fun hc => ?_) (fun hc => ?_)
      · replace hyp := hyp.1 hc
        refine mf_iload (mf_dat eX3_reckon_p1 3 rfl) rfl ?_
        refine mf_bipush (v := 12) (mf_dat eX3_reckon_p1 4 rfl) (by decide) ?_
        refine mf_icmp_eq (tgt := 131) (mf_dat eX3_reckon_p1 5 rfl) (by decide) (fun hc => ?_) (fun hc => ?_)
        · replace hyp := hyp.1 hc
          refine mf_aload_n (mf_dat eX3_reckon_p1 9 rfl) rfl rfl ?_
          refine mf_iload (mf_dat eX3_reckon_p1 10 rfl) rfl ?_
          refine mf_callV (Yc := YX3_changeTop) (r := (RX3, TX3, 4)) (ci := 3) (mf_dat eX3_reckon_p1 11 rfl) ml_X3_56 okX3_changeTop im_X3_changeTop sl_X3_changeTop rfl rfl rfl rfl (Nat.le_of_ble_eq_true rfl) (mf_rr (Nat.le_trans (by decide) hd) (Nat.le_refl _)) (Nat.le_refl _) is47 (hyp hG) (fun r7 g8 h9 hyp => ?_)
          obtain ⟨hG, hyp⟩ := hyp
          refine mf_goto (tgt := 206) (mf_dat eX3_reckon_p1 12 rfl) (by decide) ?_
          refine mf_iinc (mf_dat eX3_reckon_p1 50 rfl) rfl (by decide) (by decide) ?_
          generalize qv10 : mf_w32 (x4 + 1) = v10
          replace hyp := hyp _ qv10.symm
          refine mf_goto (tgt := 42) (mf_dat eX3_reckon_p1 51 rfl) (by decide) ?_
          exact mf_sub [2, 3, 4, 0] rfl (hyp hG)
        · replace hyp := hyp.2 hc
          refine mf_iload (mf_dat eX3_reckon_p1 6 rfl) rfl ?_
          refine mf_bipush (v := 13) (mf_dat eX3_reckon_p1 7 rfl) (by decide) ?_
          refine mf_icmp_ne (tgt := 140) (mf_dat eX3_reckon_p1 8 rfl) (by decide) (fun hc => ?_) (fun hc => ?_)
          · replace hyp := hyp.1 hc
            refine mf_aload_n (mf_dat eX3_reckon_p1 13 rfl) rfl rfl ?_
            refine mf_getf (r := (RX3, TX3, 4)) (ci := 3) (k := 3) (t := 0) (v := h 47 3) (mf_dat eX3_reckon_p1 14 rfl) fl_X3_24 rfl (by decide) rfl rfl is47 ?_
            refine mf_iconst (v := 2) (mf_dat eX3_reckon_p1 15 rfl) (by decide) ?_
            refine mf_icmp_lt (tgt := 206) (mf_dat eX3_reckon_p1 16 rfl) (by decide) (fun hc => ?_) (fun hc => ?_)
            · replace hyp := hyp.1 hc
              refine mf_iinc (mf_dat eX3_reckon_p1 50 rfl) rfl (by decide) (by decide) ?_
              generalize qv11 : mf_w32 (x4 + 1) = v11
              replace hyp := hyp _ qv11.symm
              refine mf_goto (tgt := 42) (mf_dat eX3_reckon_p1 51 rfl) (by decide) ?_
              exact mf_sub [2, 3, 4, 0] rfl (hyp hG)
            · replace hyp := hyp.2 hc
              refine mf_aload_n (mf_dat eX3_reckon_p1 17 rfl) rfl rfl ?_
              refine mf_getf (r := (RX3, TX3, 4)) (ci := 3) (k := 3) (t := 0) (v := h 47 3) (mf_dat eX3_reckon_p1 18 rfl) fl_X3_24 rfl (by decide) rfl rfl is47 ?_
              refine mf_aload_n (mf_dat eX3_reckon_p1 19 rfl) rfl rfl ?_
              refine mf_getf (r := (RX3, TX3, 4)) (ci := 3) (k := 2) (t := 2) (v := 50) (mf_dat eX3_reckon_p1 20 rfl) fl_X3_21 rfl (by decide) rfl (gx_47_2 hG) is47 ?_
              refine mf_alen (c := 20) (i := 0) (ty := .int) (v := 64) (mf_dat eX3_reckon_p1 21 rfl) (by decide) rfl is50 len50 (mf_len_small _) ?_
              refine mf_icmp_gt (tgt := 206) (mf_dat eX3_reckon_p1 22 rfl) (by decide) (fun hc => ?_) (fun hc => ?_)
              · replace hyp := hyp.1 hc
                refine mf_iinc (mf_dat eX3_reckon_p1 50 rfl) rfl (by decide) (by decide) ?_
                generalize qv12 : mf_w32 (x4 + 1) = v12
                replace hyp := hyp _ qv12.symm
                refine mf_goto (tgt := 42) (mf_dat eX3_reckon_p1 51 rfl) (by decide) ?_
                exact mf_sub [2, 3, 4, 0] rfl (hyp hG)
              · replace hyp := hyp.2 hc
                refine mf_aload_n (mf_dat eX3_reckon_p1 23 rfl) rfl rfl ?_
                refine mf_dup (mf_dat eX3_reckon_p1 24 rfl) (by decide) ?_
                refine mf_getf (r := (RX3, TX3, 4)) (ci := 3) (k := 3) (t := 0) (v := h 47 3) (mf_dat eX3_reckon_p1 25 rfl) fl_X3_24 rfl (by decide) rfl rfl is47 ?_
                refine mf_iconst (v := 1) (mf_dat eX3_reckon_p1 26 rfl) (by decide) ?_
                refine mf_isub (mf_dat eX3_reckon_p1 27 rfl) ?_
                refine mf_putI (r := (RX3, TX3, 4)) (ci := 3) (k := 3) (kI := 3) (t := 0) (mf_dat eX3_reckon_p1 28 rfl) fl_X3_24 rfl rfl (by decide) rfl (by decide) rfl (by decide) (fun h9 => absurd h9 (by decide)) is47 ?_
                generalize qh13 : mf_up h 47 3 (mf_w32 ((h 47 3) - 1)) = h13
                replace hyp := hyp _ qh13.symm
                refine mf_aload_n (mf_dat eX3_reckon_p1 29 rfl) rfl rfl ?_
                refine mf_getf (r := (RX3, TX3, 4)) (ci := 3) (k := 2) (t := 2) (v := 50) (mf_dat eX3_reckon_p1 30 rfl) fl_X3_21 rfl (by decide) rfl (gx_47_2 hG) is47 ?_
                refine mf_aload_n (mf_dat eX3_reckon_p1 31 rfl) rfl rfl ?_
                refine mf_getf (r := (RX3, TX3, 4)) (ci := 3) (k := 3) (t := 0) (v := h13 47 3) (mf_dat eX3_reckon_p1 32 rfl) fl_X3_24 rfl (by decide) rfl rfl is47 ?_
                refine mf_iconst (v := 1) (mf_dat eX3_reckon_p1 33 rfl) (by decide) ?_
                refine mf_isub (mf_dat eX3_reckon_p1 34 rfl) ?_
                refine mf_iload (mf_dat eX3_reckon_p1 35 rfl) rfl ?_
                refine mf_aload_n (mf_dat eX3_reckon_p1 36 rfl) rfl rfl ?_
                refine mf_getf (r := (RX3, TX3, 4)) (ci := 3) (k := 2) (t := 2) (v := 50) (mf_dat eX3_reckon_p1 37 rfl) fl_X3_21 rfl (by decide) rfl (gx_47_2 hG) is47 ?_
                refine mf_aload_n (mf_dat eX3_reckon_p1 38 rfl) rfl rfl ?_
                refine mf_getf (r := (RX3, TX3, 4)) (ci := 3) (k := 3) (t := 0) (v := h13 47 3) (mf_dat eX3_reckon_p1 39 rfl) fl_X3_24 rfl (by decide) rfl rfl is47 ?_
                refine mf_iconst (v := 1) (mf_dat eX3_reckon_p1 40 rfl) (by decide) ?_
                refine mf_isub (mf_dat eX3_reckon_p1 41 rfl) ?_
                obtain ⟨ck14, hyp⟩ := hyp
                obtain ⟨ck15, hyp⟩ := hyp
                refine mf_iald (mf_dat eX3_reckon_p1 42 rfl) is50 len50 ck14 ck15 ?_
                refine mf_aload_n (mf_dat eX3_reckon_p1 43 rfl) rfl rfl ?_
                refine mf_getf (r := (RX3, TX3, 4)) (ci := 3) (k := 2) (t := 2) (v := 50) (mf_dat eX3_reckon_p1 44 rfl) fl_X3_21 rfl (by decide) rfl (gx_47_2 hG) is47 ?_
                refine mf_aload_n (mf_dat eX3_reckon_p1 45 rfl) rfl rfl ?_
                refine mf_getf (r := (RX3, TX3, 4)) (ci := 3) (k := 3) (t := 0) (v := h13 47 3) (mf_dat eX3_reckon_p1 46 rfl) fl_X3_24 rfl (by decide) rfl rfl is47 ?_
                obtain ⟨ck16, hyp⟩ := hyp
                obtain ⟨ck17, hyp⟩ := hyp
                refine mf_iald (mf_dat eX3_reckon_p1 47 rfl) is50 len50 ck16 ck17 ?_
                refine mf_callS (Yc := YX3_join) (mf_dat eX3_reckon_p1 48 rfl) ml_X3_59 okX3_join sm_X3_join rfl rfl (Nat.le_of_ble_eq_true rfl) (mf_rr (Nat.le_trans (by decide) hd) (Nat.le_refl _)) (Nat.le_refl _) (hyp hG) (fun r18 g19 h20 hyp => ?_)
                obtain ⟨hG, hyp⟩ := hyp
                refine mf_iast (mf_dat eX3_reckon_p1 49 rfl) is50 len50 ck14 ck15 ?_
                generalize qh21 : mf_up h20 50 (mf_w32 ((h13 47 3) - 1)) r18 = h21
                replace hyp := hyp _ qh21.symm
                refine mf_iinc (mf_dat eX3_reckon_p1 50 rfl) rfl (by decide) (by decide) ?_
                generalize qv22 : mf_w32 (x4 + 1) = v22
                replace hyp := hyp _ qv22.symm
                refine mf_goto (tgt := 42) (mf_dat eX3_reckon_p1 51 rfl) (by decide) ?_
                exact mf_sub [2, 3, 4, 0] rfl (hyp hG)
          · replace hyp := hyp.2 hc
            refine mf_aload_n (mf_dat eX3_reckon_p1 9 rfl) rfl rfl ?_
            refine mf_iload (mf_dat eX3_reckon_p1 10 rfl) rfl ?_
            refine mf_callV (Yc := YX3_changeTop) (r := (RX3, TX3, 4)) (ci := 3) (mf_dat eX3_reckon_p1 11 rfl) ml_X3_56 okX3_changeTop im_X3_changeTop sl_X3_changeTop rfl rfl rfl rfl (Nat.le_of_ble_eq_true rfl) (mf_rr (Nat.le_trans (by decide) hd) (Nat.le_refl _)) (Nat.le_refl _) is47 (hyp hG) (fun r23 g24 h25 hyp => ?_)
            obtain ⟨hG, hyp⟩ := hyp
            refine mf_goto (tgt := 206) (mf_dat eX3_reckon_p1 12 rfl) (by decide) ?_
            refine mf_iinc (mf_dat eX3_reckon_p1 50 rfl) rfl (by decide) (by decide) ?_
            generalize qv26 : mf_w32 (x4 + 1) = v26
            replace hyp := hyp _ qv26.symm
            refine mf_goto (tgt := 42) (mf_dat eX3_reckon_p1 51 rfl) (by decide) ?_
            exact mf_sub [2, 3, 4, 0] rfl (hyp hG)
      · replace hyp := hyp.2 hc
        refine mf_aload_n (mf_dat eX3_reckon_p0 45 rfl) rfl rfl ?_
        refine mf_iload (mf_dat eX3_reckon_p0 46 rfl) rfl ?_
        refine mf_bipush (v := 20) (mf_dat eX3_reckon_p0 47 rfl) (by decide) ?_
        refine mf_isub (mf_dat eX3_reckon_p0 48 rfl) ?_
        refine mf_aload_n (mf_dat eX3_reckon_p0 49 rfl) rfl rfl ?_
        refine mf_getf (r := (RX3, TX3, 4)) (ci := 3) (k := 0) (t := 2) (v := 48) (mf_dat eX3_reckon_p0 50 rfl) fl_X3_11 rfl (by decide) rfl (gx_47_0 hG) is47 ?_
        refine mf_alen (c := 20) (i := 0) (ty := .int) (v := 9) (mf_dat eX3_reckon_p0 51 rfl) (by decide) rfl is48 len48 (mf_len_small _) ?_
        refine mf_icmp_ge (tgt := 110) (mf_dat eX3_reckon_p0 52 rfl) (by decide) (fun hc => ?_) (fun hc => ?_)
        · replace hyp := hyp.1 hc
          refine mf_iconst (v := 0) (mf_dat eX3_reckon_p1 0 rfl) (by decide) ?_
          refine mf_callV (Yc := YX3_push) (r := (RX3, TX3, 4)) (ci := 3) (mf_dat eX3_reckon_p1 1 rfl) ml_X3_52 okX3_push im_X3_push sl_X3_push rfl rfl rfl rfl (Nat.le_of_ble_eq_true rfl) (mf_rr (Nat.le_trans (by decide) hd) (Nat.le_refl _)) (Nat.le_refl _) is47 (hyp hG) (fun r27 g28 h29 hyp => ?_)
          obtain ⟨hG, hyp⟩ := hyp
          refine mf_goto (tgt := 206) (mf_dat eX3_reckon_p1 2 rfl) (by decide) ?_
          refine mf_iinc (mf_dat eX3_reckon_p1 50 rfl) rfl (by decide) (by decide) ?_
          generalize qv30 : mf_w32 (x4 + 1) = v30
          replace hyp := hyp _ qv30.symm
          refine mf_goto (tgt := 42) (mf_dat eX3_reckon_p1 51 rfl) (by decide) ?_
          exact mf_sub [2, 3, 4, 0] rfl (hyp hG)
        · replace hyp := hyp.2 hc
          refine mf_aload_n (mf_dat eX3_reckon_p0 53 rfl) rfl rfl ?_
          refine mf_getf (r := (RX3, TX3, 4)) (ci := 3) (k := 0) (t := 2) (v := 48) (mf_dat eX3_reckon_p0 54 rfl) fl_X3_11 rfl (by decide) rfl (gx_47_0 hG) is47 ?_
          refine mf_iload (mf_dat eX3_reckon_p0 55 rfl) rfl ?_
          refine mf_bipush (v := 20) (mf_dat eX3_reckon_p0 56 rfl) (by decide) ?_
          refine mf_isub (mf_dat eX3_reckon_p0 57 rfl) ?_
          obtain ⟨ck31, hyp⟩ := hyp
          obtain ⟨ck32, hyp⟩ := hyp
          refine mf_iald (mf_dat eX3_reckon_p0 58 rfl) is48 len48 ck31 ck32 ?_
          refine mf_goto (tgt := 111) (mf_dat eX3_reckon_p0 59 rfl) (by decide) ?_
          refine mf_callV (Yc := YX3_push) (r := (RX3, TX3, 4)) (ci := 3) (mf_dat eX3_reckon_p1 1 rfl) ml_X3_52 okX3_push im_X3_push sl_X3_push rfl rfl rfl rfl (Nat.le_of_ble_eq_true rfl) (mf_rr (Nat.le_trans (by decide) hd) (Nat.le_refl _)) (Nat.le_refl _) is47 (hyp hG) (fun r33 g34 h35 hyp => ?_)
          obtain ⟨hG, hyp⟩ := hyp
          refine mf_goto (tgt := 206) (mf_dat eX3_reckon_p1 2 rfl) (by decide) ?_
          refine mf_iinc (mf_dat eX3_reckon_p1 50 rfl) rfl (by decide) (by decide) ?_
          generalize qv36 : mf_w32 (x4 + 1) = v36
          replace hyp := hyp _ qv36.symm
          refine mf_goto (tgt := 42) (mf_dat eX3_reckon_p1 51 rfl) (by decide) ?_
          exact mf_sub [2, 3, 4, 0] rfl (hyp hG)
    · replace hyp := hyp.2 hc
      refine mf_aload_n (mf_dat eX3_reckon_p0 36 rfl) rfl rfl ?_
      refine mf_iload (mf_dat eX3_reckon_p0 37 rfl) rfl ?_
      refine mf_bipush (v := 40) (mf_dat eX3_reckon_p0 38 rfl) (by decide) ?_
      refine mf_isub (mf_dat eX3_reckon_p0 39 rfl) ?_
      refine mf_callV (Yc := YX3_push) (r := (RX3, TX3, 4)) (ci := 3) (mf_dat eX3_reckon_p0 40 rfl) ml_X3_52 okX3_push im_X3_push sl_X3_push rfl rfl rfl rfl (Nat.le_of_ble_eq_true rfl) (mf_rr (Nat.le_trans (by decide) hd) (Nat.le_refl _)) (Nat.le_refl _) is47 (hyp hG) (fun r37 g38 h39 hyp => ?_)
      obtain ⟨hG, hyp⟩ := hyp
      refine mf_goto (tgt := 206) (mf_dat eX3_reckon_p0 41 rfl) (by decide) ?_
      refine mf_iinc (mf_dat eX3_reckon_p1 50 rfl) rfl (by decide) (by decide) ?_
      generalize qv40 : mf_w32 (x4 + 1) = v40
      replace hyp := hyp _ qv40.symm
      refine mf_goto (tgt := 42) (mf_dat eX3_reckon_p1 51 rfl) (by decide) ?_
      exact mf_sub [2, 3, 4, 0] rfl (hyp hG)
set_option maxRecDepth 100000 in
set_option maxHeartbeats 4000000 in
theorem wX3_reckon {C : mf_G} {l : Launch} {d : Nat} {K : mf_Kt} {x1 x2 : Int} {g h : mf_M} (hd : 1 ≤ d) (hyp : (∀ h1 : mf_M, h1 = mf_up h 47 3 0 → mf_is 319 x1 4 ∧ xM C l 0 YX4_isTold [(2, x1), (0, x2)] g h1 (fun r2 g3 h4 => ((¬ r2 = 0 → 0 ≤ x2 ∧ x2 < 4 ∧ xM C l 0 YJ9_min_7cf53 [(0, h4 (x1 + 3) x2), (0, 1600)] g3 h4 (fun r8 g9 h10 => xM C l 0 YJ9_max_7cf53 [(0, 0), (0, h10 (x1 + 2) x2)] g9 h10 (fun r11 g12 h13 => BX3_reckon_42 C l d K x1 r8 r11 g12 h13))) ∧ (r2 = 0 → K 0 g3 h4))))) : xM C l d YX3_reckon [(2, 47), (2, x1), (0, x2)] g h K := by
  intro hG
  refine mf_entry (by decide) (Nat.le_of_ble_eq_true rfl) ?_
  refine mf_aload_n (mf_dat eX3_reckon_p0 0 rfl) rfl rfl ?_
  refine mf_iconst (v := 0) (mf_dat eX3_reckon_p0 1 rfl) (by decide) ?_
  refine mf_putI (r := (RX3, TX3, 4)) (ci := 3) (k := 3) (kI := 3) (t := 0) (mf_dat eX3_reckon_p0 2 rfl) fl_X3_24 rfl rfl (by decide) rfl (by decide) rfl (by decide) (fun h9 => absurd h9 (by decide)) is47 ?_
  generalize qh1 : mf_up h 47 3 0 = h1
  replace hyp := hyp _ qh1.symm
  refine mf_aload_n (mf_dat eX3_reckon_p0 3 rfl) rfl rfl ?_
  refine mf_iload_n (mf_dat eX3_reckon_p0 4 rfl) rfl rfl ?_
  obtain ⟨ck5, hyp⟩ := hyp
  refine mf_callV (Yc := YX4_isTold) (r := (RX4, TX4, 5)) (ci := 4) (mf_dat eX3_reckon_p0 5 rfl) ml_X3_28 okX4_isTold im_X4_isTold sl_X4_isTold rfl rfl rfl rfl (Nat.le_of_ble_eq_true rfl) (mf_rr (Nat.le_trans (by decide) hd) (Nat.le_refl _)) (Nat.le_refl _) ck5 (hyp hG) (fun r2 g3 h4 hyp => ?_)
  obtain ⟨hG, hyp⟩ := hyp
  refine mf_if_ne (tgt := 15) (mf_dat eX3_reckon_p0 6 rfl) (by decide) (fun hc => ?_) (fun hc => ?_)
  · replace hyp := hyp.1 hc
    refine mf_aload_n (mf_dat eX3_reckon_p0 9 rfl) rfl rfl ?_
    refine mf_getf (r := (RX4, TX4, 5)) (ci := 4) (k := 2) (t := 2) (v := x1 + 3) (mf_dat eX3_reckon_p0 10 rfl) fl_X3_34 rfl (by decide) rfl (gc_2 hG ck5) ck5 ?_
    refine mf_iload_n (mf_dat eX3_reckon_p0 11 rfl) rfl rfl ?_
    obtain ⟨ck6, hyp⟩ := hyp
    obtain ⟨ck7, hyp⟩ := hyp
    refine mf_iald (mf_dat eX3_reckon_p0 12 rfl) (sc_is2 ck5) (sc_len2 ck5) ck6 ck7 ?_
    refine mf_aload_n (mf_dat eX3_reckon_p0 13 rfl) rfl rfl ?_
    refine mf_getf (r := (RX4, TX4, 5)) (ci := 4) (k := 0) (t := 2) (v := x1 + 1) (mf_dat eX3_reckon_p0 14 rfl) fl_X3_37 rfl (by decide) rfl (gc_0 hG ck5) ck5 ?_
    refine mf_alen (c := 20) (i := 0) (ty := .int) (v := 1600) (mf_dat eX3_reckon_p0 15 rfl) (by decide) rfl (sc_is0 ck5) (sc_len0 ck5) (mf_len_small _) ?_
    refine mf_callS (Yc := YJ9_min_7cf53) (mf_dat eX3_reckon_p0 16 rfl) ml_X3_40 okJ9_min_7cf53 sm_J9_min_7cf53 rfl rfl (Nat.le_of_ble_eq_true rfl) (mf_rr (Nat.le_trans (by decide) hd) (Nat.le_refl _)) (Nat.le_refl _) (hyp hG) (fun r8 g9 h10 hyp => ?_)
    obtain ⟨hG, hyp⟩ := hyp
    refine mf_istore_n (mf_dat eX3_reckon_p0 17 rfl) rfl (by decide) ?_
    refine mf_iconst (v := 0) (mf_dat eX3_reckon_p0 18 rfl) (by decide) ?_
    refine mf_aload_n (mf_dat eX3_reckon_p0 19 rfl) rfl rfl ?_
    refine mf_getf (r := (RX4, TX4, 5)) (ci := 4) (k := 1) (t := 2) (v := x1 + 2) (mf_dat eX3_reckon_p0 20 rfl) fl_X3_46 rfl (by decide) rfl (gc_1 hG ck5) ck5 ?_
    refine mf_iload_n (mf_dat eX3_reckon_p0 21 rfl) rfl rfl ?_
    refine mf_iald (mf_dat eX3_reckon_p0 22 rfl) (sc_is1 ck5) (sc_len1 ck5) ck6 ck7 ?_
    refine mf_callS (Yc := YJ9_max_7cf53) (mf_dat eX3_reckon_p0 23 rfl) ml_X3_49 okJ9_max_7cf53 sm_J9_max_7cf53 rfl rfl (Nat.le_of_ble_eq_true rfl) (mf_rr (Nat.le_trans (by decide) hd) (Nat.le_refl _)) (Nat.le_refl _) (hyp hG) (fun r11 g12 h13 hyp => ?_)
    obtain ⟨hG, hyp⟩ := hyp
    refine mf_istore (mf_dat eX3_reckon_p0 24 rfl) (by decide) ?_
    exact mf_sub [2, 3, 1, 0] rfl (hyp hG)
  · replace hyp := hyp.2 hc
    refine mf_iconst (v := 0) (mf_dat eX3_reckon_p0 7 rfl) (by decide) ?_
    exact mf_ireturn (mf_dat eX3_reckon_p0 8 rfl) rfl (Or.inl rfl) ⟨hG, hyp⟩
set_option maxRecDepth 100000 in
set_option maxHeartbeats 4000000 in
theorem wX3_push {C : mf_G} {l : Launch} {d : Nat} {K : mf_Kt} {x1 : Int} {g h : mf_M} (hyp : ((64 ≤ h 47 3 → K 0 g h) ∧ (¬ 64 ≤ h 47 3 → 0 ≤ h 47 3 ∧ h 47 3 < 64 ∧ (∀ h3 : mf_M, h3 = mf_up h 50 (h 47 3) x1 → (∀ h4 : mf_M, h4 = mf_up h3 47 3 (mf_w32 ((h3 47 3) + 1)) → K 0 g h4))))) : xM C l d YX3_push [(2, 47), (0, x1)] g h K := by
  intro hG
  refine mf_entry (by decide) (Nat.le_of_ble_eq_true rfl) ?_
  refine mf_aload_n (mf_dat eX3_push 0 rfl) rfl rfl ?_
  refine mf_getf (r := (RX3, TX3, 4)) (ci := 3) (k := 3) (t := 0) (v := h 47 3) (mf_dat eX3_push 1 rfl) fl_X3_24 rfl (by decide) rfl rfl is47 ?_
  refine mf_aload_n (mf_dat eX3_push 2 rfl) rfl rfl ?_
  refine mf_getf (r := (RX3, TX3, 4)) (ci := 3) (k := 2) (t := 2) (v := 50) (mf_dat eX3_push 3 rfl) fl_X3_21 rfl (by decide) rfl (gx_47_2 hG) is47 ?_
  refine mf_alen (c := 20) (i := 0) (ty := .int) (v := 64) (mf_dat eX3_push 4 rfl) (by decide) rfl is50 len50 (mf_len_small _) ?_
  refine mf_icmp_ge (tgt := 32) (mf_dat eX3_push 5 rfl) (by decide) (fun hc => ?_) (fun hc => ?_)
  · replace hyp := hyp.1 hc
    exact mf_return (mf_dat eX3_push 18 rfl) rfl ⟨hG, hyp⟩
  · replace hyp := hyp.2 hc
    refine mf_aload_n (mf_dat eX3_push 6 rfl) rfl rfl ?_
    refine mf_getf (r := (RX3, TX3, 4)) (ci := 3) (k := 2) (t := 2) (v := 50) (mf_dat eX3_push 7 rfl) fl_X3_21 rfl (by decide) rfl (gx_47_2 hG) is47 ?_
    refine mf_aload_n (mf_dat eX3_push 8 rfl) rfl rfl ?_
    refine mf_getf (r := (RX3, TX3, 4)) (ci := 3) (k := 3) (t := 0) (v := h 47 3) (mf_dat eX3_push 9 rfl) fl_X3_24 rfl (by decide) rfl rfl is47 ?_
    refine mf_iload_n (mf_dat eX3_push 10 rfl) rfl rfl ?_
    obtain ⟨ck1, hyp⟩ := hyp
    obtain ⟨ck2, hyp⟩ := hyp
    refine mf_iast (mf_dat eX3_push 11 rfl) is50 len50 ck1 ck2 ?_
    generalize qh3 : mf_up h 50 (h 47 3) x1 = h3
    replace hyp := hyp _ qh3.symm
    refine mf_aload_n (mf_dat eX3_push 12 rfl) rfl rfl ?_
    refine mf_dup (mf_dat eX3_push 13 rfl) (by decide) ?_
    refine mf_getf (r := (RX3, TX3, 4)) (ci := 3) (k := 3) (t := 0) (v := h3 47 3) (mf_dat eX3_push 14 rfl) fl_X3_24 rfl (by decide) rfl rfl is47 ?_
    refine mf_iconst (v := 1) (mf_dat eX3_push 15 rfl) (by decide) ?_
    refine mf_iadd (mf_dat eX3_push 16 rfl) ?_
    refine mf_putI (r := (RX3, TX3, 4)) (ci := 3) (k := 3) (kI := 3) (t := 0) (mf_dat eX3_push 17 rfl) fl_X3_24 rfl rfl (by decide) rfl (by decide) rfl (by decide) (fun h9 => absurd h9 (by decide)) is47 ?_
    generalize qh4 : mf_up h3 47 3 (mf_w32 ((h3 47 3) + 1)) = h4
    replace hyp := hyp _ qh4.symm
    exact mf_return (mf_dat eX3_push 18 rfl) rfl ⟨hG, hyp⟩
