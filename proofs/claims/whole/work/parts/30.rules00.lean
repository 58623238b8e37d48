set_option maxRecDepth 100000 in
set_option maxHeartbeats 4000000 in
theorem mX0_init {C : mf_G} {l : Launch} {d n0 n1 : Nat} {K : mf_Kt} {x0 : Int} {g h : mf_M} (hd : 2 ≤ d) (hyp : 0 ≤ x0 ∧ (mf_sh n0).1 = 3 ∧ mf_more (mf_rm d n0 n1) n0 n0 ∧ (∀ j : Nat, g n0 j = -1) ∧ (∀ j : Nat, h n0 j = 0) ∧ (∀ v6 : Int, v6 = ((n0 : Nat) : Int) → n0 + 4 ≤ n1 ∧ 0 ≤ v6 ∧ mf_MT C l 1 YX3_init [(2, v6)] (n0 + 1) (n0 + 4) g h (fun r8 g9 h10 => mf_is (n0 + 4) x0 0 ∧ (∀ g13 : mf_M, g13 = mf_up g9 x0 0 v6 → n0 + 4 = n1 ∧ K 0 g13 h10)))) : mf_MT C l d YX0_init [(2, x0)] n0 n1 g h K := by
  refine mf_entry (by decide) (Nat.le_of_ble_eq_true rfl) ?_
  refine mf_aload_n (mf_dat eX0_init 0 rfl) rfl rfl ?_
  obtain ⟨ck1, hyp⟩ := hyp
  refine mf_objInit (mf_dat eX0_init 1 rfl) ml_X0_3 im_obj co_obj (mf_rmf hd) (mf_rml hd (Nat.le_of_ble_eq_true rfl)) ck1 ?_
  refine mf_aload_n (mf_dat eX0_init 2 rfl) rfl rfl ?_
  obtain ⟨ck2, hyp⟩ := hyp
  obtain ⟨ck3, hyp⟩ := hyp
  obtain ⟨ck4, hyp⟩ := hyp
  obtain ⟨ck5, hyp⟩ := hyp
  refine mf_new (r := (RX3, TX3, 4)) (ci := 3) (mf_dat eX0_init 3 rfl) kl_X0_9 in_X3 ii_X3 rfl (by decide) ck2 ck3 ck4 ck5 ?_
  generalize qv6 : ((n0 : Nat) : Int) = v6
  replace hyp := hyp _ qv6.symm
  refine mf_dup (mf_dat eX0_init 4 rfl) (by decide) ?_
  obtain ⟨ck7, hyp⟩ := hyp
  obtain ⟨ck11, hyp⟩ := hyp
  refine mf_callIN (Yc := YX3_init) (host := "MarginFolk") (mf_dat eX0_init 5 rfl) (List.mem_of_getElem? (i := 6) rfl) okX3_init im_X3_init rfl rfl rfl rfl (Nat.le_of_ble_eq_true rfl) (mf_rr (Nat.le_trans (by decide) hd) ck7) (by omega) ck11 hyp (fun r8 g9 h10 hyp => ?_)
  obtain ⟨ck12, hyp⟩ := hyp
  refine mf_putRF (r := (RX0, TX0, 1)) (ci := 0) (k := 0) (kI := 0) (t := 2) (mf_dat eX0_init 6 rfl) fl_X0_12 rfl rfl (by decide) rfl (by decide) rfl rfl rfl (by decide) (fun h9 => absurd h9 (by decide)) ck12 ?_
  generalize qg13 : mf_up g9 x0 0 v6 = g13
  replace hyp := hyp _ qg13.symm
  obtain ⟨ck14, hyp⟩ := hyp
  subst ck14
  exact mf_return (mf_dat eX0_init 7 rfl) rfl hyp
set_option maxRecDepth 100000 in
set_option maxHeartbeats 4000000 in
theorem mX0_liesOpen {C : mf_G} {l : Launch} {d n : Nat} {K : mf_Kt} {x0 x1 : Int} {g h : mf_M} (hyp : ((x1 = mf_w32 (x0 - 1) → K 1 g h) ∧ (¬ x1 = mf_w32 (x0 - 1) → ((¬ x1 = x0 → K 0 g h) ∧ (x1 = x0 → K 1 g h))))) : mf_MT C l d YX0_liesOpen [(0, x0), (0, x1)] n n g h K := by
  refine mf_entry (by decide) (Nat.le_of_ble_eq_true rfl) ?_
  refine mf_iload_n (mf_dat eX0_liesOpen 0 rfl) rfl rfl ?_
  refine mf_iload_n (mf_dat eX0_liesOpen 1 rfl) rfl rfl ?_
  refine mf_iconst (v := 1) (mf_dat eX0_liesOpen 2 rfl) (by decide) ?_
  refine mf_isub (mf_dat eX0_liesOpen 3 rfl) ?_
  refine mf_icmp_eq (tgt := 12) (mf_dat eX0_liesOpen 4 rfl) (by decide) (fun hc => ?_) (fun hc => ?_)
  · replace hyp := hyp.1 hc
    refine mf_iconst (v := 1) (mf_dat eX0_liesOpen 8 rfl) (by decide) ?_
    refine mf_goto (tgt := 17) (mf_dat eX0_liesOpen 9 rfl) (by decide) ?_
    exact mf_ireturn (mf_dat eX0_liesOpen 11 rfl) rfl (Or.inr ⟨rfl, by decide⟩) hyp
  · replace hyp := hyp.2 hc
    refine mf_iload_n (mf_dat eX0_liesOpen 5 rfl) rfl rfl ?_
    refine mf_iload_n (mf_dat eX0_liesOpen 6 rfl) rfl rfl ?_
    refine mf_icmp_ne (tgt := 16) (mf_dat eX0_liesOpen 7 rfl) (by decide) (fun hc => ?_) (fun hc => ?_)
    · replace hyp := hyp.1 hc
      refine mf_iconst (v := 0) (mf_dat eX0_liesOpen 10 rfl) (by decide) ?_
      exact mf_ireturn (mf_dat eX0_liesOpen 11 rfl) rfl (Or.inr ⟨rfl, by decide⟩) hyp
    · replace hyp := hyp.2 hc
      refine mf_iconst (v := 1) (mf_dat eX0_liesOpen 8 rfl) (by decide) ?_
      refine mf_goto (tgt := 17) (mf_dat eX0_liesOpen 9 rfl) (by decide) ?_
      exact mf_ireturn (mf_dat eX0_liesOpen 11 rfl) rfl (Or.inr ⟨rfl, by decide⟩) hyp
set_option maxRecDepth 100000 in
set_option maxHeartbeats 4000000 in
theorem mX0_liesOnNext {C : mf_G} {l : Launch} {d n : Nat} {K : mf_Kt} {x0 x1 x2 : Int} {g h : mf_M} (hd : 1 ≤ d) (hyp : ((x2 < 0 → K 0 g h) ∧ (¬ x2 < 0 → mf_is n x0 1 ∧ ((h x0 8 ≤ mf_w32 (x2 + 1) → K 0 g h) ∧ (¬ h x0 8 ≤ mf_w32 (x2 + 1) → mf_MT C l 0 YX0_liesOpen [(0, x1), (0, x2)] n n g h (fun r2 g3 h4 => ((¬ r2 = 0 → K 0 g3 h4) ∧ (r2 = 0 → K 1 g3 h4)))))))) : mf_MT C l d YX0_liesOnNext [(2, x0), (0, x1), (0, x2)] n n g h K := by
  refine mf_entry (by decide) (Nat.le_of_ble_eq_true rfl) ?_
  refine mf_iload_n (mf_dat eX0_liesOnNext 0 rfl) rfl rfl ?_
  refine mf_if_lt (tgt := 26) (mf_dat eX0_liesOnNext 1 rfl) (by decide) (fun hc => ?_) (fun hc => ?_)
  · replace hyp := hyp.1 hc
    refine mf_iconst (v := 0) (mf_dat eX0_liesOnNext 14 rfl) (by decide) ?_
    exact mf_ireturn (mf_dat eX0_liesOnNext 15 rfl) rfl (Or.inr ⟨rfl, by decide⟩) hyp
  · replace hyp := hyp.2 hc
    refine mf_iload_n (mf_dat eX0_liesOnNext 2 rfl) rfl rfl ?_
    refine mf_iconst (v := 1) (mf_dat eX0_liesOnNext 3 rfl) (by decide) ?_
    refine mf_iadd (mf_dat eX0_liesOnNext 4 rfl) ?_
    refine mf_aload_n (mf_dat eX0_liesOnNext 5 rfl) rfl rfl ?_
    obtain ⟨ck1, hyp⟩ := hyp
    refine mf_getf (r := (RX1, TX1, 14)) (ci := 1) (k := 8) (t := 0) (v := h x0 8) (mf_dat eX0_liesOnNext 6 rfl) fl_X0_18 rfl (by decide) rfl rfl ck1 ?_
    refine mf_icmp_ge (tgt := 26) (mf_dat eX0_liesOnNext 7 rfl) (by decide) (fun hc => ?_) (fun hc => ?_)
    · replace hyp := hyp.1 hc
      refine mf_iconst (v := 0) (mf_dat eX0_liesOnNext 14 rfl) (by decide) ?_
      exact mf_ireturn (mf_dat eX0_liesOnNext 15 rfl) rfl (Or.inr ⟨rfl, by decide⟩) hyp
    · replace hyp := hyp.2 hc
      refine mf_iload_n (mf_dat eX0_liesOnNext 8 rfl) rfl rfl ?_
      refine mf_iload_n (mf_dat eX0_liesOnNext 9 rfl) rfl rfl ?_
      refine mf_callS (Yc := YX0_liesOpen) (mf_dat eX0_liesOnNext 10 rfl) ml_X0_24 okX0_liesOpen sm_X0_liesOpen rfl rfl (Nat.le_of_ble_eq_true rfl) (mf_rr (Nat.le_trans (by decide) hd) (Nat.le_refl _)) (Nat.le_refl _) hyp (fun r2 g3 h4 hyp => ?_)
      refine mf_if_ne (tgt := 26) (mf_dat eX0_liesOnNext 11 rfl) (by decide) (fun hc => ?_) (fun hc => ?_)
      · replace hyp := hyp.1 hc
        refine mf_iconst (v := 0) (mf_dat eX0_liesOnNext 14 rfl) (by decide) ?_
        exact mf_ireturn (mf_dat eX0_liesOnNext 15 rfl) rfl (Or.inr ⟨rfl, by decide⟩) hyp
      · replace hyp := hyp.2 hc
        refine mf_iconst (v := 1) (mf_dat eX0_liesOnNext 12 rfl) (by decide) ?_
        refine mf_goto (tgt := 27) (mf_dat eX0_liesOnNext 13 rfl) (by decide) ?_
        exact mf_ireturn (mf_dat eX0_liesOnNext 15 rfl) rfl (Or.inr ⟨rfl, by decide⟩) hyp
set_option maxRecDepth 100000 in
set_option maxHeartbeats 4000000 in
theorem mX0_meet {C : mf_G} {l : Launch} {d n : Nat} {K : mf_Kt} {x0 x1 x2 x3 x4 : Int} {g h : mf_M} (hd : 2 ≤ d) (hyp : mf_is n x1 6 ∧ mf_is n (g x1 1) 20 ∧ 0 ≤ x2 ∧ x2 < mf_len (g x1 1) ∧ 0 ≤ x3 ∧ x3 < mf_len (g x1 1) ∧ mf_MT C l 0 YJ9_min_7cf53 [(0, h (g x1 1) x2), (0, h (g x1 1) x3)] n n g h (fun r7 g8 h9 => mf_is n (g8 x1 1) 20 ∧ x2 < mf_len (g8 x1 1) ∧ x3 < mf_len (g8 x1 1) ∧ mf_MT C l 0 YJ9_max_7cf53 [(0, h9 (g8 x1 1) x2), (0, h9 (g8 x1 1) x3)] n n g8 h9 (fun r13 g14 h15 => ((¬ r13 = mf_w32 (r7 + 1) → K 0 g14 h15) ∧ (r13 = mf_w32 (r7 + 1) → mf_is n (g14 x1 2) 20 ∧ x2 < mf_len (g14 x1 2) ∧ x3 < mf_len (g14 x1 2) ∧ mf_is n x0 1 ∧ mf_MT C l 0 YX1_mirror [(2, x0), (0, h15 (g14 x1 2) x3)] n n g14 h15 (fun r19 g20 h21 => ((¬ h15 (g14 x1 2) x2 = r19 → K 0 g20 h21) ∧ (h15 (g14 x1 2) x2 = r19 → mf_MT C l 1 YX0_liesOnNext [(2, x0), (0, x4), (0, r7)] n n g20 h21 (fun r23 g24 h25 => ((r23 = 0 → K 0 g24 h25) ∧ (¬ r23 = 0 → K 1 g24 h25))))))))))) : mf_MT C l d YX0_meet [(2, x0), (2, x1), (0, x2), (0, x3), (0, x4)] n n g h K := by
  refine mf_entry (by decide) (Nat.le_of_ble_eq_true rfl) ?_
  refine mf_aload_n (mf_dat eX0_meet 0 rfl) rfl rfl ?_
  obtain ⟨ck1, hyp⟩ := hyp
  refine mf_getf (r := (RX6, TX6, 8)) (ci := 6) (k := 1) (t := 2) (v := g x1 1) (mf_dat eX0_meet 1 rfl) fl_X0_28 rfl (by decide) rfl rfl ck1 ?_
  refine mf_iload_n (mf_dat eX0_meet 2 rfl) rfl rfl ?_
  obtain ⟨ck2, hyp⟩ := hyp
  obtain ⟨ck3, hyp⟩ := hyp
  obtain ⟨ck4, hyp⟩ := hyp
  refine mf_iald (mf_dat eX0_meet 3 rfl) ck2 ck3 ck4 ?_
  refine mf_aload_n (mf_dat eX0_meet 4 rfl) rfl rfl ?_
  refine mf_getf (r := (RX6, TX6, 8)) (ci := 6) (k := 1) (t := 2) (v := g x1 1) (mf_dat eX0_meet 5 rfl) fl_X0_28 rfl (by decide) rfl rfl ck1 ?_
  refine mf_iload_n (mf_dat eX0_meet 6 rfl) rfl rfl ?_
  obtain ⟨ck5, hyp⟩ := hyp
  obtain ⟨ck6, hyp⟩ := hyp
  refine mf_iald (mf_dat eX0_meet 7 rfl) ck2 ck5 ck6 ?_
  refine mf_callS (Yc := YJ9_min_7cf53) (mf_dat eX0_meet 8 rfl) ml_X0_34 okJ9_min_7cf53 sm_J9_min_7cf53 rfl rfl (Nat.le_of_ble_eq_true rfl) (mf_rr (Nat.le_trans (by decide) hd) (Nat.le_refl _)) (Nat.le_refl _) hyp (fun r7 g8 h9 hyp => ?_)
  refine mf_istore (mf_dat eX0_meet 9 rfl) (by decide) ?_
  refine mf_aload_n (mf_dat eX0_meet 10 rfl) rfl rfl ?_
  refine mf_getf (r := (RX6, TX6, 8)) (ci := 6) (k := 1) (t := 2) (v := g8 x1 1) (mf_dat eX0_meet 11 rfl) fl_X0_28 rfl (by decide) rfl rfl ck1 ?_
  refine mf_iload_n (mf_dat eX0_meet 12 rfl) rfl rfl ?_
  obtain ⟨ck10, hyp⟩ := hyp
  obtain ⟨ck11, hyp⟩ := hyp
  refine mf_iald (mf_dat eX0_meet 13 rfl) ck10 ck3 ck11 ?_
  refine mf_aload_n (mf_dat eX0_meet 14 rfl) rfl rfl ?_
  refine mf_getf (r := (RX6, TX6, 8)) (ci := 6) (k := 1) (t := 2) (v := g8 x1 1) (mf_dat eX0_meet 15 rfl) fl_X0_28 rfl (by decide) rfl rfl ck1 ?_
  refine mf_iload_n (mf_dat eX0_meet 16 rfl) rfl rfl ?_
  obtain ⟨ck12, hyp⟩ := hyp
  refine mf_iald (mf_dat eX0_meet 17 rfl) ck10 ck5 ck12 ?_
  refine mf_callS (Yc := YJ9_max_7cf53) (mf_dat eX0_meet 18 rfl) ml_X0_40 okJ9_max_7cf53 sm_J9_max_7cf53 rfl rfl (Nat.le_of_ble_eq_true rfl) (mf_rr (Nat.le_trans (by decide) hd) (Nat.le_refl _)) (Nat.le_refl _) hyp (fun r13 g14 h15 hyp => ?_)
  refine mf_istore (mf_dat eX0_meet 19 rfl) (by decide) ?_
  refine mf_iload (mf_dat eX0_meet 20 rfl) rfl ?_
  refine mf_iload (mf_dat eX0_meet 21 rfl) rfl ?_
  refine mf_iconst (v := 1) (mf_dat eX0_meet 22 rfl) (by decide) ?_
  refine mf_iadd (mf_dat eX0_meet 23 rfl) ?_
  refine mf_icmp_ne (tgt := 77) (mf_dat eX0_meet 24 rfl) (by decide) (fun hc => ?_) (fun hc => ?_)
  · replace hyp := hyp.1 hc
    refine mf_iconst (v := 0) (mf_dat eX0_meet 43 rfl) (by decide) ?_
    exact mf_ireturn (mf_dat eX0_meet 44 rfl) rfl (Or.inr ⟨rfl, by decide⟩) hyp
  · replace hyp := hyp.2 hc
    refine mf_aload_n (mf_dat eX0_meet 25 rfl) rfl rfl ?_
    refine mf_getf (r := (RX6, TX6, 8)) (ci := 6) (k := 2) (t := 2) (v := g14 x1 2) (mf_dat eX0_meet 26 rfl) fl_X0_43 rfl (by decide) rfl rfl ck1 ?_
    refine mf_iload_n (mf_dat eX0_meet 27 rfl) rfl rfl ?_
    obtain ⟨ck16, hyp⟩ := hyp
    obtain ⟨ck17, hyp⟩ := hyp
    refine mf_iald (mf_dat eX0_meet 28 rfl) ck16 ck3 ck17 ?_
    refine mf_aload_n (mf_dat eX0_meet 29 rfl) rfl rfl ?_
    refine mf_aload_n (mf_dat eX0_meet 30 rfl) rfl rfl ?_
    refine mf_getf (r := (RX6, TX6, 8)) (ci := 6) (k := 2) (t := 2) (v := g14 x1 2) (mf_dat eX0_meet 31 rfl) fl_X0_43 rfl (by decide) rfl rfl ck1 ?_
    refine mf_iload_n (mf_dat eX0_meet 32 rfl) rfl rfl ?_
    obtain ⟨ck18, hyp⟩ := hyp
    refine mf_iald (mf_dat eX0_meet 33 rfl) ck16 ck5 ck18 ?_
    obtain ⟨ck22, hyp⟩ := hyp
    refine mf_callV (Yc := YX1_mirror) (r := (RX1, TX1, 14)) (ci := 1) (mf_dat eX0_meet 34 rfl) ml_X0_46 okX1_mirror im_X1_mirror sl_X1_mirror rfl rfl rfl rfl (Nat.le_of_ble_eq_true rfl) (mf_rr (Nat.le_trans (by decide) hd) (Nat.le_refl _)) (Nat.le_refl _) ck22 hyp (fun r19 g20 h21 hyp => ?_)
    refine mf_icmp_ne (tgt := 77) (mf_dat eX0_meet 35 rfl) (by decide) (fun hc => ?_) (fun hc => ?_)
    · replace hyp := hyp.1 hc
      refine mf_iconst (v := 0) (mf_dat eX0_meet 43 rfl) (by decide) ?_
      exact mf_ireturn (mf_dat eX0_meet 44 rfl) rfl (Or.inr ⟨rfl, by decide⟩) hyp
    · replace hyp := hyp.2 hc
      refine mf_aload_n (mf_dat eX0_meet 36 rfl) rfl rfl ?_
      refine mf_iload (mf_dat eX0_meet 37 rfl) rfl ?_
      refine mf_iload (mf_dat eX0_meet 38 rfl) rfl ?_
      refine mf_callS (Yc := YX0_liesOnNext) (mf_dat eX0_meet 39 rfl) ml_X0_50 okX0_liesOnNext sm_X0_liesOnNext rfl rfl (Nat.le_of_ble_eq_true rfl) (mf_rr (Nat.le_trans (by decide) hd) (Nat.le_refl _)) (Nat.le_refl _) hyp (fun r23 g24 h25 hyp => ?_)
      refine mf_if_eq (tgt := 77) (mf_dat eX0_meet 40 rfl) (by decide) (fun hc => ?_) (fun hc => ?_)
      · replace hyp := hyp.1 hc
        refine mf_iconst (v := 0) (mf_dat eX0_meet 43 rfl) (by decide) ?_
        exact mf_ireturn (mf_dat eX0_meet 44 rfl) rfl (Or.inr ⟨rfl, by decide⟩) hyp
      · replace hyp := hyp.2 hc
        refine mf_iconst (v := 1) (mf_dat eX0_meet 41 rfl) (by decide) ?_
        refine mf_goto (tgt := 78) (mf_dat eX0_meet 42 rfl) (by decide) ?_
        exact mf_ireturn (mf_dat eX0_meet 44 rfl) rfl (Or.inr ⟨rfl, by decide⟩) hyp
abbrev JX0_countPairs_5 (C : mf_G) (l : Launch) (d n : Nat) (K : mf_Kt) (x0 x1 x2 x3 x4 : Int) (g h : mf_M) : Prop := mf_AW C l YX0_countPairs (mf_rm d n n) n (mf_Zm C YX0_countPairs n n K) (fun _ _ => True) 5 [(0, (2, x0)), (1, (2, x1)), (2, (0, x2)), (3, (0, x3)), (4, (0, x4))] [] n g h
abbrev JX0_countPairs_20 (C : mf_G) (l : Launch) (d n : Nat) (K : mf_Kt) (x0 x1 x2 x3 x4 x5 : Int) (g h : mf_M) : Prop := mf_AW C l YX0_countPairs (mf_rm d n n) n (mf_Zm C YX0_countPairs n n K) (fun _ _ => True) 20 [(0, (2, x0)), (1, (2, x1)), (2, (0, x2)), (3, (0, x3)), (4, (0, x4)), (5, (0, x5))] [] n g h
set_option maxRecDepth 100000 in
set_option maxHeartbeats 4000000 in
theorem bX0_countPairs_5 {C : mf_G} {l : Launch} {d n : Nat} {K : mf_Kt} {x0 x1 x2 x3 x4 : Int} {g h : mf_M} (hyp : mf_is n x0 1 ∧ ((h x0 12 ≤ x4 → K x3 g h) ∧ (¬ h x0 12 ≤ x4 → (∀ v2 : Int, v2 = mf_w32 (x4 + 1) → JX0_countPairs_20 C l d n K x0 x1 x2 x3 x4 v2 g h)))) : JX0_countPairs_5 C l d n K x0 x1 x2 x3 x4 g h := by
  refine mf_iload (mf_dat eX0_countPairs 4 rfl) rfl ?_
  refine mf_aload_n (mf_dat eX0_countPairs 5 rfl) rfl rfl ?_
  obtain ⟨ck1, hyp⟩ := hyp
  refine mf_getf (r := (RX1, TX1, 14)) (ci := 1) (k := 12) (t := 0) (v := h x0 12) (mf_dat eX0_countPairs 6 rfl) fl_X0_54 rfl (by decide) rfl rfl ck1 ?_
  refine mf_icmp_ge (tgt := 62) (mf_dat eX0_countPairs 7 rfl) (by decide) (fun hc => ?_) (fun hc => ?_)
  · replace hyp := hyp.1 hc
    refine mf_iload_n (mf_dat eX0_countPairs 33 rfl) rfl rfl ?_
    exact mf_ireturn (mf_dat eX0_countPairs 34 rfl) rfl (Or.inl rfl) hyp
  · replace hyp := hyp.2 hc
    refine mf_iload (mf_dat eX0_countPairs 8 rfl) rfl ?_
    refine mf_iconst (v := 1) (mf_dat eX0_countPairs 9 rfl) (by decide) ?_
    refine mf_iadd (mf_dat eX0_countPairs 10 rfl) ?_
    generalize qv2 : mf_w32 (x4 + 1) = v2
    replace hyp := hyp _ qv2.symm
    refine mf_istore (mf_dat eX0_countPairs 11 rfl) (by decide) ?_
    exact mf_sub [1, 2, 3, 4, 5, 0] rfl hyp
set_option maxRecDepth 100000 in
set_option maxHeartbeats 4000000 in
theorem bX0_countPairs_20 {C : mf_G} {l : Launch} {d n : Nat} {K : mf_Kt} {x0 x1 x2 x3 x4 x5 : Int} {g h : mf_M} (hd : 3 ≤ d) (hyp : mf_is n x0 1 ∧ ((h x0 12 ≤ x5 → (∀ v2 : Int, v2 = mf_w32 (x4 + 1) → JX0_countPairs_5 C l d n K x0 x1 x2 x3 v2 g h)) ∧ (¬ h x0 12 ≤ x5 → mf_MT C l 2 YX0_meet [(2, x0), (2, x1), (0, x4), (0, x5), (0, x2)] n n g h (fun r3 g4 h5 => ((r3 = 0 → (∀ v6 : Int, v6 = mf_w32 (x3 + 0) → (∀ v7 : Int, v7 = mf_w32 (x5 + 1) → JX0_countPairs_20 C l d n K x0 x1 x2 v6 x4 v7 g4 h5))) ∧ (¬ r3 = 0 → (∀ v8 : Int, v8 = mf_w32 (x3 + 1) → (∀ v9 : Int, v9 = mf_w32 (x5 + 1) → JX0_countPairs_20 C l d n K x0 x1 x2 v8 x4 v9 g4 h5)))))))) : JX0_countPairs_20 C l d n K x0 x1 x2 x3 x4 x5 g h := by
  refine mf_iload (mf_dat eX0_countPairs 12 rfl) rfl ?_
  refine mf_aload_n (mf_dat eX0_countPairs 13 rfl) rfl rfl ?_
  obtain ⟨ck1, hyp⟩ := hyp
  refine mf_getf (r := (RX1, TX1, 14)) (ci := 1) (k := 12) (t := 0) (v := h x0 12) (mf_dat eX0_countPairs 14 rfl) fl_X0_54 rfl (by decide) rfl rfl ck1 ?_
  refine mf_icmp_ge (tgt := 56) (mf_dat eX0_countPairs 15 rfl) (by decide) (fun hc => ?_) (fun hc => ?_)
  · replace hyp := hyp.1 hc
    refine mf_iinc (mf_dat eX0_countPairs 31 rfl) rfl (by decide) (by decide) ?_
    generalize qv2 : mf_w32 (x4 + 1) = v2
    replace hyp := hyp _ qv2.symm
    refine mf_goto (tgt := 5) (mf_dat eX0_countPairs 32 rfl) (by decide) ?_
    exact mf_sub [1, 2, 3, 4, 0] rfl hyp
  · replace hyp := hyp.2 hc
    refine mf_iload_n (mf_dat eX0_countPairs 16 rfl) rfl rfl ?_
    refine mf_aload_n (mf_dat eX0_countPairs 17 rfl) rfl rfl ?_
    refine mf_aload_n (mf_dat eX0_countPairs 18 rfl) rfl rfl ?_
    refine mf_iload (mf_dat eX0_countPairs 19 rfl) rfl ?_
    refine mf_iload (mf_dat eX0_countPairs 20 rfl) rfl ?_
    refine mf_iload_n (mf_dat eX0_countPairs 21 rfl) rfl rfl ?_
    refine mf_callS (Yc := YX0_meet) (mf_dat eX0_countPairs 22 rfl) ml_X0_57 okX0_meet sm_X0_meet rfl rfl (Nat.le_of_ble_eq_true rfl) (mf_rr (Nat.le_trans (by decide) hd) (Nat.le_refl _)) (Nat.le_refl _) hyp (fun r3 g4 h5 hyp => ?_)
    refine mf_if_eq (tgt := 47) (mf_dat eX0_countPairs 23 rfl) (by decide) (fun hc => ?_) (fun hc => ?_)
    · replace hyp := hyp.1 hc
      refine mf_iconst (v := 0) (mf_dat eX0_countPairs 26 rfl) (by decide) ?_
      refine mf_iadd (mf_dat eX0_countPairs 27 rfl) ?_
      generalize qv6 : mf_w32 (x3 + 0) = v6
      replace hyp := hyp _ qv6.symm
      refine mf_istore_n (mf_dat eX0_countPairs 28 rfl) rfl (by decide) ?_
      refine mf_iinc (mf_dat eX0_countPairs 29 rfl) rfl (by decide) (by decide) ?_
      generalize qv7 : mf_w32 (x5 + 1) = v7
      replace hyp := hyp _ qv7.symm
      refine mf_goto (tgt := 20) (mf_dat eX0_countPairs 30 rfl) (by decide) ?_
      exact mf_sub [2, 3, 4, 1, 5, 0] rfl hyp
    · replace hyp := hyp.2 hc
      refine mf_iconst (v := 1) (mf_dat eX0_countPairs 24 rfl) (by decide) ?_
      refine mf_goto (tgt := 48) (mf_dat eX0_countPairs 25 rfl) (by decide) ?_
      refine mf_iadd (mf_dat eX0_countPairs 27 rfl) ?_
      generalize qv8 : mf_w32 (x3 + 1) = v8
      replace hyp := hyp _ qv8.symm
      refine mf_istore_n (mf_dat eX0_countPairs 28 rfl) rfl (by decide) ?_
      refine mf_iinc (mf_dat eX0_countPairs 29 rfl) rfl (by decide) (by decide) ?_
      generalize qv9 : mf_w32 (x5 + 1) = v9
      replace hyp := hyp _ qv9.symm
      refine mf_goto (tgt := 20) (mf_dat eX0_countPairs 30 rfl) (by decide) ?_
      exact mf_sub [2, 3, 4, 1, 5, 0] rfl hyp
set_option maxRecDepth 100000 in
set_option maxHeartbeats 4000000 in
theorem mX0_countPairs {C : mf_G} {l : Launch} {d n : Nat} {K : mf_Kt} {x0 x1 x2 : Int} {g h : mf_M} (hyp : JX0_countPairs_5 C l d n K x0 x1 x2 0 0 g h) : mf_MT C l d YX0_countPairs [(2, x0), (2, x1), (0, x2)] n n g h K := by
  refine mf_entry (by decide) (Nat.le_of_ble_eq_true rfl) ?_
  refine mf_iconst (v := 0) (mf_dat eX0_countPairs 0 rfl) (by decide) ?_
  refine mf_istore_n (mf_dat eX0_countPairs 1 rfl) rfl (by decide) ?_
  refine mf_iconst (v := 0) (mf_dat eX0_countPairs 2 rfl) (by decide) ?_
  refine mf_istore (mf_dat eX0_countPairs 3 rfl) (by decide) ?_
  exact mf_sub [2, 3, 4, 1, 0] rfl hyp
set_option maxRecDepth 100000 in
set_option maxHeartbeats 4000000 in
theorem mX0_openingOf {C : mf_G} {l : Launch} {d n : Nat} {K : mf_Kt} {x0 x1 x2 : Int} {g h : mf_M} (hd : 4 ≤ d) (hyp : mf_is n x0 0 ∧ mf_is n (g x0 0) 3 ∧ mf_is n (g (g x0 0) 0) 20 ∧ 0 < mf_len (g (g x0 0) 0) ∧ (∀ h5 : mf_M, h5 = mf_up h (g (g x0 0) 0) 0 x2 → mf_is n x1 1 ∧ mf_MT C l 3 YX3_reckon [(2, g x0 0), (2, g x1 5), (0, 0)] n n g h5 (fun r7 g8 h9 => ((1 ≤ h9 x1 8 → mf_MT C l 0 YJ9_floorMod_7cf53 [(0, r7), (0, mf_w32 ((h9 x1 8) + 1))] n n g8 h9 (fun r10 g11 h12 => K r10 g11 h12)) ∧ (¬ 1 ≤ h9 x1 8 → K 0 g8 h9))))) : mf_MT C l d YX0_openingOf [(2, x0), (2, x1), (0, x2)] n n g h K := by
  refine mf_entry (by decide) (Nat.le_of_ble_eq_true rfl) ?_
  refine mf_aload_n (mf_dat eX0_openingOf 0 rfl) rfl rfl ?_
  obtain ⟨ck1, hyp⟩ := hyp
  refine mf_getf (r := (RX0, TX0, 1)) (ci := 0) (k := 0) (t := 2) (v := g x0 0) (mf_dat eX0_openingOf 1 rfl) fl_X0_12 rfl (by decide) rfl rfl ck1 ?_
  obtain ⟨ck2, hyp⟩ := hyp
  refine mf_getf (r := (RX3, TX3, 4)) (ci := 3) (k := 0) (t := 2) (v := g (g x0 0) 0) (mf_dat eX0_openingOf 2 rfl) fl_X0_61 rfl (by decide) rfl rfl ck2 ?_
  refine mf_iconst (v := 0) (mf_dat eX0_openingOf 3 rfl) (by decide) ?_
  refine mf_iload_n (mf_dat eX0_openingOf 4 rfl) rfl rfl ?_
  obtain ⟨ck3, hyp⟩ := hyp
  obtain ⟨ck4, hyp⟩ := hyp
  refine mf_iast (mf_dat eX0_openingOf 5 rfl) ck3 (by decide) ck4 ?_
  generalize qh5 : mf_up h (g (g x0 0) 0) 0 x2 = h5
  replace hyp := hyp _ qh5.symm
  refine mf_aload_n (mf_dat eX0_openingOf 6 rfl) rfl rfl ?_
  refine mf_getf (r := (RX0, TX0, 1)) (ci := 0) (k := 0) (t := 2) (v := g x0 0) (mf_dat eX0_openingOf 7 rfl) fl_X0_12 rfl (by decide) rfl rfl ck1 ?_
  refine mf_aload_n (mf_dat eX0_openingOf 8 rfl) rfl rfl ?_
  obtain ⟨ck6, hyp⟩ := hyp
  refine mf_getf (r := (RX1, TX1, 14)) (ci := 1) (k := 5) (t := 2) (v := g x1 5) (mf_dat eX0_openingOf 9 rfl) fl_X0_66 rfl (by decide) rfl rfl ck6 ?_
  refine mf_iconst (v := 0) (mf_dat eX0_openingOf 10 rfl) (by decide) ?_
  refine mf_callV (Yc := YX3_reckon) (r := (RX3, TX3, 4)) (ci := 3) (mf_dat eX0_openingOf 11 rfl) ml_X0_72 okX3_reckon im_X3_reckon sl_X3_reckon rfl rfl rfl rfl (Nat.le_of_ble_eq_true rfl) (mf_rr (Nat.le_trans (by decide) hd) (Nat.le_refl _)) (Nat.le_refl _) ck2 hyp (fun r7 g8 h9 hyp => ?_)
  refine mf_istore_n (mf_dat eX0_openingOf 12 rfl) rfl (by decide) ?_
  refine mf_aload_n (mf_dat eX0_openingOf 13 rfl) rfl rfl ?_
  refine mf_getf (r := (RX1, TX1, 14)) (ci := 1) (k := 8) (t := 0) (v := h9 x1 8) (mf_dat eX0_openingOf 14 rfl) fl_X0_18 rfl (by decide) rfl rfl ck6 ?_
  refine mf_iconst (v := 1) (mf_dat eX0_openingOf 15 rfl) (by decide) ?_
  refine mf_icmp_ge (tgt := 35) (mf_dat eX0_openingOf 16 rfl) (by decide) (fun hc => ?_) (fun hc => ?_)
  · replace hyp := hyp.1 hc
    refine mf_iload_n (mf_dat eX0_openingOf 19 rfl) rfl rfl ?_
    refine mf_aload_n (mf_dat eX0_openingOf 20 rfl) rfl rfl ?_
    refine mf_getf (r := (RX1, TX1, 14)) (ci := 1) (k := 8) (t := 0) (v := h9 x1 8) (mf_dat eX0_openingOf 21 rfl) fl_X0_18 rfl (by decide) rfl rfl ck6 ?_
    refine mf_iconst (v := 1) (mf_dat eX0_openingOf 22 rfl) (by decide) ?_
    refine mf_iadd (mf_dat eX0_openingOf 23 rfl) ?_
    refine mf_callS (Yc := YJ9_floorMod_7cf53) (mf_dat eX0_openingOf 24 rfl) ml_X0_76 okJ9_floorMod_7cf53 sm_J9_floorMod_7cf53 rfl rfl (Nat.le_of_ble_eq_true rfl) (mf_rr (Nat.le_trans (by decide) hd) (Nat.le_refl _)) (Nat.le_refl _) hyp (fun r10 g11 h12 hyp => ?_)
    exact mf_ireturn (mf_dat eX0_openingOf 25 rfl) rfl (Or.inl rfl) hyp
  · replace hyp := hyp.2 hc
    refine mf_iconst (v := 0) (mf_dat eX0_openingOf 17 rfl) (by decide) ?_
    refine mf_goto (tgt := 45) (mf_dat eX0_openingOf 18 rfl) (by decide) ?_
    exact mf_ireturn (mf_dat eX0_openingOf 25 rfl) rfl (Or.inl rfl) hyp
abbrev JX0_passDay_6 (C : mf_G) (l : Launch) (d n : Nat) (K : mf_Kt) (x0 x1 x2 x3 x4 x5 : Int) (g h : mf_M) : Prop := mf_AW C l YX0_passDay (mf_rm d n n) n (mf_Zm C YX0_passDay n n K) (fun _ _ => True) 6 [(0, (2, x0)), (1, (2, x1)), (2, (2, x2)), (3, (0, x3)), (4, (0, x4)), (5, (0, x5))] [] n g h
abbrev JX0_passDay_21 (C : mf_G) (l : Launch) (d n : Nat) (K : mf_Kt) (x0 x1 x2 x3 x4 x5 x6 : Int) (g h : mf_M) : Prop := mf_AW C l YX0_passDay (mf_rm d n n) n (mf_Zm C YX0_passDay n n K) (fun _ _ => True) 21 [(0, (2, x0)), (1, (2, x1)), (2, (2, x2)), (3, (0, x3)), (4, (0, x4)), (5, (0, x5)), (6, (0, x6))] [] n g h
abbrev JX0_passDay_72 (C : mf_G) (l : Launch) (d n : Nat) (K : mf_Kt) (x0 x1 x2 x3 x4 x5 : Int) (g h : mf_M) : Prop := mf_AW C l YX0_passDay (mf_rm d n n) n (mf_Zm C YX0_passDay n n K) (fun _ _ => True) 72 [(0, (2, x0)), (1, (2, x1)), (2, (2, x2)), (3, (0, x3)), (4, (0, x4)), (5, (0, x5))] [] n g h
abbrev JX0_passDay_99 (C : mf_G) (l : Launch) (d n : Nat) (K : mf_Kt) (x0 x1 x2 x3 x4 x5 : Int) (g h : mf_M) : Prop := mf_AW C l YX0_passDay (mf_rm d n n) n (mf_Zm C YX0_passDay n n K) (fun _ _ => True) 99 [(0, (2, x0)), (1, (2, x1)), (2, (2, x2)), (3, (0, x3)), (4, (0, x4)), (5, (0, x5))] [] n g h
set_option maxRecDepth 100000 in
set_option maxHeartbeats 4000000 in
theorem bX0_passDay_6 {C : mf_G} {l : Launch} {d n : Nat} {K : mf_Kt} {x0 x1 x2 x3 x4 x5 : Int} {g h : mf_M} (hyp : mf_is n x1 1 ∧ ((h x1 12 ≤ x5 → JX0_passDay_72 C l d n K x0 x1 x2 x3 x4 0 g h) ∧ (¬ h x1 12 ≤ x5 → (∀ v2 : Int, v2 = mf_w32 (x5 + 1) → JX0_passDay_21 C l d n K x0 x1 x2 x3 x4 x5 v2 g h)))) : JX0_passDay_6 C l d n K x0 x1 x2 x3 x4 x5 g h := by
  refine mf_iload (mf_dat eX0_passDay_p0 4 rfl) rfl ?_
  refine mf_aload_n (mf_dat eX0_passDay_p0 5 rfl) rfl rfl ?_
  obtain ⟨ck1, hyp⟩ := hyp
  refine mf_getf (r := (RX1, TX1, 14)) (ci := 1) (k := 12) (t := 0) (v := h x1 12) (mf_dat eX0_passDay_p0 6 rfl) fl_X0_54 rfl (by decide) rfl rfl ck1 ?_
  refine mf_icmp_ge (tgt := 69) (mf_dat eX0_passDay_p0 7 rfl) (by decide) (fun hc => ?_) (fun hc => ?_)
  · replace hyp := hyp.1 hc
    refine mf_iconst (v := 0) (mf_dat eX0_passDay_p0 35 rfl) (by decide) ?_
    refine mf_istore (mf_dat eX0_passDay_p0 36 rfl) (by decide) ?_
    exact mf_sub [1, 2, 3, 4, 5, 0] rfl hyp
  · replace hyp := hyp.2 hc
    refine mf_iload (mf_dat eX0_passDay_p0 8 rfl) rfl ?_
    refine mf_iconst (v := 1) (mf_dat eX0_passDay_p0 9 rfl) (by decide) ?_
    refine mf_iadd (mf_dat eX0_passDay_p0 10 rfl) ?_
    generalize qv2 : mf_w32 (x5 + 1) = v2
    replace hyp := hyp _ qv2.symm
    refine mf_istore (mf_dat eX0_passDay_p0 11 rfl) (by decide) ?_
    exact mf_sub [1, 2, 3, 4, 5, 6, 0] rfl hyp
set_option maxRecDepth 100000 in
set_option maxHeartbeats 4000000 in
theorem bX0_passDay_21 {C : mf_G} {l : Launch} {d n : Nat} {K : mf_Kt} {x0 x1 x2 x3 x4 x5 x6 : Int} {g h : mf_M} (hd : 5 ≤ d) (hyp : mf_is n x1 1 ∧ ((h x1 12 ≤ x6 → (∀ v2 : Int, v2 = mf_w32 (x5 + 1) → JX0_passDay_6 C l d n K x0 x1 x2 x3 x4 v2 g h)) ∧ (¬ h x1 12 ≤ x6 → mf_MT C l 2 YX0_meet [(2, x1), (2, x2), (0, x5), (0, x6), (0, x3)] n n g h (fun r3 g4 h5 => ((r3 = 0 → (∀ v6 : Int, v6 = mf_w32 (x6 + 1) → JX0_passDay_21 C l d n K x0 x1 x2 x3 x4 x5 v6 g4 h5)) ∧ (¬ r3 = 0 → (∀ v7 : Int, v7 = mf_w32 (x4 + 1) → mf_is n x0 0 ∧ mf_MT C l 4 YX0_meetUp [(2, x0), (2, x1), (2, x2), (0, x5), (0, x6), (0, x3)] n n g4 h5 (fun r8 g9 h10 => (∀ v12 : Int, v12 = mf_w32 (x6 + 1) → JX0_passDay_21 C l d n K x0 x1 x2 x3 v7 x5 v12 g9 h10))))))))) : JX0_passDay_21 C l d n K x0 x1 x2 x3 x4 x5 x6 g h := by
  refine mf_iload (mf_dat eX0_passDay_p0 12 rfl) rfl ?_
  refine mf_aload_n (mf_dat eX0_passDay_p0 13 rfl) rfl rfl ?_
  obtain ⟨ck1, hyp⟩ := hyp
  refine mf_getf (r := (RX1, TX1, 14)) (ci := 1) (k := 12) (t := 0) (v := h x1 12) (mf_dat eX0_passDay_p0 14 rfl) fl_X0_54 rfl (by decide) rfl rfl ck1 ?_
  refine mf_icmp_ge (tgt := 63) (mf_dat eX0_passDay_p0 15 rfl) (by decide) (fun hc => ?_) (fun hc => ?_)
  · replace hyp := hyp.1 hc
    refine mf_iinc (mf_dat eX0_passDay_p0 33 rfl) rfl (by decide) (by decide) ?_
    generalize qv2 : mf_w32 (x5 + 1) = v2
    replace hyp := hyp _ qv2.symm
    refine mf_goto (tgt := 6) (mf_dat eX0_passDay_p0 34 rfl) (by decide) ?_
    exact mf_sub [1, 2, 3, 4, 5, 0] rfl hyp
  · replace hyp := hyp.2 hc
    refine mf_aload_n (mf_dat eX0_passDay_p0 16 rfl) rfl rfl ?_
    refine mf_aload_n (mf_dat eX0_passDay_p0 17 rfl) rfl rfl ?_
    refine mf_iload (mf_dat eX0_passDay_p0 18 rfl) rfl ?_
    refine mf_iload (mf_dat eX0_passDay_p0 19 rfl) rfl ?_
    refine mf_iload_n (mf_dat eX0_passDay_p0 20 rfl) rfl rfl ?_
    refine mf_callS (Yc := YX0_meet) (mf_dat eX0_passDay_p0 21 rfl) ml_X0_57 okX0_meet sm_X0_meet rfl rfl (Nat.le_of_ble_eq_true rfl) (mf_rr (Nat.le_trans (by decide) hd) (Nat.le_refl _)) (Nat.le_refl _) hyp (fun r3 g4 h5 hyp => ?_)
    refine mf_if_eq (tgt := 57) (mf_dat eX0_passDay_p0 22 rfl) (by decide) (fun hc => ?_) (fun hc => ?_)
    · replace hyp := hyp.1 hc
      refine mf_iinc (mf_dat eX0_passDay_p0 31 rfl) rfl (by decide) (by decide) ?_
      generalize qv6 : mf_w32 (x6 + 1) = v6
      replace hyp := hyp _ qv6.symm
      refine mf_goto (tgt := 21) (mf_dat eX0_passDay_p0 32 rfl) (by decide) ?_
      exact mf_sub [1, 2, 3, 4, 5, 6, 0] rfl hyp
    · replace hyp := hyp.2 hc
      refine mf_iinc (mf_dat eX0_passDay_p0 23 rfl) rfl (by decide) (by decide) ?_
      generalize qv7 : mf_w32 (x4 + 1) = v7
      replace hyp := hyp _ qv7.symm
      refine mf_aload_n (mf_dat eX0_passDay_p0 24 rfl) rfl rfl ?_
      refine mf_aload_n (mf_dat eX0_passDay_p0 25 rfl) rfl rfl ?_
      refine mf_aload_n (mf_dat eX0_passDay_p0 26 rfl) rfl rfl ?_
      refine mf_iload (mf_dat eX0_passDay_p0 27 rfl) rfl ?_
      refine mf_iload (mf_dat eX0_passDay_p0 28 rfl) rfl ?_
      refine mf_iload_n (mf_dat eX0_passDay_p0 29 rfl) rfl rfl ?_
      obtain ⟨ck11, hyp⟩ := hyp
      refine mf_callV (Yc := YX0_meetUp) (r := (RX0, TX0, 1)) (ci := 0) (mf_dat eX0_passDay_p0 30 rfl) ml_X0_79 okX0_meetUp im_X0_meetUp sl_X0_meetUp rfl rfl rfl rfl (Nat.le_of_ble_eq_true rfl) (mf_rr (Nat.le_trans (by decide) hd) (Nat.le_refl _)) (Nat.le_refl _) ck11 hyp (fun r8 g9 h10 hyp => ?_)
      refine mf_iinc (mf_dat eX0_passDay_p0 31 rfl) rfl (by decide) (by decide) ?_
      generalize qv12 : mf_w32 (x6 + 1) = v12
      replace hyp := hyp _ qv12.symm
      refine mf_goto (tgt := 21) (mf_dat eX0_passDay_p0 32 rfl) (by decide) ?_
      exact mf_sub [2, 3, 4, 5, 1, 6, 0] rfl hyp
set_option maxRecDepth 100000 in
set_option maxHeartbeats 4000000 in
theorem bX0_passDay_72 {C : mf_G} {l : Launch} {d n : Nat} {K : mf_Kt} {x0 x1 x2 x3 x4 x5 : Int} {g h : mf_M} (hd : 5 ≤ d) (hyp : mf_is n x1 1 ∧ ((h x1 12 ≤ x5 → JX0_passDay_99 C l d n K x0 x1 x2 x3 x4 0 g h) ∧ (¬ h x1 12 ≤ x5 → mf_is n x0 0 ∧ mf_MT C l 4 YX0_reap [(2, x0), (2, x1), (2, x2), (0, x5), (0, x3)] n n g h (fun r2 g3 h4 => (∀ v6 : Int, v6 = mf_w32 (x5 + 1) → JX0_passDay_72 C l d n K x0 x1 x2 x3 x4 v6 g3 h4))))) : JX0_passDay_72 C l d n K x0 x1 x2 x3 x4 x5 g h := by
  refine mf_iload (mf_dat eX0_passDay_p0 37 rfl) rfl ?_
  refine mf_aload_n (mf_dat eX0_passDay_p0 38 rfl) rfl rfl ?_
  obtain ⟨ck1, hyp⟩ := hyp
  refine mf_getf (r := (RX1, TX1, 14)) (ci := 1) (k := 12) (t := 0) (v := h x1 12) (mf_dat eX0_passDay_p0 39 rfl) fl_X0_54 rfl (by decide) rfl rfl ck1 ?_
  refine mf_icmp_ge (tgt := 96) (mf_dat eX0_passDay_p0 40 rfl) (by decide) (fun hc => ?_) (fun hc => ?_)
  · replace hyp := hyp.1 hc
    refine mf_iconst (v := 0) (mf_dat eX0_passDay_p0 49 rfl) (by decide) ?_
    refine mf_istore (mf_dat eX0_passDay_p0 50 rfl) (by decide) ?_
    exact mf_sub [1, 2, 3, 4, 5, 0] rfl hyp
  · replace hyp := hyp.2 hc
    refine mf_aload_n (mf_dat eX0_passDay_p0 41 rfl) rfl rfl ?_
    refine mf_aload_n (mf_dat eX0_passDay_p0 42 rfl) rfl rfl ?_
    refine mf_aload_n (mf_dat eX0_passDay_p0 43 rfl) rfl rfl ?_
    refine mf_iload (mf_dat eX0_passDay_p0 44 rfl) rfl ?_
    refine mf_iload_n (mf_dat eX0_passDay_p0 45 rfl) rfl rfl ?_
    obtain ⟨ck5, hyp⟩ := hyp
    refine mf_callV (Yc := YX0_reap) (r := (RX0, TX0, 1)) (ci := 0) (mf_dat eX0_passDay_p0 46 rfl) ml_X0_83 okX0_reap im_X0_reap sl_X0_reap rfl rfl rfl rfl (Nat.le_of_ble_eq_true rfl) (mf_rr (Nat.le_trans (by decide) hd) (Nat.le_refl _)) (Nat.le_refl _) ck5 hyp (fun r2 g3 h4 hyp => ?_)
    refine mf_iinc (mf_dat eX0_passDay_p0 47 rfl) rfl (by decide) (by decide) ?_
    generalize qv6 : mf_w32 (x5 + 1) = v6
    replace hyp := hyp _ qv6.symm
    refine mf_goto (tgt := 72) (mf_dat eX0_passDay_p0 48 rfl) (by decide) ?_
    exact mf_sub [1, 2, 3, 4, 5, 0] rfl hyp
set_option maxRecDepth 100000 in
set_option maxHeartbeats 4000000 in
theorem bX0_passDay_99 {C : mf_G} {l : Launch} {d n : Nat} {K : mf_Kt} {x0 x1 x2 x3 x4 x5 : Int} {g h : mf_M} (hd : 5 ≤ d) (hyp : mf_is n x1 1 ∧ ((h x1 12 ≤ x5 → mf_is n x2 6 ∧ (∀ h3 : mf_M, h3 = mf_up h x2 7 (mf_w32 ((h x2 7) + 1)) → K x4 g h3)) ∧ (¬ h x1 12 ≤ x5 → mf_is n x0 0 ∧ mf_MT C l 4 YX0_stepOutward [(2, x0), (2, x1), (2, x2), (0, x5), (0, x3)] n n g h (fun r4 g5 h6 => (∀ v8 : Int, v8 = mf_w32 (x5 + 1) → JX0_passDay_99 C l d n K x0 x1 x2 x3 x4 v8 g5 h6))))) : JX0_passDay_99 C l d n K x0 x1 x2 x3 x4 x5 g h := by
  refine mf_iload (mf_dat eX0_passDay_p0 51 rfl) rfl ?_
  refine mf_aload_n (mf_dat eX0_passDay_p0 52 rfl) rfl rfl ?_
  obtain ⟨ck1, hyp⟩ := hyp
  refine mf_getf (r := (RX1, TX1, 14)) (ci := 1) (k := 12) (t := 0) (v := h x1 12) (mf_dat eX0_passDay_p0 53 rfl) fl_X0_54 rfl (by decide) rfl rfl ck1 ?_
  refine mf_icmp_ge (tgt := 123) (mf_dat eX0_passDay_p0 54 rfl) (by decide) (fun hc => ?_) (fun hc => ?_)
  · replace hyp := hyp.1 hc
    refine mf_aload_n (mf_dat eX0_passDay_p1 3 rfl) rfl rfl ?_
    refine mf_dup (mf_dat eX0_passDay_p1 4 rfl) (by decide) ?_
    obtain ⟨ck2, hyp⟩ := hyp
    refine mf_getf (r := (RX6, TX6, 8)) (ci := 6) (k := 7) (t := 0) (v := h x2 7) (mf_dat eX0_passDay_p1 5 rfl) fl_X0_90 rfl (by decide) rfl rfl ck2 ?_
    refine mf_iconst (v := 1) (mf_dat eX0_passDay_p1 6 rfl) (by decide) ?_
    refine mf_iadd (mf_dat eX0_passDay_p1 7 rfl) ?_
    refine mf_putI (r := (RX6, TX6, 8)) (ci := 6) (k := 7) (kI := 7) (t := 0) (mf_dat eX0_passDay_p1 8 rfl) fl_X0_90 rfl rfl (by decide) rfl (by decide) rfl (by decide) (fun h9 => absurd h9 (by decide)) ck2 ?_
    generalize qh3 : mf_up h x2 7 (mf_w32 ((h x2 7) + 1)) = h3
    replace hyp := hyp _ qh3.symm
    refine mf_iload (mf_dat eX0_passDay_p1 9 rfl) rfl ?_
    exact mf_ireturn (mf_dat eX0_passDay_p1 10 rfl) rfl (Or.inl rfl) hyp
  · replace hyp := hyp.2 hc
    refine mf_aload_n (mf_dat eX0_passDay_p0 55 rfl) rfl rfl ?_
    refine mf_aload_n (mf_dat eX0_passDay_p0 56 rfl) rfl rfl ?_
    refine mf_aload_n (mf_dat eX0_passDay_p0 57 rfl) rfl rfl ?_
    refine mf_iload (mf_dat eX0_passDay_p0 58 rfl) rfl ?_
    refine mf_iload_n (mf_dat eX0_passDay_p0 59 rfl) rfl rfl ?_
    obtain ⟨ck7, hyp⟩ := hyp
    refine mf_callV (Yc := YX0_stepOutward) (r := (RX0, TX0, 1)) (ci := 0) (mf_dat eX0_passDay_p1 0 rfl) ml_X0_87 okX0_stepOutward im_X0_stepOutward sl_X0_stepOutward rfl rfl rfl rfl (Nat.le_of_ble_eq_true rfl) (mf_rr (Nat.le_trans (by decide) hd) (Nat.le_refl _)) (Nat.le_refl _) ck7 hyp (fun r4 g5 h6 hyp => ?_)
    refine mf_iinc (mf_dat eX0_passDay_p1 1 rfl) rfl (by decide) (by decide) ?_
    generalize qv8 : mf_w32 (x5 + 1) = v8
    replace hyp := hyp _ qv8.symm
    refine mf_goto (tgt := 99) (mf_dat eX0_passDay_p1 2 rfl) (by decide) ?_
    exact mf_sub [1, 2, 3, 4, 5, 0] rfl hyp
set_option maxRecDepth 100000 in
set_option maxHeartbeats 4000000 in
theorem mX0_passDay {C : mf_G} {l : Launch} {d n : Nat} {K : mf_Kt} {x0 x1 x2 x3 : Int} {g h : mf_M} (hyp : JX0_passDay_6 C l d n K x0 x1 x2 x3 0 0 g h) : mf_MT C l d YX0_passDay [(2, x0), (2, x1), (2, x2), (0, x3)] n n g h K := by
  refine mf_entry (by decide) (Nat.le_of_ble_eq_true rfl) ?_
  refine mf_iconst (v := 0) (mf_dat eX0_passDay_p0 0 rfl) (by decide) ?_
  refine mf_istore (mf_dat eX0_passDay_p0 1 rfl) (by decide) ?_
  refine mf_iconst (v := 0) (mf_dat eX0_passDay_p0 2 rfl) (by decide) ?_
  refine mf_istore (mf_dat eX0_passDay_p0 3 rfl) (by decide) ?_
  exact mf_sub [2, 3, 4, 5, 1, 0] rfl hyp
abbrev JX0_meetUp_103 (C : mf_G) (l : Launch) (d n : Nat) (K : mf_Kt) (x2 x3 x4 x6 : Int) (g h : mf_M) : Prop := mf_AW C l YX0_meetUp (mf_rm d n n) n (mf_Zm C YX0_meetUp n n K) (fun _ _ => True) 103 [(2, (2, x2)), (3, (0, x3)), (4, (0, x4)), (6, (0, x6))] [] n g h
abbrev JX0_meetUp_127 (C : mf_G) (l : Launch) (d n : Nat) (K : mf_Kt) (x2 x6 x7 s0 : Int) (g h : mf_M) : Prop := mf_AW C l YX0_meetUp (mf_rm d n n) n (mf_Zm C YX0_meetUp n n K) (fun _ _ => True) 127 [(2, (2, x2)), (6, (0, x6)), (7, (0, x7))] [(0, s0)] n g h
set_option maxRecDepth 100000 in
set_option maxHeartbeats 4000000 in
theorem bX0_meetUp_103 {C : mf_G} {l : Launch} {d n : Nat} {K : mf_Kt} {x2 x3 x4 x6 : Int} {g h : mf_M} (hyp : ((0 ≤ x6 → ((0 ≤ x6 → JX0_meetUp_127 C l d n K x2 x6 x3 x4 g h) ∧ (¬ 0 ≤ x6 → JX0_meetUp_127 C l d n K x2 x6 x3 x3 g h))) ∧ (¬ 0 ≤ x6 → ((0 ≤ x6 → JX0_meetUp_127 C l d n K x2 x6 x4 x4 g h) ∧ (¬ 0 ≤ x6 → JX0_meetUp_127 C l d n K x2 x6 x4 x3 g h))))) : JX0_meetUp_103 C l d n K x2 x3 x4 x6 g h := by
  refine mf_iload (mf_dat eX0_meetUp_p0 57 rfl) rfl ?_
  refine mf_if_ge (tgt := 113) (mf_dat eX0_meetUp_p0 58 rfl) (by decide) (fun hc => ?_) (fun hc => ?_)
  · replace hyp := hyp.1 hc
    refine mf_iload_n (mf_dat eX0_meetUp_p1 1 rfl) rfl rfl ?_
    refine mf_istore (mf_dat eX0_meetUp_p1 2 rfl) (by decide) ?_
    refine mf_iload (mf_dat eX0_meetUp_p1 3 rfl) rfl ?_
    refine mf_if_ge (tgt := 125) (mf_dat eX0_meetUp_p1 4 rfl) (by decide) (fun hc => ?_) (fun hc => ?_)
    · replace hyp := hyp.1 hc
      refine mf_iload (mf_dat eX0_meetUp_p1 7 rfl) rfl ?_
      exact mf_sub [1, 4, 0] rfl hyp
    · replace hyp := hyp.2 hc
      refine mf_iload_n (mf_dat eX0_meetUp_p1 5 rfl) rfl rfl ?_
      refine mf_goto (tgt := 127) (mf_dat eX0_meetUp_p1 6 rfl) (by decide) ?_
      exact mf_sub [1, 4, 0] rfl hyp
  · replace hyp := hyp.2 hc
    refine mf_iload (mf_dat eX0_meetUp_p0 59 rfl) rfl ?_
    refine mf_goto (tgt := 114) (mf_dat eX0_meetUp_p1 0 rfl) (by decide) ?_
    refine mf_istore (mf_dat eX0_meetUp_p1 2 rfl) (by decide) ?_
    refine mf_iload (mf_dat eX0_meetUp_p1 3 rfl) rfl ?_
    refine mf_if_ge (tgt := 125) (mf_dat eX0_meetUp_p1 4 rfl) (by decide) (fun hc => ?_) (fun hc => ?_)
    · replace hyp := hyp.1 hc
      refine mf_iload (mf_dat eX0_meetUp_p1 7 rfl) rfl ?_
      exact mf_sub [1, 4, 0] rfl hyp
    · replace hyp := hyp.2 hc
      refine mf_iload_n (mf_dat eX0_meetUp_p1 5 rfl) rfl rfl ?_
      refine mf_goto (tgt := 127) (mf_dat eX0_meetUp_p1 6 rfl) (by decide) ?_
      exact mf_sub [1, 4, 0] rfl hyp
set_option maxRecDepth 100000 in
set_option maxHeartbeats 4000000 in
theorem bX0_meetUp_127 {C : mf_G} {l : Launch} {d n : Nat} {K : mf_Kt} {x2 x6 x7 s0 : Int} {g h : mf_M} (hd : 2 ≤ d) (hyp : mf_MT C l 0 YJ9_abs_0f7a4 [(0, x6)] n n g h (fun r1 g2 h3 => mf_is n x2 6 ∧ mf_is n (g2 x2 3) 20 ∧ 0 ≤ x7 ∧ x7 < mf_len (g2 x2 3) ∧ mf_MT C l 0 YJ9_min_7cf53 [(0, r1), (0, h3 (g2 x2 3) x7)] n n g2 h3 (fun r8 g9 h10 => mf_MT C l 1 YX6_addPurse [(2, x2), (0, x7), (0, mf_w32 (-r8))] n n g9 h10 (fun r11 g12 h13 => mf_MT C l 1 YX6_addPurse [(2, x2), (0, s0), (0, r8)] n n g12 h13 (fun r14 g15 h16 => K 0 g15 h16))))) : JX0_meetUp_127 C l d n K x2 x6 x7 s0 g h := by
  refine mf_istore (mf_dat eX0_meetUp_p1 8 rfl) (by decide) ?_
  refine mf_iload (mf_dat eX0_meetUp_p1 9 rfl) rfl ?_
  refine mf_callS (Yc := YJ9_abs_0f7a4) (mf_dat eX0_meetUp_p1 10 rfl) ml_X0_110 okJ9_abs_0f7a4 sm_J9_abs_0f7a4 rfl rfl (Nat.le_of_ble_eq_true rfl) (mf_rr (Nat.le_trans (by decide) hd) (Nat.le_refl _)) (Nat.le_refl _) hyp (fun r1 g2 h3 hyp => ?_)
  refine mf_aload_n (mf_dat eX0_meetUp_p1 11 rfl) rfl rfl ?_
  obtain ⟨ck4, hyp⟩ := hyp
  refine mf_getf (r := (RX6, TX6, 8)) (ci := 6) (k := 3) (t := 2) (v := g2 x2 3) (mf_dat eX0_meetUp_p1 12 rfl) fl_X0_113 rfl (by decide) rfl rfl ck4 ?_
  refine mf_iload (mf_dat eX0_meetUp_p1 13 rfl) rfl ?_
  obtain ⟨ck5, hyp⟩ := hyp
  obtain ⟨ck6, hyp⟩ := hyp
  obtain ⟨ck7, hyp⟩ := hyp
  refine mf_iald (mf_dat eX0_meetUp_p1 14 rfl) ck5 ck6 ck7 ?_
  refine mf_callS (Yc := YJ9_min_7cf53) (mf_dat eX0_meetUp_p1 15 rfl) ml_X0_34 okJ9_min_7cf53 sm_J9_min_7cf53 rfl rfl (Nat.le_of_ble_eq_true rfl) (mf_rr (Nat.le_trans (by decide) hd) (Nat.le_refl _)) (Nat.le_refl _) hyp (fun r8 g9 h10 hyp => ?_)
  refine mf_istore (mf_dat eX0_meetUp_p1 16 rfl) (by decide) ?_
  refine mf_aload_n (mf_dat eX0_meetUp_p1 17 rfl) rfl rfl ?_
  refine mf_iload (mf_dat eX0_meetUp_p1 18 rfl) rfl ?_
  refine mf_iload (mf_dat eX0_meetUp_p1 19 rfl) rfl ?_
  refine mf_ineg (mf_dat eX0_meetUp_p1 20 rfl) ?_
  refine mf_callV (Yc := YX6_addPurse) (r := (RX6, TX6, 8)) (ci := 6) (mf_dat eX0_meetUp_p1 21 rfl) ml_X0_116 okX6_addPurse im_X6_addPurse sl_X6_addPurse rfl rfl rfl rfl (Nat.le_of_ble_eq_true rfl) (mf_rr (Nat.le_trans (by decide) hd) (Nat.le_refl _)) (Nat.le_refl _) ck4 hyp (fun r11 g12 h13 hyp => ?_)
  refine mf_aload_n (mf_dat eX0_meetUp_p1 22 rfl) rfl rfl ?_
  refine mf_iload (mf_dat eX0_meetUp_p1 23 rfl) rfl ?_
  refine mf_iload (mf_dat eX0_meetUp_p1 24 rfl) rfl ?_
  refine mf_callV (Yc := YX6_addPurse) (r := (RX6, TX6, 8)) (ci := 6) (mf_dat eX0_meetUp_p1 25 rfl) ml_X0_116 okX6_addPurse im_X6_addPurse sl_X6_addPurse rfl rfl rfl rfl (Nat.le_of_ble_eq_true rfl) (mf_rr (Nat.le_trans (by decide) hd) (Nat.le_refl _)) (Nat.le_refl _) ck4 hyp (fun r14 g15 h16 hyp => ?_)
  exact mf_return (mf_dat eX0_meetUp_p1 26 rfl) rfl hyp
set_option maxRecDepth 100000 in
set_option maxHeartbeats 4000000 in
theorem mX0_meetUp {C : mf_G} {l : Launch} {d n : Nat} {K : mf_Kt} {x0 x1 x2 x3 x4 x5 : Int} {g h : mf_M} (hd : 4 ≤ d) (hyp : mf_is n x2 6 ∧ mf_is n (g x2 4) 20 ∧ 0 ≤ x3 ∧ x3 < mf_len (g x2 4) ∧ mf_MT C l 0 YJ9_min_7cf53 [(0, 9999), (0, mf_w32 ((h (g x2 4) x3) + 1))] n n g h (fun r5 g6 h7 => (∀ h8 : mf_M, h8 = mf_up h7 (g x2 4) x3 r5 → mf_is n (g6 x2 4) 20 ∧ 0 ≤ x4 ∧ x4 < mf_len (g6 x2 4) ∧ mf_MT C l 0 YJ9_min_7cf53 [(0, 9999), (0, mf_w32 ((h8 (g6 x2 4) x4) + 1))] n n g6 h8 (fun r12 g13 h14 => (∀ h15 : mf_M, h15 = mf_up h14 (g6 x2 4) x4 r12 → mf_MT C l 1 YX6_keep [(2, x2), (0, x3), (0, x4)] n n g13 h15 (fun r16 g17 h18 => mf_is n x1 1 ∧ mf_is n (g17 x1 5) 4 ∧ mf_MT C l 0 YX4_isTold [(2, g17 x1 5), (0, 2)] n n g17 h18 (fun r20 g21 h22 => ((r20 = 0 → JX0_meetUp_103 C l d n K x2 x3 x4 1 g21 h22) ∧ (¬ r20 = 0 → mf_is n x0 0 ∧ mf_MT C l 1 YX0_setParts [(2, x0), (2, x1), (2, x2), (0, x3), (0, x5)] n n g21 h22 (fun r24 g25 h26 => mf_is n (g25 x0 0) 3 ∧ mf_is n (g25 x1 4) 20 ∧ x4 < mf_len (g25 x1 4) ∧ mf_is n (g25 (g25 x0 0) 0) 20 ∧ 6 < mf_len (g25 (g25 x0 0) 0) ∧ (∀ h33 : mf_M, h33 = mf_up h26 (g25 (g25 x0 0) 0) 6 (h26 (g25 x1 4) x4) → mf_MT C l 3 YX3_reckon [(2, g25 x0 0), (2, g25 x1 5), (0, 2)] n n g25 h33 (fun r34 g35 h36 => JX0_meetUp_103 C l d n K x2 x3 x4 r34 g35 h36)))))))))))) : mf_MT C l d YX0_meetUp [(2, x0), (2, x1), (2, x2), (0, x3), (0, x4), (0, x5)] n n g h K := by
  refine mf_entry (by decide) (Nat.le_of_ble_eq_true rfl) ?_
  refine mf_aload_n (mf_dat eX0_meetUp_p0 0 rfl) rfl rfl ?_
  obtain ⟨ck1, hyp⟩ := hyp
  refine mf_getf (r := (RX6, TX6, 8)) (ci := 6) (k := 4) (t := 2) (v := g x2 4) (mf_dat eX0_meetUp_p0 1 rfl) fl_X0_93 rfl (by decide) rfl rfl ck1 ?_
  refine mf_iload_n (mf_dat eX0_meetUp_p0 2 rfl) rfl rfl ?_
  refine mf_sipush (v := 9999) (mf_dat eX0_meetUp_p0 3 rfl) (by decide) ?_
  refine mf_aload_n (mf_dat eX0_meetUp_p0 4 rfl) rfl rfl ?_
  refine mf_getf (r := (RX6, TX6, 8)) (ci := 6) (k := 4) (t := 2) (v := g x2 4) (mf_dat eX0_meetUp_p0 5 rfl) fl_X0_93 rfl (by decide) rfl rfl ck1 ?_
  refine mf_iload_n (mf_dat eX0_meetUp_p0 6 rfl) rfl rfl ?_
  obtain ⟨ck2, hyp⟩ := hyp
  obtain ⟨ck3, hyp⟩ := hyp
  obtain ⟨ck4, hyp⟩ := hyp
  refine mf_iald (mf_dat eX0_meetUp_p0 7 rfl) ck2 ck3 ck4 ?_
  refine mf_iconst (v := 1) (mf_dat eX0_meetUp_p0 8 rfl) (by decide) ?_
  refine mf_iadd (mf_dat eX0_meetUp_p0 9 rfl) ?_
  refine mf_callS (Yc := YJ9_min_7cf53) (mf_dat eX0_meetUp_p0 10 rfl) ml_X0_34 okJ9_min_7cf53 sm_J9_min_7cf53 rfl rfl (Nat.le_of_ble_eq_true rfl) (mf_rr (Nat.le_trans (by decide) hd) (Nat.le_refl _)) (Nat.le_refl _) hyp (fun r5 g6 h7 hyp => ?_)
  refine mf_iast (mf_dat eX0_meetUp_p0 11 rfl) ck2 ck3 ck4 ?_
  generalize qh8 : mf_up h7 (g x2 4) x3 r5 = h8
  replace hyp := hyp _ qh8.symm
  refine mf_aload_n (mf_dat eX0_meetUp_p0 12 rfl) rfl rfl ?_
  refine mf_getf (r := (RX6, TX6, 8)) (ci := 6) (k := 4) (t := 2) (v := g6 x2 4) (mf_dat eX0_meetUp_p0 13 rfl) fl_X0_93 rfl (by decide) rfl rfl ck1 ?_
  refine mf_iload (mf_dat eX0_meetUp_p0 14 rfl) rfl ?_
  refine mf_sipush (v := 9999) (mf_dat eX0_meetUp_p0 15 rfl) (by decide) ?_
  refine mf_aload_n (mf_dat eX0_meetUp_p0 16 rfl) rfl rfl ?_
  refine mf_getf (r := (RX6, TX6, 8)) (ci := 6) (k := 4) (t := 2) (v := g6 x2 4) (mf_dat eX0_meetUp_p0 17 rfl) fl_X0_93 rfl (by decide) rfl rfl ck1 ?_
  refine mf_iload (mf_dat eX0_meetUp_p0 18 rfl) rfl ?_
  obtain ⟨ck9, hyp⟩ := hyp
  obtain ⟨ck10, hyp⟩ := hyp
  obtain ⟨ck11, hyp⟩ := hyp
  refine mf_iald (mf_dat eX0_meetUp_p0 19 rfl) ck9 ck10 ck11 ?_
  refine mf_iconst (v := 1) (mf_dat eX0_meetUp_p0 20 rfl) (by decide) ?_
  refine mf_iadd (mf_dat eX0_meetUp_p0 21 rfl) ?_
  refine mf_callS (Yc := YJ9_min_7cf53) (mf_dat eX0_meetUp_p0 22 rfl) ml_X0_34 okJ9_min_7cf53 sm_J9_min_7cf53 rfl rfl (Nat.le_of_ble_eq_true rfl) (mf_rr (Nat.le_trans (by decide) hd) (Nat.le_refl _)) (Nat.le_refl _) hyp (fun r12 g13 h14 hyp => ?_)
  refine mf_iast (mf_dat eX0_meetUp_p0 23 rfl) ck9 ck10 ck11 ?_
  generalize qh15 : mf_up h14 (g6 x2 4) x4 r12 = h15
  replace hyp := hyp _ qh15.symm
  refine mf_aload_n (mf_dat eX0_meetUp_p0 24 rfl) rfl rfl ?_
  refine mf_iload_n (mf_dat eX0_meetUp_p0 25 rfl) rfl rfl ?_
  refine mf_iload (mf_dat eX0_meetUp_p0 26 rfl) rfl ?_
  refine mf_callV (Yc := YX6_keep) (r := (RX6, TX6, 8)) (ci := 6) (mf_dat eX0_meetUp_p0 27 rfl) ml_X0_96 okX6_keep im_X6_keep sl_X6_keep rfl rfl rfl rfl (Nat.le_of_ble_eq_true rfl) (mf_rr (Nat.le_trans (by decide) hd) (Nat.le_refl _)) (Nat.le_refl _) ck1 hyp (fun r16 g17 h18 hyp => ?_)
  refine mf_iconst (v := 1) (mf_dat eX0_meetUp_p0 28 rfl) (by decide) ?_
  refine mf_istore (mf_dat eX0_meetUp_p0 29 rfl) (by decide) ?_
  refine mf_aload_n (mf_dat eX0_meetUp_p0 30 rfl) rfl rfl ?_
  obtain ⟨ck19, hyp⟩ := hyp
  refine mf_getf (r := (RX1, TX1, 14)) (ci := 1) (k := 5) (t := 2) (v := g17 x1 5) (mf_dat eX0_meetUp_p0 31 rfl) fl_X0_66 rfl (by decide) rfl rfl ck19 ?_
  refine mf_iconst (v := 2) (mf_dat eX0_meetUp_p0 32 rfl) (by decide) ?_
  obtain ⟨ck23, hyp⟩ := hyp
  refine mf_callV (Yc := YX4_isTold) (r := (RX4, TX4, 5)) (ci := 4) (mf_dat eX0_meetUp_p0 33 rfl) ml_X0_100 okX4_isTold im_X4_isTold sl_X4_isTold rfl rfl rfl rfl (Nat.le_of_ble_eq_true rfl) (mf_rr (Nat.le_trans (by decide) hd) (Nat.le_refl _)) (Nat.le_refl _) ck23 hyp (fun r20 g21 h22 hyp => ?_)
  refine mf_if_eq (tgt := 103) (mf_dat eX0_meetUp_p0 34 rfl) (by decide) (fun hc => ?_) (fun hc => ?_)
  · replace hyp := hyp.1 hc
    exact mf_sub [3, 4, 5, 0] rfl hyp
  · replace hyp := hyp.2 hc
    refine mf_aload_n (mf_dat eX0_meetUp_p0 35 rfl) rfl rfl ?_
    refine mf_aload_n (mf_dat eX0_meetUp_p0 36 rfl) rfl rfl ?_
    refine mf_aload_n (mf_dat eX0_meetUp_p0 37 rfl) rfl rfl ?_
    refine mf_iload_n (mf_dat eX0_meetUp_p0 38 rfl) rfl rfl ?_
    refine mf_iload (mf_dat eX0_meetUp_p0 39 rfl) rfl ?_
    obtain ⟨ck27, hyp⟩ := hyp
    refine mf_callV (Yc := YX0_setParts) (r := (RX0, TX0, 1)) (ci := 0) (mf_dat eX0_meetUp_p0 40 rfl) ml_X0_104 okX0_setParts im_X0_setParts sl_X0_setParts rfl rfl rfl rfl (Nat.le_of_ble_eq_true rfl) (mf_rr (Nat.le_trans (by decide) hd) (Nat.le_refl _)) (Nat.le_refl _) ck27 hyp (fun r24 g25 h26 hyp => ?_)
    refine mf_aload_n (mf_dat eX0_meetUp_p0 41 rfl) rfl rfl ?_
    refine mf_getf (r := (RX0, TX0, 1)) (ci := 0) (k := 0) (t := 2) (v := g25 x0 0) (mf_dat eX0_meetUp_p0 42 rfl) fl_X0_12 rfl (by decide) rfl rfl ck27 ?_
    obtain ⟨ck28, hyp⟩ := hyp
    refine mf_getf (r := (RX3, TX3, 4)) (ci := 3) (k := 0) (t := 2) (v := g25 (g25 x0 0) 0) (mf_dat eX0_meetUp_p0 43 rfl) fl_X0_61 rfl (by decide) rfl rfl ck28 ?_
    refine mf_bipush (v := 6) (mf_dat eX0_meetUp_p0 44 rfl) (by decide) ?_
    refine mf_aload_n (mf_dat eX0_meetUp_p0 45 rfl) rfl rfl ?_
    refine mf_getf (r := (RX1, TX1, 14)) (ci := 1) (k := 4) (t := 2) (v := g25 x1 4) (mf_dat eX0_meetUp_p0 46 rfl) fl_X0_107 rfl (by decide) rfl rfl ck19 ?_
    refine mf_iload (mf_dat eX0_meetUp_p0 47 rfl) rfl ?_
    obtain ⟨ck29, hyp⟩ := hyp
    obtain ⟨ck30, hyp⟩ := hyp
    refine mf_iald (mf_dat eX0_meetUp_p0 48 rfl) ck29 ck10 ck30 ?_
    obtain ⟨ck31, hyp⟩ := hyp
    obtain ⟨ck32, hyp⟩ := hyp
    refine mf_iast (mf_dat eX0_meetUp_p0 49 rfl) ck31 (by decide) ck32 ?_
    generalize qh33 : mf_up h26 (g25 (g25 x0 0) 0) 6 (h26 (g25 x1 4) x4) = h33
    replace hyp := hyp _ qh33.symm
    refine mf_aload_n (mf_dat eX0_meetUp_p0 50 rfl) rfl rfl ?_
    refine mf_getf (r := (RX0, TX0, 1)) (ci := 0) (k := 0) (t := 2) (v := g25 x0 0) (mf_dat eX0_meetUp_p0 51 rfl) fl_X0_12 rfl (by decide) rfl rfl ck27 ?_
    refine mf_aload_n (mf_dat eX0_meetUp_p0 52 rfl) rfl rfl ?_
    refine mf_getf (r := (RX1, TX1, 14)) (ci := 1) (k := 5) (t := 2) (v := g25 x1 5) (mf_dat eX0_meetUp_p0 53 rfl) fl_X0_66 rfl (by decide) rfl rfl ck19 ?_
    refine mf_iconst (v := 2) (mf_dat eX0_meetUp_p0 54 rfl) (by decide) ?_
    refine mf_callV (Yc := YX3_reckon) (r := (RX3, TX3, 4)) (ci := 3) (mf_dat eX0_meetUp_p0 55 rfl) ml_X0_72 okX3_reckon im_X3_reckon sl_X3_reckon rfl rfl rfl rfl (Nat.le_of_ble_eq_true rfl) (mf_rr (Nat.le_trans (by decide) hd) (Nat.le_refl _)) (Nat.le_refl _) ck28 hyp (fun r34 g35 h36 hyp => ?_)
    refine mf_istore (mf_dat eX0_meetUp_p0 56 rfl) (by decide) ?_
    exact mf_sub [3, 4, 5, 0] rfl hyp
set_option maxRecDepth 100000 in
set_option maxHeartbeats 4000000 in
theorem mX0_reap {C : mf_G} {l : Launch} {d n : Nat} {K : mf_Kt} {x0 x1 x2 x3 x4 : Int} {g h : mf_M} (hd : 4 ≤ d) (hyp : mf_is n x2 6 ∧ mf_is n (g x2 2) 20 ∧ 0 ≤ x3 ∧ x3 < mf_len (g x2 2) ∧ (∀ v5 : Int, v5 = h (g x2 2) x3 → mf_is n x1 1 ∧ mf_is n (g x1 5) 4 ∧ mf_MT C l 0 YX4_isTold [(2, g x1 5), (0, 1)] n n g h (fun r7 g8 h9 => ((r7 = 0 → mf_MT C l 0 YJ9_min_7cf53 [(0, 99), (0, v5)] n n g8 h9 (fun r11 g12 h13 => mf_MT C l 0 YJ9_max_7cf53 [(0, (-99)), (0, r11)] n n g12 h13 (fun r14 g15 h16 => mf_MT C l 1 YX6_addPurse [(2, x2), (0, x3), (0, r14)] n n g15 h16 (fun r17 g18 h19 => K 0 g18 h19)))) ∧ (¬ r7 = 0 → mf_is n x0 0 ∧ mf_MT C l 1 YX0_setParts [(2, x0), (2, x1), (2, x2), (0, x3), (0, x4)] n n g8 h9 (fun r20 g21 h22 => mf_is n (g21 x0 0) 3 ∧ mf_MT C l 3 YX3_reckon [(2, g21 x0 0), (2, g21 x1 5), (0, 1)] n n g21 h22 (fun r24 g25 h26 => mf_MT C l 0 YJ9_min_7cf53 [(0, 99), (0, r24)] n n g25 h26 (fun r28 g29 h30 => mf_MT C l 0 YJ9_max_7cf53 [(0, (-99)), (0, r28)] n n g29 h30 (fun r31 g32 h33 => mf_MT C l 1 YX6_addPurse [(2, x2), (0, x3), (0, r31)] n n g32 h33 (fun r34 g35 h36 => K 0 g35 h36)))))))))) : mf_MT C l d YX0_reap [(2, x0), (2, x1), (2, x2), (0, x3), (0, x4)] n n g h K := by
  refine mf_entry (by decide) (Nat.le_of_ble_eq_true rfl) ?_
  refine mf_aload_n (mf_dat eX0_reap 0 rfl) rfl rfl ?_
  obtain ⟨ck1, hyp⟩ := hyp
  refine mf_getf (r := (RX6, TX6, 8)) (ci := 6) (k := 2) (t := 2) (v := g x2 2) (mf_dat eX0_reap 1 rfl) fl_X0_43 rfl (by decide) rfl rfl ck1 ?_
  refine mf_iload_n (mf_dat eX0_reap 2 rfl) rfl rfl ?_
  obtain ⟨ck2, hyp⟩ := hyp
  obtain ⟨ck3, hyp⟩ := hyp
  obtain ⟨ck4, hyp⟩ := hyp
  refine mf_iald (mf_dat eX0_reap 3 rfl) ck2 ck3 ck4 ?_
  generalize qv5 : h (g x2 2) x3 = v5
  replace hyp := hyp _ qv5.symm
  refine mf_istore (mf_dat eX0_reap 4 rfl) (by decide) ?_
  refine mf_aload_n (mf_dat eX0_reap 5 rfl) rfl rfl ?_
  obtain ⟨ck6, hyp⟩ := hyp
  refine mf_getf (r := (RX1, TX1, 14)) (ci := 1) (k := 5) (t := 2) (v := g x1 5) (mf_dat eX0_reap 6 rfl) fl_X0_66 rfl (by decide) rfl rfl ck6 ?_
  refine mf_iconst (v := 1) (mf_dat eX0_reap 7 rfl) (by decide) ?_
  obtain ⟨ck10, hyp⟩ := hyp
  refine mf_callV (Yc := YX4_isTold) (r := (RX4, TX4, 5)) (ci := 4) (mf_dat eX0_reap 8 rfl) ml_X0_100 okX4_isTold im_X4_isTold sl_X4_isTold rfl rfl rfl rfl (Nat.le_of_ble_eq_true rfl) (mf_rr (Nat.le_trans (by decide) hd) (Nat.le_refl _)) (Nat.le_refl _) ck10 hyp (fun r7 g8 h9 hyp => ?_)
  refine mf_if_eq (tgt := 42) (mf_dat eX0_reap 9 rfl) (by decide) (fun hc => ?_) (fun hc => ?_)
  · replace hyp := hyp.1 hc
    refine mf_aload_n (mf_dat eX0_reap 23 rfl) rfl rfl ?_
    refine mf_iload_n (mf_dat eX0_reap 24 rfl) rfl rfl ?_
    refine mf_bipush (v := (-99)) (mf_dat eX0_reap 25 rfl) (by decide) ?_
    refine mf_bipush (v := 99) (mf_dat eX0_reap 26 rfl) (by decide) ?_
    refine mf_iload (mf_dat eX0_reap 27 rfl) rfl ?_
    refine mf_callS (Yc := YJ9_min_7cf53) (mf_dat eX0_reap 28 rfl) ml_X0_34 okJ9_min_7cf53 sm_J9_min_7cf53 rfl rfl (Nat.le_of_ble_eq_true rfl) (mf_rr (Nat.le_trans (by decide) hd) (Nat.le_refl _)) (Nat.le_refl _) hyp (fun r11 g12 h13 hyp => ?_)
    refine mf_callS (Yc := YJ9_max_7cf53) (mf_dat eX0_reap 29 rfl) ml_X0_40 okJ9_max_7cf53 sm_J9_max_7cf53 rfl rfl (Nat.le_of_ble_eq_true rfl) (mf_rr (Nat.le_trans (by decide) hd) (Nat.le_refl _)) (Nat.le_refl _) hyp (fun r14 g15 h16 hyp => ?_)
    refine mf_callV (Yc := YX6_addPurse) (r := (RX6, TX6, 8)) (ci := 6) (mf_dat eX0_reap 30 rfl) ml_X0_116 okX6_addPurse im_X6_addPurse sl_X6_addPurse rfl rfl rfl rfl (Nat.le_of_ble_eq_true rfl) (mf_rr (Nat.le_trans (by decide) hd) (Nat.le_refl _)) (Nat.le_refl _) ck1 hyp (fun r17 g18 h19 hyp => ?_)
    exact mf_return (mf_dat eX0_reap 31 rfl) rfl hyp
  · replace hyp := hyp.2 hc
    refine mf_aload_n (mf_dat eX0_reap 10 rfl) rfl rfl ?_
    refine mf_aload_n (mf_dat eX0_reap 11 rfl) rfl rfl ?_
    refine mf_aload_n (mf_dat eX0_reap 12 rfl) rfl rfl ?_
    refine mf_iload_n (mf_dat eX0_reap 13 rfl) rfl rfl ?_
    refine mf_iload (mf_dat eX0_reap 14 rfl) rfl ?_
    obtain ⟨ck23, hyp⟩ := hyp
    refine mf_callV (Yc := YX0_setParts) (r := (RX0, TX0, 1)) (ci := 0) (mf_dat eX0_reap 15 rfl) ml_X0_104 okX0_setParts im_X0_setParts sl_X0_setParts rfl rfl rfl rfl (Nat.le_of_ble_eq_true rfl) (mf_rr (Nat.le_trans (by decide) hd) (Nat.le_refl _)) (Nat.le_refl _) ck23 hyp (fun r20 g21 h22 hyp => ?_)
    refine mf_aload_n (mf_dat eX0_reap 16 rfl) rfl rfl ?_
    refine mf_getf (r := (RX0, TX0, 1)) (ci := 0) (k := 0) (t := 2) (v := g21 x0 0) (mf_dat eX0_reap 17 rfl) fl_X0_12 rfl (by decide) rfl rfl ck23 ?_
    refine mf_aload_n (mf_dat eX0_reap 18 rfl) rfl rfl ?_
    refine mf_getf (r := (RX1, TX1, 14)) (ci := 1) (k := 5) (t := 2) (v := g21 x1 5) (mf_dat eX0_reap 19 rfl) fl_X0_66 rfl (by decide) rfl rfl ck6 ?_
    refine mf_iconst (v := 1) (mf_dat eX0_reap 20 rfl) (by decide) ?_
    obtain ⟨ck27, hyp⟩ := hyp
    refine mf_callV (Yc := YX3_reckon) (r := (RX3, TX3, 4)) (ci := 3) (mf_dat eX0_reap 21 rfl) ml_X0_72 okX3_reckon im_X3_reckon sl_X3_reckon rfl rfl rfl rfl (Nat.le_of_ble_eq_true rfl) (mf_rr (Nat.le_trans (by decide) hd) (Nat.le_refl _)) (Nat.le_refl _) ck27 hyp (fun r24 g25 h26 hyp => ?_)
    refine mf_istore (mf_dat eX0_reap 22 rfl) (by decide) ?_
    refine mf_aload_n (mf_dat eX0_reap 23 rfl) rfl rfl ?_
    refine mf_iload_n (mf_dat eX0_reap 24 rfl) rfl rfl ?_
    refine mf_bipush (v := (-99)) (mf_dat eX0_reap 25 rfl) (by decide) ?_
    refine mf_bipush (v := 99) (mf_dat eX0_reap 26 rfl) (by decide) ?_
    refine mf_iload (mf_dat eX0_reap 27 rfl) rfl ?_
    refine mf_callS (Yc := YJ9_min_7cf53) (mf_dat eX0_reap 28 rfl) ml_X0_34 okJ9_min_7cf53 sm_J9_min_7cf53 rfl rfl (Nat.le_of_ble_eq_true rfl) (mf_rr (Nat.le_trans (by decide) hd) (Nat.le_refl _)) (Nat.le_refl _) hyp (fun r28 g29 h30 hyp => ?_)
    refine mf_callS (Yc := YJ9_max_7cf53) (mf_dat eX0_reap 29 rfl) ml_X0_40 okJ9_max_7cf53 sm_J9_max_7cf53 rfl rfl (Nat.le_of_ble_eq_true rfl) (mf_rr (Nat.le_trans (by decide) hd) (Nat.le_refl _)) (Nat.le_refl _) hyp (fun r31 g32 h33 hyp => ?_)
    refine mf_callV (Yc := YX6_addPurse) (r := (RX6, TX6, 8)) (ci := 6) (mf_dat eX0_reap 30 rfl) ml_X0_116 okX6_addPurse im_X6_addPurse sl_X6_addPurse rfl rfl rfl rfl (Nat.le_of_ble_eq_true rfl) (mf_rr (Nat.le_trans (by decide) hd) (Nat.le_refl _)) (Nat.le_refl _) ck1 hyp (fun r34 g35 h36 hyp => ?_)
    exact mf_return (mf_dat eX0_reap 31 rfl) rfl hyp
set_option maxRecDepth 100000 in
set_option maxHeartbeats 4000000 in
theorem mX0_stepOutward {C : mf_G} {l : Launch} {d n : Nat} {K : mf_Kt} {x0 x1 x2 x3 x4 : Int} {g h : mf_M} (hd : 4 ≤ d) (hyp : mf_is n x2 6 ∧ mf_is n (g x2 2) 20 ∧ 0 ≤ x3 ∧ x3 < mf_len (g x2 2) ∧ (∀ v5 : Int, v5 = mf_w32 ((h (g x2 2) x3) + 1) → mf_is n x1 1 ∧ ((h x1 9 ≤ v5 → K 0 g h) ∧ (¬ h x1 9 ≤ v5 → mf_is n (g x2 1) 20 ∧ x3 < mf_len (g x2 1) ∧ mf_MT C l 1 YX6_isFree [(2, x2), (0, h (g x2 1) x3), (0, v5), (0, h x1 12)] n n g h (fun r9 g10 h11 => ((¬ r9 = 0 → mf_is n x0 0 ∧ mf_MT C l 1 YX0_setParts [(2, x0), (2, x1), (2, x2), (0, x3), (0, x4)] n n g10 h11 (fun r12 g13 h14 => mf_is n (g13 x0 0) 3 ∧ mf_MT C l 3 YX3_reckon [(2, g13 x0 0), (2, g13 x1 5), (0, 3)] n n g13 h14 (fun r16 g17 h18 => ((r16 = 0 → K 0 g17 h18) ∧ (¬ r16 = 0 → mf_is n (g17 x2 2) 20 ∧ x3 < mf_len (g17 x2 2) ∧ (∀ h22 : mf_M, h22 = mf_up h18 (g17 x2 2) x3 v5 → K 0 g17 h22)))))) ∧ (r9 = 0 → K 0 g10 h11))))))) : mf_MT C l d YX0_stepOutward [(2, x0), (2, x1), (2, x2), (0, x3), (0, x4)] n n g h K := by
  refine mf_entry (by decide) (Nat.le_of_ble_eq_true rfl) ?_
  refine mf_aload_n (mf_dat eX0_stepOutward 0 rfl) rfl rfl ?_
  obtain ⟨ck1, hyp⟩ := hyp
  refine mf_getf (r := (RX6, TX6, 8)) (ci := 6) (k := 2) (t := 2) (v := g x2 2) (mf_dat eX0_stepOutward 1 rfl) fl_X0_43 rfl (by decide) rfl rfl ck1 ?_
  refine mf_iload_n (mf_dat eX0_stepOutward 2 rfl) rfl rfl ?_
  obtain ⟨ck2, hyp⟩ := hyp
  obtain ⟨ck3, hyp⟩ := hyp
  obtain ⟨ck4, hyp⟩ := hyp
  refine mf_iald (mf_dat eX0_stepOutward 3 rfl) ck2 ck3 ck4 ?_
  refine mf_iconst (v := 1) (mf_dat eX0_stepOutward 4 rfl) (by decide) ?_
  refine mf_iadd (mf_dat eX0_stepOutward 5 rfl) ?_
  generalize qv5 : mf_w32 ((h (g x2 2) x3) + 1) = v5
  replace hyp := hyp _ qv5.symm
  refine mf_istore (mf_dat eX0_stepOutward 6 rfl) (by decide) ?_
  refine mf_iload (mf_dat eX0_stepOutward 7 rfl) rfl ?_
  refine mf_aload_n (mf_dat eX0_stepOutward 8 rfl) rfl rfl ?_
  obtain ⟨ck6, hyp⟩ := hyp
  refine mf_getf (r := (RX1, TX1, 14)) (ci := 1) (k := 9) (t := 0) (v := h x1 9) (mf_dat eX0_stepOutward 9 rfl) fl_X0_119 rfl (by decide) rfl rfl ck6 ?_
  refine mf_icmp_ge (tgt := 38) (mf_dat eX0_stepOutward 10 rfl) (by decide) (fun hc => ?_) (fun hc => ?_)
  · replace hyp := hyp.1 hc
    exact mf_return (mf_dat eX0_stepOutward 21 rfl) rfl hyp
  · replace hyp := hyp.2 hc
    refine mf_aload_n (mf_dat eX0_stepOutward 11 rfl) rfl rfl ?_
    refine mf_aload_n (mf_dat eX0_stepOutward 12 rfl) rfl rfl ?_
    refine mf_getf (r := (RX6, TX6, 8)) (ci := 6) (k := 1) (t := 2) (v := g x2 1) (mf_dat eX0_stepOutward 13 rfl) fl_X0_28 rfl (by decide) rfl rfl ck1 ?_
    refine mf_iload_n (mf_dat eX0_stepOutward 14 rfl) rfl rfl ?_
    obtain ⟨ck7, hyp⟩ := hyp
    obtain ⟨ck8, hyp⟩ := hyp
    refine mf_iald (mf_dat eX0_stepOutward 15 rfl) ck7 ck3 ck8 ?_
    refine mf_iload (mf_dat eX0_stepOutward 16 rfl) rfl ?_
    refine mf_aload_n (mf_dat eX0_stepOutward 17 rfl) rfl rfl ?_
    refine mf_getf (r := (RX1, TX1, 14)) (ci := 1) (k := 12) (t := 0) (v := h x1 12) (mf_dat eX0_stepOutward 18 rfl) fl_X0_54 rfl (by decide) rfl rfl ck6 ?_
    refine mf_callV (Yc := YX6_isFree) (r := (RX6, TX6, 8)) (ci := 6) (mf_dat eX0_stepOutward 19 rfl) ml_X0_122 okX6_isFree im_X6_isFree sl_X6_isFree rfl rfl rfl rfl (Nat.le_of_ble_eq_true rfl) (mf_rr (Nat.le_trans (by decide) hd) (Nat.le_refl _)) (Nat.le_refl _) ck1 hyp (fun r9 g10 h11 hyp => ?_)
    refine mf_if_ne (tgt := 39) (mf_dat eX0_stepOutward 20 rfl) (by decide) (fun hc => ?_) (fun hc => ?_)
    · replace hyp := hyp.1 hc
      refine mf_aload_n (mf_dat eX0_stepOutward 22 rfl) rfl rfl ?_
      refine mf_aload_n (mf_dat eX0_stepOutward 23 rfl) rfl rfl ?_
      refine mf_aload_n (mf_dat eX0_stepOutward 24 rfl) rfl rfl ?_
      refine mf_iload_n (mf_dat eX0_stepOutward 25 rfl) rfl rfl ?_
      refine mf_iload (mf_dat eX0_stepOutward 26 rfl) rfl ?_
      obtain ⟨ck15, hyp⟩ := hyp
      refine mf_callV (Yc := YX0_setParts) (r := (RX0, TX0, 1)) (ci := 0) (mf_dat eX0_stepOutward 27 rfl) ml_X0_104 okX0_setParts im_X0_setParts sl_X0_setParts rfl rfl rfl rfl (Nat.le_of_ble_eq_true rfl) (mf_rr (Nat.le_trans (by decide) hd) (Nat.le_refl _)) (Nat.le_refl _) ck15 hyp (fun r12 g13 h14 hyp => ?_)
      refine mf_aload_n (mf_dat eX0_stepOutward 28 rfl) rfl rfl ?_
      refine mf_getf (r := (RX0, TX0, 1)) (ci := 0) (k := 0) (t := 2) (v := g13 x0 0) (mf_dat eX0_stepOutward 29 rfl) fl_X0_12 rfl (by decide) rfl rfl ck15 ?_
      refine mf_aload_n (mf_dat eX0_stepOutward 30 rfl) rfl rfl ?_
      refine mf_getf (r := (RX1, TX1, 14)) (ci := 1) (k := 5) (t := 2) (v := g13 x1 5) (mf_dat eX0_stepOutward 31 rfl) fl_X0_66 rfl (by decide) rfl rfl ck6 ?_
      refine mf_iconst (v := 3) (mf_dat eX0_stepOutward 32 rfl) (by decide) ?_
      obtain ⟨ck19, hyp⟩ := hyp
      refine mf_callV (Yc := YX3_reckon) (r := (RX3, TX3, 4)) (ci := 3) (mf_dat eX0_stepOutward 33 rfl) ml_X0_72 okX3_reckon im_X3_reckon sl_X3_reckon rfl rfl rfl rfl (Nat.le_of_ble_eq_true rfl) (mf_rr (Nat.le_trans (by decide) hd) (Nat.le_refl _)) (Nat.le_refl _) ck19 hyp (fun r16 g17 h18 hyp => ?_)
      refine mf_if_eq (tgt := 71) (mf_dat eX0_stepOutward 34 rfl) (by decide) (fun hc => ?_) (fun hc => ?_)
      · replace hyp := hyp.1 hc
        exact mf_return (mf_dat eX0_stepOutward 40 rfl) rfl hyp
      · replace hyp := hyp.2 hc
        refine mf_aload_n (mf_dat eX0_stepOutward 35 rfl) rfl rfl ?_
        refine mf_getf (r := (RX6, TX6, 8)) (ci := 6) (k := 2) (t := 2) (v := g17 x2 2) (mf_dat eX0_stepOutward 36 rfl) fl_X0_43 rfl (by decide) rfl rfl ck1 ?_
        refine mf_iload_n (mf_dat eX0_stepOutward 37 rfl) rfl rfl ?_
        refine mf_iload (mf_dat eX0_stepOutward 38 rfl) rfl ?_
        obtain ⟨ck20, hyp⟩ := hyp
        obtain ⟨ck21, hyp⟩ := hyp
        refine mf_iast (mf_dat eX0_stepOutward 39 rfl) ck20 ck3 ck21 ?_
        generalize qh22 : mf_up h18 (g17 x2 2) x3 v5 = h22
        replace hyp := hyp _ qh22.symm
        exact mf_return (mf_dat eX0_stepOutward 40 rfl) rfl hyp
    · replace hyp := hyp.2 hc
      exact mf_return (mf_dat eX0_stepOutward 21 rfl) rfl hyp
set_option maxRecDepth 100000 in
set_option maxHeartbeats 4000000 in
theorem mX0_setParts {C : mf_G} {l : Launch} {d n : Nat} {K : mf_Kt} {x0 x1 x2 x3 x4 : Int} {g h : mf_M} (hd : 1 ≤ d) (hyp : mf_is n x0 0 ∧ mf_is n (g x0 0) 3 ∧ (∀ v3 : Int, v3 = g (g x0 0) 0 → mf_is n x2 6 ∧ mf_is n v3 20 ∧ 0 < mf_len v3 ∧ (∀ h7 : mf_M, h7 = mf_up h v3 0 (h x2 7) → mf_is n (g x2 1) 20 ∧ 0 ≤ x3 ∧ x3 < mf_len (g x2 1) ∧ 1 < mf_len v3 ∧ (∀ h12 : mf_M, h12 = mf_up h7 v3 1 (h7 (g x2 1) x3) → mf_is n (g x2 2) 20 ∧ x3 < mf_len (g x2 2) ∧ 2 < mf_len v3 ∧ (∀ h16 : mf_M, h16 = mf_up h12 v3 2 (h12 (g x2 2) x3) → mf_is n x1 1 ∧ mf_is n (g x1 4) 20 ∧ x3 < mf_len (g x1 4) ∧ 3 < mf_len v3 ∧ (∀ h21 : mf_M, h21 = mf_up h16 v3 3 (h16 (g x1 4) x3) → mf_is n (g x2 3) 20 ∧ x3 < mf_len (g x2 3) ∧ 4 < mf_len v3 ∧ (∀ h25 : mf_M, h25 = mf_up h21 v3 4 (h21 (g x2 3) x3) → mf_MT C l 0 YX0_liesOpen [(0, x4), (0, h25 (g x2 1) x3)] n n g h25 (fun r26 g27 h28 => ((r26 = 0 → 5 < mf_len v3 ∧ (∀ h30 : mf_M, h30 = mf_up h28 v3 5 0 → K 0 g27 h30)) ∧ (¬ r26 = 0 → 5 < mf_len v3 ∧ (∀ h32 : mf_M, h32 = mf_up h28 v3 5 1 → K 0 g27 h32))))))))))) : mf_MT C l d YX0_setParts [(2, x0), (2, x1), (2, x2), (0, x3), (0, x4)] n n g h K := by
  refine mf_entry (by decide) (Nat.le_of_ble_eq_true rfl) ?_
  refine mf_aload_n (mf_dat eX0_setParts 0 rfl) rfl rfl ?_
  obtain ⟨ck1, hyp⟩ := hyp
  refine mf_getf (r := (RX0, TX0, 1)) (ci := 0) (k := 0) (t := 2) (v := g x0 0) (mf_dat eX0_setParts 1 rfl) fl_X0_12 rfl (by decide) rfl rfl ck1 ?_
  obtain ⟨ck2, hyp⟩ := hyp
  refine mf_getf (r := (RX3, TX3, 4)) (ci := 3) (k := 0) (t := 2) (v := g (g x0 0) 0) (mf_dat eX0_setParts 2 rfl) fl_X0_61 rfl (by decide) rfl rfl ck2 ?_
  generalize qv3 : g (g x0 0) 0 = v3
  replace hyp := hyp _ qv3.symm
  refine mf_astore (mf_dat eX0_setParts 3 rfl) (by decide) ?_
  refine mf_aload (mf_dat eX0_setParts 4 rfl) rfl ?_
  refine mf_iconst (v := 0) (mf_dat eX0_setParts 5 rfl) (by decide) ?_
  refine mf_aload_n (mf_dat eX0_setParts 6 rfl) rfl rfl ?_
  obtain ⟨ck4, hyp⟩ := hyp
  refine mf_getf (r := (RX6, TX6, 8)) (ci := 6) (k := 7) (t := 0) (v := h x2 7) (mf_dat eX0_setParts 7 rfl) fl_X0_90 rfl (by decide) rfl rfl ck4 ?_
  obtain ⟨ck5, hyp⟩ := hyp
  obtain ⟨ck6, hyp⟩ := hyp
  refine mf_iast (mf_dat eX0_setParts 8 rfl) ck5 (by decide) ck6 ?_
  generalize qh7 : mf_up h v3 0 (h x2 7) = h7
  replace hyp := hyp _ qh7.symm
  refine mf_aload (mf_dat eX0_setParts 9 rfl) rfl ?_
  refine mf_iconst (v := 1) (mf_dat eX0_setParts 10 rfl) (by decide) ?_
  refine mf_aload_n (mf_dat eX0_setParts 11 rfl) rfl rfl ?_
  refine mf_getf (r := (RX6, TX6, 8)) (ci := 6) (k := 1) (t := 2) (v := g x2 1) (mf_dat eX0_setParts 12 rfl) fl_X0_28 rfl (by decide) rfl rfl ck4 ?_
  refine mf_iload_n (mf_dat eX0_setParts 13 rfl) rfl rfl ?_
  obtain ⟨ck8, hyp⟩ := hyp
  obtain ⟨ck9, hyp⟩ := hyp
  obtain ⟨ck10, hyp⟩ := hyp
  refine mf_iald (mf_dat eX0_setParts 14 rfl) ck8 ck9 ck10 ?_
  obtain ⟨ck11, hyp⟩ := hyp
  refine mf_iast (mf_dat eX0_setParts 15 rfl) ck5 (by decide) ck11 ?_
  generalize qh12 : mf_up h7 v3 1 (h7 (g x2 1) x3) = h12
  replace hyp := hyp _ qh12.symm
  refine mf_aload (mf_dat eX0_setParts 16 rfl) rfl ?_
  refine mf_iconst (v := 2) (mf_dat eX0_setParts 17 rfl) (by decide) ?_
  refine mf_aload_n (mf_dat eX0_setParts 18 rfl) rfl rfl ?_
  refine mf_getf (r := (RX6, TX6, 8)) (ci := 6) (k := 2) (t := 2) (v := g x2 2) (mf_dat eX0_setParts 19 rfl) fl_X0_43 rfl (by decide) rfl rfl ck4 ?_
  refine mf_iload_n (mf_dat eX0_setParts 20 rfl) rfl rfl ?_
  obtain ⟨ck13, hyp⟩ := hyp
  obtain ⟨ck14, hyp⟩ := hyp
  refine mf_iald (mf_dat eX0_setParts 21 rfl) ck13 ck9 ck14 ?_
  obtain ⟨ck15, hyp⟩ := hyp
  refine mf_iast (mf_dat eX0_setParts 22 rfl) ck5 (by decide) ck15 ?_
  generalize qh16 : mf_up h12 v3 2 (h12 (g x2 2) x3) = h16
  replace hyp := hyp _ qh16.symm
  refine mf_aload (mf_dat eX0_setParts 23 rfl) rfl ?_
  refine mf_iconst (v := 3) (mf_dat eX0_setParts 24 rfl) (by decide) ?_
  refine mf_aload_n (mf_dat eX0_setParts 25 rfl) rfl rfl ?_
  obtain ⟨ck17, hyp⟩ := hyp
  refine mf_getf (r := (RX1, TX1, 14)) (ci := 1) (k := 4) (t := 2) (v := g x1 4) (mf_dat eX0_setParts 26 rfl) fl_X0_107 rfl (by decide) rfl rfl ck17 ?_
  refine mf_iload_n (mf_dat eX0_setParts 27 rfl) rfl rfl ?_
  obtain ⟨ck18, hyp⟩ := hyp
  obtain ⟨ck19, hyp⟩ := hyp
  refine mf_iald (mf_dat eX0_setParts 28 rfl) ck18 ck9 ck19 ?_
  obtain ⟨ck20, hyp⟩ := hyp
  refine mf_iast (mf_dat eX0_setParts 29 rfl) ck5 (by decide) ck20 ?_
  generalize qh21 : mf_up h16 v3 3 (h16 (g x1 4) x3) = h21
  replace hyp := hyp _ qh21.symm
  refine mf_aload (mf_dat eX0_setParts 30 rfl) rfl ?_
  refine mf_iconst (v := 4) (mf_dat eX0_setParts 31 rfl) (by decide) ?_
  refine mf_aload_n (mf_dat eX0_setParts 32 rfl) rfl rfl ?_
  refine mf_getf (r := (RX6, TX6, 8)) (ci := 6) (k := 3) (t := 2) (v := g x2 3) (mf_dat eX0_setParts 33 rfl) fl_X0_113 rfl (by decide) rfl rfl ck4 ?_
  refine mf_iload_n (mf_dat eX0_setParts 34 rfl) rfl rfl ?_
  obtain ⟨ck22, hyp⟩ := hyp
  obtain ⟨ck23, hyp⟩ := hyp
  refine mf_iald (mf_dat eX0_setParts 35 rfl) ck22 ck9 ck23 ?_
  obtain ⟨ck24, hyp⟩ := hyp
  refine mf_iast (mf_dat eX0_setParts 36 rfl) ck5 (by decide) ck24 ?_
  generalize qh25 : mf_up h21 v3 4 (h21 (g x2 3) x3) = h25
  replace hyp := hyp _ qh25.symm
  refine mf_aload (mf_dat eX0_setParts 37 rfl) rfl ?_
  refine mf_iconst (v := 5) (mf_dat eX0_setParts 38 rfl) (by decide) ?_
  refine mf_iload (mf_dat eX0_setParts 39 rfl) rfl ?_
  refine mf_aload_n (mf_dat eX0_setParts 40 rfl) rfl rfl ?_
  refine mf_getf (r := (RX6, TX6, 8)) (ci := 6) (k := 1) (t := 2) (v := g x2 1) (mf_dat eX0_setParts 41 rfl) fl_X0_28 rfl (by decide) rfl rfl ck4 ?_
  refine mf_iload_n (mf_dat eX0_setParts 42 rfl) rfl rfl ?_
  refine mf_iald (mf_dat eX0_setParts 43 rfl) ck8 ck9 ck10 ?_
  refine mf_callS (Yc := YX0_liesOpen) (mf_dat eX0_setParts 44 rfl) ml_X0_24 okX0_liesOpen sm_X0_liesOpen rfl rfl (Nat.le_of_ble_eq_true rfl) (mf_rr (Nat.le_trans (by decide) hd) (Nat.le_refl _)) (Nat.le_refl _) hyp (fun r26 g27 h28 hyp => ?_)
  refine mf_if_eq (tgt := 78) (mf_dat eX0_setParts 45 rfl) (by decide) (fun hc => ?_) (fun hc => ?_)
  · replace hyp := hyp.1 hc
    refine mf_iconst (v := 0) (mf_dat eX0_setParts 48 rfl) (by decide) ?_
    obtain ⟨ck29, hyp⟩ := hyp
    refine mf_iast (mf_dat eX0_setParts 49 rfl) ck5 (by decide) ck29 ?_
    generalize qh30 : mf_up h28 v3 5 0 = h30
    replace hyp := hyp _ qh30.symm
    exact mf_return (mf_dat eX0_setParts 50 rfl) rfl hyp
  · replace hyp := hyp.2 hc
    refine mf_iconst (v := 1) (mf_dat eX0_setParts 46 rfl) (by decide) ?_
    refine mf_goto (tgt := 79) (mf_dat eX0_setParts 47 rfl) (by decide) ?_
    obtain ⟨ck31, hyp⟩ := hyp
    refine mf_iast (mf_dat eX0_setParts 49 rfl) ck5 (by decide) ck31 ?_
    generalize qh32 : mf_up h28 v3 5 1 = h32
    replace hyp := hyp _ qh32.symm
    exact mf_return (mf_dat eX0_setParts 50 rfl) rfl hyp
abbrev JX0_reckonOf_42 (C : mf_G) (l : Launch) (d n : Nat) (K : mf_Kt) (x0 x1 x2 x3 x4 x5 x6 : Int) (g h : mf_M) : Prop := mf_AW C l YX0_reckonOf (mf_rm d n n) n (mf_Zm C YX0_reckonOf n n K) (fun _ _ => True) 42 [(0, (2, x0)), (1, (2, x1)), (2, (2, x2)), (3, (2, x3)), (4, (0, x4)), (5, (0, x5)), (6, (0, x6))] [] n g h
set_option maxRecDepth 100000 in
set_option maxHeartbeats 4000000 in
theorem bX0_reckonOf_42 {C : mf_G} {l : Launch} {d n : Nat} {K : mf_Kt} {x0 x1 x2 x3 x4 x5 x6 : Int} {g h : mf_M} (hd : 4 ≤ d) (hyp : ((8 ≤ x6 → mf_is n x0 0 ∧ mf_is n (g x0 0) 3 ∧ mf_MT C l 3 YX3_reckon [(2, g x0 0), (2, x1), (0, 0)] n n g h (fun r2 g3 h4 => K r2 g3 h4)) ∧ (¬ 8 ≤ x6 → mf_is n x0 0 ∧ mf_is n (g x0 0) 3 ∧ mf_is n x2 1 ∧ ((h x2 12 ≤ x6 → mf_is n (g (g x0 0) 1) 22 ∧ 0 ≤ x6 ∧ x6 < mf_len (g (g x0 0) 1) ∧ (∀ h12 : mf_M, h12 = mf_up h (g (g x0 0) 1) x6 0 → (∀ v13 : Int, v13 = mf_w32 (x6 + 1) → JX0_reckonOf_42 C l d n K x0 x1 x2 x3 x4 x5 v13 g h12))) ∧ (¬ h x2 12 ≤ x6 → ((x6 = x4 → mf_is n (g (g x0 0) 1) 22 ∧ 0 ≤ x6 ∧ x6 < mf_len (g (g x0 0) 1) ∧ (∀ h17 : mf_M, h17 = mf_up h (g (g x0 0) 1) x6 0 → (∀ v18 : Int, v18 = mf_w32 (x6 + 1) → JX0_reckonOf_42 C l d n K x0 x1 x2 x3 x4 x5 v18 g h17))) ∧ (¬ x6 = x4 → mf_MT C l 2 YX0_meet [(2, x2), (2, x3), (0, x4), (0, x6), (0, x5)] n n g h (fun r19 g20 h21 => ((r19 = 0 → mf_is n (g (g x0 0) 1) 22 ∧ 0 ≤ x6 ∧ x6 < mf_len (g (g x0 0) 1) ∧ (∀ h25 : mf_M, h25 = mf_up h21 (g (g x0 0) 1) x6 0 → (∀ v26 : Int, v26 = mf_w32 (x6 + 1) → JX0_reckonOf_42 C l d n K x0 x1 x2 x3 x4 x5 v26 g20 h25))) ∧ (¬ r19 = 0 → mf_is n (g (g x0 0) 1) 22 ∧ 0 ≤ x6 ∧ x6 < mf_len (g (g x0 0) 1) ∧ (∀ h30 : mf_M, h30 = mf_up h21 (g (g x0 0) 1) x6 1 → (∀ v31 : Int, v31 = mf_w32 (x6 + 1) → JX0_reckonOf_42 C l d n K x0 x1 x2 x3 x4 x5 v31 g20 h30)))))))))))) : JX0_reckonOf_42 C l d n K x0 x1 x2 x3 x4 x5 x6 g h := by
  refine mf_iload (mf_dat eX0_reckonOf 23 rfl) rfl ?_
  refine mf_bipush (v := 8) (mf_dat eX0_reckonOf 24 rfl) (by decide) ?_
  refine mf_icmp_ge (tgt := 100) (mf_dat eX0_reckonOf 25 rfl) (by decide) (fun hc => ?_) (fun hc => ?_)
  · replace hyp := hyp.1 hc
    refine mf_aload_n (mf_dat eX0_reckonOf 50 rfl) rfl rfl ?_
    obtain ⟨ck1, hyp⟩ := hyp
    refine mf_getf (r := (RX0, TX0, 1)) (ci := 0) (k := 0) (t := 2) (v := g x0 0) (mf_dat eX0_reckonOf 51 rfl) fl_X0_12 rfl (by decide) rfl rfl ck1 ?_
    refine mf_aload_n (mf_dat eX0_reckonOf 52 rfl) rfl rfl ?_
    refine mf_iconst (v := 0) (mf_dat eX0_reckonOf 53 rfl) (by decide) ?_
    obtain ⟨ck5, hyp⟩ := hyp
    refine mf_callV (Yc := YX3_reckon) (r := (RX3, TX3, 4)) (ci := 3) (mf_dat eX0_reckonOf 54 rfl) ml_X0_72 okX3_reckon im_X3_reckon sl_X3_reckon rfl rfl rfl rfl (Nat.le_of_ble_eq_true rfl) (mf_rr (Nat.le_trans (by decide) hd) (Nat.le_refl _)) (Nat.le_refl _) ck5 hyp (fun r2 g3 h4 hyp => ?_)
    exact mf_ireturn (mf_dat eX0_reckonOf 55 rfl) rfl (Or.inl rfl) hyp
  · replace hyp := hyp.2 hc
    refine mf_aload_n (mf_dat eX0_reckonOf 26 rfl) rfl rfl ?_
    obtain ⟨ck6, hyp⟩ := hyp
    refine mf_getf (r := (RX0, TX0, 1)) (ci := 0) (k := 0) (t := 2) (v := g x0 0) (mf_dat eX0_reckonOf 27 rfl) fl_X0_12 rfl (by decide) rfl rfl ck6 ?_
    obtain ⟨ck7, hyp⟩ := hyp
    refine mf_getf (r := (RX3, TX3, 4)) (ci := 3) (k := 1) (t := 2) (v := g (g x0 0) 1) (mf_dat eX0_reckonOf 28 rfl) fl_X0_126 rfl (by decide) rfl rfl ck7 ?_
    refine mf_iload (mf_dat eX0_reckonOf 29 rfl) rfl ?_
    refine mf_iload (mf_dat eX0_reckonOf 30 rfl) rfl ?_
    refine mf_aload_n (mf_dat eX0_reckonOf 31 rfl) rfl rfl ?_
    obtain ⟨ck8, hyp⟩ := hyp
    refine mf_getf (r := (RX1, TX1, 14)) (ci := 1) (k := 12) (t := 0) (v := h x2 12) (mf_dat eX0_reckonOf 32 rfl) fl_X0_54 rfl (by decide) rfl rfl ck8 ?_
    refine mf_icmp_ge (tgt := 92) (mf_dat eX0_reckonOf 33 rfl) (by decide) (fun hc => ?_) (fun hc => ?_)
    · replace hyp := hyp.1 hc
      refine mf_iconst (v := 0) (mf_dat eX0_reckonOf 46 rfl) (by decide) ?_
      obtain ⟨ck9, hyp⟩ := hyp
      obtain ⟨ck10, hyp⟩ := hyp
      obtain ⟨ck11, hyp⟩ := hyp
      refine mf_zast (mf_dat eX0_reckonOf 47 rfl) ck9 ck10 ck11 (by decide) ?_
      generalize qh12 : mf_up h (g (g x0 0) 1) x6 0 = h12
      replace hyp := hyp _ qh12.symm
      refine mf_iinc (mf_dat eX0_reckonOf 48 rfl) rfl (by decide) (by decide) ?_
      generalize qv13 : mf_w32 (x6 + 1) = v13
      replace hyp := hyp _ qv13.symm
      refine mf_goto (tgt := 42) (mf_dat eX0_reckonOf 49 rfl) (by decide) ?_
      exact mf_sub [1, 2, 3, 4, 5, 6, 0] rfl hyp
    · replace hyp := hyp.2 hc
      refine mf_iload (mf_dat eX0_reckonOf 34 rfl) rfl ?_
      refine mf_iload (mf_dat eX0_reckonOf 35 rfl) rfl ?_
      refine mf_icmp_eq (tgt := 92) (mf_dat eX0_reckonOf 36 rfl) (by decide) (fun hc => ?_) (fun hc => ?_)
      · replace hyp := hyp.1 hc
        refine mf_iconst (v := 0) (mf_dat eX0_reckonOf 46 rfl) (by decide) ?_
        obtain ⟨ck14, hyp⟩ := hyp
        obtain ⟨ck15, hyp⟩ := hyp
        obtain ⟨ck16, hyp⟩ := hyp
        refine mf_zast (mf_dat eX0_reckonOf 47 rfl) ck14 ck15 ck16 (by decide) ?_
        generalize qh17 : mf_up h (g (g x0 0) 1) x6 0 = h17
        replace hyp := hyp _ qh17.symm
        refine mf_iinc (mf_dat eX0_reckonOf 48 rfl) rfl (by decide) (by decide) ?_
        generalize qv18 : mf_w32 (x6 + 1) = v18
        replace hyp := hyp _ qv18.symm
        refine mf_goto (tgt := 42) (mf_dat eX0_reckonOf 49 rfl) (by decide) ?_
        exact mf_sub [1, 2, 3, 4, 5, 6, 0] rfl hyp
      · replace hyp := hyp.2 hc
        refine mf_aload_n (mf_dat eX0_reckonOf 37 rfl) rfl rfl ?_
        refine mf_aload_n (mf_dat eX0_reckonOf 38 rfl) rfl rfl ?_
        refine mf_iload (mf_dat eX0_reckonOf 39 rfl) rfl ?_
        refine mf_iload (mf_dat eX0_reckonOf 40 rfl) rfl ?_
        refine mf_iload (mf_dat eX0_reckonOf 41 rfl) rfl ?_
        refine mf_callS (Yc := YX0_meet) (mf_dat eX0_reckonOf 42 rfl) ml_X0_57 okX0_meet sm_X0_meet rfl rfl (Nat.le_of_ble_eq_true rfl) (mf_rr (Nat.le_trans (by decide) hd) (Nat.le_refl _)) (Nat.le_refl _) hyp (fun r19 g20 h21 hyp => ?_)
        refine mf_if_eq (tgt := 92) (mf_dat eX0_reckonOf 43 rfl) (by decide) (fun hc => ?_) (fun hc => ?_)
        · replace hyp := hyp.1 hc
          refine mf_iconst (v := 0) (mf_dat eX0_reckonOf 46 rfl) (by decide) ?_
          obtain ⟨ck22, hyp⟩ := hyp
          obtain ⟨ck23, hyp⟩ := hyp
          obtain ⟨ck24, hyp⟩ := hyp
          refine mf_zast (mf_dat eX0_reckonOf 47 rfl) ck22 ck23 ck24 (by decide) ?_
          generalize qh25 : mf_up h21 (g (g x0 0) 1) x6 0 = h25
          replace hyp := hyp _ qh25.symm
          refine mf_iinc (mf_dat eX0_reckonOf 48 rfl) rfl (by decide) (by decide) ?_
          generalize qv26 : mf_w32 (x6 + 1) = v26
          replace hyp := hyp _ qv26.symm
          refine mf_goto (tgt := 42) (mf_dat eX0_reckonOf 49 rfl) (by decide) ?_
          exact mf_sub [1, 2, 3, 4, 5, 6, 0] rfl hyp
        · replace hyp := hyp.2 hc
          refine mf_iconst (v := 1) (mf_dat eX0_reckonOf 44 rfl) (by decide) ?_
          refine mf_goto (tgt := 93) (mf_dat eX0_reckonOf 45 rfl) (by decide) ?_
          obtain ⟨ck27, hyp⟩ := hyp
          obtain ⟨ck28, hyp⟩ := hyp
          obtain ⟨ck29, hyp⟩ := hyp
          refine mf_zast (mf_dat eX0_reckonOf 47 rfl) ck27 ck28 ck29 (by decide) ?_
          generalize qh30 : mf_up h21 (g (g x0 0) 1) x6 1 = h30
          replace hyp := hyp _ qh30.symm
          refine mf_iinc (mf_dat eX0_reckonOf 48 rfl) rfl (by decide) (by decide) ?_
          generalize qv31 : mf_w32 (x6 + 1) = v31
          replace hyp := hyp _ qv31.symm
          refine mf_goto (tgt := 42) (mf_dat eX0_reckonOf 49 rfl) (by decide) ?_
          exact mf_sub [1, 2, 3, 4, 5, 6, 0] rfl hyp
set_option maxRecDepth 100000 in
set_option maxHeartbeats 4000000 in
theorem mX0_reckonOf {C : mf_G} {l : Launch} {d n : Nat} {K : mf_Kt} {x0 x1 x2 x3 x4 x5 : Int} {g h : mf_M} (hd : 2 ≤ d) (hyp : mf_is n x0 0 ∧ mf_MT C l 1 YX0_setParts [(2, x0), (2, x2), (2, x3), (0, x4), (0, x5)] n n g h (fun r1 g2 h3 => mf_is n (g2 x0 0) 3 ∧ mf_is n (g2 (g2 x0 0) 0) 20 ∧ 7 < mf_len (g2 (g2 x0 0) 0) ∧ (∀ h8 : mf_M, h8 = mf_up h3 (g2 (g2 x0 0) 0) 7 x4 → mf_is n x3 6 ∧ mf_is n (g2 x3 4) 20 ∧ 0 ≤ x4 ∧ x4 < mf_len (g2 x3 4) ∧ 8 < mf_len (g2 (g2 x0 0) 0) ∧ (∀ h14 : mf_M, h14 = mf_up h8 (g2 (g2 x0 0) 0) 8 (h8 (g2 x3 4) x4) → JX0_reckonOf_42 C l d n K x0 x1 x2 x3 x4 x5 0 g2 h14)))) : mf_MT C l d YX0_reckonOf [(2, x0), (2, x1), (2, x2), (2, x3), (0, x4), (0, x5)] n n g h K := by
  refine mf_entry (by decide) (Nat.le_of_ble_eq_true rfl) ?_
  refine mf_aload_n (mf_dat eX0_reckonOf 0 rfl) rfl rfl ?_
  refine mf_aload_n (mf_dat eX0_reckonOf 1 rfl) rfl rfl ?_
  refine mf_aload_n (mf_dat eX0_reckonOf 2 rfl) rfl rfl ?_
  refine mf_iload (mf_dat eX0_reckonOf 3 rfl) rfl ?_
  refine mf_iload (mf_dat eX0_reckonOf 4 rfl) rfl ?_
  obtain ⟨ck4, hyp⟩ := hyp
  refine mf_callV (Yc := YX0_setParts) (r := (RX0, TX0, 1)) (ci := 0) (mf_dat eX0_reckonOf 5 rfl) ml_X0_104 okX0_setParts im_X0_setParts sl_X0_setParts rfl rfl rfl rfl (Nat.le_of_ble_eq_true rfl) (mf_rr (Nat.le_trans (by decide) hd) (Nat.le_refl _)) (Nat.le_refl _) ck4 hyp (fun r1 g2 h3 hyp => ?_)
  refine mf_aload_n (mf_dat eX0_reckonOf 6 rfl) rfl rfl ?_
  refine mf_getf (r := (RX0, TX0, 1)) (ci := 0) (k := 0) (t := 2) (v := g2 x0 0) (mf_dat eX0_reckonOf 7 rfl) fl_X0_12 rfl (by decide) rfl rfl ck4 ?_
  obtain ⟨ck5, hyp⟩ := hyp
  refine mf_getf (r := (RX3, TX3, 4)) (ci := 3) (k := 0) (t := 2) (v := g2 (g2 x0 0) 0) (mf_dat eX0_reckonOf 8 rfl) fl_X0_61 rfl (by decide) rfl rfl ck5 ?_
  refine mf_bipush (v := 7) (mf_dat eX0_reckonOf 9 rfl) (by decide) ?_
  refine mf_iload (mf_dat eX0_reckonOf 10 rfl) rfl ?_
  obtain ⟨ck6, hyp⟩ := hyp
  obtain ⟨ck7, hyp⟩ := hyp
  refine mf_iast (mf_dat eX0_reckonOf 11 rfl) ck6 (by decide) ck7 ?_
  generalize qh8 : mf_up h3 (g2 (g2 x0 0) 0) 7 x4 = h8
  replace hyp := hyp _ qh8.symm
  refine mf_aload_n (mf_dat eX0_reckonOf 12 rfl) rfl rfl ?_
  refine mf_getf (r := (RX0, TX0, 1)) (ci := 0) (k := 0) (t := 2) (v := g2 x0 0) (mf_dat eX0_reckonOf 13 rfl) fl_X0_12 rfl (by decide) rfl rfl ck4 ?_
  refine mf_getf (r := (RX3, TX3, 4)) (ci := 3) (k := 0) (t := 2) (v := g2 (g2 x0 0) 0) (mf_dat eX0_reckonOf 14 rfl) fl_X0_61 rfl (by decide) rfl rfl ck5 ?_
  refine mf_bipush (v := 8) (mf_dat eX0_reckonOf 15 rfl) (by decide) ?_
  refine mf_aload_n (mf_dat eX0_reckonOf 16 rfl) rfl rfl ?_
  obtain ⟨ck9, hyp⟩ := hyp
  refine mf_getf (r := (RX6, TX6, 8)) (ci := 6) (k := 4) (t := 2) (v := g2 x3 4) (mf_dat eX0_reckonOf 17 rfl) fl_X0_93 rfl (by decide) rfl rfl ck9 ?_
  refine mf_iload (mf_dat eX0_reckonOf 18 rfl) rfl ?_
  obtain ⟨ck10, hyp⟩ := hyp
  obtain ⟨ck11, hyp⟩ := hyp
  obtain ⟨ck12, hyp⟩ := hyp
  refine mf_iald (mf_dat eX0_reckonOf 19 rfl) ck10 ck11 ck12 ?_
  obtain ⟨ck13, hyp⟩ := hyp
  refine mf_iast (mf_dat eX0_reckonOf 20 rfl) ck6 (by decide) ck13 ?_
  generalize qh14 : mf_up h8 (g2 (g2 x0 0) 0) 8 (h8 (g2 x3 4) x4) = h14
  replace hyp := hyp _ qh14.symm
  refine mf_iconst (v := 0) (mf_dat eX0_reckonOf 21 rfl) (by decide) ?_
  refine mf_istore (mf_dat eX0_reckonOf 22 rfl) (by decide) ?_
  exact mf_sub [1, 2, 3, 4, 5, 6, 0] rfl hyp
set_option maxRecDepth 100000 in
set_option maxHeartbeats 4000000 in
theorem mX1_init {C : mf_G} {l : Launch} {d n0 n1 : Nat} {K : mf_Kt} {x0 : Int} {g h : mf_M} (hd : 2 ≤ d) (hyp : 0 ≤ x0 ∧ mf_sh n0 = (20, 12) ∧ mf_more (mf_rm d n0 n1) n0 n0 ∧ (∀ j : Nat, g n0 j = -1) ∧ (∀ j : Nat, h n0 j = 0) ∧ mf_is (n0 + 1) x0 1 ∧ (∀ g7 : mf_M, g7 = mf_up g x0 0 ((n0 : Nat) : Int) → mf_sh (n0 + 1) = (20, 12) ∧ mf_more (mf_rm d n0 n1) n0 (n0 + 1) ∧ (∀ j : Nat, g7 (n0 + 1) j = -1) ∧ (∀ j : Nat, h (n0 + 1) j = 0) ∧ mf_is (n0 + 2) x0 1 ∧ (∀ g13 : mf_M, g13 = mf_up g7 x0 1 ((n0 + 1 : Nat) : Int) → mf_sh (n0 + 2) = (20, 12) ∧ mf_more (mf_rm d n0 n1) n0 (n0 + 2) ∧ (∀ j : Nat, g13 (n0 + 2) j = -1) ∧ (∀ j : Nat, h (n0 + 2) j = 0) ∧ mf_is (n0 + 3) x0 1 ∧ (∀ g19 : mf_M, g19 = mf_up g13 x0 2 ((n0 + 2 : Nat) : Int) → mf_sh (n0 + 3) = (20, 8) ∧ mf_more (mf_rm d n0 n1) n0 (n0 + 3) ∧ (∀ j : Nat, g19 (n0 + 3) j = -1) ∧ (∀ j : Nat, h (n0 + 3) j = 0) ∧ mf_is (n0 + 4) x0 1 ∧ (∀ g25 : mf_M, g25 = mf_up g19 x0 3 ((n0 + 3 : Nat) : Int) → mf_sh (n0 + 4) = (20, 8) ∧ mf_more (mf_rm d n0 n1) n0 (n0 + 4) ∧ (∀ j : Nat, g25 (n0 + 4) j = -1) ∧ (∀ j : Nat, h (n0 + 4) j = 0) ∧ mf_is (n0 + 5) x0 1 ∧ (∀ g31 : mf_M, g31 = mf_up g25 x0 4 ((n0 + 4 : Nat) : Int) → (mf_sh (n0 + 5)).1 = 4 ∧ mf_more (mf_rm d n0 n1) n0 (n0 + 5) ∧ (∀ j : Nat, g31 (n0 + 5) j = -1) ∧ (∀ j : Nat, h (n0 + 5) j = 0) ∧ (∀ v36 : Int, v36 = ((n0 + 5 : Nat) : Int) → n0 + 9 ≤ n1 ∧ 0 ≤ v36 ∧ mf_MT C l 1 YX4_init [(2, v36)] (n0 + 6) (n0 + 9) g31 h (fun r38 g39 h40 => mf_is (n0 + 9) x0 1 ∧ (∀ g43 : mf_M, g43 = mf_up g39 x0 5 v36 → (mf_sh (n0 + 9)).1 = 6 ∧ mf_more (mf_rm d n0 n1) n0 (n0 + 9) ∧ (∀ j : Nat, g43 (n0 + 9) j = -1) ∧ (∀ j : Nat, h40 (n0 + 9) j = 0) ∧ (∀ v48 : Int, v48 = ((n0 + 9 : Nat) : Int) → n0 + 16 ≤ n1 ∧ 0 ≤ v48 ∧ mf_MT C l 1 YX6_init [(2, v48)] (n0 + 10) (n0 + 16) g43 h40 (fun r50 g51 h52 => mf_is (n0 + 16) x0 1 ∧ (∀ g55 : mf_M, g55 = mf_up g51 x0 6 v48 → n0 + 16 = n1 ∧ K 0 g55 h52)))))))))))) : mf_MT C l d YX1_init [(2, x0)] n0 n1 g h K := by
  refine mf_entry (by decide) (Nat.le_of_ble_eq_true rfl) ?_
  refine mf_aload_n (mf_dat eX1_init 0 rfl) rfl rfl ?_
  obtain ⟨ck1, hyp⟩ := hyp
  refine mf_objInit (mf_dat eX1_init 1 rfl) ml_X1_3 im_obj co_obj (mf_rmf hd) (mf_rml hd (Nat.le_of_ble_eq_true rfl)) ck1 ?_
  refine mf_aload_n (mf_dat eX1_init 2 rfl) rfl rfl ?_
  refine mf_bipush (v := 12) (mf_dat eX1_init 3 rfl) (by decide) ?_
  obtain ⟨ck2, hyp⟩ := hyp
  obtain ⟨ck3, hyp⟩ := hyp
  obtain ⟨ck4, hyp⟩ := hyp
  obtain ⟨ck5, hyp⟩ := hyp
  refine mf_newa (at_ := .int) (i := 0) (mf_dat eX1_init 4 rfl) ac_20 rfl ck2 rfl (by decide) rfl rfl (by decide) (by intro c; simp) (by decide) ck3 ck4 ck5 ?_
  obtain ⟨ck6, hyp⟩ := hyp
  refine mf_putRF (r := (RX1, TX1, 14)) (ci := 1) (k := 0) (kI := 0) (t := 2) (mf_dat eX1_init 5 rfl) fl_X1_9 rfl rfl (by decide) rfl (by decide) rfl rfl rfl (by decide) (fun h9 => absurd h9 (by decide)) ck6 ?_
  generalize qg7 : mf_up g x0 0 ((n0 : Nat) : Int) = g7
  replace hyp := hyp _ qg7.symm
  refine mf_aload_n (mf_dat eX1_init 6 rfl) rfl rfl ?_
  refine mf_bipush (v := 12) (mf_dat eX1_init 7 rfl) (by decide) ?_
  obtain ⟨ck8, hyp⟩ := hyp
  obtain ⟨ck9, hyp⟩ := hyp
  obtain ⟨ck10, hyp⟩ := hyp
  obtain ⟨ck11, hyp⟩ := hyp
  refine mf_newa (at_ := .int) (i := 0) (mf_dat eX1_init 8 rfl) ac_20 rfl ck8 rfl (by decide) rfl rfl (by decide) (by intro c; simp) (by decide) ck9 ck10 ck11 ?_
  obtain ⟨ck12, hyp⟩ := hyp
  refine mf_putRF (r := (RX1, TX1, 14)) (ci := 1) (k := 1) (kI := 1) (t := 2) (mf_dat eX1_init 9 rfl) fl_X1_15 rfl rfl (by decide) rfl (by decide) rfl rfl rfl (by decide) (fun h9 => absurd h9 (by decide)) ck12 ?_
  generalize qg13 : mf_up g7 x0 1 ((n0 + 1 : Nat) : Int) = g13
  replace hyp := hyp _ qg13.symm
  refine mf_aload_n (mf_dat eX1_init 10 rfl) rfl rfl ?_
  refine mf_bipush (v := 12) (mf_dat eX1_init 11 rfl) (by decide) ?_
  obtain ⟨ck14, hyp⟩ := hyp
  obtain ⟨ck15, hyp⟩ := hyp
  obtain ⟨ck16, hyp⟩ := hyp
  obtain ⟨ck17, hyp⟩ := hyp
  refine mf_newa (at_ := .int) (i := 0) (mf_dat eX1_init 12 rfl) ac_20 rfl ck14 rfl (by decide) rfl rfl (by decide) (by intro c; simp) (by decide) ck15 ck16 ck17 ?_
  obtain ⟨ck18, hyp⟩ := hyp
  refine mf_putRF (r := (RX1, TX1, 14)) (ci := 1) (k := 2) (kI := 2) (t := 2) (mf_dat eX1_init 13 rfl) fl_X1_18 rfl rfl (by decide) rfl (by decide) rfl rfl rfl (by decide) (fun h9 => absurd h9 (by decide)) ck18 ?_
  generalize qg19 : mf_up g13 x0 2 ((n0 + 2 : Nat) : Int) = g19
  replace hyp := hyp _ qg19.symm
  refine mf_aload_n (mf_dat eX1_init 14 rfl) rfl rfl ?_
  refine mf_bipush (v := 8) (mf_dat eX1_init 15 rfl) (by decide) ?_
  obtain ⟨ck20, hyp⟩ := hyp
  obtain ⟨ck21, hyp⟩ := hyp
  obtain ⟨ck22, hyp⟩ := hyp
  obtain ⟨ck23, hyp⟩ := hyp
  refine mf_newa (at_ := .int) (i := 0) (mf_dat eX1_init 16 rfl) ac_20 rfl ck20 rfl (by decide) rfl rfl (by decide) (by intro c; simp) (by decide) ck21 ck22 ck23 ?_
  obtain ⟨ck24, hyp⟩ := hyp
  refine mf_putRF (r := (RX1, TX1, 14)) (ci := 1) (k := 3) (kI := 3) (t := 2) (mf_dat eX1_init 17 rfl) fl_X1_21 rfl rfl (by decide) rfl (by decide) rfl rfl rfl (by decide) (fun h9 => absurd h9 (by decide)) ck24 ?_
  generalize qg25 : mf_up g19 x0 3 ((n0 + 3 : Nat) : Int) = g25
  replace hyp := hyp _ qg25.symm
  refine mf_aload_n (mf_dat eX1_init 18 rfl) rfl rfl ?_
  refine mf_bipush (v := 8) (mf_dat eX1_init 19 rfl) (by decide) ?_
  obtain ⟨ck26, hyp⟩ := hyp
  obtain ⟨ck27, hyp⟩ := hyp
  obtain ⟨ck28, hyp⟩ := hyp
  obtain ⟨ck29, hyp⟩ := hyp
  refine mf_newa (at_ := .int) (i := 0) (mf_dat eX1_init 20 rfl) ac_20 rfl ck26 rfl (by decide) rfl rfl (by decide) (by intro c; simp) (by decide) ck27 ck28 ck29 ?_
  obtain ⟨ck30, hyp⟩ := hyp
  refine mf_putRF (r := (RX1, TX1, 14)) (ci := 1) (k := 4) (kI := 4) (t := 2) (mf_dat eX1_init 21 rfl) fl_X1_24 rfl rfl (by decide) rfl (by decide) rfl rfl rfl (by decide) (fun h9 => absurd h9 (by decide)) ck30 ?_
  generalize qg31 : mf_up g25 x0 4 ((n0 + 4 : Nat) : Int) = g31
  replace hyp := hyp _ qg31.symm
  refine mf_aload_n (mf_dat eX1_init 22 rfl) rfl rfl ?_
  obtain ⟨ck32, hyp⟩ := hyp
  obtain ⟨ck33, hyp⟩ := hyp
  obtain ⟨ck34, hyp⟩ := hyp
  obtain ⟨ck35, hyp⟩ := hyp
  refine mf_new (r := (RX4, TX4, 5)) (ci := 4) (mf_dat eX1_init 23 rfl) kl_X1_27 in_X4 ii_X4 rfl (by decide) ck32 ck33 ck34 ck35 ?_
  generalize qv36 : ((n0 + 5 : Nat) : Int) = v36
  replace hyp := hyp _ qv36.symm
  refine mf_dup (mf_dat eX1_init 24 rfl) (by decide) ?_
  obtain ⟨ck37, hyp⟩ := hyp
  obtain ⟨ck41, hyp⟩ := hyp
  refine mf_callIN (Yc := YX4_init) (host := "MarginFolk") (mf_dat eX1_init 25 rfl) (List.mem_of_getElem? (i := 3) rfl) okX4_init im_X4_init rfl rfl rfl rfl (Nat.le_of_ble_eq_true rfl) (mf_rr (Nat.le_trans (by decide) hd) ck37) (by omega) ck41 hyp (fun r38 g39 h40 hyp => ?_)
  obtain ⟨ck42, hyp⟩ := hyp
  refine mf_putRF (r := (RX1, TX1, 14)) (ci := 1) (k := 5) (kI := 5) (t := 2) (mf_dat eX1_init 26 rfl) fl_X1_30 rfl rfl (by decide) rfl (by decide) rfl rfl rfl (by decide) (fun h9 => absurd h9 (by decide)) ck42 ?_
  generalize qg43 : mf_up g39 x0 5 v36 = g43
  replace hyp := hyp _ qg43.symm
  refine mf_aload_n (mf_dat eX1_init 27 rfl) rfl rfl ?_
  obtain ⟨ck44, hyp⟩ := hyp
  obtain ⟨ck45, hyp⟩ := hyp
  obtain ⟨ck46, hyp⟩ := hyp
  obtain ⟨ck47, hyp⟩ := hyp
  refine mf_new (r := (RX6, TX6, 8)) (ci := 6) (mf_dat eX1_init 28 rfl) kl_X1_34 in_X6 ii_X6 rfl (by decide) ck44 ck45 ck46 ck47 ?_
  generalize qv48 : ((n0 + 9 : Nat) : Int) = v48
  replace hyp := hyp _ qv48.symm
  refine mf_dup (mf_dat eX1_init 29 rfl) (by decide) ?_
  obtain ⟨ck49, hyp⟩ := hyp
  obtain ⟨ck53, hyp⟩ := hyp
  refine mf_callIN (Yc := YX6_init) (host := "MarginFolk") (mf_dat eX1_init 30 rfl) (List.mem_of_getElem? (i := 4) rfl) okX6_init im_X6_init rfl rfl rfl rfl (Nat.le_of_ble_eq_true rfl) (mf_rr (Nat.le_trans (by decide) hd) ck49) (by omega) ck53 hyp (fun r50 g51 h52 hyp => ?_)
  obtain ⟨ck54, hyp⟩ := hyp
  refine mf_putRF (r := (RX1, TX1, 14)) (ci := 1) (k := 6) (kI := 6) (t := 2) (mf_dat eX1_init 31 rfl) fl_X1_37 rfl rfl (by decide) rfl (by decide) rfl rfl rfl (by decide) (fun h9 => absurd h9 (by decide)) ck54 ?_
  generalize qg55 : mf_up g51 x0 6 v48 = g55
  replace hyp := hyp _ qg55.symm
  obtain ⟨ck56, hyp⟩ := hyp
  subst ck56
  exact mf_return (mf_dat eX1_init 32 rfl) rfl hyp
set_option maxRecDepth 100000 in
set_option maxHeartbeats 4000000 in
theorem mX1_forget {C : mf_G} {l : Launch} {d n : Nat} {K : mf_Kt} {x0 : Int} {g h : mf_M} (hd : 1 ≤ d) (hyp : mf_is n x0 1 ∧ (∀ h2 : mf_M, h2 = mf_up h x0 7 0 → (∀ h3 : mf_M, h3 = mf_up h2 x0 8 0 → (∀ h4 : mf_M, h4 = mf_up h3 x0 9 0 → (∀ h5 : mf_M, h5 = mf_up h4 x0 10 0 → (∀ h6 : mf_M, h6 = mf_up h5 x0 11 0 → (∀ h7 : mf_M, h7 = mf_up h6 x0 12 0 → (∀ h8 : mf_M, h8 = mf_up h7 x0 13 0 → mf_is n (g x0 5) 4 ∧ mf_MT C l 0 YX4_forget [(2, g x0 5)] n n g h8 (fun r9 g10 h11 => mf_is n (g10 x0 6) 6 ∧ mf_MT C l 0 YX6_forget [(2, g10 x0 6)] n n g10 h11 (fun r13 g14 h15 => K 0 g14 h15)))))))))) : mf_MT C l d YX1_forget [(2, x0)] n n g h K := by
  refine mf_entry (by decide) (Nat.le_of_ble_eq_true rfl) ?_
  refine mf_aload_n (mf_dat eX1_forget 0 rfl) rfl rfl ?_
  refine mf_iconst (v := 0) (mf_dat eX1_forget 1 rfl) (by decide) ?_
  obtain ⟨ck1, hyp⟩ := hyp
  refine mf_putI (r := (RX1, TX1, 14)) (ci := 1) (k := 7) (kI := 7) (t := 0) (mf_dat eX1_forget 2 rfl) fl_X1_41 rfl rfl (by decide) rfl (by decide) rfl (by decide) (fun h9 => absurd h9 (by decide)) ck1 ?_
  generalize qh2 : mf_up h x0 7 0 = h2
  replace hyp := hyp _ qh2.symm
  refine mf_aload_n (mf_dat eX1_forget 3 rfl) rfl rfl ?_
  refine mf_iconst (v := 0) (mf_dat eX1_forget 4 rfl) (by decide) ?_
  refine mf_putI (r := (RX1, TX1, 14)) (ci := 1) (k := 8) (kI := 8) (t := 0) (mf_dat eX1_forget 5 rfl) fl_X1_45 rfl rfl (by decide) rfl (by decide) rfl (by decide) (fun h9 => absurd h9 (by decide)) ck1 ?_
  generalize qh3 : mf_up h2 x0 8 0 = h3
  replace hyp := hyp _ qh3.symm
  refine mf_aload_n (mf_dat eX1_forget 6 rfl) rfl rfl ?_
  refine mf_iconst (v := 0) (mf_dat eX1_forget 7 rfl) (by decide) ?_
  refine mf_putI (r := (RX1, TX1, 14)) (ci := 1) (k := 9) (kI := 9) (t := 0) (mf_dat eX1_forget 8 rfl) fl_X1_48 rfl rfl (by decide) rfl (by decide) rfl (by decide) (fun h9 => absurd h9 (by decide)) ck1 ?_
  generalize qh4 : mf_up h3 x0 9 0 = h4
  replace hyp := hyp _ qh4.symm
  refine mf_aload_n (mf_dat eX1_forget 9 rfl) rfl rfl ?_
  refine mf_iconst (v := 0) (mf_dat eX1_forget 10 rfl) (by decide) ?_
  refine mf_putI (r := (RX1, TX1, 14)) (ci := 1) (k := 10) (kI := 10) (t := 0) (mf_dat eX1_forget 11 rfl) fl_X1_51 rfl rfl (by decide) rfl (by decide) rfl (by decide) (fun h9 => absurd h9 (by decide)) ck1 ?_
  generalize qh5 : mf_up h4 x0 10 0 = h5
  replace hyp := hyp _ qh5.symm
  refine mf_aload_n (mf_dat eX1_forget 12 rfl) rfl rfl ?_
  refine mf_iconst (v := 0) (mf_dat eX1_forget 13 rfl) (by decide) ?_
  refine mf_putI (r := (RX1, TX1, 14)) (ci := 1) (k := 11) (kI := 11) (t := 0) (mf_dat eX1_forget 14 rfl) fl_X1_54 rfl rfl (by decide) rfl (by decide) rfl (by decide) (fun h9 => absurd h9 (by decide)) ck1 ?_
  generalize qh6 : mf_up h5 x0 11 0 = h6
  replace hyp := hyp _ qh6.symm
  refine mf_aload_n (mf_dat eX1_forget 15 rfl) rfl rfl ?_
  refine mf_iconst (v := 0) (mf_dat eX1_forget 16 rfl) (by decide) ?_
  refine mf_putI (r := (RX1, TX1, 14)) (ci := 1) (k := 12) (kI := 12) (t := 0) (mf_dat eX1_forget 17 rfl) fl_X1_57 rfl rfl (by decide) rfl (by decide) rfl (by decide) (fun h9 => absurd h9 (by decide)) ck1 ?_
  generalize qh7 : mf_up h6 x0 12 0 = h7
  replace hyp := hyp _ qh7.symm
  refine mf_aload_n (mf_dat eX1_forget 18 rfl) rfl rfl ?_
  refine mf_iconst (v := 0) (mf_dat eX1_forget 19 rfl) (by decide) ?_
  refine mf_putI (r := (RX1, TX1, 14)) (ci := 1) (k := 13) (kI := 13) (t := 0) (mf_dat eX1_forget 20 rfl) fl_X1_60 rfl rfl (by decide) rfl (by decide) rfl (by decide) (fun h9 => absurd h9 (by decide)) ck1 ?_
  generalize qh8 : mf_up h7 x0 13 0 = h8
  replace hyp := hyp _ qh8.symm
  refine mf_aload_n (mf_dat eX1_forget 21 rfl) rfl rfl ?_
  refine mf_getf (r := (RX1, TX1, 14)) (ci := 1) (k := 5) (t := 2) (v := g x0 5) (mf_dat eX1_forget 22 rfl) fl_X1_30 rfl (by decide) rfl rfl ck1 ?_
  obtain ⟨ck12, hyp⟩ := hyp
  refine mf_callV (Yc := YX4_forget) (r := (RX4, TX4, 5)) (ci := 4) (mf_dat eX1_forget 23 rfl) ml_X1_63 okX4_forget im_X4_forget sl_X4_forget rfl rfl rfl rfl (Nat.le_of_ble_eq_true rfl) (mf_rr (Nat.le_trans (by decide) hd) (Nat.le_refl _)) (Nat.le_refl _) ck12 hyp (fun r9 g10 h11 hyp => ?_)
  refine mf_aload_n (mf_dat eX1_forget 24 rfl) rfl rfl ?_
  refine mf_getf (r := (RX1, TX1, 14)) (ci := 1) (k := 6) (t := 2) (v := g10 x0 6) (mf_dat eX1_forget 25 rfl) fl_X1_37 rfl (by decide) rfl rfl ck1 ?_
  obtain ⟨ck16, hyp⟩ := hyp
  refine mf_callV (Yc := YX6_forget) (r := (RX6, TX6, 8)) (ci := 6) (mf_dat eX1_forget 26 rfl) ml_X1_66 okX6_forget im_X6_forget sl_X6_forget rfl rfl rfl rfl (Nat.le_of_ble_eq_true rfl) (mf_rr (Nat.le_trans (by decide) hd) (Nat.le_refl _)) (Nat.le_refl _) ck16 hyp (fun r13 g14 h15 hyp => ?_)
  exact mf_return (mf_dat eX1_forget 27 rfl) rfl hyp
set_option maxRecDepth 100000 in
set_option maxHeartbeats 4000000 in
theorem mX1_addWorm {C : mf_G} {l : Launch} {d n : Nat} {K : mf_Kt} {x0 x1 x2 x3 : Int} {g h : mf_M} (hyp : mf_is n x0 1 ∧ ((12 ≤ h x0 11 → K 0 g h) ∧ (¬ 12 ≤ h x0 11 → mf_is n (g x0 0) 20 ∧ 0 ≤ h x0 11 ∧ h x0 11 < mf_len (g x0 0) ∧ (∀ h5 : mf_M, h5 = mf_up h (g x0 0) (h x0 11) x1 → mf_is n (g x0 1) 20 ∧ 0 ≤ h5 x0 11 ∧ h5 x0 11 < mf_len (g x0 1) ∧ (∀ h9 : mf_M, h9 = mf_up h5 (g x0 1) (h5 x0 11) x2 → mf_is n (g x0 2) 20 ∧ 0 ≤ h9 x0 11 ∧ h9 x0 11 < mf_len (g x0 2) ∧ (∀ h13 : mf_M, h13 = mf_up h9 (g x0 2) (h9 x0 11) x3 → (∀ h14 : mf_M, h14 = mf_up h13 x0 11 (mf_w32 ((h13 x0 11) + 1)) → K 0 g h14))))))) : mf_MT C l d YX1_addWorm [(2, x0), (0, x1), (0, x2), (0, x3)] n n g h K := by
  refine mf_entry (by decide) (Nat.le_of_ble_eq_true rfl) ?_
  refine mf_aload_n (mf_dat eX1_addWorm 0 rfl) rfl rfl ?_
  obtain ⟨ck1, hyp⟩ := hyp
  refine mf_getf (r := (RX1, TX1, 14)) (ci := 1) (k := 11) (t := 0) (v := h x0 11) (mf_dat eX1_addWorm 1 rfl) fl_X1_54 rfl (by decide) rfl rfl ck1 ?_
  refine mf_bipush (v := 12) (mf_dat eX1_addWorm 2 rfl) (by decide) ?_
  refine mf_icmp_ge (tgt := 49) (mf_dat eX1_addWorm 3 rfl) (by decide) (fun hc => ?_) (fun hc => ?_)
  · replace hyp := hyp.1 hc
    exact mf_return (mf_dat eX1_addWorm 28 rfl) rfl hyp
  · replace hyp := hyp.2 hc
    refine mf_aload_n (mf_dat eX1_addWorm 4 rfl) rfl rfl ?_
    refine mf_getf (r := (RX1, TX1, 14)) (ci := 1) (k := 0) (t := 2) (v := g x0 0) (mf_dat eX1_addWorm 5 rfl) fl_X1_9 rfl (by decide) rfl rfl ck1 ?_
    refine mf_aload_n (mf_dat eX1_addWorm 6 rfl) rfl rfl ?_
    refine mf_getf (r := (RX1, TX1, 14)) (ci := 1) (k := 11) (t := 0) (v := h x0 11) (mf_dat eX1_addWorm 7 rfl) fl_X1_54 rfl (by decide) rfl rfl ck1 ?_
    refine mf_iload_n (mf_dat eX1_addWorm 8 rfl) rfl rfl ?_
    obtain ⟨ck2, hyp⟩ := hyp
    obtain ⟨ck3, hyp⟩ := hyp
    obtain ⟨ck4, hyp⟩ := hyp
    refine mf_iast (mf_dat eX1_addWorm 9 rfl) ck2 ck3 ck4 ?_
    generalize qh5 : mf_up h (g x0 0) (h x0 11) x1 = h5
    replace hyp := hyp _ qh5.symm
    refine mf_aload_n (mf_dat eX1_addWorm 10 rfl) rfl rfl ?_
    refine mf_getf (r := (RX1, TX1, 14)) (ci := 1) (k := 1) (t := 2) (v := g x0 1) (mf_dat eX1_addWorm 11 rfl) fl_X1_15 rfl (by decide) rfl rfl ck1 ?_
    refine mf_aload_n (mf_dat eX1_addWorm 12 rfl) rfl rfl ?_
    refine mf_getf (r := (RX1, TX1, 14)) (ci := 1) (k := 11) (t := 0) (v := h5 x0 11) (mf_dat eX1_addWorm 13 rfl) fl_X1_54 rfl (by decide) rfl rfl ck1 ?_
    refine mf_iload_n (mf_dat eX1_addWorm 14 rfl) rfl rfl ?_
    obtain ⟨ck6, hyp⟩ := hyp
    obtain ⟨ck7, hyp⟩ := hyp
    obtain ⟨ck8, hyp⟩ := hyp
    refine mf_iast (mf_dat eX1_addWorm 15 rfl) ck6 ck7 ck8 ?_
    generalize qh9 : mf_up h5 (g x0 1) (h5 x0 11) x2 = h9
    replace hyp := hyp _ qh9.symm
    refine mf_aload_n (mf_dat eX1_addWorm 16 rfl) rfl rfl ?_
    refine mf_getf (r := (RX1, TX1, 14)) (ci := 1) (k := 2) (t := 2) (v := g x0 2) (mf_dat eX1_addWorm 17 rfl) fl_X1_18 rfl (by decide) rfl rfl ck1 ?_
    refine mf_aload_n (mf_dat eX1_addWorm 18 rfl) rfl rfl ?_
    refine mf_getf (r := (RX1, TX1, 14)) (ci := 1) (k := 11) (t := 0) (v := h9 x0 11) (mf_dat eX1_addWorm 19 rfl) fl_X1_54 rfl (by decide) rfl rfl ck1 ?_
    refine mf_iload_n (mf_dat eX1_addWorm 20 rfl) rfl rfl ?_
    obtain ⟨ck10, hyp⟩ := hyp
    obtain ⟨ck11, hyp⟩ := hyp
    obtain ⟨ck12, hyp⟩ := hyp
    refine mf_iast (mf_dat eX1_addWorm 21 rfl) ck10 ck11 ck12 ?_
    generalize qh13 : mf_up h9 (g x0 2) (h9 x0 11) x3 = h13
    replace hyp := hyp _ qh13.symm
    refine mf_aload_n (mf_dat eX1_addWorm 22 rfl) rfl rfl ?_
    refine mf_dup (mf_dat eX1_addWorm 23 rfl) (by decide) ?_
    refine mf_getf (r := (RX1, TX1, 14)) (ci := 1) (k := 11) (t := 0) (v := h13 x0 11) (mf_dat eX1_addWorm 24 rfl) fl_X1_54 rfl (by decide) rfl rfl ck1 ?_
    refine mf_iconst (v := 1) (mf_dat eX1_addWorm 25 rfl) (by decide) ?_
    refine mf_iadd (mf_dat eX1_addWorm 26 rfl) ?_
    refine mf_putI (r := (RX1, TX1, 14)) (ci := 1) (k := 11) (kI := 11) (t := 0) (mf_dat eX1_addWorm 27 rfl) fl_X1_54 rfl rfl (by decide) rfl (by decide) rfl (by decide) (fun h9 => absurd h9 (by decide)) ck1 ?_
    generalize qh14 : mf_up h13 x0 11 (mf_w32 ((h13 x0 11) + 1)) = h14
    replace hyp := hyp _ qh14.symm
    exact mf_return (mf_dat eX1_addWorm 28 rfl) rfl hyp
set_option maxRecDepth 100000 in
set_option maxHeartbeats 4000000 in
theorem mX1_addBeing {C : mf_G} {l : Launch} {d n : Nat} {K : mf_Kt} {x0 x1 x2 x3 x4 : Int} {g h : mf_M} (hyp : mf_is n x0 1 ∧ ((8 ≤ h x0 12 → K 0 g h) ∧ (¬ 8 ≤ h x0 12 → mf_is n (g x0 3) 20 ∧ 0 ≤ h x0 12 ∧ h x0 12 < mf_len (g x0 3) ∧ (∀ h5 : mf_M, h5 = mf_up h (g x0 3) (h x0 12) x1 → mf_is n (g x0 4) 20 ∧ 0 ≤ h5 x0 12 ∧ h5 x0 12 < mf_len (g x0 4) ∧ (∀ h9 : mf_M, h9 = mf_up h5 (g x0 4) (h5 x0 12) x4 → mf_is n (g x0 6) 6 ∧ mf_is n (g (g x0 6) 1) 20 ∧ 0 ≤ h9 x0 12 ∧ h9 x0 12 < mf_len (g (g x0 6) 1) ∧ (∀ h14 : mf_M, h14 = mf_up h9 (g (g x0 6) 1) (h9 x0 12) x2 → mf_is n (g (g x0 6) 2) 20 ∧ 0 ≤ h14 x0 12 ∧ h14 x0 12 < mf_len (g (g x0 6) 2) ∧ (∀ h18 : mf_M, h18 = mf_up h14 (g (g x0 6) 2) (h14 x0 12) x3 → mf_is n (g (g x0 6) 3) 20 ∧ 0 ≤ h18 x0 12 ∧ h18 x0 12 < mf_len (g (g x0 6) 3) ∧ (∀ h22 : mf_M, h22 = mf_up h18 (g (g x0 6) 3) (h18 x0 12) 5 → mf_is n (g (g x0 6) 4) 20 ∧ 0 ≤ h22 x0 12 ∧ h22 x0 12 < mf_len (g (g x0 6) 4) ∧ (∀ h26 : mf_M, h26 = mf_up h22 (g (g x0 6) 4) (h22 x0 12) 0 → (∀ h27 : mf_M, h27 = mf_up h26 x0 12 (mf_w32 ((h26 x0 12) + 1)) → K 0 g h27)))))))))) : mf_MT C l d YX1_addBeing [(2, x0), (0, x1), (0, x2), (0, x3), (0, x4)] n n g h K := by
  refine mf_entry (by decide) (Nat.le_of_ble_eq_true rfl) ?_
  refine mf_aload_n (mf_dat eX1_addBeing 0 rfl) rfl rfl ?_
  obtain ⟨ck1, hyp⟩ := hyp
  refine mf_getf (r := (RX1, TX1, 14)) (ci := 1) (k := 12) (t := 0) (v := h x0 12) (mf_dat eX1_addBeing 1 rfl) fl_X1_57 rfl (by decide) rfl rfl ck1 ?_
  refine mf_bipush (v := 8) (mf_dat eX1_addBeing 2 rfl) (by decide) ?_
  refine mf_icmp_ge (tgt := 92) (mf_dat eX1_addBeing 3 rfl) (by decide) (fun hc => ?_) (fun hc => ?_)
  · replace hyp := hyp.1 hc
    exact mf_return (mf_dat eX1_addBeing 50 rfl) rfl hyp
  · replace hyp := hyp.2 hc
    refine mf_aload_n (mf_dat eX1_addBeing 4 rfl) rfl rfl ?_
    refine mf_getf (r := (RX1, TX1, 14)) (ci := 1) (k := 3) (t := 2) (v := g x0 3) (mf_dat eX1_addBeing 5 rfl) fl_X1_21 rfl (by decide) rfl rfl ck1 ?_
    refine mf_aload_n (mf_dat eX1_addBeing 6 rfl) rfl rfl ?_
    refine mf_getf (r := (RX1, TX1, 14)) (ci := 1) (k := 12) (t := 0) (v := h x0 12) (mf_dat eX1_addBeing 7 rfl) fl_X1_57 rfl (by decide) rfl rfl ck1 ?_
    refine mf_iload_n (mf_dat eX1_addBeing 8 rfl) rfl rfl ?_
    obtain ⟨ck2, hyp⟩ := hyp
    obtain ⟨ck3, hyp⟩ := hyp
    obtain ⟨ck4, hyp⟩ := hyp
    refine mf_iast (mf_dat eX1_addBeing 9 rfl) ck2 ck3 ck4 ?_
    generalize qh5 : mf_up h (g x0 3) (h x0 12) x1 = h5
    replace hyp := hyp _ qh5.symm
    refine mf_aload_n (mf_dat eX1_addBeing 10 rfl) rfl rfl ?_
    refine mf_getf (r := (RX1, TX1, 14)) (ci := 1) (k := 4) (t := 2) (v := g x0 4) (mf_dat eX1_addBeing 11 rfl) fl_X1_24 rfl (by decide) rfl rfl ck1 ?_
    refine mf_aload_n (mf_dat eX1_addBeing 12 rfl) rfl rfl ?_
    refine mf_getf (r := (RX1, TX1, 14)) (ci := 1) (k := 12) (t := 0) (v := h5 x0 12) (mf_dat eX1_addBeing 13 rfl) fl_X1_57 rfl (by decide) rfl rfl ck1 ?_
    refine mf_iload (mf_dat eX1_addBeing 14 rfl) rfl ?_
    obtain ⟨ck6, hyp⟩ := hyp
    obtain ⟨ck7, hyp⟩ := hyp
    obtain ⟨ck8, hyp⟩ := hyp
    refine mf_iast (mf_dat eX1_addBeing 15 rfl) ck6 ck7 ck8 ?_
    generalize qh9 : mf_up h5 (g x0 4) (h5 x0 12) x4 = h9
    replace hyp := hyp _ qh9.symm
    refine mf_aload_n (mf_dat eX1_addBeing 16 rfl) rfl rfl ?_
    refine mf_getf (r := (RX1, TX1, 14)) (ci := 1) (k := 6) (t := 2) (v := g x0 6) (mf_dat eX1_addBeing 17 rfl) fl_X1_37 rfl (by decide) rfl rfl ck1 ?_
    obtain ⟨ck10, hyp⟩ := hyp
    refine mf_getf (r := (RX6, TX6, 8)) (ci := 6) (k := 1) (t := 2) (v := g (g x0 6) 1) (mf_dat eX1_addBeing 18 rfl) fl_X1_67 rfl (by decide) rfl rfl ck10 ?_
    refine mf_aload_n (mf_dat eX1_addBeing 19 rfl) rfl rfl ?_
    refine mf_getf (r := (RX1, TX1, 14)) (ci := 1) (k := 12) (t := 0) (v := h9 x0 12) (mf_dat eX1_addBeing 20 rfl) fl_X1_57 rfl (by decide) rfl rfl ck1 ?_
    refine mf_iload_n (mf_dat eX1_addBeing 21 rfl) rfl rfl ?_
    obtain ⟨ck11, hyp⟩ := hyp
    obtain ⟨ck12, hyp⟩ := hyp
    obtain ⟨ck13, hyp⟩ := hyp
    refine mf_iast (mf_dat eX1_addBeing 22 rfl) ck11 ck12 ck13 ?_
    generalize qh14 : mf_up h9 (g (g x0 6) 1) (h9 x0 12) x2 = h14
    replace hyp := hyp _ qh14.symm
    refine mf_aload_n (mf_dat eX1_addBeing 23 rfl) rfl rfl ?_
    refine mf_getf (r := (RX1, TX1, 14)) (ci := 1) (k := 6) (t := 2) (v := g x0 6) (mf_dat eX1_addBeing 24 rfl) fl_X1_37 rfl (by decide) rfl rfl ck1 ?_
    refine mf_getf (r := (RX6, TX6, 8)) (ci := 6) (k := 2) (t := 2) (v := g (g x0 6) 2) (mf_dat eX1_addBeing 25 rfl) fl_X1_70 rfl (by decide) rfl rfl ck10 ?_
    refine mf_aload_n (mf_dat eX1_addBeing 26 rfl) rfl rfl ?_
    refine mf_getf (r := (RX1, TX1, 14)) (ci := 1) (k := 12) (t := 0) (v := h14 x0 12) (mf_dat eX1_addBeing 27 rfl) fl_X1_57 rfl (by decide) rfl rfl ck1 ?_
    refine mf_iload_n (mf_dat eX1_addBeing 28 rfl) rfl rfl ?_
    obtain ⟨ck15, hyp⟩ := hyp
    obtain ⟨ck16, hyp⟩ := hyp
    obtain ⟨ck17, hyp⟩ := hyp
    refine mf_iast (mf_dat eX1_addBeing 29 rfl) ck15 ck16 ck17 ?_
    generalize qh18 : mf_up h14 (g (g x0 6) 2) (h14 x0 12) x3 = h18
    replace hyp := hyp _ qh18.symm
    refine mf_aload_n (mf_dat eX1_addBeing 30 rfl) rfl rfl ?_
    refine mf_getf (r := (RX1, TX1, 14)) (ci := 1) (k := 6) (t := 2) (v := g x0 6) (mf_dat eX1_addBeing 31 rfl) fl_X1_37 rfl (by decide) rfl rfl ck1 ?_
    refine mf_getf (r := (RX6, TX6, 8)) (ci := 6) (k := 3) (t := 2) (v := g (g x0 6) 3) (mf_dat eX1_addBeing 32 rfl) fl_X1_73 rfl (by decide) rfl rfl ck10 ?_
    refine mf_aload_n (mf_dat eX1_addBeing 33 rfl) rfl rfl ?_
    refine mf_getf (r := (RX1, TX1, 14)) (ci := 1) (k := 12) (t := 0) (v := h18 x0 12) (mf_dat eX1_addBeing 34 rfl) fl_X1_57 rfl (by decide) rfl rfl ck1 ?_
    refine mf_iconst (v := 5) (mf_dat eX1_addBeing 35 rfl) (by decide) ?_
    obtain ⟨ck19, hyp⟩ := hyp
    obtain ⟨ck20, hyp⟩ := hyp
    obtain ⟨ck21, hyp⟩ := hyp
    refine mf_iast (mf_dat eX1_addBeing 36 rfl) ck19 ck20 ck21 ?_
    generalize qh22 : mf_up h18 (g (g x0 6) 3) (h18 x0 12) 5 = h22
    replace hyp := hyp _ qh22.symm
    refine mf_aload_n (mf_dat eX1_addBeing 37 rfl) rfl rfl ?_
    refine mf_getf (r := (RX1, TX1, 14)) (ci := 1) (k := 6) (t := 2) (v := g x0 6) (mf_dat eX1_addBeing 38 rfl) fl_X1_37 rfl (by decide) rfl rfl ck1 ?_
    refine mf_getf (r := (RX6, TX6, 8)) (ci := 6) (k := 4) (t := 2) (v := g (g x0 6) 4) (mf_dat eX1_addBeing 39 rfl) fl_X1_76 rfl (by decide) rfl rfl ck10 ?_
    refine mf_aload_n (mf_dat eX1_addBeing 40 rfl) rfl rfl ?_
    refine mf_getf (r := (RX1, TX1, 14)) (ci := 1) (k := 12) (t := 0) (v := h22 x0 12) (mf_dat eX1_addBeing 41 rfl) fl_X1_57 rfl (by decide) rfl rfl ck1 ?_
    refine mf_iconst (v := 0) (mf_dat eX1_addBeing 42 rfl) (by decide) ?_
    obtain ⟨ck23, hyp⟩ := hyp
    obtain ⟨ck24, hyp⟩ := hyp
    obtain ⟨ck25, hyp⟩ := hyp
    refine mf_iast (mf_dat eX1_addBeing 43 rfl) ck23 ck24 ck25 ?_
    generalize qh26 : mf_up h22 (g (g x0 6) 4) (h22 x0 12) 0 = h26
    replace hyp := hyp _ qh26.symm
    refine mf_aload_n (mf_dat eX1_addBeing 44 rfl) rfl rfl ?_
    refine mf_dup (mf_dat eX1_addBeing 45 rfl) (by decide) ?_
    refine mf_getf (r := (RX1, TX1, 14)) (ci := 1) (k := 12) (t := 0) (v := h26 x0 12) (mf_dat eX1_addBeing 46 rfl) fl_X1_57 rfl (by decide) rfl rfl ck1 ?_
    refine mf_iconst (v := 1) (mf_dat eX1_addBeing 47 rfl) (by decide) ?_
    refine mf_iadd (mf_dat eX1_addBeing 48 rfl) ?_
    refine mf_putI (r := (RX1, TX1, 14)) (ci := 1) (k := 12) (kI := 12) (t := 0) (mf_dat eX1_addBeing 49 rfl) fl_X1_57 rfl rfl (by decide) rfl (by decide) rfl (by decide) (fun h9 => absurd h9 (by decide)) ck1 ?_
    generalize qh27 : mf_up h26 x0 12 (mf_w32 ((h26 x0 12) + 1)) = h27
    replace hyp := hyp _ qh27.symm
    exact mf_return (mf_dat eX1_addBeing 50 rfl) rfl hyp
abbrev JX1_hasName_2 (C : mf_G) (l : Launch) (d n : Nat) (K : mf_Kt) (x0 x1 x2 : Int) (g h : mf_M) : Prop := mf_AW C l YX1_hasName (mf_rm d n n) n (mf_Zm C YX1_hasName n n K) (fun _ _ => True) 2 [(0, (2, x0)), (1, (0, x1)), (2, (0, x2))] [] n g h
set_option maxRecDepth 100000 in
set_option maxHeartbeats 4000000 in
theorem bX1_hasName_2 {C : mf_G} {l : Launch} {d n : Nat} {K : mf_Kt} {x0 x1 x2 : Int} {g h : mf_M} (hyp : mf_is n x0 1 ∧ ((h x0 12 ≤ x2 → K 0 g h) ∧ (¬ h x0 12 ≤ x2 → ((8 ≤ x2 → K 0 g h) ∧ (¬ 8 ≤ x2 → mf_is n (g x0 3) 20 ∧ 0 ≤ x2 ∧ x2 < mf_len (g x0 3) ∧ ((¬ h (g x0 3) x2 = x1 → (∀ v5 : Int, v5 = mf_w32 (x2 + 1) → JX1_hasName_2 C l d n K x0 x1 v5 g h)) ∧ (h (g x0 3) x2 = x1 → K 1 g h))))))) : JX1_hasName_2 C l d n K x0 x1 x2 g h := by
  refine mf_iload_n (mf_dat eX1_hasName 2 rfl) rfl rfl ?_
  refine mf_aload_n (mf_dat eX1_hasName 3 rfl) rfl rfl ?_
  obtain ⟨ck1, hyp⟩ := hyp
  refine mf_getf (r := (RX1, TX1, 14)) (ci := 1) (k := 12) (t := 0) (v := h x0 12) (mf_dat eX1_hasName 4 rfl) fl_X1_57 rfl (by decide) rfl rfl ck1 ?_
  refine mf_icmp_ge (tgt := 34) (mf_dat eX1_hasName 5 rfl) (by decide) (fun hc => ?_) (fun hc => ?_)
  · replace hyp := hyp.1 hc
    refine mf_iconst (v := 0) (mf_dat eX1_hasName 19 rfl) (by decide) ?_
    exact mf_ireturn (mf_dat eX1_hasName 20 rfl) rfl (Or.inr ⟨rfl, by decide⟩) hyp
  · replace hyp := hyp.2 hc
    refine mf_iload_n (mf_dat eX1_hasName 6 rfl) rfl rfl ?_
    refine mf_bipush (v := 8) (mf_dat eX1_hasName 7 rfl) (by decide) ?_
    refine mf_icmp_ge (tgt := 34) (mf_dat eX1_hasName 8 rfl) (by decide) (fun hc => ?_) (fun hc => ?_)
    · replace hyp := hyp.1 hc
      refine mf_iconst (v := 0) (mf_dat eX1_hasName 19 rfl) (by decide) ?_
      exact mf_ireturn (mf_dat eX1_hasName 20 rfl) rfl (Or.inr ⟨rfl, by decide⟩) hyp
    · replace hyp := hyp.2 hc
      refine mf_aload_n (mf_dat eX1_hasName 9 rfl) rfl rfl ?_
      refine mf_getf (r := (RX1, TX1, 14)) (ci := 1) (k := 3) (t := 2) (v := g x0 3) (mf_dat eX1_hasName 10 rfl) fl_X1_21 rfl (by decide) rfl rfl ck1 ?_
      refine mf_iload_n (mf_dat eX1_hasName 11 rfl) rfl rfl ?_
      obtain ⟨ck2, hyp⟩ := hyp
      obtain ⟨ck3, hyp⟩ := hyp
      obtain ⟨ck4, hyp⟩ := hyp
      refine mf_iald (mf_dat eX1_hasName 12 rfl) ck2 ck3 ck4 ?_
      refine mf_iload_n (mf_dat eX1_hasName 13 rfl) rfl rfl ?_
      refine mf_icmp_ne (tgt := 28) (mf_dat eX1_hasName 14 rfl) (by decide) (fun hc => ?_) (fun hc => ?_)
      · replace hyp := hyp.1 hc
        refine mf_iinc (mf_dat eX1_hasName 17 rfl) rfl (by decide) (by decide) ?_
        generalize qv5 : mf_w32 (x2 + 1) = v5
        replace hyp := hyp _ qv5.symm
        refine mf_goto (tgt := 2) (mf_dat eX1_hasName 18 rfl) (by decide) ?_
        exact mf_sub [1, 2, 0] rfl hyp
      · replace hyp := hyp.2 hc
        refine mf_iconst (v := 1) (mf_dat eX1_hasName 15 rfl) (by decide) ?_
        exact mf_ireturn (mf_dat eX1_hasName 16 rfl) rfl (Or.inr ⟨rfl, by decide⟩) hyp
set_option maxRecDepth 100000 in
set_option maxHeartbeats 4000000 in
theorem mX1_hasName {C : mf_G} {l : Launch} {d n : Nat} {K : mf_Kt} {x0 x1 : Int} {g h : mf_M} (hyp : JX1_hasName_2 C l d n K x0 x1 0 g h) : mf_MT C l d YX1_hasName [(2, x0), (0, x1)] n n g h K := by
  refine mf_entry (by decide) (Nat.le_of_ble_eq_true rfl) ?_
  refine mf_iconst (v := 0) (mf_dat eX1_hasName 0 rfl) (by decide) ?_
  refine mf_istore_n (mf_dat eX1_hasName 1 rfl) rfl (by decide) ?_
  exact mf_sub [1, 2, 0] rfl hyp
set_option maxRecDepth 100000 in
set_option maxHeartbeats 4000000 in
theorem mX1_mirror {C : mf_G} {l : Launch} {d n : Nat} {K : mf_Kt} {x0 x1 : Int} {g h : mf_M} (hyp : mf_is n x0 1 ∧ K (mf_w32 ((mf_w32 ((h x0 9) - 1)) - x1)) g h) : mf_MT C l d YX1_mirror [(2, x0), (0, x1)] n n g h K := by
  refine mf_entry (by decide) (Nat.le_of_ble_eq_true rfl) ?_
  refine mf_aload_n (mf_dat eX1_mirror 0 rfl) rfl rfl ?_
  obtain ⟨ck1, hyp⟩ := hyp
  refine mf_getf (r := (RX1, TX1, 14)) (ci := 1) (k := 9) (t := 0) (v := h x0 9) (mf_dat eX1_mirror 1 rfl) fl_X1_48 rfl (by decide) rfl rfl ck1 ?_
  refine mf_iconst (v := 1) (mf_dat eX1_mirror 2 rfl) (by decide) ?_
  refine mf_isub (mf_dat eX1_mirror 3 rfl) ?_
  refine mf_iload_n (mf_dat eX1_mirror 4 rfl) rfl rfl ?_
  refine mf_isub (mf_dat eX1_mirror 5 rfl) ?_
  exact mf_ireturn (mf_dat eX1_mirror 6 rfl) rfl (Or.inl rfl) hyp
set_option maxRecDepth 100000 in
set_option maxHeartbeats 4000000 in
theorem mX2_init {C : mf_G} {l : Launch} {d n0 n1 : Nat} {K : mf_Kt} {x0 x1 x2 x3 x4 : Int} {g h : mf_M} (hd : 1 ≤ d) (hyp : 0 ≤ x0 ∧ mf_is n0 x0 2 ∧ (∀ g3 : mf_M, g3 = mf_up g x0 0 x1 → (∀ g4 : mf_M, g4 = mf_up g3 x0 1 x2 → (∀ g5 : mf_M, g5 = mf_up g4 x0 2 x3 → (∀ g6 : mf_M, g6 = mf_up g5 x0 3 x4 → n0 = n1 ∧ K 0 g6 h))))) : mf_MT C l d YX2_init [(2, x0), (2, x1), (2, x2), (2, x3), (2, x4)] n0 n1 g h K := by
  refine mf_entry (by decide) (Nat.le_of_ble_eq_true rfl) ?_
  refine mf_aload_n (mf_dat eX2_init 0 rfl) rfl rfl ?_
  obtain ⟨ck1, hyp⟩ := hyp
  refine mf_objInit (mf_dat eX2_init 1 rfl) ml_X2_3 im_obj co_obj (mf_rmf hd) (mf_rml hd (Nat.le_of_ble_eq_true rfl)) ck1 ?_
  refine mf_aload_n (mf_dat eX2_init 2 rfl) rfl rfl ?_
  refine mf_aload_n (mf_dat eX2_init 3 rfl) rfl rfl ?_
  obtain ⟨ck2, hyp⟩ := hyp
  refine mf_putRF (r := (RX2, TX2, 5)) (ci := 2) (k := 0) (kI := 0) (t := 2) (mf_dat eX2_init 4 rfl) fl_X2_9 rfl rfl (by decide) rfl (by decide) rfl rfl rfl (by decide) (fun h9 => absurd h9 (by decide)) ck2 ?_
  generalize qg3 : mf_up g x0 0 x1 = g3
  replace hyp := hyp _ qg3.symm
  refine mf_aload_n (mf_dat eX2_init 5 rfl) rfl rfl ?_
  refine mf_aload_n (mf_dat eX2_init 6 rfl) rfl rfl ?_
  refine mf_putRF (r := (RX2, TX2, 5)) (ci := 2) (k := 1) (kI := 1) (t := 2) (mf_dat eX2_init 7 rfl) fl_X2_15 rfl rfl (by decide) rfl (by decide) rfl rfl rfl (by decide) (fun h9 => absurd h9 (by decide)) ck2 ?_
  generalize qg4 : mf_up g3 x0 1 x2 = g4
  replace hyp := hyp _ qg4.symm
  refine mf_aload_n (mf_dat eX2_init 8 rfl) rfl rfl ?_
  refine mf_aload_n (mf_dat eX2_init 9 rfl) rfl rfl ?_
  refine mf_putRF (r := (RX2, TX2, 5)) (ci := 2) (k := 2) (kI := 2) (t := 2) (mf_dat eX2_init 10 rfl) fl_X2_19 rfl rfl (by decide) rfl (by decide) rfl rfl rfl (by decide) (fun h9 => absurd h9 (by decide)) ck2 ?_
  generalize qg5 : mf_up g4 x0 2 x3 = g5
  replace hyp := hyp _ qg5.symm
  refine mf_aload_n (mf_dat eX2_init 11 rfl) rfl rfl ?_
  refine mf_aload (mf_dat eX2_init 12 rfl) rfl ?_
  refine mf_putR (r := (RX2, TX2, 5)) (ci := 2) (k := 3) (kI := 3) (t := 2) (mf_dat eX2_init 13 rfl) fl_X2_23 rfl rfl (by decide) rfl (by decide) rfl (by decide) (fun h9 => absurd h9 (by decide)) ck2 ?_
  generalize qg6 : mf_up g5 x0 3 x4 = g6
  replace hyp := hyp _ qg6.symm
  obtain ⟨ck7, hyp⟩ := hyp
  subst ck7
  exact mf_return (mf_dat eX2_init 14 rfl) rfl hyp
abbrev JX2_read_21 (C : mf_G) (l : Launch) (d n : Nat) (K : mf_Kt) (x0 x2 : Int) (g h : mf_M) : Prop := mf_AW C l YX2_read (mf_rm d n n) n (mf_Zm C YX2_read n n K) (fun _ _ => True) 21 [(0, (2, x0)), (2, (0, x2))] [] n g h
set_option maxRecDepth 100000 in
set_option maxHeartbeats 4000000 in
theorem bX2_read_21 {C : mf_G} {l : Launch} {d n : Nat} {K : mf_Kt} {x0 x2 : Int} {g h : mf_M} (hd : 65 ≤ d) (hyp : ((80 < x2 → mf_is n x0 2 ∧ mf_is n (g x0 3) 1 ∧ ((¬ h (g x0 3) 7 = 0 → K 0 g h) ∧ (h (g x0 3) 7 = 0 → mf_is n (g x0 0) 9 ∧ mf_MT C l 0 YX9_fail [(2, g x0 0), (0, 1), (0, h (g x0 0) 3)] n n g h (fun r4 g5 h6 => K 0 g5 h6)))) ∧ (¬ 80 < x2 → mf_is n x0 2 ∧ mf_is n (g x0 0) 9 ∧ ((¬ h (g x0 0) 7 = 0 → mf_is n (g x0 3) 1 ∧ ((¬ h (g x0 3) 7 = 0 → K 0 g h) ∧ (h (g x0 3) 7 = 0 → mf_MT C l 0 YX9_fail [(2, g x0 0), (0, 1), (0, h (g x0 0) 3)] n n g h (fun r10 g11 h12 => K 0 g11 h12)))) ∧ (h (g x0 0) 7 = 0 → ((¬ h (g x0 0) 2 = 0 → ((¬ x2 = 80 → mf_MT C l 64 YX2_readStatement [(2, x0), (0, x2)] n n g h (fun r13 g14 h15 => mf_is n (g14 x0 3) 1 ∧ mf_is n (g14 (g14 x0 3) 5) 4 ∧ mf_MT C l 0 YX4_finish [(2, g14 (g14 x0 3) 5)] n n g14 h15 (fun r17 g18 h19 => mf_is n (g18 x0 0) 9 ∧ mf_MT C l 3 YX9_passSign [(2, g18 x0 0), (0, 59)] n n g18 h19 (fun r21 g22 h23 => (∀ v25 : Int, v25 = g22 x0 3 → mf_is n v25 1 ∧ (∀ h27 : mf_M, h27 = mf_up h23 v25 7 (mf_w32 ((h23 v25 7) + 1)) → (∀ v28 : Int, v28 = mf_w32 (x2 + 1) → JX2_read_21 C l d n K x0 v28 g22 h27))))))) ∧ (x2 = 80 → mf_MT C l 0 YX9_fail [(2, g x0 0), (0, 5), (0, h (g x0 0) 3)] n n g h (fun r29 g30 h31 => (∀ v32 : Int, v32 = mf_w32 (x2 + 1) → JX2_read_21 C l d n K x0 v32 g30 h31))))) ∧ (h (g x0 0) 2 = 0 → mf_is n (g x0 3) 1 ∧ ((¬ h (g x0 3) 7 = 0 → K 0 g h) ∧ (h (g x0 3) 7 = 0 → mf_MT C l 0 YX9_fail [(2, g x0 0), (0, 1), (0, h (g x0 0) 3)] n n g h (fun r34 g35 h36 => K 0 g35 h36)))))))))) : JX2_read_21 C l d n K x0 x2 g h := by
  refine mf_iload_n (mf_dat eX2_read_p0 11 rfl) rfl rfl ?_
  refine mf_bipush (v := 80) (mf_dat eX2_read_p0 12 rfl) (by decide) ?_
  refine mf_icmp_gt (tgt := 117) (mf_dat eX2_read_p0 13 rfl) (by decide) (fun hc => ?_) (fun hc => ?_)
  · replace hyp := hyp.1 hc
    refine mf_aload_n (mf_dat eX2_read_p0 54 rfl) rfl rfl ?_
    obtain ⟨ck1, hyp⟩ := hyp
    refine mf_getf (r := (RX2, TX2, 5)) (ci := 2) (k := 3) (t := 2) (v := g x0 3) (mf_dat eX2_read_p0 55 rfl) fl_X2_23 rfl (by decide) rfl rfl ck1 ?_
    obtain ⟨ck2, hyp⟩ := hyp
    refine mf_getf (r := (RX1, TX1, 14)) (ci := 1) (k := 7) (t := 0) (v := h (g x0 3) 7) (mf_dat eX2_read_p0 56 rfl) fl_X2_68 rfl (by decide) rfl rfl ck2 ?_
    refine mf_if_ne (tgt := 142) (mf_dat eX2_read_p0 57 rfl) (by decide) (fun hc => ?_) (fun hc => ?_)
    · replace hyp := hyp.1 hc
      exact mf_return (mf_dat eX2_read_p1 5 rfl) rfl hyp
    · replace hyp := hyp.2 hc
      refine mf_aload_n (mf_dat eX2_read_p0 58 rfl) rfl rfl ?_
      refine mf_getf (r := (RX2, TX2, 5)) (ci := 2) (k := 0) (t := 2) (v := g x0 0) (mf_dat eX2_read_p0 59 rfl) fl_X2_9 rfl (by decide) rfl rfl ck1 ?_
      refine mf_iconst (v := 1) (mf_dat eX2_read_p1 0 rfl) (by decide) ?_
      refine mf_aload_n (mf_dat eX2_read_p1 1 rfl) rfl rfl ?_
      refine mf_getf (r := (RX2, TX2, 5)) (ci := 2) (k := 0) (t := 2) (v := g x0 0) (mf_dat eX2_read_p1 2 rfl) fl_X2_9 rfl (by decide) rfl rfl ck1 ?_
      obtain ⟨ck3, hyp⟩ := hyp
      refine mf_getf (r := (RX9, TX9, 9)) (ci := 9) (k := 3) (t := 0) (v := h (g x0 0) 3) (mf_dat eX2_read_p1 3 rfl) fl_X2_44 rfl (by decide) rfl rfl ck3 ?_
      refine mf_callV (Yc := YX9_fail) (r := (RX9, TX9, 9)) (ci := 9) (mf_dat eX2_read_p1 4 rfl) ml_X2_47 okX9_fail im_X9_fail sl_X9_fail rfl rfl rfl rfl (Nat.le_of_ble_eq_true rfl) (mf_rr (Nat.le_trans (by decide) hd) (Nat.le_refl _)) (Nat.le_refl _) ck3 hyp (fun r4 g5 h6 hyp => ?_)
      exact mf_return (mf_dat eX2_read_p1 5 rfl) rfl hyp
  · replace hyp := hyp.2 hc
    refine mf_aload_n (mf_dat eX2_read_p0 14 rfl) rfl rfl ?_
    obtain ⟨ck7, hyp⟩ := hyp
    refine mf_getf (r := (RX2, TX2, 5)) (ci := 2) (k := 0) (t := 2) (v := g x0 0) (mf_dat eX2_read_p0 15 rfl) fl_X2_9 rfl (by decide) rfl rfl ck7 ?_
    obtain ⟨ck8, hyp⟩ := hyp
    refine mf_getf (r := (RX9, TX9, 9)) (ci := 9) (k := 7) (t := 0) (v := h (g x0 0) 7) (mf_dat eX2_read_p0 16 rfl) fl_X2_37 rfl (by decide) rfl rfl ck8 ?_
    refine mf_if_ne (tgt := 117) (mf_dat eX2_read_p0 17 rfl) (by decide) (fun hc => ?_) (fun hc => ?_)
    · replace hyp := hyp.1 hc
      refine mf_aload_n (mf_dat eX2_read_p0 54 rfl) rfl rfl ?_
      refine mf_getf (r := (RX2, TX2, 5)) (ci := 2) (k := 3) (t := 2) (v := g x0 3) (mf_dat eX2_read_p0 55 rfl) fl_X2_23 rfl (by decide) rfl rfl ck7 ?_
      obtain ⟨ck9, hyp⟩ := hyp
      refine mf_getf (r := (RX1, TX1, 14)) (ci := 1) (k := 7) (t := 0) (v := h (g x0 3) 7) (mf_dat eX2_read_p0 56 rfl) fl_X2_68 rfl (by decide) rfl rfl ck9 ?_
      refine mf_if_ne (tgt := 142) (mf_dat eX2_read_p0 57 rfl) (by decide) (fun hc => ?_) (fun hc => ?_)
      · replace hyp := hyp.1 hc
        exact mf_return (mf_dat eX2_read_p1 5 rfl) rfl hyp
      · replace hyp := hyp.2 hc
        refine mf_aload_n (mf_dat eX2_read_p0 58 rfl) rfl rfl ?_
        refine mf_getf (r := (RX2, TX2, 5)) (ci := 2) (k := 0) (t := 2) (v := g x0 0) (mf_dat eX2_read_p0 59 rfl) fl_X2_9 rfl (by decide) rfl rfl ck7 ?_
        refine mf_iconst (v := 1) (mf_dat eX2_read_p1 0 rfl) (by decide) ?_
        refine mf_aload_n (mf_dat eX2_read_p1 1 rfl) rfl rfl ?_
        refine mf_getf (r := (RX2, TX2, 5)) (ci := 2) (k := 0) (t := 2) (v := g x0 0) (mf_dat eX2_read_p1 2 rfl) fl_X2_9 rfl (by decide) rfl rfl ck7 ?_
        refine mf_getf (r := (RX9, TX9, 9)) (ci := 9) (k := 3) (t := 0) (v := h (g x0 0) 3) (mf_dat eX2_read_p1 3 rfl) fl_X2_44 rfl (by decide) rfl rfl ck8 ?_
        refine mf_callV (Yc := YX9_fail) (r := (RX9, TX9, 9)) (ci := 9) (mf_dat eX2_read_p1 4 rfl) ml_X2_47 okX9_fail im_X9_fail sl_X9_fail rfl rfl rfl rfl (Nat.le_of_ble_eq_true rfl) (mf_rr (Nat.le_trans (by decide) hd) (Nat.le_refl _)) (Nat.le_refl _) ck8 hyp (fun r10 g11 h12 hyp => ?_)
        exact mf_return (mf_dat eX2_read_p1 5 rfl) rfl hyp
    · replace hyp := hyp.2 hc
      refine mf_aload_n (mf_dat eX2_read_p0 18 rfl) rfl rfl ?_
      refine mf_getf (r := (RX2, TX2, 5)) (ci := 2) (k := 0) (t := 2) (v := g x0 0) (mf_dat eX2_read_p0 19 rfl) fl_X2_9 rfl (by decide) rfl rfl ck7 ?_
      refine mf_getf (r := (RX9, TX9, 9)) (ci := 9) (k := 2) (t := 0) (v := h (g x0 0) 2) (mf_dat eX2_read_p0 20 rfl) fl_X2_41 rfl (by decide) rfl rfl ck8 ?_
      refine mf_if_ne (tgt := 50) (mf_dat eX2_read_p0 21 rfl) (by decide) (fun hc => ?_) (fun hc => ?_)
      · replace hyp := hyp.1 hc
        refine mf_iload_n (mf_dat eX2_read_p0 23 rfl) rfl rfl ?_
        refine mf_bipush (v := 80) (mf_dat eX2_read_p0 24 rfl) (by decide) ?_
        refine mf_icmp_ne (tgt := 74) (mf_dat eX2_read_p0 25 rfl) (by decide) (fun hc => ?_) (fun hc => ?_)
        · replace hyp := hyp.1 hc
          refine mf_aload_n (mf_dat eX2_read_p0 34 rfl) rfl rfl ?_
          refine mf_iload_n (mf_dat eX2_read_p0 35 rfl) rfl rfl ?_
          refine mf_callV (Yc := YX2_readStatement) (r := (RX2, TX2, 5)) (ci := 2) (mf_dat eX2_read_p0 36 rfl) ml_X2_51 okX2_readStatement im_X2_readStatement sl_X2_readStatement rfl rfl rfl rfl (Nat.le_of_ble_eq_true rfl) (mf_rr (Nat.le_trans (by decide) hd) (Nat.le_refl _)) (Nat.le_refl _) ck7 hyp (fun r13 g14 h15 hyp => ?_)
          refine mf_aload_n (mf_dat eX2_read_p0 37 rfl) rfl rfl ?_
          refine mf_getf (r := (RX2, TX2, 5)) (ci := 2) (k := 3) (t := 2) (v := g14 x0 3) (mf_dat eX2_read_p0 38 rfl) fl_X2_23 rfl (by decide) rfl rfl ck7 ?_
          obtain ⟨ck16, hyp⟩ := hyp
          refine mf_getf (r := (RX1, TX1, 14)) (ci := 1) (k := 5) (t := 2) (v := g14 (g14 x0 3) 5) (mf_dat eX2_read_p0 39 rfl) fl_X2_55 rfl (by decide) rfl rfl ck16 ?_
          obtain ⟨ck20, hyp⟩ := hyp
          refine mf_callV (Yc := YX4_finish) (r := (RX4, TX4, 5)) (ci := 4) (mf_dat eX2_read_p0 40 rfl) ml_X2_59 okX4_finish im_X4_finish sl_X4_finish rfl rfl rfl rfl (Nat.le_of_ble_eq_true rfl) (mf_rr (Nat.le_trans (by decide) hd) (Nat.le_refl _)) (Nat.le_refl _) ck20 hyp (fun r17 g18 h19 hyp => ?_)
          refine mf_aload_n (mf_dat eX2_read_p0 41 rfl) rfl rfl ?_
          refine mf_getf (r := (RX2, TX2, 5)) (ci := 2) (k := 0) (t := 2) (v := g18 x0 0) (mf_dat eX2_read_p0 42 rfl) fl_X2_9 rfl (by decide) rfl rfl ck7 ?_
          refine mf_bipush (v := 59) (mf_dat eX2_read_p0 43 rfl) (by decide) ?_
          obtain ⟨ck24, hyp⟩ := hyp
          refine mf_callV (Yc := YX9_passSign) (r := (RX9, TX9, 9)) (ci := 9) (mf_dat eX2_read_p0 44 rfl) ml_X2_64 okX9_passSign im_X9_passSign sl_X9_passSign rfl rfl rfl rfl (Nat.le_of_ble_eq_true rfl) (mf_rr (Nat.le_trans (by decide) hd) (Nat.le_refl _)) (Nat.le_refl _) ck24 hyp (fun r21 g22 h23 hyp => ?_)
          refine mf_aload_n (mf_dat eX2_read_p0 45 rfl) rfl rfl ?_
          refine mf_getf (r := (RX2, TX2, 5)) (ci := 2) (k := 3) (t := 2) (v := g22 x0 3) (mf_dat eX2_read_p0 46 rfl) fl_X2_23 rfl (by decide) rfl rfl ck7 ?_
          generalize qv25 : g22 x0 3 = v25
          replace hyp := hyp _ qv25.symm
          refine mf_dup (mf_dat eX2_read_p0 47 rfl) (by decide) ?_
          obtain ⟨ck26, hyp⟩ := hyp
          refine mf_getf (r := (RX1, TX1, 14)) (ci := 1) (k := 7) (t := 0) (v := h23 v25 7) (mf_dat eX2_read_p0 48 rfl) fl_X2_68 rfl (by decide) rfl rfl ck26 ?_
          refine mf_iconst (v := 1) (mf_dat eX2_read_p0 49 rfl) (by decide) ?_
          refine mf_iadd (mf_dat eX2_read_p0 50 rfl) ?_
          refine mf_putI (r := (RX1, TX1, 14)) (ci := 1) (k := 7) (kI := 7) (t := 0) (mf_dat eX2_read_p0 51 rfl) fl_X2_68 rfl rfl (by decide) rfl (by decide) rfl (by decide) (fun h9 => absurd h9 (by decide)) ck26 ?_
          generalize qh27 : mf_up h23 v25 7 (mf_w32 ((h23 v25 7) + 1)) = h27
          replace hyp := hyp _ qh27.symm
          refine mf_iinc (mf_dat eX2_read_p0 52 rfl) rfl (by decide) (by decide) ?_
          generalize qv28 : mf_w32 (x2 + 1) = v28
          replace hyp := hyp _ qv28.symm
          refine mf_goto (tgt := 21) (mf_dat eX2_read_p0 53 rfl) (by decide) ?_
          exact mf_sub [1, 0] rfl hyp
        · replace hyp := hyp.2 hc
          refine mf_aload_n (mf_dat eX2_read_p0 26 rfl) rfl rfl ?_
          refine mf_getf (r := (RX2, TX2, 5)) (ci := 2) (k := 0) (t := 2) (v := g x0 0) (mf_dat eX2_read_p0 27 rfl) fl_X2_9 rfl (by decide) rfl rfl ck7 ?_
          refine mf_iconst (v := 5) (mf_dat eX2_read_p0 28 rfl) (by decide) ?_
          refine mf_aload_n (mf_dat eX2_read_p0 29 rfl) rfl rfl ?_
          refine mf_getf (r := (RX2, TX2, 5)) (ci := 2) (k := 0) (t := 2) (v := g x0 0) (mf_dat eX2_read_p0 30 rfl) fl_X2_9 rfl (by decide) rfl rfl ck7 ?_
          refine mf_getf (r := (RX9, TX9, 9)) (ci := 9) (k := 3) (t := 0) (v := h (g x0 0) 3) (mf_dat eX2_read_p0 31 rfl) fl_X2_44 rfl (by decide) rfl rfl ck8 ?_
          refine mf_callV (Yc := YX9_fail) (r := (RX9, TX9, 9)) (ci := 9) (mf_dat eX2_read_p0 32 rfl) ml_X2_47 okX9_fail im_X9_fail sl_X9_fail rfl rfl rfl rfl (Nat.le_of_ble_eq_true rfl) (mf_rr (Nat.le_trans (by decide) hd) (Nat.le_refl _)) (Nat.le_refl _) ck8 hyp (fun r29 g30 h31 hyp => ?_)
          refine mf_goto (tgt := 111) (mf_dat eX2_read_p0 33 rfl) (by decide) ?_
          refine mf_iinc (mf_dat eX2_read_p0 52 rfl) rfl (by decide) (by decide) ?_
          generalize qv32 : mf_w32 (x2 + 1) = v32
          replace hyp := hyp _ qv32.symm
          refine mf_goto (tgt := 21) (mf_dat eX2_read_p0 53 rfl) (by decide) ?_
          exact mf_sub [1, 0] rfl hyp
      · replace hyp := hyp.2 hc
        refine mf_goto (tgt := 117) (mf_dat eX2_read_p0 22 rfl) (by decide) ?_
        refine mf_aload_n (mf_dat eX2_read_p0 54 rfl) rfl rfl ?_
        refine mf_getf (r := (RX2, TX2, 5)) (ci := 2) (k := 3) (t := 2) (v := g x0 3) (mf_dat eX2_read_p0 55 rfl) fl_X2_23 rfl (by decide) rfl rfl ck7 ?_
        obtain ⟨ck33, hyp⟩ := hyp
        refine mf_getf (r := (RX1, TX1, 14)) (ci := 1) (k := 7) (t := 0) (v := h (g x0 3) 7) (mf_dat eX2_read_p0 56 rfl) fl_X2_68 rfl (by decide) rfl rfl ck33 ?_
        refine mf_if_ne (tgt := 142) (mf_dat eX2_read_p0 57 rfl) (by decide) (fun hc => ?_) (fun hc => ?_)
        · replace hyp := hyp.1 hc
          exact mf_return (mf_dat eX2_read_p1 5 rfl) rfl hyp
        · replace hyp := hyp.2 hc
          refine mf_aload_n (mf_dat eX2_read_p0 58 rfl) rfl rfl ?_
          refine mf_getf (r := (RX2, TX2, 5)) (ci := 2) (k := 0) (t := 2) (v := g x0 0) (mf_dat eX2_read_p0 59 rfl) fl_X2_9 rfl (by decide) rfl rfl ck7 ?_
          refine mf_iconst (v := 1) (mf_dat eX2_read_p1 0 rfl) (by decide) ?_
          refine mf_aload_n (mf_dat eX2_read_p1 1 rfl) rfl rfl ?_
          refine mf_getf (r := (RX2, TX2, 5)) (ci := 2) (k := 0) (t := 2) (v := g x0 0) (mf_dat eX2_read_p1 2 rfl) fl_X2_9 rfl (by decide) rfl rfl ck7 ?_
          refine mf_getf (r := (RX9, TX9, 9)) (ci := 9) (k := 3) (t := 0) (v := h (g x0 0) 3) (mf_dat eX2_read_p1 3 rfl) fl_X2_44 rfl (by decide) rfl rfl ck8 ?_
          refine mf_callV (Yc := YX9_fail) (r := (RX9, TX9, 9)) (ci := 9) (mf_dat eX2_read_p1 4 rfl) ml_X2_47 okX9_fail im_X9_fail sl_X9_fail rfl rfl rfl rfl (Nat.le_of_ble_eq_true rfl) (mf_rr (Nat.le_trans (by decide) hd) (Nat.le_refl _)) (Nat.le_refl _) ck8 hyp (fun r34 g35 h36 hyp => ?_)
          exact mf_return (mf_dat eX2_read_p1 5 rfl) rfl hyp
set_option maxRecDepth 100000 in
set_option maxHeartbeats 4000000 in
theorem mX2_read {C : mf_G} {l : Launch} {d n : Nat} {K : mf_Kt} {x0 x1 : Int} {g h : mf_M} (hd : 4 ≤ d) (hyp : mf_is n x0 2 ∧ (∀ g2 : mf_M, g2 = mf_up g x0 3 x1 → mf_is n (g2 x0 3) 1 ∧ mf_MT C l 1 YX1_forget [(2, g2 x0 3)] n n g2 h (fun r3 g4 h5 => mf_is n (g4 x0 0) 9 ∧ mf_MT C l 3 YX9_start [(2, g4 x0 0)] n n g4 h5 (fun r7 g8 h9 => JX2_read_21 C l d n K x0 0 g8 h9)))) : mf_MT C l d YX2_read [(2, x0), (2, x1)] n n g h K := by
  refine mf_entry (by decide) (Nat.le_of_ble_eq_true rfl) ?_
  refine mf_aload_n (mf_dat eX2_read_p0 0 rfl) rfl rfl ?_
  refine mf_aload_n (mf_dat eX2_read_p0 1 rfl) rfl rfl ?_
  obtain ⟨ck1, hyp⟩ := hyp
  refine mf_putR (r := (RX2, TX2, 5)) (ci := 2) (k := 3) (kI := 3) (t := 2) (mf_dat eX2_read_p0 2 rfl) fl_X2_23 rfl rfl (by decide) rfl (by decide) rfl (by decide) (fun h9 => absurd h9 (by decide)) ck1 ?_
  generalize qg2 : mf_up g x0 3 x1 = g2
  replace hyp := hyp _ qg2.symm
  refine mf_aload_n (mf_dat eX2_read_p0 3 rfl) rfl rfl ?_
  refine mf_getf (r := (RX2, TX2, 5)) (ci := 2) (k := 3) (t := 2) (v := g2 x0 3) (mf_dat eX2_read_p0 4 rfl) fl_X2_23 rfl (by decide) rfl rfl ck1 ?_
  obtain ⟨ck6, hyp⟩ := hyp
  refine mf_callV (Yc := YX1_forget) (r := (RX1, TX1, 14)) (ci := 1) (mf_dat eX2_read_p0 5 rfl) ml_X2_27 okX1_forget im_X1_forget sl_X1_forget rfl rfl rfl rfl (Nat.le_of_ble_eq_true rfl) (mf_rr (Nat.le_trans (by decide) hd) (Nat.le_refl _)) (Nat.le_refl _) ck6 hyp (fun r3 g4 h5 hyp => ?_)
  refine mf_aload_n (mf_dat eX2_read_p0 6 rfl) rfl rfl ?_
  refine mf_getf (r := (RX2, TX2, 5)) (ci := 2) (k := 0) (t := 2) (v := g4 x0 0) (mf_dat eX2_read_p0 7 rfl) fl_X2_9 rfl (by decide) rfl rfl ck1 ?_
  obtain ⟨ck10, hyp⟩ := hyp
  refine mf_callV (Yc := YX9_start) (r := (RX9, TX9, 9)) (ci := 9) (mf_dat eX2_read_p0 8 rfl) ml_X2_32 okX9_start im_X9_start sl_X9_start rfl rfl rfl rfl (Nat.le_of_ble_eq_true rfl) (mf_rr (Nat.le_trans (by decide) hd) (Nat.le_refl _)) (Nat.le_refl _) ck10 hyp (fun r7 g8 h9 hyp => ?_)
  refine mf_iconst (v := 0) (mf_dat eX2_read_p0 9 rfl) (by decide) ?_
  refine mf_istore_n (mf_dat eX2_read_p0 10 rfl) rfl (by decide) ?_
  exact mf_sub [1, 0] rfl hyp
abbrev JX2_readStatement_29 (C : mf_G) (l : Launch) (d n : Nat) (K : mf_Kt) (x0 x1 s0 : Int) (g h : mf_M) : Prop := mf_AW C l YX2_readStatement (mf_rm d n n) n (mf_Zm C YX2_readStatement n n K) (fun _ _ => True) 29 [(0, (2, x0)), (1, (0, x1))] [(0, s0)] n g h
abbrev JX2_readStatement_50 (C : mf_G) (l : Launch) (d n : Nat) (K : mf_Kt) (x0 x2 s0 s1 : Int) (g h : mf_M) : Prop := mf_AW C l YX2_readStatement (mf_rm d n n) n (mf_Zm C YX2_readStatement n n K) (fun _ _ => True) 50 [(0, (2, x0)), (2, (0, x2))] [(0, s1), (0, s0)] n g h
set_option maxRecDepth 100000 in
set_option maxHeartbeats 4000000 in
theorem bX2_readStatement_29 {C : mf_G} {l : Launch} {d n : Nat} {K : mf_Kt} {x0 x1 s0 : Int} {g h : mf_M} (hyp : ((¬ x1 = 0 → ((¬ s0 = 16 → JX2_readStatement_50 C l d n K x0 s0 0 0 g h) ∧ (s0 = 16 → JX2_readStatement_50 C l d n K x0 s0 0 1 g h))) ∧ (x1 = 0 → ((¬ s0 = 16 → JX2_readStatement_50 C l d n K x0 s0 1 0 g h) ∧ (s0 = 16 → JX2_readStatement_50 C l d n K x0 s0 1 1 g h))))) : JX2_readStatement_29 C l d n K x0 x1 s0 g h := by
  refine mf_istore_n (mf_dat eX2_readStatement_p0 13 rfl) rfl (by decide) ?_
  refine mf_iload_n (mf_dat eX2_readStatement_p0 14 rfl) rfl rfl ?_
  refine mf_if_ne (tgt := 38) (mf_dat eX2_readStatement_p0 15 rfl) (by decide) (fun hc => ?_) (fun hc => ?_)
  · replace hyp := hyp.1 hc
    refine mf_iconst (v := 0) (mf_dat eX2_readStatement_p0 18 rfl) (by decide) ?_
    refine mf_iload_n (mf_dat eX2_readStatement_p0 19 rfl) rfl rfl ?_
    refine mf_bipush (v := 16) (mf_dat eX2_readStatement_p0 20 rfl) (by decide) ?_
    refine mf_icmp_ne (tgt := 49) (mf_dat eX2_readStatement_p0 21 rfl) (by decide) (fun hc => ?_) (fun hc => ?_)
    · replace hyp := hyp.1 hc
      refine mf_iconst (v := 0) (mf_dat eX2_readStatement_p0 24 rfl) (by decide) ?_
      exact mf_sub [1, 0] rfl hyp
    · replace hyp := hyp.2 hc
      refine mf_iconst (v := 1) (mf_dat eX2_readStatement_p0 22 rfl) (by decide) ?_
      refine mf_goto (tgt := 50) (mf_dat eX2_readStatement_p0 23 rfl) (by decide) ?_
      exact mf_sub [1, 0] rfl hyp
  · replace hyp := hyp.2 hc
    refine mf_iconst (v := 1) (mf_dat eX2_readStatement_p0 16 rfl) (by decide) ?_
    refine mf_goto (tgt := 39) (mf_dat eX2_readStatement_p0 17 rfl) (by decide) ?_
    refine mf_iload_n (mf_dat eX2_readStatement_p0 19 rfl) rfl rfl ?_
    refine mf_bipush (v := 16) (mf_dat eX2_readStatement_p0 20 rfl) (by decide) ?_
    refine mf_icmp_ne (tgt := 49) (mf_dat eX2_readStatement_p0 21 rfl) (by decide) (fun hc => ?_) (fun hc => ?_)
    · replace hyp := hyp.1 hc
      refine mf_iconst (v := 0) (mf_dat eX2_readStatement_p0 24 rfl) (by decide) ?_
      exact mf_sub [1, 0] rfl hyp
    · replace hyp := hyp.2 hc
      refine mf_iconst (v := 1) (mf_dat eX2_readStatement_p0 22 rfl) (by decide) ?_
      refine mf_goto (tgt := 50) (mf_dat eX2_readStatement_p0 23 rfl) (by decide) ?_
      exact mf_sub [1, 0] rfl hyp
set_option maxRecDepth 100000 in
set_option maxHeartbeats 4000000 in
theorem bX2_readStatement_50 {C : mf_G} {l : Launch} {d n : Nat} {K : mf_Kt} {x0 x2 s0 s1 : Int} {g h : mf_M} (hd : 64 ≤ d) (hyp : ((s0 = s1 → ((x2 = 16 → mf_is n x0 2 ∧ mf_MT C l 5 YX2_readSize [(2, x0)] n n g h (fun r1 g2 h3 => K 0 g2 h3)) ∧ (x2 = 17 → mf_is n x0 2 ∧ mf_is n (g x0 0) 9 ∧ mf_MT C l 0 YX9_fail [(2, g x0 0), (0, 1), (0, h (g x0 0) 3)] n n g h (fun r7 g8 h9 => K 0 g8 h9)) ∧ (x2 = 18 → mf_is n x0 2 ∧ mf_MT C l 6 YX2_readGloss [(2, x0)] n n g h (fun r10 g11 h12 => K 0 g11 h12)) ∧ (x2 = 19 → mf_is n x0 2 ∧ mf_MT C l 5 YX2_readWorm [(2, x0)] n n g h (fun r14 g15 h16 => K 0 g15 h16)) ∧ (x2 = 20 → mf_is n x0 2 ∧ mf_MT C l 6 YX2_readBeing [(2, x0)] n n g h (fun r18 g19 h20 => K 0 g19 h20)) ∧ (x2 = 21 → mf_is n x0 2 ∧ mf_is n (g x0 0) 9 ∧ mf_MT C l 0 YX9_fail [(2, g x0 0), (0, 1), (0, h (g x0 0) 3)] n n g h (fun r24 g25 h26 => K 0 g25 h26)) ∧ (x2 = 22 → mf_is n x0 2 ∧ mf_is n (g x0 0) 9 ∧ mf_MT C l 0 YX9_fail [(2, g x0 0), (0, 1), (0, h (g x0 0) 3)] n n g h (fun r29 g30 h31 => K 0 g30 h31)) ∧ (x2 = 23 → mf_is n x0 2 ∧ mf_MT C l 4 YX2_beginRule [(2, x0), (0, 0), (0, 1)] n n g h (fun r32 g33 h34 => ((r32 = 0 → K 0 g33 h34) ∧ (¬ r32 = 0 → mf_is n (g33 x0 2) 7 ∧ mf_MT C l 63 YX7_readSum [(2, g33 x0 2), (0, 0)] n n g33 h34 (fun r36 g37 h38 => K 0 g37 h38))))) ∧ (x2 = 24 → mf_is n x0 2 ∧ mf_MT C l 4 YX2_beginRule [(2, x0), (0, 1), (0, 63)] n n g h (fun r40 g41 h42 => ((r40 = 0 → K 0 g41 h42) ∧ (¬ r40 = 0 → mf_is n (g41 x0 2) 7 ∧ mf_MT C l 63 YX7_readSum [(2, g41 x0 2), (0, 0)] n n g41 h42 (fun r44 g45 h46 => K 0 g45 h46))))) ∧ (x2 = 25 → mf_is n x0 2 ∧ mf_MT C l 4 YX2_beginRule [(2, x0), (0, 2), (0, 127)] n n g h (fun r48 g49 h50 => ((r48 = 0 → K 0 g49 h50) ∧ (¬ r48 = 0 → mf_is n (g49 x0 2) 7 ∧ mf_MT C l 63 YX7_readSum [(2, g49 x0 2), (0, 0)] n n g49 h50 (fun r52 g53 h54 => K 0 g53 h54))))) ∧ (x2 = 26 → mf_is n x0 2 ∧ mf_MT C l 4 YX2_beginRule [(2, x0), (0, 3), (0, 63)] n n g h (fun r56 g57 h58 => ((r56 = 0 → K 0 g57 h58) ∧ (¬ r56 = 0 → mf_is n (g57 x0 2) 7 ∧ mf_MT C l 63 YX7_readTest [(2, g57 x0 2), (0, 0)] n n g57 h58 (fun r60 g61 h62 => K 0 g61 h62))))) ∧ (x2 = 27 → mf_is n x0 2 ∧ mf_is n (g x0 0) 9 ∧ mf_MT C l 2 YX9_step [(2, g x0 0)] n n g h (fun r65 g66 h67 => mf_MT C l 4 YX2_readNumber [(2, x0), (0, 0), (0, 100)] n n g66 h67 (fun r69 g70 h71 => mf_is n (g66 x0 3) 1 ∧ (∀ h73 : mf_M, h73 = mf_up h71 (g66 x0 3) 13 r69 → K 0 g70 h73)))) ∧ ((x2 < 16 ∨ 27 < x2) → mf_is n x0 2 ∧ mf_is n (g x0 0) 9 ∧ mf_MT C l 0 YX9_fail [(2, g x0 0), (0, 1), (0, h (g x0 0) 3)] n n g h (fun r76 g77 h78 => K 0 g77 h78)))) ∧ (¬ s0 = s1 → mf_is n x0 2 ∧ mf_is n (g x0 0) 9 ∧ mf_MT C l 0 YX9_fail [(2, g x0 0), (0, 1), (0, h (g x0 0) 3)] n n g h (fun r81 g82 h83 => K 0 g82 h83)))) : JX2_readStatement_50 C l d n K x0 x2 s0 s1 g h := by
  refine mf_icmp_eq (tgt := 69) (mf_dat eX2_readStatement_p0 25 rfl) (by decide) (fun hc => ?_) (fun hc => ?_)
  · replace hyp := hyp.1 hc
    refine mf_iload_n (mf_dat eX2_readStatement_p0 34 rfl) rfl rfl ?_
    refine mf_tsw1 (v := 16) (tgt := 132) (mf_dat eX2_readStatement_p0 35 rfl) (by decide) (by decide) (off := 62) (by decide) (by decide) (fun hc => ?_) (fun hc0 => ?_)
    · replace hyp := hyp.1 hc
      refine mf_aload_n (mf_dat eX2_readStatement_p0 36 rfl) rfl rfl ?_
      obtain ⟨ck4, hyp⟩ := hyp
      refine mf_callV (Yc := YX2_readSize) (r := (RX2, TX2, 5)) (ci := 2) (mf_dat eX2_readStatement_p0 37 rfl) ml_X2_80 okX2_readSize im_X2_readSize sl_X2_readSize rfl rfl rfl rfl (Nat.le_of_ble_eq_true rfl) (mf_rr (Nat.le_trans (by decide) hd) (Nat.le_refl _)) (Nat.le_refl _) ck4 hyp (fun r1 g2 h3 hyp => ?_)
      refine mf_goto (tgt := 282) (mf_dat eX2_readStatement_p0 38 rfl) (by decide) ?_
      exact mf_return (mf_dat eX2_readStatement_p1 46 rfl) rfl hyp
    replace hyp := hyp.2
    refine mf_tsw1 (v := 17) (tgt := 267) (mf_dat eX2_readStatement_p0 35 rfl) (by decide) (by decide) (off := 197) (by decide) (by decide) (fun hc => ?_) (fun hc1 => ?_)
    · replace hyp := hyp.1 hc
      refine mf_aload_n (mf_dat eX2_readStatement_p1 39 rfl) rfl rfl ?_
      obtain ⟨ck5, hyp⟩ := hyp
      refine mf_getf (r := (RX2, TX2, 5)) (ci := 2) (k := 0) (t := 2) (v := g x0 0) (mf_dat eX2_readStatement_p1 40 rfl) fl_X2_9 rfl (by decide) rfl rfl ck5 ?_
      refine mf_iconst (v := 1) (mf_dat eX2_readStatement_p1 41 rfl) (by decide) ?_
      refine mf_aload_n (mf_dat eX2_readStatement_p1 42 rfl) rfl rfl ?_
      refine mf_getf (r := (RX2, TX2, 5)) (ci := 2) (k := 0) (t := 2) (v := g x0 0) (mf_dat eX2_readStatement_p1 43 rfl) fl_X2_9 rfl (by decide) rfl rfl ck5 ?_
      obtain ⟨ck6, hyp⟩ := hyp
      refine mf_getf (r := (RX9, TX9, 9)) (ci := 9) (k := 3) (t := 0) (v := h (g x0 0) 3) (mf_dat eX2_readStatement_p1 44 rfl) fl_X2_44 rfl (by decide) rfl rfl ck6 ?_
      refine mf_callV (Yc := YX9_fail) (r := (RX9, TX9, 9)) (ci := 9) (mf_dat eX2_readStatement_p1 45 rfl) ml_X2_47 okX9_fail im_X9_fail sl_X9_fail rfl rfl rfl rfl (Nat.le_of_ble_eq_true rfl) (mf_rr (Nat.le_trans (by decide) hd) (Nat.le_refl _)) (Nat.le_refl _) ck6 hyp (fun r7 g8 h9 hyp => ?_)
      exact mf_return (mf_dat eX2_readStatement_p1 46 rfl) rfl hyp
    replace hyp := hyp.2
    refine mf_tsw1 (v := 18) (tgt := 139) (mf_dat eX2_readStatement_p0 35 rfl) (by decide) (by decide) (off := 69) (by decide) (by decide) (fun hc => ?_) (fun hc2 => ?_)
    · replace hyp := hyp.1 hc
      refine mf_aload_n (mf_dat eX2_readStatement_p0 39 rfl) rfl rfl ?_
      obtain ⟨ck13, hyp⟩ := hyp
      refine mf_callV (Yc := YX2_readGloss) (r := (RX2, TX2, 5)) (ci := 2) (mf_dat eX2_readStatement_p0 40 rfl) ml_X2_83 okX2_readGloss im_X2_readGloss sl_X2_readGloss rfl rfl rfl rfl (Nat.le_of_ble_eq_true rfl) (mf_rr (Nat.le_trans (by decide) hd) (Nat.le_refl _)) (Nat.le_refl _) ck13 hyp (fun r10 g11 h12 hyp => ?_)
      refine mf_goto (tgt := 282) (mf_dat eX2_readStatement_p0 41 rfl) (by decide) ?_
      exact mf_return (mf_dat eX2_readStatement_p1 46 rfl) rfl hyp
    replace hyp := hyp.2
    refine mf_tsw1 (v := 19) (tgt := 146) (mf_dat eX2_readStatement_p0 35 rfl) (by decide) (by decide) (off := 76) (by decide) (by decide) (fun hc => ?_) (fun hc3 => ?_)
    · replace hyp := hyp.1 hc
      refine mf_aload_n (mf_dat eX2_readStatement_p0 42 rfl) rfl rfl ?_
      obtain ⟨ck17, hyp⟩ := hyp
      refine mf_callV (Yc := YX2_readWorm) (r := (RX2, TX2, 5)) (ci := 2) (mf_dat eX2_readStatement_p0 43 rfl) ml_X2_86 okX2_readWorm im_X2_readWorm sl_X2_readWorm rfl rfl rfl rfl (Nat.le_of_ble_eq_true rfl) (mf_rr (Nat.le_trans (by decide) hd) (Nat.le_refl _)) (Nat.le_refl _) ck17 hyp (fun r14 g15 h16 hyp => ?_)
      refine mf_goto (tgt := 282) (mf_dat eX2_readStatement_p0 44 rfl) (by decide) ?_
      exact mf_return (mf_dat eX2_readStatement_p1 46 rfl) rfl hyp
    replace hyp := hyp.2
    refine mf_tsw1 (v := 20) (tgt := 153) (mf_dat eX2_readStatement_p0 35 rfl) (by decide) (by decide) (off := 83) (by decide) (by decide) (fun hc => ?_) (fun hc4 => ?_)
    · replace hyp := hyp.1 hc
      refine mf_aload_n (mf_dat eX2_readStatement_p0 45 rfl) rfl rfl ?_
      obtain ⟨ck21, hyp⟩ := hyp
      refine mf_callV (Yc := YX2_readBeing) (r := (RX2, TX2, 5)) (ci := 2) (mf_dat eX2_readStatement_p0 46 rfl) ml_X2_89 okX2_readBeing im_X2_readBeing sl_X2_readBeing rfl rfl rfl rfl (Nat.le_of_ble_eq_true rfl) (mf_rr (Nat.le_trans (by decide) hd) (Nat.le_refl _)) (Nat.le_refl _) ck21 hyp (fun r18 g19 h20 hyp => ?_)
      refine mf_goto (tgt := 282) (mf_dat eX2_readStatement_p0 47 rfl) (by decide) ?_
      exact mf_return (mf_dat eX2_readStatement_p1 46 rfl) rfl hyp
    replace hyp := hyp.2
    refine mf_tsw1 (v := 21) (tgt := 267) (mf_dat eX2_readStatement_p0 35 rfl) (by decide) (by decide) (off := 197) (by decide) (by decide) (fun hc => ?_) (fun hc5 => ?_)
    · replace hyp := hyp.1 hc
      refine mf_aload_n (mf_dat eX2_readStatement_p1 39 rfl) rfl rfl ?_
      obtain ⟨ck22, hyp⟩ := hyp
      refine mf_getf (r := (RX2, TX2, 5)) (ci := 2) (k := 0) (t := 2) (v := g x0 0) (mf_dat eX2_readStatement_p1 40 rfl) fl_X2_9 rfl (by decide) rfl rfl ck22 ?_
      refine mf_iconst (v := 1) (mf_dat eX2_readStatement_p1 41 rfl) (by decide) ?_
      refine mf_aload_n (mf_dat eX2_readStatement_p1 42 rfl) rfl rfl ?_
      refine mf_getf (r := (RX2, TX2, 5)) (ci := 2) (k := 0) (t := 2) (v := g x0 0) (mf_dat eX2_readStatement_p1 43 rfl) fl_X2_9 rfl (by decide) rfl rfl ck22 ?_
      obtain ⟨ck23, hyp⟩ := hyp
      refine mf_getf (r := (RX9, TX9, 9)) (ci := 9) (k := 3) (t := 0) (v := h (g x0 0) 3) (mf_dat eX2_readStatement_p1 44 rfl) fl_X2_44 rfl (by decide) rfl rfl ck23 ?_
      refine mf_callV (Yc := YX9_fail) (r := (RX9, TX9, 9)) (ci := 9) (mf_dat eX2_readStatement_p1 45 rfl) ml_X2_47 okX9_fail im_X9_fail sl_X9_fail rfl rfl rfl rfl (Nat.le_of_ble_eq_true rfl) (mf_rr (Nat.le_trans (by decide) hd) (Nat.le_refl _)) (Nat.le_refl _) ck23 hyp (fun r24 g25 h26 hyp => ?_)
      exact mf_return (mf_dat eX2_readStatement_p1 46 rfl) rfl hyp
    replace hyp := hyp.2
    refine mf_tsw1 (v := 22) (tgt := 267) (mf_dat eX2_readStatement_p0 35 rfl) (by decide) (by decide) (off := 197) (by decide) (by decide) (fun hc => ?_) (fun hc6 => ?_)
    · replace hyp := hyp.1 hc
      refine mf_aload_n (mf_dat eX2_readStatement_p1 39 rfl) rfl rfl ?_
      obtain ⟨ck27, hyp⟩ := hyp
      refine mf_getf (r := (RX2, TX2, 5)) (ci := 2) (k := 0) (t := 2) (v := g x0 0) (mf_dat eX2_readStatement_p1 40 rfl) fl_X2_9 rfl (by decide) rfl rfl ck27 ?_
      refine mf_iconst (v := 1) (mf_dat eX2_readStatement_p1 41 rfl) (by decide) ?_
      refine mf_aload_n (mf_dat eX2_readStatement_p1 42 rfl) rfl rfl ?_
      refine mf_getf (r := (RX2, TX2, 5)) (ci := 2) (k := 0) (t := 2) (v := g x0 0) (mf_dat eX2_readStatement_p1 43 rfl) fl_X2_9 rfl (by decide) rfl rfl ck27 ?_
      obtain ⟨ck28, hyp⟩ := hyp
      refine mf_getf (r := (RX9, TX9, 9)) (ci := 9) (k := 3) (t := 0) (v := h (g x0 0) 3) (mf_dat eX2_readStatement_p1 44 rfl) fl_X2_44 rfl (by decide) rfl rfl ck28 ?_
      refine mf_callV (Yc := YX9_fail) (r := (RX9, TX9, 9)) (ci := 9) (mf_dat eX2_readStatement_p1 45 rfl) ml_X2_47 okX9_fail im_X9_fail sl_X9_fail rfl rfl rfl rfl (Nat.le_of_ble_eq_true rfl) (mf_rr (Nat.le_trans (by decide) hd) (Nat.le_refl _)) (Nat.le_refl _) ck28 hyp (fun r29 g30 h31 hyp => ?_)
      exact mf_return (mf_dat eX2_readStatement_p1 46 rfl) rfl hyp
    replace hyp := hyp.2
    refine mf_tsw1 (v := 23) (tgt := 160) (mf_dat eX2_readStatement_p0 35 rfl) (by decide) (by decide) (off := 90) (by decide) (by decide) (fun hc => ?_) (fun hc7 => ?_)
    · replace hyp := hyp.1 hc
      refine mf_aload_n (mf_dat eX2_readStatement_p0 48 rfl) rfl rfl ?_
      refine mf_iconst (v := 0) (mf_dat eX2_readStatement_p0 49 rfl) (by decide) ?_
      refine mf_iconst (v := 1) (mf_dat eX2_readStatement_p0 50 rfl) (by decide) ?_
      obtain ⟨ck35, hyp⟩ := hyp
      refine mf_callV (Yc := YX2_beginRule) (r := (RX2, TX2, 5)) (ci := 2) (mf_dat eX2_readStatement_p0 51 rfl) ml_X2_94 okX2_beginRule im_X2_beginRule sl_X2_beginRule rfl rfl rfl rfl (Nat.le_of_ble_eq_true rfl) (mf_rr (Nat.le_trans (by decide) hd) (Nat.le_refl _)) (Nat.le_refl _) ck35 hyp (fun r32 g33 h34 hyp => ?_)
      refine mf_if_eq (tgt := 282) (mf_dat eX2_readStatement_p0 52 rfl) (by decide) (fun hc => ?_) (fun hc => ?_)
      · replace hyp := hyp.1 hc
        exact mf_return (mf_dat eX2_readStatement_p1 46 rfl) rfl hyp
      · replace hyp := hyp.2 hc
        refine mf_aload_n (mf_dat eX2_readStatement_p0 53 rfl) rfl rfl ?_
        refine mf_getf (r := (RX2, TX2, 5)) (ci := 2) (k := 2) (t := 2) (v := g33 x0 2) (mf_dat eX2_readStatement_p0 54 rfl) fl_X2_19 rfl (by decide) rfl rfl ck35 ?_
        refine mf_iconst (v := 0) (mf_dat eX2_readStatement_p0 55 rfl) (by decide) ?_
        obtain ⟨ck39, hyp⟩ := hyp
        refine mf_callV (Yc := YX7_readSum) (r := (RX7, TX7, 4)) (ci := 7) (mf_dat eX2_readStatement_p0 56 rfl) ml_X2_98 okX7_readSum im_X7_readSum sl_X7_readSum rfl rfl rfl rfl (Nat.le_of_ble_eq_true rfl) (mf_rr (Nat.le_trans (by decide) hd) (Nat.le_refl _)) (Nat.le_refl _) ck39 hyp (fun r36 g37 h38 hyp => ?_)
        refine mf_goto (tgt := 282) (mf_dat eX2_readStatement_p0 57 rfl) (by decide) ?_
        exact mf_return (mf_dat eX2_readStatement_p1 46 rfl) rfl hyp
    replace hyp := hyp.2
    refine mf_tsw1 (v := 24) (tgt := 180) (mf_dat eX2_readStatement_p0 35 rfl) (by decide) (by decide) (off := 110) (by decide) (by decide) (fun hc => ?_) (fun hc8 => ?_)
    · replace hyp := hyp.1 hc
      refine mf_aload_n (mf_dat eX2_readStatement_p0 58 rfl) rfl rfl ?_
      refine mf_iconst (v := 1) (mf_dat eX2_readStatement_p0 59 rfl) (by decide) ?_
      refine mf_bipush (v := 63) (mf_dat eX2_readStatement_p1 0 rfl) (by decide) ?_
      obtain ⟨ck43, hyp⟩ := hyp
      refine mf_callV (Yc := YX2_beginRule) (r := (RX2, TX2, 5)) (ci := 2) (mf_dat eX2_readStatement_p1 1 rfl) ml_X2_94 okX2_beginRule im_X2_beginRule sl_X2_beginRule rfl rfl rfl rfl (Nat.le_of_ble_eq_true rfl) (mf_rr (Nat.le_trans (by decide) hd) (Nat.le_refl _)) (Nat.le_refl _) ck43 hyp (fun r40 g41 h42 hyp => ?_)
      refine mf_if_eq (tgt := 282) (mf_dat eX2_readStatement_p1 2 rfl) (by decide) (fun hc => ?_) (fun hc => ?_)
      · replace hyp := hyp.1 hc
        exact mf_return (mf_dat eX2_readStatement_p1 46 rfl) rfl hyp
      · replace hyp := hyp.2 hc
        refine mf_aload_n (mf_dat eX2_readStatement_p1 3 rfl) rfl rfl ?_
        refine mf_getf (r := (RX2, TX2, 5)) (ci := 2) (k := 2) (t := 2) (v := g41 x0 2) (mf_dat eX2_readStatement_p1 4 rfl) fl_X2_19 rfl (by decide) rfl rfl ck43 ?_
        refine mf_iconst (v := 0) (mf_dat eX2_readStatement_p1 5 rfl) (by decide) ?_
        obtain ⟨ck47, hyp⟩ := hyp
        refine mf_callV (Yc := YX7_readSum) (r := (RX7, TX7, 4)) (ci := 7) (mf_dat eX2_readStatement_p1 6 rfl) ml_X2_98 okX7_readSum im_X7_readSum sl_X7_readSum rfl rfl rfl rfl (Nat.le_of_ble_eq_true rfl) (mf_rr (Nat.le_trans (by decide) hd) (Nat.le_refl _)) (Nat.le_refl _) ck47 hyp (fun r44 g45 h46 hyp => ?_)
        refine mf_goto (tgt := 282) (mf_dat eX2_readStatement_p1 7 rfl) (by decide) ?_
        exact mf_return (mf_dat eX2_readStatement_p1 46 rfl) rfl hyp
    replace hyp := hyp.2
    refine mf_tsw1 (v := 25) (tgt := 201) (mf_dat eX2_readStatement_p0 35 rfl) (by decide) (by decide) (off := 131) (by decide) (by decide) (fun hc => ?_) (fun hc9 => ?_)
    · replace hyp := hyp.1 hc
      refine mf_aload_n (mf_dat eX2_readStatement_p1 8 rfl) rfl rfl ?_
      refine mf_iconst (v := 2) (mf_dat eX2_readStatement_p1 9 rfl) (by decide) ?_
      refine mf_bipush (v := 127) (mf_dat eX2_readStatement_p1 10 rfl) (by decide) ?_
      obtain ⟨ck51, hyp⟩ := hyp
      refine mf_callV (Yc := YX2_beginRule) (r := (RX2, TX2, 5)) (ci := 2) (mf_dat eX2_readStatement_p1 11 rfl) ml_X2_94 okX2_beginRule im_X2_beginRule sl_X2_beginRule rfl rfl rfl rfl (Nat.le_of_ble_eq_true rfl) (mf_rr (Nat.le_trans (by decide) hd) (Nat.le_refl _)) (Nat.le_refl _) ck51 hyp (fun r48 g49 h50 hyp => ?_)
      refine mf_if_eq (tgt := 282) (mf_dat eX2_readStatement_p1 12 rfl) (by decide) (fun hc => ?_) (fun hc => ?_)
      · replace hyp := hyp.1 hc
        exact mf_return (mf_dat eX2_readStatement_p1 46 rfl) rfl hyp
      · replace hyp := hyp.2 hc
        refine mf_aload_n (mf_dat eX2_readStatement_p1 13 rfl) rfl rfl ?_
        refine mf_getf (r := (RX2, TX2, 5)) (ci := 2) (k := 2) (t := 2) (v := g49 x0 2) (mf_dat eX2_readStatement_p1 14 rfl) fl_X2_19 rfl (by decide) rfl rfl ck51 ?_
        refine mf_iconst (v := 0) (mf_dat eX2_readStatement_p1 15 rfl) (by decide) ?_
        obtain ⟨ck55, hyp⟩ := hyp
        refine mf_callV (Yc := YX7_readSum) (r := (RX7, TX7, 4)) (ci := 7) (mf_dat eX2_readStatement_p1 16 rfl) ml_X2_98 okX7_readSum im_X7_readSum sl_X7_readSum rfl rfl rfl rfl (Nat.le_of_ble_eq_true rfl) (mf_rr (Nat.le_trans (by decide) hd) (Nat.le_refl _)) (Nat.le_refl _) ck55 hyp (fun r52 g53 h54 hyp => ?_)
        refine mf_goto (tgt := 282) (mf_dat eX2_readStatement_p1 17 rfl) (by decide) ?_
        exact mf_return (mf_dat eX2_readStatement_p1 46 rfl) rfl hyp
    replace hyp := hyp.2
    refine mf_tsw1 (v := 26) (tgt := 222) (mf_dat eX2_readStatement_p0 35 rfl) (by decide) (by decide) (off := 152) (by decide) (by decide) (fun hc => ?_) (fun hc10 => ?_)
    · replace hyp := hyp.1 hc
      refine mf_aload_n (mf_dat eX2_readStatement_p1 18 rfl) rfl rfl ?_
      refine mf_iconst (v := 3) (mf_dat eX2_readStatement_p1 19 rfl) (by decide) ?_
      refine mf_bipush (v := 63) (mf_dat eX2_readStatement_p1 20 rfl) (by decide) ?_
      obtain ⟨ck59, hyp⟩ := hyp
      refine mf_callV (Yc := YX2_beginRule) (r := (RX2, TX2, 5)) (ci := 2) (mf_dat eX2_readStatement_p1 21 rfl) ml_X2_94 okX2_beginRule im_X2_beginRule sl_X2_beginRule rfl rfl rfl rfl (Nat.le_of_ble_eq_true rfl) (mf_rr (Nat.le_trans (by decide) hd) (Nat.le_refl _)) (Nat.le_refl _) ck59 hyp (fun r56 g57 h58 hyp => ?_)
      refine mf_if_eq (tgt := 282) (mf_dat eX2_readStatement_p1 22 rfl) (by decide) (fun hc => ?_) (fun hc => ?_)
      · replace hyp := hyp.1 hc
        exact mf_return (mf_dat eX2_readStatement_p1 46 rfl) rfl hyp
      · replace hyp := hyp.2 hc
        refine mf_aload_n (mf_dat eX2_readStatement_p1 23 rfl) rfl rfl ?_
        refine mf_getf (r := (RX2, TX2, 5)) (ci := 2) (k := 2) (t := 2) (v := g57 x0 2) (mf_dat eX2_readStatement_p1 24 rfl) fl_X2_19 rfl (by decide) rfl rfl ck59 ?_
        refine mf_iconst (v := 0) (mf_dat eX2_readStatement_p1 25 rfl) (by decide) ?_
        obtain ⟨ck63, hyp⟩ := hyp
        refine mf_callV (Yc := YX7_readTest) (r := (RX7, TX7, 4)) (ci := 7) (mf_dat eX2_readStatement_p1 26 rfl) ml_X2_101 okX7_readTest im_X7_readTest sl_X7_readTest rfl rfl rfl rfl (Nat.le_of_ble_eq_true rfl) (mf_rr (Nat.le_trans (by decide) hd) (Nat.le_refl _)) (Nat.le_refl _) ck63 hyp (fun r60 g61 h62 hyp => ?_)
        refine mf_goto (tgt := 282) (mf_dat eX2_readStatement_p1 27 rfl) (by decide) ?_
        exact mf_return (mf_dat eX2_readStatement_p1 46 rfl) rfl hyp
    replace hyp := hyp.2
    refine mf_tsw1 (v := 27) (tgt := 243) (mf_dat eX2_readStatement_p0 35 rfl) (by decide) (by decide) (off := 173) (by decide) (by decide) (fun hc => ?_) (fun hc11 => ?_)
    · replace hyp := hyp.1 hc
      refine mf_aload_n (mf_dat eX2_readStatement_p1 28 rfl) rfl rfl ?_
      obtain ⟨ck64, hyp⟩ := hyp
      refine mf_getf (r := (RX2, TX2, 5)) (ci := 2) (k := 0) (t := 2) (v := g x0 0) (mf_dat eX2_readStatement_p1 29 rfl) fl_X2_9 rfl (by decide) rfl rfl ck64 ?_
      obtain ⟨ck68, hyp⟩ := hyp
      refine mf_callV (Yc := YX9_step) (r := (RX9, TX9, 9)) (ci := 9) (mf_dat eX2_readStatement_p1 30 rfl) ml_X2_104 okX9_step im_X9_step sl_X9_step rfl rfl rfl rfl (Nat.le_of_ble_eq_true rfl) (mf_rr (Nat.le_trans (by decide) hd) (Nat.le_refl _)) (Nat.le_refl _) ck68 hyp (fun r65 g66 h67 hyp => ?_)
      refine mf_aload_n (mf_dat eX2_readStatement_p1 31 rfl) rfl rfl ?_
      refine mf_getf (r := (RX2, TX2, 5)) (ci := 2) (k := 3) (t := 2) (v := g66 x0 3) (mf_dat eX2_readStatement_p1 32 rfl) fl_X2_23 rfl (by decide) rfl rfl ck64 ?_
      refine mf_aload_n (mf_dat eX2_readStatement_p1 33 rfl) rfl rfl ?_
      refine mf_iconst (v := 0) (mf_dat eX2_readStatement_p1 34 rfl) (by decide) ?_
      refine mf_bipush (v := 100) (mf_dat eX2_readStatement_p1 35 rfl) (by decide) ?_
      refine mf_callV (Yc := YX2_readNumber) (r := (RX2, TX2, 5)) (ci := 2) (mf_dat eX2_readStatement_p1 36 rfl) ml_X2_107 okX2_readNumber im_X2_readNumber sl_X2_readNumber rfl rfl rfl rfl (Nat.le_of_ble_eq_true rfl) (mf_rr (Nat.le_trans (by decide) hd) (Nat.le_refl _)) (Nat.le_refl _) ck64 hyp (fun r69 g70 h71 hyp => ?_)
      obtain ⟨ck72, hyp⟩ := hyp
      refine mf_putI (r := (RX1, TX1, 14)) (ci := 1) (k := 13) (kI := 13) (t := 0) (mf_dat eX2_readStatement_p1 37 rfl) fl_X2_111 rfl rfl (by decide) rfl (by decide) rfl (by decide) (fun h9 => absurd h9 (by decide)) ck72 ?_
      generalize qh73 : mf_up h71 (g66 x0 3) 13 r69 = h73
      replace hyp := hyp _ qh73.symm
      refine mf_goto (tgt := 282) (mf_dat eX2_readStatement_p1 38 rfl) (by decide) ?_
      exact mf_return (mf_dat eX2_readStatement_p1 46 rfl) rfl hyp
    replace hyp := hyp.2
    refine mf_tswO (tgt := 267) (mf_dat eX2_readStatement_p0 35 rfl) (by omega) (by decide) ?_
    replace hyp := hyp (by omega)
    refine mf_aload_n (mf_dat eX2_readStatement_p1 39 rfl) rfl rfl ?_
    obtain ⟨ck74, hyp⟩ := hyp
    refine mf_getf (r := (RX2, TX2, 5)) (ci := 2) (k := 0) (t := 2) (v := g x0 0) (mf_dat eX2_readStatement_p1 40 rfl) fl_X2_9 rfl (by decide) rfl rfl ck74 ?_
    refine mf_iconst (v := 1) (mf_dat eX2_readStatement_p1 41 rfl) (by decide) ?_
    refine mf_aload_n (mf_dat eX2_readStatement_p1 42 rfl) rfl rfl ?_
    refine mf_getf (r := (RX2, TX2, 5)) (ci := 2) (k := 0) (t := 2) (v := g x0 0) (mf_dat eX2_readStatement_p1 43 rfl) fl_X2_9 rfl (by decide) rfl rfl ck74 ?_
    obtain ⟨ck75, hyp⟩ := hyp
    refine mf_getf (r := (RX9, TX9, 9)) (ci := 9) (k := 3) (t := 0) (v := h (g x0 0) 3) (mf_dat eX2_readStatement_p1 44 rfl) fl_X2_44 rfl (by decide) rfl rfl ck75 ?_
    refine mf_callV (Yc := YX9_fail) (r := (RX9, TX9, 9)) (ci := 9) (mf_dat eX2_readStatement_p1 45 rfl) ml_X2_47 okX9_fail im_X9_fail sl_X9_fail rfl rfl rfl rfl (Nat.le_of_ble_eq_true rfl) (mf_rr (Nat.le_trans (by decide) hd) (Nat.le_refl _)) (Nat.le_refl _) ck75 hyp (fun r76 g77 h78 hyp => ?_)
    exact mf_return (mf_dat eX2_readStatement_p1 46 rfl) rfl hyp
  · replace hyp := hyp.2 hc
    refine mf_aload_n (mf_dat eX2_readStatement_p0 26 rfl) rfl rfl ?_
    obtain ⟨ck79, hyp⟩ := hyp
    refine mf_getf (r := (RX2, TX2, 5)) (ci := 2) (k := 0) (t := 2) (v := g x0 0) (mf_dat eX2_readStatement_p0 27 rfl) fl_X2_9 rfl (by decide) rfl rfl ck79 ?_
    refine mf_iconst (v := 1) (mf_dat eX2_readStatement_p0 28 rfl) (by decide) ?_
    refine mf_aload_n (mf_dat eX2_readStatement_p0 29 rfl) rfl rfl ?_
    refine mf_getf (r := (RX2, TX2, 5)) (ci := 2) (k := 0) (t := 2) (v := g x0 0) (mf_dat eX2_readStatement_p0 30 rfl) fl_X2_9 rfl (by decide) rfl rfl ck79 ?_
    obtain ⟨ck80, hyp⟩ := hyp
    refine mf_getf (r := (RX9, TX9, 9)) (ci := 9) (k := 3) (t := 0) (v := h (g x0 0) 3) (mf_dat eX2_readStatement_p0 31 rfl) fl_X2_44 rfl (by decide) rfl rfl ck80 ?_
    refine mf_callV (Yc := YX9_fail) (r := (RX9, TX9, 9)) (ci := 9) (mf_dat eX2_readStatement_p0 32 rfl) ml_X2_47 okX9_fail im_X9_fail sl_X9_fail rfl rfl rfl rfl (Nat.le_of_ble_eq_true rfl) (mf_rr (Nat.le_trans (by decide) hd) (Nat.le_refl _)) (Nat.le_refl _) ck80 hyp (fun r81 g82 h83 hyp => ?_)
    exact mf_return (mf_dat eX2_readStatement_p0 33 rfl) rfl hyp
set_option maxRecDepth 100000 in
set_option maxHeartbeats 4000000 in
theorem mX2_readStatement {C : mf_G} {l : Launch} {d n : Nat} {K : mf_Kt} {x0 x1 : Int} {g h : mf_M} (hd : 1 ≤ d) (hyp : mf_is n x0 2 ∧ mf_is n (g x0 0) 9 ∧ ((¬ h (g x0 0) 2 = 1 → JX2_readStatement_29 C l d n K x0 x1 (-1) g h) ∧ (h (g x0 0) 2 = 1 → mf_is n (g x0 1) 10 ∧ mf_MT C l 0 YX10_find [(2, g x0 1), (0, h (g x0 0) 5)] n n g h (fun r3 g4 h5 => JX2_readStatement_29 C l d n K x0 x1 r3 g4 h5)))) : mf_MT C l d YX2_readStatement [(2, x0), (0, x1)] n n g h K := by
  refine mf_entry (by decide) (Nat.le_of_ble_eq_true rfl) ?_
  refine mf_aload_n (mf_dat eX2_readStatement_p0 0 rfl) rfl rfl ?_
  obtain ⟨ck1, hyp⟩ := hyp
  refine mf_getf (r := (RX2, TX2, 5)) (ci := 2) (k := 0) (t := 2) (v := g x0 0) (mf_dat eX2_readStatement_p0 1 rfl) fl_X2_9 rfl (by decide) rfl rfl ck1 ?_
  obtain ⟨ck2, hyp⟩ := hyp
  refine mf_getf (r := (RX9, TX9, 9)) (ci := 9) (k := 2) (t := 0) (v := h (g x0 0) 2) (mf_dat eX2_readStatement_p0 2 rfl) fl_X2_41 rfl (by decide) rfl rfl ck2 ?_
  refine mf_iconst (v := 1) (mf_dat eX2_readStatement_p0 3 rfl) (by decide) ?_
  refine mf_icmp_ne (tgt := 28) (mf_dat eX2_readStatement_p0 4 rfl) (by decide) (fun hc => ?_) (fun hc => ?_)
  · replace hyp := hyp.1 hc
    refine mf_iconst (v := (-1)) (mf_dat eX2_readStatement_p0 12 rfl) (by decide) ?_
    exact mf_sub [0, 1] rfl hyp
  · replace hyp := hyp.2 hc
    refine mf_aload_n (mf_dat eX2_readStatement_p0 5 rfl) rfl rfl ?_
    refine mf_getf (r := (RX2, TX2, 5)) (ci := 2) (k := 1) (t := 2) (v := g x0 1) (mf_dat eX2_readStatement_p0 6 rfl) fl_X2_15 rfl (by decide) rfl rfl ck1 ?_
    refine mf_aload_n (mf_dat eX2_readStatement_p0 7 rfl) rfl rfl ?_
    refine mf_getf (r := (RX2, TX2, 5)) (ci := 2) (k := 0) (t := 2) (v := g x0 0) (mf_dat eX2_readStatement_p0 8 rfl) fl_X2_9 rfl (by decide) rfl rfl ck1 ?_
    refine mf_getf (r := (RX9, TX9, 9)) (ci := 9) (k := 5) (t := 0) (v := h (g x0 0) 5) (mf_dat eX2_readStatement_p0 9 rfl) fl_X2_71 rfl (by decide) rfl rfl ck2 ?_
    obtain ⟨ck6, hyp⟩ := hyp
    refine mf_callV (Yc := YX10_find) (r := (RX10, TX10, 1)) (ci := 10) (mf_dat eX2_readStatement_p0 10 rfl) ml_X2_74 okX10_find im_X10_find sl_X10_find rfl rfl rfl rfl (Nat.le_of_ble_eq_true rfl) (mf_rr (Nat.le_trans (by decide) hd) (Nat.le_refl _)) (Nat.le_refl _) ck6 hyp (fun r3 g4 h5 hyp => ?_)
    refine mf_goto (tgt := 29) (mf_dat eX2_readStatement_p0 11 rfl) (by decide) ?_
    exact mf_sub [0, 1] rfl hyp
abbrev JX2_beginRule_20 (C : mf_G) (l : Launch) (d n : Nat) (K : mf_Kt) (x0 x1 x2 s0 s1 : Int) (g h : mf_M) : Prop := mf_AW C l YX2_beginRule (mf_rm d n n) n (mf_Zm C YX2_beginRule n n K) (fun _ _ => True) 20 [(0, (2, x0)), (1, (0, x1)), (2, (0, x2))] [(0, s1), (2, s0)] n g h
set_option maxRecDepth 100000 in
set_option maxHeartbeats 4000000 in
theorem bX2_beginRule_20 {C : mf_G} {l : Launch} {d n : Nat} {K : mf_Kt} {x0 x1 x2 s0 s1 : Int} {g h : mf_M} (hd : 4 ≤ d) (hyp : mf_is n s0 2 ∧ mf_MT C l 3 YX2_mayBegin [(2, s0), (0, s1), (0, 1)] n n g h (fun r1 g2 h3 => ((¬ r1 = 0 → mf_is n x0 2 ∧ mf_is n (g2 x0 3) 1 ∧ mf_is n (g2 (g2 x0 3) 5) 4 ∧ mf_MT C l 0 YX4_begin [(2, g2 (g2 x0 3) 5), (0, x1)] n n g2 h3 (fun r7 g8 h9 => mf_is n (g8 x0 3) 1 ∧ mf_is n (g8 x0 2) 7 ∧ mf_MT C l 0 YX7_writeTo [(2, g8 x0 2), (2, g8 (g8 x0 3) 5), (0, x2)] n n g8 h9 (fun r12 g13 h14 => K 1 g13 h14))) ∧ (r1 = 0 → K 0 g2 h3)))) : JX2_beginRule_20 C l d n K x0 x1 x2 s0 s1 g h := by
  refine mf_iconst (v := 1) (mf_dat eX2_beginRule 10 rfl) (by decide) ?_
  obtain ⟨ck4, hyp⟩ := hyp
  refine mf_callV (Yc := YX2_mayBegin) (r := (RX2, TX2, 5)) (ci := 2) (mf_dat eX2_beginRule 11 rfl) ml_X2_118 okX2_mayBegin im_X2_mayBegin sl_X2_mayBegin rfl rfl rfl rfl (Nat.le_of_ble_eq_true rfl) (mf_rr (Nat.le_trans (by decide) hd) (Nat.le_refl _)) (Nat.le_refl _) ck4 hyp (fun r1 g2 h3 hyp => ?_)
  refine mf_if_ne (tgt := 29) (mf_dat eX2_beginRule 12 rfl) (by decide) (fun hc => ?_) (fun hc => ?_)
  · replace hyp := hyp.1 hc
    refine mf_aload_n (mf_dat eX2_beginRule 15 rfl) rfl rfl ?_
    obtain ⟨ck5, hyp⟩ := hyp
    refine mf_getf (r := (RX2, TX2, 5)) (ci := 2) (k := 3) (t := 2) (v := g2 x0 3) (mf_dat eX2_beginRule 16 rfl) fl_X2_23 rfl (by decide) rfl rfl ck5 ?_
    obtain ⟨ck6, hyp⟩ := hyp
    refine mf_getf (r := (RX1, TX1, 14)) (ci := 1) (k := 5) (t := 2) (v := g2 (g2 x0 3) 5) (mf_dat eX2_beginRule 17 rfl) fl_X2_55 rfl (by decide) rfl rfl ck6 ?_
    refine mf_iload_n (mf_dat eX2_beginRule 18 rfl) rfl rfl ?_
    obtain ⟨ck10, hyp⟩ := hyp
    refine mf_callV (Yc := YX4_begin) (r := (RX4, TX4, 5)) (ci := 4) (mf_dat eX2_beginRule 19 rfl) ml_X2_121 okX4_begin im_X4_begin sl_X4_begin rfl rfl rfl rfl (Nat.le_of_ble_eq_true rfl) (mf_rr (Nat.le_trans (by decide) hd) (Nat.le_refl _)) (Nat.le_refl _) ck10 hyp (fun r7 g8 h9 hyp => ?_)
    refine mf_aload_n (mf_dat eX2_beginRule 20 rfl) rfl rfl ?_
    refine mf_getf (r := (RX2, TX2, 5)) (ci := 2) (k := 2) (t := 2) (v := g8 x0 2) (mf_dat eX2_beginRule 21 rfl) fl_X2_19 rfl (by decide) rfl rfl ck5 ?_
    refine mf_aload_n (mf_dat eX2_beginRule 22 rfl) rfl rfl ?_
    refine mf_getf (r := (RX2, TX2, 5)) (ci := 2) (k := 3) (t := 2) (v := g8 x0 3) (mf_dat eX2_beginRule 23 rfl) fl_X2_23 rfl (by decide) rfl rfl ck5 ?_
    obtain ⟨ck11, hyp⟩ := hyp
    refine mf_getf (r := (RX1, TX1, 14)) (ci := 1) (k := 5) (t := 2) (v := g8 (g8 x0 3) 5) (mf_dat eX2_beginRule 24 rfl) fl_X2_55 rfl (by decide) rfl rfl ck11 ?_
    refine mf_iload_n (mf_dat eX2_beginRule 25 rfl) rfl rfl ?_
    obtain ⟨ck15, hyp⟩ := hyp
    refine mf_callV (Yc := YX7_writeTo) (r := (RX7, TX7, 4)) (ci := 7) (mf_dat eX2_beginRule 26 rfl) ml_X2_124 okX7_writeTo im_X7_writeTo sl_X7_writeTo rfl rfl rfl rfl (Nat.le_of_ble_eq_true rfl) (mf_rr (Nat.le_trans (by decide) hd) (Nat.le_refl _)) (Nat.le_refl _) ck15 hyp (fun r12 g13 h14 hyp => ?_)
    refine mf_iconst (v := 1) (mf_dat eX2_beginRule 27 rfl) (by decide) ?_
    exact mf_ireturn (mf_dat eX2_beginRule 28 rfl) rfl (Or.inr ⟨rfl, by decide⟩) hyp
  · replace hyp := hyp.2 hc
    refine mf_iconst (v := 0) (mf_dat eX2_beginRule 13 rfl) (by decide) ?_
    exact mf_ireturn (mf_dat eX2_beginRule 14 rfl) rfl (Or.inr ⟨rfl, by decide⟩) hyp
set_option maxRecDepth 100000 in
set_option maxHeartbeats 4000000 in
theorem mX2_beginRule {C : mf_G} {l : Launch} {d n : Nat} {K : mf_Kt} {x0 x1 x2 : Int} {g h : mf_M} (hd : 1 ≤ d) (hyp : mf_is n x0 2 ∧ mf_is n (g x0 3) 1 ∧ mf_is n (g (g x0 3) 5) 4 ∧ mf_MT C l 0 YX4_isTold [(2, g (g x0 3) 5), (0, x1)] n n g h (fun r3 g4 h5 => ((r3 = 0 → JX2_beginRule_20 C l d n K x0 x1 x2 x0 0 g4 h5) ∧ (¬ r3 = 0 → JX2_beginRule_20 C l d n K x0 x1 x2 x0 1 g4 h5)))) : mf_MT C l d YX2_beginRule [(2, x0), (0, x1), (0, x2)] n n g h K := by
  refine mf_entry (by decide) (Nat.le_of_ble_eq_true rfl) ?_
  refine mf_aload_n (mf_dat eX2_beginRule 0 rfl) rfl rfl ?_
  refine mf_aload_n (mf_dat eX2_beginRule 1 rfl) rfl rfl ?_
  obtain ⟨ck1, hyp⟩ := hyp
  refine mf_getf (r := (RX2, TX2, 5)) (ci := 2) (k := 3) (t := 2) (v := g x0 3) (mf_dat eX2_beginRule 2 rfl) fl_X2_23 rfl (by decide) rfl rfl ck1 ?_
  obtain ⟨ck2, hyp⟩ := hyp
  refine mf_getf (r := (RX1, TX1, 14)) (ci := 1) (k := 5) (t := 2) (v := g (g x0 3) 5) (mf_dat eX2_beginRule 3 rfl) fl_X2_55 rfl (by decide) rfl rfl ck2 ?_
  refine mf_iload_n (mf_dat eX2_beginRule 4 rfl) rfl rfl ?_
  obtain ⟨ck6, hyp⟩ := hyp
  refine mf_callV (Yc := YX4_isTold) (r := (RX4, TX4, 5)) (ci := 4) (mf_dat eX2_beginRule 5 rfl) ml_X2_114 okX4_isTold im_X4_isTold sl_X4_isTold rfl rfl rfl rfl (Nat.le_of_ble_eq_true rfl) (mf_rr (Nat.le_trans (by decide) hd) (Nat.le_refl _)) (Nat.le_refl _) ck6 hyp (fun r3 g4 h5 hyp => ?_)
  refine mf_if_eq (tgt := 19) (mf_dat eX2_beginRule 6 rfl) (by decide) (fun hc => ?_) (fun hc => ?_)
  · replace hyp := hyp.1 hc
    refine mf_iconst (v := 0) (mf_dat eX2_beginRule 9 rfl) (by decide) ?_
    exact mf_sub [0, 1, 2] rfl hyp
  · replace hyp := hyp.2 hc
    refine mf_iconst (v := 1) (mf_dat eX2_beginRule 7 rfl) (by decide) ?_
    refine mf_goto (tgt := 20) (mf_dat eX2_beginRule 8 rfl) (by decide) ?_
    exact mf_sub [0, 1, 2] rfl hyp
set_option maxRecDepth 100000 in
set_option maxHeartbeats 4000000 in
theorem mX2_mayBegin {C : mf_G} {l : Launch} {d n : Nat} {K : mf_Kt} {x0 x1 x2 : Int} {g h : mf_M} (hd : 3 ≤ d) (hyp : ((x1 < x2 → mf_is n x0 2 ∧ mf_is n (g x0 0) 9 ∧ mf_MT C l 2 YX9_step [(2, g x0 0)] n n g h (fun r2 g3 h4 => K 1 g3 h4)) ∧ (¬ x1 < x2 → mf_is n x0 2 ∧ mf_is n (g x0 0) 9 ∧ mf_MT C l 0 YX9_fail [(2, g x0 0), (0, 5), (0, h (g x0 0) 3)] n n g h (fun r8 g9 h10 => K 0 g9 h10)))) : mf_MT C l d YX2_mayBegin [(2, x0), (0, x1), (0, x2)] n n g h K := by
  refine mf_entry (by decide) (Nat.le_of_ble_eq_true rfl) ?_
  refine mf_iload_n (mf_dat eX2_mayBegin 0 rfl) rfl rfl ?_
  refine mf_iload_n (mf_dat eX2_mayBegin 1 rfl) rfl rfl ?_
  refine mf_icmp_lt (tgt := 22) (mf_dat eX2_mayBegin 2 rfl) (by decide) (fun hc => ?_) (fun hc => ?_)
  · replace hyp := hyp.1 hc
    refine mf_aload_n (mf_dat eX2_mayBegin 12 rfl) rfl rfl ?_
    obtain ⟨ck1, hyp⟩ := hyp
    refine mf_getf (r := (RX2, TX2, 5)) (ci := 2) (k := 0) (t := 2) (v := g x0 0) (mf_dat eX2_mayBegin 13 rfl) fl_X2_9 rfl (by decide) rfl rfl ck1 ?_
    obtain ⟨ck5, hyp⟩ := hyp
    refine mf_callV (Yc := YX9_step) (r := (RX9, TX9, 9)) (ci := 9) (mf_dat eX2_mayBegin 14 rfl) ml_X2_104 okX9_step im_X9_step sl_X9_step rfl rfl rfl rfl (Nat.le_of_ble_eq_true rfl) (mf_rr (Nat.le_trans (by decide) hd) (Nat.le_refl _)) (Nat.le_refl _) ck5 hyp (fun r2 g3 h4 hyp => ?_)
    refine mf_iconst (v := 1) (mf_dat eX2_mayBegin 15 rfl) (by decide) ?_
    exact mf_ireturn (mf_dat eX2_mayBegin 16 rfl) rfl (Or.inr ⟨rfl, by decide⟩) hyp
  · replace hyp := hyp.2 hc
    refine mf_aload_n (mf_dat eX2_mayBegin 3 rfl) rfl rfl ?_
    obtain ⟨ck6, hyp⟩ := hyp
    refine mf_getf (r := (RX2, TX2, 5)) (ci := 2) (k := 0) (t := 2) (v := g x0 0) (mf_dat eX2_mayBegin 4 rfl) fl_X2_9 rfl (by decide) rfl rfl ck6 ?_
    refine mf_iconst (v := 5) (mf_dat eX2_mayBegin 5 rfl) (by decide) ?_
    refine mf_aload_n (mf_dat eX2_mayBegin 6 rfl) rfl rfl ?_
    refine mf_getf (r := (RX2, TX2, 5)) (ci := 2) (k := 0) (t := 2) (v := g x0 0) (mf_dat eX2_mayBegin 7 rfl) fl_X2_9 rfl (by decide) rfl rfl ck6 ?_
    obtain ⟨ck7, hyp⟩ := hyp
    refine mf_getf (r := (RX9, TX9, 9)) (ci := 9) (k := 3) (t := 0) (v := h (g x0 0) 3) (mf_dat eX2_mayBegin 8 rfl) fl_X2_44 rfl (by decide) rfl rfl ck7 ?_
    refine mf_callV (Yc := YX9_fail) (r := (RX9, TX9, 9)) (ci := 9) (mf_dat eX2_mayBegin 9 rfl) ml_X2_47 okX9_fail im_X9_fail sl_X9_fail rfl rfl rfl rfl (Nat.le_of_ble_eq_true rfl) (mf_rr (Nat.le_trans (by decide) hd) (Nat.le_refl _)) (Nat.le_refl _) ck7 hyp (fun r8 g9 h10 hyp => ?_)
    refine mf_iconst (v := 0) (mf_dat eX2_mayBegin 10 rfl) (by decide) ?_
    exact mf_ireturn (mf_dat eX2_mayBegin 11 rfl) rfl (Or.inr ⟨rfl, by decide⟩) hyp
abbrev JX2_readNumber_39 (C : mf_G) (l : Launch) (d n : Nat) (K : mf_Kt) (x0 x3 : Int) (g h : mf_M) : Prop := mf_AW C l YX2_readNumber (mf_rm d n n) n (mf_Zm C YX2_readNumber n n K) (fun _ _ => True) 39 [(0, (2, x0)), (3, (0, x3))] [] n g h
set_option maxRecDepth 100000 in
set_option maxHeartbeats 4000000 in
theorem bX2_readNumber_39 {C : mf_G} {l : Launch} {d n : Nat} {K : mf_Kt} {x0 x3 : Int} {g h : mf_M} (hd : 1 ≤ d) (hyp : mf_is n x0 2 ∧ mf_is n (g x0 0) 9 ∧ mf_MT C l 0 YX9_fail [(2, g x0 0), (0, 2), (0, h x0 4)] n n g h (fun r2 g3 h4 => mf_is n (g3 x0 0) 9 ∧ ((¬ h4 (g3 x0 0) 7 = 0 → K (-1) g3 h4) ∧ (h4 (g3 x0 0) 7 = 0 → K x3 g3 h4)))) : JX2_readNumber_39 C l d n K x0 x3 g h := by
  refine mf_aload_n (mf_dat eX2_readNumber 19 rfl) rfl rfl ?_
  obtain ⟨ck1, hyp⟩ := hyp
  refine mf_getf (r := (RX2, TX2, 5)) (ci := 2) (k := 0) (t := 2) (v := g x0 0) (mf_dat eX2_readNumber 20 rfl) fl_X2_9 rfl (by decide) rfl rfl ck1 ?_
  refine mf_iconst (v := 2) (mf_dat eX2_readNumber 21 rfl) (by decide) ?_
  refine mf_aload_n (mf_dat eX2_readNumber 22 rfl) rfl rfl ?_
  refine mf_getf (r := (RX2, TX2, 5)) (ci := 2) (k := 4) (t := 0) (v := h x0 4) (mf_dat eX2_readNumber 23 rfl) fl_X2_128 rfl (by decide) rfl rfl ck1 ?_
  obtain ⟨ck5, hyp⟩ := hyp
  refine mf_callV (Yc := YX9_fail) (r := (RX9, TX9, 9)) (ci := 9) (mf_dat eX2_readNumber 24 rfl) ml_X2_47 okX9_fail im_X9_fail sl_X9_fail rfl rfl rfl rfl (Nat.le_of_ble_eq_true rfl) (mf_rr (Nat.le_trans (by decide) hd) (Nat.le_refl _)) (Nat.le_refl _) ck5 hyp (fun r2 g3 h4 hyp => ?_)
  refine mf_aload_n (mf_dat eX2_readNumber 25 rfl) rfl rfl ?_
  refine mf_getf (r := (RX2, TX2, 5)) (ci := 2) (k := 0) (t := 2) (v := g3 x0 0) (mf_dat eX2_readNumber 26 rfl) fl_X2_9 rfl (by decide) rfl rfl ck1 ?_
  obtain ⟨ck6, hyp⟩ := hyp
  refine mf_getf (r := (RX9, TX9, 9)) (ci := 9) (k := 7) (t := 0) (v := h4 (g3 x0 0) 7) (mf_dat eX2_readNumber 27 rfl) fl_X2_37 rfl (by decide) rfl rfl ck6 ?_
  refine mf_if_ne (tgt := 65) (mf_dat eX2_readNumber 28 rfl) (by decide) (fun hc => ?_) (fun hc => ?_)
  · replace hyp := hyp.1 hc
    refine mf_iconst (v := (-1)) (mf_dat eX2_readNumber 31 rfl) (by decide) ?_
    exact mf_ireturn (mf_dat eX2_readNumber 32 rfl) rfl (Or.inl rfl) hyp
  · replace hyp := hyp.2 hc
    refine mf_iload_n (mf_dat eX2_readNumber 29 rfl) rfl rfl ?_
    refine mf_goto (tgt := 66) (mf_dat eX2_readNumber 30 rfl) (by decide) ?_
    exact mf_ireturn (mf_dat eX2_readNumber 32 rfl) rfl (Or.inl rfl) hyp
set_option maxRecDepth 100000 in
set_option maxHeartbeats 4000000 in
theorem mX2_readNumber {C : mf_G} {l : Launch} {d n : Nat} {K : mf_Kt} {x0 x1 x2 : Int} {g h : mf_M} (hd : 4 ≤ d) (hyp : mf_is n x0 2 ∧ mf_is n (g x0 0) 9 ∧ (∀ h3 : mf_M, h3 = mf_up h x0 4 (h (g x0 0) 3) → mf_MT C l 3 YX9_passNumber [(2, g x0 0)] n n g h3 (fun r4 g5 h6 => mf_is n (g5 x0 0) 9 ∧ ((¬ h6 (g5 x0 0) 7 = 0 → ((¬ h6 (g5 x0 0) 7 = 0 → K (-1) g5 h6) ∧ (h6 (g5 x0 0) 7 = 0 → K r4 g5 h6))) ∧ (h6 (g5 x0 0) 7 = 0 → ((r4 < x1 → JX2_readNumber_39 C l d n K x0 r4 g5 h6) ∧ (¬ r4 < x1 → ((r4 ≤ x2 → ((¬ h6 (g5 x0 0) 7 = 0 → K (-1) g5 h6) ∧ (h6 (g5 x0 0) 7 = 0 → K r4 g5 h6))) ∧ (¬ r4 ≤ x2 → JX2_readNumber_39 C l d n K x0 r4 g5 h6))))))))) : mf_MT C l d YX2_readNumber [(2, x0), (0, x1), (0, x2)] n n g h K := by
  refine mf_entry (by decide) (Nat.le_of_ble_eq_true rfl) ?_
  refine mf_aload_n (mf_dat eX2_readNumber 0 rfl) rfl rfl ?_
  refine mf_aload_n (mf_dat eX2_readNumber 1 rfl) rfl rfl ?_
  obtain ⟨ck1, hyp⟩ := hyp
  refine mf_getf (r := (RX2, TX2, 5)) (ci := 2) (k := 0) (t := 2) (v := g x0 0) (mf_dat eX2_readNumber 2 rfl) fl_X2_9 rfl (by decide) rfl rfl ck1 ?_
  obtain ⟨ck2, hyp⟩ := hyp
  refine mf_getf (r := (RX9, TX9, 9)) (ci := 9) (k := 3) (t := 0) (v := h (g x0 0) 3) (mf_dat eX2_readNumber 3 rfl) fl_X2_44 rfl (by decide) rfl rfl ck2 ?_
  refine mf_putI (r := (RX2, TX2, 5)) (ci := 2) (k := 4) (kI := 4) (t := 0) (mf_dat eX2_readNumber 4 rfl) fl_X2_128 rfl rfl (by decide) rfl (by decide) rfl (by decide) (fun h9 => absurd h9 (by decide)) ck1 ?_
  generalize qh3 : mf_up h x0 4 (h (g x0 0) 3) = h3
  replace hyp := hyp _ qh3.symm
  refine mf_aload_n (mf_dat eX2_readNumber 5 rfl) rfl rfl ?_
  refine mf_getf (r := (RX2, TX2, 5)) (ci := 2) (k := 0) (t := 2) (v := g x0 0) (mf_dat eX2_readNumber 6 rfl) fl_X2_9 rfl (by decide) rfl rfl ck1 ?_
  refine mf_callV (Yc := YX9_passNumber) (r := (RX9, TX9, 9)) (ci := 9) (mf_dat eX2_readNumber 7 rfl) ml_X2_131 okX9_passNumber im_X9_passNumber sl_X9_passNumber rfl rfl rfl rfl (Nat.le_of_ble_eq_true rfl) (mf_rr (Nat.le_trans (by decide) hd) (Nat.le_refl _)) (Nat.le_refl _) ck2 hyp (fun r4 g5 h6 hyp => ?_)
  refine mf_istore_n (mf_dat eX2_readNumber 8 rfl) rfl (by decide) ?_
  refine mf_aload_n (mf_dat eX2_readNumber 9 rfl) rfl rfl ?_
  refine mf_getf (r := (RX2, TX2, 5)) (ci := 2) (k := 0) (t := 2) (v := g5 x0 0) (mf_dat eX2_readNumber 10 rfl) fl_X2_9 rfl (by decide) rfl rfl ck1 ?_
  obtain ⟨ck7, hyp⟩ := hyp
  refine mf_getf (r := (RX9, TX9, 9)) (ci := 9) (k := 7) (t := 0) (v := h6 (g5 x0 0) 7) (mf_dat eX2_readNumber 11 rfl) fl_X2_37 rfl (by decide) rfl rfl ck7 ?_
  refine mf_if_ne (tgt := 51) (mf_dat eX2_readNumber 12 rfl) (by decide) (fun hc => ?_) (fun hc => ?_)
  · replace hyp := hyp.1 hc
    refine mf_aload_n (mf_dat eX2_readNumber 25 rfl) rfl rfl ?_
    refine mf_getf (r := (RX2, TX2, 5)) (ci := 2) (k := 0) (t := 2) (v := g5 x0 0) (mf_dat eX2_readNumber 26 rfl) fl_X2_9 rfl (by decide) rfl rfl ck1 ?_
    refine mf_getf (r := (RX9, TX9, 9)) (ci := 9) (k := 7) (t := 0) (v := h6 (g5 x0 0) 7) (mf_dat eX2_readNumber 27 rfl) fl_X2_37 rfl (by decide) rfl rfl ck7 ?_
    refine mf_if_ne (tgt := 65) (mf_dat eX2_readNumber 28 rfl) (by decide) (fun hc => ?_) (fun hc => ?_)
    · replace hyp := hyp.1 hc
      refine mf_iconst (v := (-1)) (mf_dat eX2_readNumber 31 rfl) (by decide) ?_
      exact mf_ireturn (mf_dat eX2_readNumber 32 rfl) rfl (Or.inl rfl) hyp
    · replace hyp := hyp.2 hc
      refine mf_iload_n (mf_dat eX2_readNumber 29 rfl) rfl rfl ?_
      refine mf_goto (tgt := 66) (mf_dat eX2_readNumber 30 rfl) (by decide) ?_
      exact mf_ireturn (mf_dat eX2_readNumber 32 rfl) rfl (Or.inl rfl) hyp
  · replace hyp := hyp.2 hc
    refine mf_iload_n (mf_dat eX2_readNumber 13 rfl) rfl rfl ?_
    refine mf_iload_n (mf_dat eX2_readNumber 14 rfl) rfl rfl ?_
    refine mf_icmp_lt (tgt := 39) (mf_dat eX2_readNumber 15 rfl) (by decide) (fun hc => ?_) (fun hc => ?_)
    · replace hyp := hyp.1 hc
      exact mf_sub [1, 0] rfl hyp
    · replace hyp := hyp.2 hc
      refine mf_iload_n (mf_dat eX2_readNumber 16 rfl) rfl rfl ?_
      refine mf_iload_n (mf_dat eX2_readNumber 17 rfl) rfl rfl ?_
      refine mf_icmp_le (tgt := 51) (mf_dat eX2_readNumber 18 rfl) (by decide) (fun hc => ?_) (fun hc => ?_)
      · replace hyp := hyp.1 hc
        refine mf_aload_n (mf_dat eX2_readNumber 25 rfl) rfl rfl ?_
        refine mf_getf (r := (RX2, TX2, 5)) (ci := 2) (k := 0) (t := 2) (v := g5 x0 0) (mf_dat eX2_readNumber 26 rfl) fl_X2_9 rfl (by decide) rfl rfl ck1 ?_
        refine mf_getf (r := (RX9, TX9, 9)) (ci := 9) (k := 7) (t := 0) (v := h6 (g5 x0 0) 7) (mf_dat eX2_readNumber 27 rfl) fl_X2_37 rfl (by decide) rfl rfl ck7 ?_
        refine mf_if_ne (tgt := 65) (mf_dat eX2_readNumber 28 rfl) (by decide) (fun hc => ?_) (fun hc => ?_)
        · replace hyp := hyp.1 hc
          refine mf_iconst (v := (-1)) (mf_dat eX2_readNumber 31 rfl) (by decide) ?_
          exact mf_ireturn (mf_dat eX2_readNumber 32 rfl) rfl (Or.inl rfl) hyp
        · replace hyp := hyp.2 hc
          refine mf_iload_n (mf_dat eX2_readNumber 29 rfl) rfl rfl ?_
          refine mf_goto (tgt := 66) (mf_dat eX2_readNumber 30 rfl) (by decide) ?_
          exact mf_ireturn (mf_dat eX2_readNumber 32 rfl) rfl (Or.inl rfl) hyp
      · replace hyp := hyp.2 hc
        exact mf_sub [1, 0] rfl hyp
set_option maxRecDepth 100000 in
set_option maxHeartbeats 4000000 in
theorem mX2_readSize {C : mf_G} {l : Launch} {d n : Nat} {K : mf_Kt} {x0 : Int} {g h : mf_M} (hd : 5 ≤ d) (hyp : mf_is n x0 2 ∧ mf_is n (g x0 0) 9 ∧ mf_MT C l 2 YX9_step [(2, g x0 0)] n n g h (fun r2 g3 h4 => mf_MT C l 4 YX2_readNumber [(2, x0), (0, 1), (0, 6)] n n g3 h4 (fun r6 g7 h8 => mf_is n (g7 x0 0) 9 ∧ mf_MT C l 3 YX9_passWord [(2, g7 x0 0), (0, 17)] n n g7 h8 (fun r9 g10 h11 => mf_MT C l 4 YX2_readNumber [(2, x0), (0, 2), (0, 8)] n n g10 h11 (fun r13 g14 h15 => mf_is n (g14 x0 0) 9 ∧ ((¬ h15 (g14 x0 0) 7 = 0 → K 0 g14 h15) ∧ (h15 (g14 x0 0) 7 = 0 → mf_is n (g14 x0 3) 1 ∧ (∀ h18 : mf_M, h18 = mf_up h15 (g14 x0 3) 8 r6 → (∀ h19 : mf_M, h19 = mf_up h18 (g14 x0 3) 9 r13 → K 0 g14 h19))))))))) : mf_MT C l d YX2_readSize [(2, x0)] n n g h K := by
  refine mf_entry (by decide) (Nat.le_of_ble_eq_true rfl) ?_
  refine mf_aload_n (mf_dat eX2_readSize 0 rfl) rfl rfl ?_
  obtain ⟨ck1, hyp⟩ := hyp
  refine mf_getf (r := (RX2, TX2, 5)) (ci := 2) (k := 0) (t := 2) (v := g x0 0) (mf_dat eX2_readSize 1 rfl) fl_X2_9 rfl (by decide) rfl rfl ck1 ?_
  obtain ⟨ck5, hyp⟩ := hyp
  refine mf_callV (Yc := YX9_step) (r := (RX9, TX9, 9)) (ci := 9) (mf_dat eX2_readSize 2 rfl) ml_X2_104 okX9_step im_X9_step sl_X9_step rfl rfl rfl rfl (Nat.le_of_ble_eq_true rfl) (mf_rr (Nat.le_trans (by decide) hd) (Nat.le_refl _)) (Nat.le_refl _) ck5 hyp (fun r2 g3 h4 hyp => ?_)
  refine mf_aload_n (mf_dat eX2_readSize 3 rfl) rfl rfl ?_
  refine mf_iconst (v := 1) (mf_dat eX2_readSize 4 rfl) (by decide) ?_
  refine mf_bipush (v := 6) (mf_dat eX2_readSize 5 rfl) (by decide) ?_
  refine mf_callV (Yc := YX2_readNumber) (r := (RX2, TX2, 5)) (ci := 2) (mf_dat eX2_readSize 6 rfl) ml_X2_107 okX2_readNumber im_X2_readNumber sl_X2_readNumber rfl rfl rfl rfl (Nat.le_of_ble_eq_true rfl) (mf_rr (Nat.le_trans (by decide) hd) (Nat.le_refl _)) (Nat.le_refl _) ck1 hyp (fun r6 g7 h8 hyp => ?_)
  refine mf_istore_n (mf_dat eX2_readSize 7 rfl) rfl (by decide) ?_
  refine mf_aload_n (mf_dat eX2_readSize 8 rfl) rfl rfl ?_
  refine mf_getf (r := (RX2, TX2, 5)) (ci := 2) (k := 0) (t := 2) (v := g7 x0 0) (mf_dat eX2_readSize 9 rfl) fl_X2_9 rfl (by decide) rfl rfl ck1 ?_
  refine mf_bipush (v := 17) (mf_dat eX2_readSize 10 rfl) (by decide) ?_
  obtain ⟨ck12, hyp⟩ := hyp
  refine mf_callV (Yc := YX9_passWord) (r := (RX9, TX9, 9)) (ci := 9) (mf_dat eX2_readSize 11 rfl) ml_X2_135 okX9_passWord im_X9_passWord sl_X9_passWord rfl rfl rfl rfl (Nat.le_of_ble_eq_true rfl) (mf_rr (Nat.le_trans (by decide) hd) (Nat.le_refl _)) (Nat.le_refl _) ck12 hyp (fun r9 g10 h11 hyp => ?_)
  refine mf_aload_n (mf_dat eX2_readSize 12 rfl) rfl rfl ?_
  refine mf_iconst (v := 2) (mf_dat eX2_readSize 13 rfl) (by decide) ?_
  refine mf_bipush (v := 8) (mf_dat eX2_readSize 14 rfl) (by decide) ?_
  refine mf_callV (Yc := YX2_readNumber) (r := (RX2, TX2, 5)) (ci := 2) (mf_dat eX2_readSize 15 rfl) ml_X2_107 okX2_readNumber im_X2_readNumber sl_X2_readNumber rfl rfl rfl rfl (Nat.le_of_ble_eq_true rfl) (mf_rr (Nat.le_trans (by decide) hd) (Nat.le_refl _)) (Nat.le_refl _) ck1 hyp (fun r13 g14 h15 hyp => ?_)
  refine mf_istore_n (mf_dat eX2_readSize 16 rfl) rfl (by decide) ?_
  refine mf_aload_n (mf_dat eX2_readSize 17 rfl) rfl rfl ?_
  refine mf_getf (r := (RX2, TX2, 5)) (ci := 2) (k := 0) (t := 2) (v := g14 x0 0) (mf_dat eX2_readSize 18 rfl) fl_X2_9 rfl (by decide) rfl rfl ck1 ?_
  obtain ⟨ck16, hyp⟩ := hyp
  refine mf_getf (r := (RX9, TX9, 9)) (ci := 9) (k := 7) (t := 0) (v := h15 (g14 x0 0) 7) (mf_dat eX2_readSize 19 rfl) fl_X2_37 rfl (by decide) rfl rfl ck16 ?_
  refine mf_if_ne (tgt := 58) (mf_dat eX2_readSize 20 rfl) (by decide) (fun hc => ?_) (fun hc => ?_)
  · replace hyp := hyp.1 hc
    exact mf_return (mf_dat eX2_readSize 29 rfl) rfl hyp
  · replace hyp := hyp.2 hc
    refine mf_aload_n (mf_dat eX2_readSize 21 rfl) rfl rfl ?_
    refine mf_getf (r := (RX2, TX2, 5)) (ci := 2) (k := 3) (t := 2) (v := g14 x0 3) (mf_dat eX2_readSize 22 rfl) fl_X2_23 rfl (by decide) rfl rfl ck1 ?_
    refine mf_iload_n (mf_dat eX2_readSize 23 rfl) rfl rfl ?_
    obtain ⟨ck17, hyp⟩ := hyp
    refine mf_putI (r := (RX1, TX1, 14)) (ci := 1) (k := 8) (kI := 8) (t := 0) (mf_dat eX2_readSize 24 rfl) fl_X2_138 rfl rfl (by decide) rfl (by decide) rfl (by decide) (fun h9 => absurd h9 (by decide)) ck17 ?_
    generalize qh18 : mf_up h15 (g14 x0 3) 8 r6 = h18
    replace hyp := hyp _ qh18.symm
    refine mf_aload_n (mf_dat eX2_readSize 25 rfl) rfl rfl ?_
    refine mf_getf (r := (RX2, TX2, 5)) (ci := 2) (k := 3) (t := 2) (v := g14 x0 3) (mf_dat eX2_readSize 26 rfl) fl_X2_23 rfl (by decide) rfl rfl ck1 ?_
    refine mf_iload_n (mf_dat eX2_readSize 27 rfl) rfl rfl ?_
    refine mf_putI (r := (RX1, TX1, 14)) (ci := 1) (k := 9) (kI := 9) (t := 0) (mf_dat eX2_readSize 28 rfl) fl_X2_141 rfl rfl (by decide) rfl (by decide) rfl (by decide) (fun h9 => absurd h9 (by decide)) ck17 ?_
    generalize qh19 : mf_up h18 (g14 x0 3) 9 r13 = h19
    replace hyp := hyp _ qh19.symm
    exact mf_return (mf_dat eX2_readSize 29 rfl) rfl hyp
set_option maxRecDepth 100000 in
set_option maxHeartbeats 4000000 in
theorem mX2_readGloss {C : mf_G} {l : Launch} {d n : Nat} {K : mf_Kt} {x0 : Int} {g h : mf_M} (hd : 6 ≤ d) (hyp : mf_is n x0 2 ∧ mf_is n (g x0 3) 1 ∧ mf_MT C l 3 YX2_mayBegin [(2, x0), (0, h (g x0 3) 10), (0, 20)] n n g h (fun r3 g4 h5 => ((¬ r3 = 0 → mf_is n (g4 x0 3) 1 ∧ mf_MT C l 4 YX2_readNumber [(2, x0), (0, 0), (0, mf_w32 ((h5 (g4 x0 3) 8) - 1))] n n g4 h5 (fun r7 g8 h9 => mf_MT C l 5 YX2_readFreeCell [(2, x0), (0, r7)] n n g8 h9 (fun r10 g11 h12 => mf_is n (g11 x0 0) 9 ∧ ((¬ h12 (g11 x0 0) 7 = 0 → K 0 g11 h12) ∧ (h12 (g11 x0 0) 7 = 0 → mf_is n (g11 x0 3) 1 ∧ mf_is n (g11 (g11 x0 3) 6) 6 ∧ mf_MT C l 0 YX6_writeGloss [(2, g11 (g11 x0 3) 6), (0, r7), (0, r10)] n n g11 h12 (fun r15 g16 h17 => (∀ v19 : Int, v19 = g16 x0 3 → mf_is n v19 1 ∧ (∀ h21 : mf_M, h21 = mf_up h17 v19 10 (mf_w32 ((h17 v19 10) + 1)) → K 0 g16 h21)))))))) ∧ (r3 = 0 → K 0 g4 h5)))) : mf_MT C l d YX2_readGloss [(2, x0)] n n g h K := by
  refine mf_entry (by decide) (Nat.le_of_ble_eq_true rfl) ?_
  refine mf_aload_n (mf_dat eX2_readGloss 0 rfl) rfl rfl ?_
  refine mf_aload_n (mf_dat eX2_readGloss 1 rfl) rfl rfl ?_
  obtain ⟨ck1, hyp⟩ := hyp
  refine mf_getf (r := (RX2, TX2, 5)) (ci := 2) (k := 3) (t := 2) (v := g x0 3) (mf_dat eX2_readGloss 2 rfl) fl_X2_23 rfl (by decide) rfl rfl ck1 ?_
  obtain ⟨ck2, hyp⟩ := hyp
  refine mf_getf (r := (RX1, TX1, 14)) (ci := 1) (k := 10) (t := 0) (v := h (g x0 3) 10) (mf_dat eX2_readGloss 3 rfl) fl_X2_144 rfl (by decide) rfl rfl ck2 ?_
  refine mf_bipush (v := 20) (mf_dat eX2_readGloss 4 rfl) (by decide) ?_
  refine mf_callV (Yc := YX2_mayBegin) (r := (RX2, TX2, 5)) (ci := 2) (mf_dat eX2_readGloss 5 rfl) ml_X2_118 okX2_mayBegin im_X2_mayBegin sl_X2_mayBegin rfl rfl rfl rfl (Nat.le_of_ble_eq_true rfl) (mf_rr (Nat.le_trans (by decide) hd) (Nat.le_refl _)) (Nat.le_refl _) ck1 hyp (fun r3 g4 h5 hyp => ?_)
  refine mf_if_ne (tgt := 17) (mf_dat eX2_readGloss 6 rfl) (by decide) (fun hc => ?_) (fun hc => ?_)
  · replace hyp := hyp.1 hc
    refine mf_aload_n (mf_dat eX2_readGloss 8 rfl) rfl rfl ?_
    refine mf_iconst (v := 0) (mf_dat eX2_readGloss 9 rfl) (by decide) ?_
    refine mf_aload_n (mf_dat eX2_readGloss 10 rfl) rfl rfl ?_
    refine mf_getf (r := (RX2, TX2, 5)) (ci := 2) (k := 3) (t := 2) (v := g4 x0 3) (mf_dat eX2_readGloss 11 rfl) fl_X2_23 rfl (by decide) rfl rfl ck1 ?_
    obtain ⟨ck6, hyp⟩ := hyp
    refine mf_getf (r := (RX1, TX1, 14)) (ci := 1) (k := 8) (t := 0) (v := h5 (g4 x0 3) 8) (mf_dat eX2_readGloss 12 rfl) fl_X2_138 rfl (by decide) rfl rfl ck6 ?_
    refine mf_iconst (v := 1) (mf_dat eX2_readGloss 13 rfl) (by decide) ?_
    refine mf_isub (mf_dat eX2_readGloss 14 rfl) ?_
    refine mf_callV (Yc := YX2_readNumber) (r := (RX2, TX2, 5)) (ci := 2) (mf_dat eX2_readGloss 15 rfl) ml_X2_107 okX2_readNumber im_X2_readNumber sl_X2_readNumber rfl rfl rfl rfl (Nat.le_of_ble_eq_true rfl) (mf_rr (Nat.le_trans (by decide) hd) (Nat.le_refl _)) (Nat.le_refl _) ck1 hyp (fun r7 g8 h9 hyp => ?_)
    refine mf_istore_n (mf_dat eX2_readGloss 16 rfl) rfl (by decide) ?_
    refine mf_aload_n (mf_dat eX2_readGloss 17 rfl) rfl rfl ?_
    refine mf_iload_n (mf_dat eX2_readGloss 18 rfl) rfl rfl ?_
    refine mf_callV (Yc := YX2_readFreeCell) (r := (RX2, TX2, 5)) (ci := 2) (mf_dat eX2_readGloss 19 rfl) ml_X2_147 okX2_readFreeCell im_X2_readFreeCell sl_X2_readFreeCell rfl rfl rfl rfl (Nat.le_of_ble_eq_true rfl) (mf_rr (Nat.le_trans (by decide) hd) (Nat.le_refl _)) (Nat.le_refl _) ck1 hyp (fun r10 g11 h12 hyp => ?_)
    refine mf_istore_n (mf_dat eX2_readGloss 20 rfl) rfl (by decide) ?_
    refine mf_aload_n (mf_dat eX2_readGloss 21 rfl) rfl rfl ?_
    refine mf_getf (r := (RX2, TX2, 5)) (ci := 2) (k := 0) (t := 2) (v := g11 x0 0) (mf_dat eX2_readGloss 22 rfl) fl_X2_9 rfl (by decide) rfl rfl ck1 ?_
    obtain ⟨ck13, hyp⟩ := hyp
    refine mf_getf (r := (RX9, TX9, 9)) (ci := 9) (k := 7) (t := 0) (v := h12 (g11 x0 0) 7) (mf_dat eX2_readGloss 23 rfl) fl_X2_37 rfl (by decide) rfl rfl ck13 ?_
    refine mf_if_ne (tgt := 73) (mf_dat eX2_readGloss 24 rfl) (by decide) (fun hc => ?_) (fun hc => ?_)
    · replace hyp := hyp.1 hc
      exact mf_return (mf_dat eX2_readGloss 38 rfl) rfl hyp
    · replace hyp := hyp.2 hc
      refine mf_aload_n (mf_dat eX2_readGloss 25 rfl) rfl rfl ?_
      refine mf_getf (r := (RX2, TX2, 5)) (ci := 2) (k := 3) (t := 2) (v := g11 x0 3) (mf_dat eX2_readGloss 26 rfl) fl_X2_23 rfl (by decide) rfl rfl ck1 ?_
      obtain ⟨ck14, hyp⟩ := hyp
      refine mf_getf (r := (RX1, TX1, 14)) (ci := 1) (k := 6) (t := 2) (v := g11 (g11 x0 3) 6) (mf_dat eX2_readGloss 27 rfl) fl_X2_150 rfl (by decide) rfl rfl ck14 ?_
      refine mf_iload_n (mf_dat eX2_readGloss 28 rfl) rfl rfl ?_
      refine mf_iload_n (mf_dat eX2_readGloss 29 rfl) rfl rfl ?_
      obtain ⟨ck18, hyp⟩ := hyp
      refine mf_callV (Yc := YX6_writeGloss) (r := (RX6, TX6, 8)) (ci := 6) (mf_dat eX2_readGloss 30 rfl) ml_X2_154 okX6_writeGloss im_X6_writeGloss sl_X6_writeGloss rfl rfl rfl rfl (Nat.le_of_ble_eq_true rfl) (mf_rr (Nat.le_trans (by decide) hd) (Nat.le_refl _)) (Nat.le_refl _) ck18 hyp (fun r15 g16 h17 hyp => ?_)
      refine mf_aload_n (mf_dat eX2_readGloss 31 rfl) rfl rfl ?_
      refine mf_getf (r := (RX2, TX2, 5)) (ci := 2) (k := 3) (t := 2) (v := g16 x0 3) (mf_dat eX2_readGloss 32 rfl) fl_X2_23 rfl (by decide) rfl rfl ck1 ?_
      generalize qv19 : g16 x0 3 = v19
      replace hyp := hyp _ qv19.symm
      refine mf_dup (mf_dat eX2_readGloss 33 rfl) (by decide) ?_
      obtain ⟨ck20, hyp⟩ := hyp
      refine mf_getf (r := (RX1, TX1, 14)) (ci := 1) (k := 10) (t := 0) (v := h17 v19 10) (mf_dat eX2_readGloss 34 rfl) fl_X2_144 rfl (by decide) rfl rfl ck20 ?_
      refine mf_iconst (v := 1) (mf_dat eX2_readGloss 35 rfl) (by decide) ?_
      refine mf_iadd (mf_dat eX2_readGloss 36 rfl) ?_
      refine mf_putI (r := (RX1, TX1, 14)) (ci := 1) (k := 10) (kI := 10) (t := 0) (mf_dat eX2_readGloss 37 rfl) fl_X2_144 rfl rfl (by decide) rfl (by decide) rfl (by decide) (fun h9 => absurd h9 (by decide)) ck20 ?_
      generalize qh21 : mf_up h17 v19 10 (mf_w32 ((h17 v19 10) + 1)) = h21
      replace hyp := hyp _ qh21.symm
      exact mf_return (mf_dat eX2_readGloss 38 rfl) rfl hyp
  · replace hyp := hyp.2 hc
    exact mf_return (mf_dat eX2_readGloss 7 rfl) rfl hyp
set_option maxRecDepth 100000 in
set_option maxHeartbeats 4000000 in
theorem mX2_readFreeCell {C : mf_G} {l : Launch} {d n : Nat} {K : mf_Kt} {x0 x1 : Int} {g h : mf_M} (hd : 5 ≤ d) (hyp : mf_is n x0 2 ∧ mf_is n (g x0 3) 1 ∧ mf_MT C l 4 YX2_readNumber [(2, x0), (0, 0), (0, mf_w32 ((h (g x0 3) 9) - 1))] n n g h (fun r3 g4 h5 => mf_is n (g4 x0 0) 9 ∧ ((¬ h5 (g4 x0 0) 7 = 0 → K r3 g4 h5) ∧ (h5 (g4 x0 0) 7 = 0 → mf_is n (g4 x0 3) 1 ∧ mf_is n (g4 (g4 x0 3) 6) 6 ∧ mf_MT C l 1 YX6_isFree [(2, g4 (g4 x0 3) 6), (0, x1), (0, r3), (0, h5 (g4 x0 3) 12)] n n g4 h5 (fun r8 g9 h10 => ((¬ r8 = 0 → K r3 g9 h10) ∧ (r8 = 0 → mf_is n (g9 x0 0) 9 ∧ mf_MT C l 0 YX9_fail [(2, g9 x0 0), (0, 2), (0, h10 x0 4)] n n g9 h10 (fun r12 g13 h14 => K r3 g13 h14)))))))) : mf_MT C l d YX2_readFreeCell [(2, x0), (0, x1)] n n g h K := by
  refine mf_entry (by decide) (Nat.le_of_ble_eq_true rfl) ?_
  refine mf_aload_n (mf_dat eX2_readFreeCell 0 rfl) rfl rfl ?_
  refine mf_iconst (v := 0) (mf_dat eX2_readFreeCell 1 rfl) (by decide) ?_
  refine mf_aload_n (mf_dat eX2_readFreeCell 2 rfl) rfl rfl ?_
  obtain ⟨ck1, hyp⟩ := hyp
  refine mf_getf (r := (RX2, TX2, 5)) (ci := 2) (k := 3) (t := 2) (v := g x0 3) (mf_dat eX2_readFreeCell 3 rfl) fl_X2_23 rfl (by decide) rfl rfl ck1 ?_
  obtain ⟨ck2, hyp⟩ := hyp
  refine mf_getf (r := (RX1, TX1, 14)) (ci := 1) (k := 9) (t := 0) (v := h (g x0 3) 9) (mf_dat eX2_readFreeCell 4 rfl) fl_X2_141 rfl (by decide) rfl rfl ck2 ?_
  refine mf_iconst (v := 1) (mf_dat eX2_readFreeCell 5 rfl) (by decide) ?_
  refine mf_isub (mf_dat eX2_readFreeCell 6 rfl) ?_
  refine mf_callV (Yc := YX2_readNumber) (r := (RX2, TX2, 5)) (ci := 2) (mf_dat eX2_readFreeCell 7 rfl) ml_X2_107 okX2_readNumber im_X2_readNumber sl_X2_readNumber rfl rfl rfl rfl (Nat.le_of_ble_eq_true rfl) (mf_rr (Nat.le_trans (by decide) hd) (Nat.le_refl _)) (Nat.le_refl _) ck1 hyp (fun r3 g4 h5 hyp => ?_)
  refine mf_istore_n (mf_dat eX2_readFreeCell 8 rfl) rfl (by decide) ?_
  refine mf_aload_n (mf_dat eX2_readFreeCell 9 rfl) rfl rfl ?_
  refine mf_getf (r := (RX2, TX2, 5)) (ci := 2) (k := 0) (t := 2) (v := g4 x0 0) (mf_dat eX2_readFreeCell 10 rfl) fl_X2_9 rfl (by decide) rfl rfl ck1 ?_
  obtain ⟨ck6, hyp⟩ := hyp
  refine mf_getf (r := (RX9, TX9, 9)) (ci := 9) (k := 7) (t := 0) (v := h5 (g4 x0 0) 7) (mf_dat eX2_readFreeCell 11 rfl) fl_X2_37 rfl (by decide) rfl rfl ck6 ?_
  refine mf_if_ne (tgt := 59) (mf_dat eX2_readFreeCell 12 rfl) (by decide) (fun hc => ?_) (fun hc => ?_)
  · replace hyp := hyp.1 hc
    refine mf_iload_n (mf_dat eX2_readFreeCell 29 rfl) rfl rfl ?_
    exact mf_ireturn (mf_dat eX2_readFreeCell 30 rfl) rfl (Or.inl rfl) hyp
  · replace hyp := hyp.2 hc
    refine mf_aload_n (mf_dat eX2_readFreeCell 13 rfl) rfl rfl ?_
    refine mf_getf (r := (RX2, TX2, 5)) (ci := 2) (k := 3) (t := 2) (v := g4 x0 3) (mf_dat eX2_readFreeCell 14 rfl) fl_X2_23 rfl (by decide) rfl rfl ck1 ?_
    obtain ⟨ck7, hyp⟩ := hyp
    refine mf_getf (r := (RX1, TX1, 14)) (ci := 1) (k := 6) (t := 2) (v := g4 (g4 x0 3) 6) (mf_dat eX2_readFreeCell 15 rfl) fl_X2_150 rfl (by decide) rfl rfl ck7 ?_
    refine mf_iload_n (mf_dat eX2_readFreeCell 16 rfl) rfl rfl ?_
    refine mf_iload_n (mf_dat eX2_readFreeCell 17 rfl) rfl rfl ?_
    refine mf_aload_n (mf_dat eX2_readFreeCell 18 rfl) rfl rfl ?_
    refine mf_getf (r := (RX2, TX2, 5)) (ci := 2) (k := 3) (t := 2) (v := g4 x0 3) (mf_dat eX2_readFreeCell 19 rfl) fl_X2_23 rfl (by decide) rfl rfl ck1 ?_
    refine mf_getf (r := (RX1, TX1, 14)) (ci := 1) (k := 12) (t := 0) (v := h5 (g4 x0 3) 12) (mf_dat eX2_readFreeCell 20 rfl) fl_X2_159 rfl (by decide) rfl rfl ck7 ?_
    obtain ⟨ck11, hyp⟩ := hyp
    refine mf_callV (Yc := YX6_isFree) (r := (RX6, TX6, 8)) (ci := 6) (mf_dat eX2_readFreeCell 21 rfl) ml_X2_162 okX6_isFree im_X6_isFree sl_X6_isFree rfl rfl rfl rfl (Nat.le_of_ble_eq_true rfl) (mf_rr (Nat.le_trans (by decide) hd) (Nat.le_refl _)) (Nat.le_refl _) ck11 hyp (fun r8 g9 h10 hyp => ?_)
    refine mf_if_ne (tgt := 59) (mf_dat eX2_readFreeCell 22 rfl) (by decide) (fun hc => ?_) (fun hc => ?_)
    · replace hyp := hyp.1 hc
      refine mf_iload_n (mf_dat eX2_readFreeCell 29 rfl) rfl rfl ?_
      exact mf_ireturn (mf_dat eX2_readFreeCell 30 rfl) rfl (Or.inl rfl) hyp
    · replace hyp := hyp.2 hc
      refine mf_aload_n (mf_dat eX2_readFreeCell 23 rfl) rfl rfl ?_
      refine mf_getf (r := (RX2, TX2, 5)) (ci := 2) (k := 0) (t := 2) (v := g9 x0 0) (mf_dat eX2_readFreeCell 24 rfl) fl_X2_9 rfl (by decide) rfl rfl ck1 ?_
      refine mf_iconst (v := 2) (mf_dat eX2_readFreeCell 25 rfl) (by decide) ?_
      refine mf_aload_n (mf_dat eX2_readFreeCell 26 rfl) rfl rfl ?_
      refine mf_getf (r := (RX2, TX2, 5)) (ci := 2) (k := 4) (t := 0) (v := h10 x0 4) (mf_dat eX2_readFreeCell 27 rfl) fl_X2_128 rfl (by decide) rfl rfl ck1 ?_
      obtain ⟨ck15, hyp⟩ := hyp
      refine mf_callV (Yc := YX9_fail) (r := (RX9, TX9, 9)) (ci := 9) (mf_dat eX2_readFreeCell 28 rfl) ml_X2_47 okX9_fail im_X9_fail sl_X9_fail rfl rfl rfl rfl (Nat.le_of_ble_eq_true rfl) (mf_rr (Nat.le_trans (by decide) hd) (Nat.le_refl _)) (Nat.le_refl _) ck15 hyp (fun r12 g13 h14 hyp => ?_)
      refine mf_iload_n (mf_dat eX2_readFreeCell 29 rfl) rfl rfl ?_
      exact mf_ireturn (mf_dat eX2_readFreeCell 30 rfl) rfl (Or.inl rfl) hyp
abbrev JX2_readWorm_64 (C : mf_G) (l : Launch) (d n : Nat) (K : mf_Kt) (x0 x1 x2 : Int) (g h : mf_M) : Prop := mf_AW C l YX2_readWorm (mf_rm d n n) n (mf_Zm C YX2_readWorm n n K) (fun _ _ => True) 64 [(0, (2, x0)), (1, (0, x1)), (2, (0, x2))] [] n g h
set_option maxRecDepth 100000 in
set_option maxHeartbeats 4000000 in
theorem bX2_readWorm_64 {C : mf_G} {l : Launch} {d n : Nat} {K : mf_Kt} {x0 x1 x2 : Int} {g h : mf_M} (hd : 5 ≤ d) (hyp : mf_is n x0 2 ∧ mf_is n (g x0 3) 1 ∧ mf_MT C l 4 YX2_readNumber [(2, x0), (0, 0), (0, mf_w32 ((h (g x0 3) 9) - 1))] n n g h (fun r3 g4 h5 => mf_is n (g4 x0 0) 9 ∧ ((¬ h5 (g4 x0 0) 7 = 0 → K 0 g4 h5) ∧ (h5 (g4 x0 0) 7 = 0 → mf_is n (g4 x0 3) 1 ∧ mf_MT C l 0 YX1_addWorm [(2, g4 x0 3), (0, x1), (0, x2), (0, r3)] n n g4 h5 (fun r7 g8 h9 => K 0 g8 h9))))) : JX2_readWorm_64 C l d n K x0 x1 x2 g h := by
  refine mf_aload_n (mf_dat eX2_readWorm 35 rfl) rfl rfl ?_
  refine mf_iconst (v := 0) (mf_dat eX2_readWorm 36 rfl) (by decide) ?_
  refine mf_aload_n (mf_dat eX2_readWorm 37 rfl) rfl rfl ?_
  obtain ⟨ck1, hyp⟩ := hyp
  refine mf_getf (r := (RX2, TX2, 5)) (ci := 2) (k := 3) (t := 2) (v := g x0 3) (mf_dat eX2_readWorm 38 rfl) fl_X2_23 rfl (by decide) rfl rfl ck1 ?_
  obtain ⟨ck2, hyp⟩ := hyp
  refine mf_getf (r := (RX1, TX1, 14)) (ci := 1) (k := 9) (t := 0) (v := h (g x0 3) 9) (mf_dat eX2_readWorm 39 rfl) fl_X2_141 rfl (by decide) rfl rfl ck2 ?_
  refine mf_iconst (v := 1) (mf_dat eX2_readWorm 40 rfl) (by decide) ?_
  refine mf_isub (mf_dat eX2_readWorm 41 rfl) ?_
  refine mf_callV (Yc := YX2_readNumber) (r := (RX2, TX2, 5)) (ci := 2) (mf_dat eX2_readWorm 42 rfl) ml_X2_107 okX2_readNumber im_X2_readNumber sl_X2_readNumber rfl rfl rfl rfl (Nat.le_of_ble_eq_true rfl) (mf_rr (Nat.le_trans (by decide) hd) (Nat.le_refl _)) (Nat.le_refl _) ck1 hyp (fun r3 g4 h5 hyp => ?_)
  refine mf_istore_n (mf_dat eX2_readWorm 43 rfl) rfl (by decide) ?_
  refine mf_aload_n (mf_dat eX2_readWorm 44 rfl) rfl rfl ?_
  refine mf_getf (r := (RX2, TX2, 5)) (ci := 2) (k := 0) (t := 2) (v := g4 x0 0) (mf_dat eX2_readWorm 45 rfl) fl_X2_9 rfl (by decide) rfl rfl ck1 ?_
  obtain ⟨ck6, hyp⟩ := hyp
  refine mf_getf (r := (RX9, TX9, 9)) (ci := 9) (k := 7) (t := 0) (v := h5 (g4 x0 0) 7) (mf_dat eX2_readWorm 46 rfl) fl_X2_37 rfl (by decide) rfl rfl ck6 ?_
  refine mf_if_ne (tgt := 99) (mf_dat eX2_readWorm 47 rfl) (by decide) (fun hc => ?_) (fun hc => ?_)
  · replace hyp := hyp.1 hc
    exact mf_return (mf_dat eX2_readWorm 54 rfl) rfl hyp
  · replace hyp := hyp.2 hc
    refine mf_aload_n (mf_dat eX2_readWorm 48 rfl) rfl rfl ?_
    refine mf_getf (r := (RX2, TX2, 5)) (ci := 2) (k := 3) (t := 2) (v := g4 x0 3) (mf_dat eX2_readWorm 49 rfl) fl_X2_23 rfl (by decide) rfl rfl ck1 ?_
    refine mf_iload_n (mf_dat eX2_readWorm 50 rfl) rfl rfl ?_
    refine mf_iload_n (mf_dat eX2_readWorm 51 rfl) rfl rfl ?_
    refine mf_iload_n (mf_dat eX2_readWorm 52 rfl) rfl rfl ?_
    obtain ⟨ck10, hyp⟩ := hyp
    refine mf_callV (Yc := YX1_addWorm) (r := (RX1, TX1, 14)) (ci := 1) (mf_dat eX2_readWorm 53 rfl) ml_X2_169 okX1_addWorm im_X1_addWorm sl_X1_addWorm rfl rfl rfl rfl (Nat.le_of_ble_eq_true rfl) (mf_rr (Nat.le_trans (by decide) hd) (Nat.le_refl _)) (Nat.le_refl _) ck10 hyp (fun r7 g8 h9 hyp => ?_)
    exact mf_return (mf_dat eX2_readWorm 54 rfl) rfl hyp
set_option maxRecDepth 100000 in
set_option maxHeartbeats 4000000 in
theorem mX2_readWorm {C : mf_G} {l : Launch} {d n : Nat} {K : mf_Kt} {x0 : Int} {g h : mf_M} (hd : 5 ≤ d) (hyp : mf_is n x0 2 ∧ mf_is n (g x0 3) 1 ∧ mf_MT C l 3 YX2_mayBegin [(2, x0), (0, h (g x0 3) 11), (0, 12)] n n g h (fun r3 g4 h5 => ((¬ r3 = 0 → mf_is n (g4 x0 3) 1 ∧ mf_MT C l 4 YX2_readNumber [(2, x0), (0, 0), (0, mf_w32 ((h5 (g4 x0 3) 8) - 1))] n n g4 h5 (fun r7 g8 h9 => mf_is n (g8 x0 3) 1 ∧ mf_MT C l 4 YX2_readNumber [(2, x0), (0, 0), (0, mf_w32 ((h9 (g8 x0 3) 8) - 1))] n n g8 h9 (fun r11 g12 h13 => ((¬ r11 = r7 → JX2_readWorm_64 C l d n K x0 r7 r11 g12 h13) ∧ (r11 = r7 → mf_is n (g12 x0 0) 9 ∧ mf_MT C l 0 YX9_fail [(2, g12 x0 0), (0, 2), (0, h13 x0 4)] n n g12 h13 (fun r14 g15 h16 => JX2_readWorm_64 C l d n K x0 r7 r11 g15 h16)))))) ∧ (r3 = 0 → K 0 g4 h5)))) : mf_MT C l d YX2_readWorm [(2, x0)] n n g h K := by
  refine mf_entry (by decide) (Nat.le_of_ble_eq_true rfl) ?_
  refine mf_aload_n (mf_dat eX2_readWorm 0 rfl) rfl rfl ?_
  refine mf_aload_n (mf_dat eX2_readWorm 1 rfl) rfl rfl ?_
  obtain ⟨ck1, hyp⟩ := hyp
  refine mf_getf (r := (RX2, TX2, 5)) (ci := 2) (k := 3) (t := 2) (v := g x0 3) (mf_dat eX2_readWorm 2 rfl) fl_X2_23 rfl (by decide) rfl rfl ck1 ?_
  obtain ⟨ck2, hyp⟩ := hyp
  refine mf_getf (r := (RX1, TX1, 14)) (ci := 1) (k := 11) (t := 0) (v := h (g x0 3) 11) (mf_dat eX2_readWorm 3 rfl) fl_X2_166 rfl (by decide) rfl rfl ck2 ?_
  refine mf_bipush (v := 12) (mf_dat eX2_readWorm 4 rfl) (by decide) ?_
  refine mf_callV (Yc := YX2_mayBegin) (r := (RX2, TX2, 5)) (ci := 2) (mf_dat eX2_readWorm 5 rfl) ml_X2_118 okX2_mayBegin im_X2_mayBegin sl_X2_mayBegin rfl rfl rfl rfl (Nat.le_of_ble_eq_true rfl) (mf_rr (Nat.le_trans (by decide) hd) (Nat.le_refl _)) (Nat.le_refl _) ck1 hyp (fun r3 g4 h5 hyp => ?_)
  refine mf_if_ne (tgt := 17) (mf_dat eX2_readWorm 6 rfl) (by decide) (fun hc => ?_) (fun hc => ?_)
  · replace hyp := hyp.1 hc
    refine mf_aload_n (mf_dat eX2_readWorm 8 rfl) rfl rfl ?_
    refine mf_iconst (v := 0) (mf_dat eX2_readWorm 9 rfl) (by decide) ?_
    refine mf_aload_n (mf_dat eX2_readWorm 10 rfl) rfl rfl ?_
    refine mf_getf (r := (RX2, TX2, 5)) (ci := 2) (k := 3) (t := 2) (v := g4 x0 3) (mf_dat eX2_readWorm 11 rfl) fl_X2_23 rfl (by decide) rfl rfl ck1 ?_
    obtain ⟨ck6, hyp⟩ := hyp
    refine mf_getf (r := (RX1, TX1, 14)) (ci := 1) (k := 8) (t := 0) (v := h5 (g4 x0 3) 8) (mf_dat eX2_readWorm 12 rfl) fl_X2_138 rfl (by decide) rfl rfl ck6 ?_
    refine mf_iconst (v := 1) (mf_dat eX2_readWorm 13 rfl) (by decide) ?_
    refine mf_isub (mf_dat eX2_readWorm 14 rfl) ?_
    refine mf_callV (Yc := YX2_readNumber) (r := (RX2, TX2, 5)) (ci := 2) (mf_dat eX2_readWorm 15 rfl) ml_X2_107 okX2_readNumber im_X2_readNumber sl_X2_readNumber rfl rfl rfl rfl (Nat.le_of_ble_eq_true rfl) (mf_rr (Nat.le_trans (by decide) hd) (Nat.le_refl _)) (Nat.le_refl _) ck1 hyp (fun r7 g8 h9 hyp => ?_)
    refine mf_istore_n (mf_dat eX2_readWorm 16 rfl) rfl (by decide) ?_
    refine mf_aload_n (mf_dat eX2_readWorm 17 rfl) rfl rfl ?_
    refine mf_iconst (v := 0) (mf_dat eX2_readWorm 18 rfl) (by decide) ?_
    refine mf_aload_n (mf_dat eX2_readWorm 19 rfl) rfl rfl ?_
    refine mf_getf (r := (RX2, TX2, 5)) (ci := 2) (k := 3) (t := 2) (v := g8 x0 3) (mf_dat eX2_readWorm 20 rfl) fl_X2_23 rfl (by decide) rfl rfl ck1 ?_
    obtain ⟨ck10, hyp⟩ := hyp
    refine mf_getf (r := (RX1, TX1, 14)) (ci := 1) (k := 8) (t := 0) (v := h9 (g8 x0 3) 8) (mf_dat eX2_readWorm 21 rfl) fl_X2_138 rfl (by decide) rfl rfl ck10 ?_
    refine mf_iconst (v := 1) (mf_dat eX2_readWorm 22 rfl) (by decide) ?_
    refine mf_isub (mf_dat eX2_readWorm 23 rfl) ?_
    refine mf_callV (Yc := YX2_readNumber) (r := (RX2, TX2, 5)) (ci := 2) (mf_dat eX2_readWorm 24 rfl) ml_X2_107 okX2_readNumber im_X2_readNumber sl_X2_readNumber rfl rfl rfl rfl (Nat.le_of_ble_eq_true rfl) (mf_rr (Nat.le_trans (by decide) hd) (Nat.le_refl _)) (Nat.le_refl _) ck1 hyp (fun r11 g12 h13 hyp => ?_)
    refine mf_istore_n (mf_dat eX2_readWorm 25 rfl) rfl (by decide) ?_
    refine mf_iload_n (mf_dat eX2_readWorm 26 rfl) rfl rfl ?_
    refine mf_iload_n (mf_dat eX2_readWorm 27 rfl) rfl rfl ?_
    refine mf_icmp_ne (tgt := 64) (mf_dat eX2_readWorm 28 rfl) (by decide) (fun hc => ?_) (fun hc => ?_)
    · replace hyp := hyp.1 hc
      exact mf_sub [2, 1, 0] rfl hyp
    · replace hyp := hyp.2 hc
      refine mf_aload_n (mf_dat eX2_readWorm 29 rfl) rfl rfl ?_
      refine mf_getf (r := (RX2, TX2, 5)) (ci := 2) (k := 0) (t := 2) (v := g12 x0 0) (mf_dat eX2_readWorm 30 rfl) fl_X2_9 rfl (by decide) rfl rfl ck1 ?_
      refine mf_iconst (v := 2) (mf_dat eX2_readWorm 31 rfl) (by decide) ?_
      refine mf_aload_n (mf_dat eX2_readWorm 32 rfl) rfl rfl ?_
      refine mf_getf (r := (RX2, TX2, 5)) (ci := 2) (k := 4) (t := 0) (v := h13 x0 4) (mf_dat eX2_readWorm 33 rfl) fl_X2_128 rfl (by decide) rfl rfl ck1 ?_
      obtain ⟨ck17, hyp⟩ := hyp
      refine mf_callV (Yc := YX9_fail) (r := (RX9, TX9, 9)) (ci := 9) (mf_dat eX2_readWorm 34 rfl) ml_X2_47 okX9_fail im_X9_fail sl_X9_fail rfl rfl rfl rfl (Nat.le_of_ble_eq_true rfl) (mf_rr (Nat.le_trans (by decide) hd) (Nat.le_refl _)) (Nat.le_refl _) ck17 hyp (fun r14 g15 h16 hyp => ?_)
      exact mf_sub [2, 1, 0] rfl hyp
  · replace hyp := hyp.2 hc
    exact mf_return (mf_dat eX2_readWorm 7 rfl) rfl hyp
set_option maxRecDepth 100000 in
set_option maxHeartbeats 4000000 in
theorem mX2_readBeing {C : mf_G} {l : Launch} {d n : Nat} {K : mf_Kt} {x0 : Int} {g h : mf_M} (hd : 6 ≤ d) (hyp : mf_is n x0 2 ∧ mf_is n (g x0 3) 1 ∧ mf_MT C l 3 YX2_mayBegin [(2, x0), (0, h (g x0 3) 12), (0, 8)] n n g h (fun r3 g4 h5 => ((¬ r3 = 0 → mf_MT C l 3 YX2_readName [(2, x0)] n n g4 h5 (fun r6 g7 h8 => mf_is n (g7 x0 0) 9 ∧ mf_MT C l 3 YX9_passWord [(2, g7 x0 0), (0, 21)] n n g7 h8 (fun r9 g10 h11 => mf_is n (g10 x0 3) 1 ∧ mf_MT C l 4 YX2_readNumber [(2, x0), (0, 0), (0, mf_w32 ((h11 (g10 x0 3) 8) - 1))] n n g10 h11 (fun r14 g15 h16 => mf_is n (g15 x0 0) 9 ∧ mf_MT C l 3 YX9_passWord [(2, g15 x0 0), (0, 22)] n n g15 h16 (fun r17 g18 h19 => mf_MT C l 5 YX2_readFreeCell [(2, x0), (0, r14)] n n g18 h19 (fun r21 g22 h23 => mf_is n (g22 x0 0) 9 ∧ mf_MT C l 3 YX9_passWord [(2, g22 x0 0), (0, 3)] n n g22 h23 (fun r24 g25 h26 => mf_MT C l 4 YX2_readNumber [(2, x0), (0, 0), (0, 9)] n n g25 h26 (fun r28 g29 h30 => mf_is n (g29 x0 0) 9 ∧ ((¬ h30 (g29 x0 0) 7 = 0 → K 0 g29 h30) ∧ (h30 (g29 x0 0) 7 = 0 → mf_is n (g29 x0 3) 1 ∧ mf_MT C l 0 YX1_addBeing [(2, g29 x0 3), (0, r6), (0, r14), (0, r21), (0, r28)] n n g29 h30 (fun r32 g33 h34 => K 0 g33 h34))))))))))) ∧ (r3 = 0 → K 0 g4 h5)))) : mf_MT C l d YX2_readBeing [(2, x0)] n n g h K := by
  refine mf_entry (by decide) (Nat.le_of_ble_eq_true rfl) ?_
  refine mf_aload_n (mf_dat eX2_readBeing 0 rfl) rfl rfl ?_
  refine mf_aload_n (mf_dat eX2_readBeing 1 rfl) rfl rfl ?_
  obtain ⟨ck1, hyp⟩ := hyp
  refine mf_getf (r := (RX2, TX2, 5)) (ci := 2) (k := 3) (t := 2) (v := g x0 3) (mf_dat eX2_readBeing 2 rfl) fl_X2_23 rfl (by decide) rfl rfl ck1 ?_
  obtain ⟨ck2, hyp⟩ := hyp
  refine mf_getf (r := (RX1, TX1, 14)) (ci := 1) (k := 12) (t := 0) (v := h (g x0 3) 12) (mf_dat eX2_readBeing 3 rfl) fl_X2_159 rfl (by decide) rfl rfl ck2 ?_
  refine mf_bipush (v := 8) (mf_dat eX2_readBeing 4 rfl) (by decide) ?_
  refine mf_callV (Yc := YX2_mayBegin) (r := (RX2, TX2, 5)) (ci := 2) (mf_dat eX2_readBeing 5 rfl) ml_X2_118 okX2_mayBegin im_X2_mayBegin sl_X2_mayBegin rfl rfl rfl rfl (Nat.le_of_ble_eq_true rfl) (mf_rr (Nat.le_trans (by decide) hd) (Nat.le_refl _)) (Nat.le_refl _) ck1 hyp (fun r3 g4 h5 hyp => ?_)
  refine mf_if_ne (tgt := 17) (mf_dat eX2_readBeing 6 rfl) (by decide) (fun hc => ?_) (fun hc => ?_)
  · replace hyp := hyp.1 hc
    refine mf_aload_n (mf_dat eX2_readBeing 8 rfl) rfl rfl ?_
    refine mf_callV (Yc := YX2_readName) (r := (RX2, TX2, 5)) (ci := 2) (mf_dat eX2_readBeing 9 rfl) ml_X2_173 okX2_readName im_X2_readName sl_X2_readName rfl rfl rfl rfl (Nat.le_of_ble_eq_true rfl) (mf_rr (Nat.le_trans (by decide) hd) (Nat.le_refl _)) (Nat.le_refl _) ck1 hyp (fun r6 g7 h8 hyp => ?_)
    refine mf_istore_n (mf_dat eX2_readBeing 10 rfl) rfl (by decide) ?_
    refine mf_aload_n (mf_dat eX2_readBeing 11 rfl) rfl rfl ?_
    refine mf_getf (r := (RX2, TX2, 5)) (ci := 2) (k := 0) (t := 2) (v := g7 x0 0) (mf_dat eX2_readBeing 12 rfl) fl_X2_9 rfl (by decide) rfl rfl ck1 ?_
    refine mf_bipush (v := 21) (mf_dat eX2_readBeing 13 rfl) (by decide) ?_
    obtain ⟨ck12, hyp⟩ := hyp
    refine mf_callV (Yc := YX9_passWord) (r := (RX9, TX9, 9)) (ci := 9) (mf_dat eX2_readBeing 14 rfl) ml_X2_135 okX9_passWord im_X9_passWord sl_X9_passWord rfl rfl rfl rfl (Nat.le_of_ble_eq_true rfl) (mf_rr (Nat.le_trans (by decide) hd) (Nat.le_refl _)) (Nat.le_refl _) ck12 hyp (fun r9 g10 h11 hyp => ?_)
    refine mf_aload_n (mf_dat eX2_readBeing 15 rfl) rfl rfl ?_
    refine mf_iconst (v := 0) (mf_dat eX2_readBeing 16 rfl) (by decide) ?_
    refine mf_aload_n (mf_dat eX2_readBeing 17 rfl) rfl rfl ?_
    refine mf_getf (r := (RX2, TX2, 5)) (ci := 2) (k := 3) (t := 2) (v := g10 x0 3) (mf_dat eX2_readBeing 18 rfl) fl_X2_23 rfl (by decide) rfl rfl ck1 ?_
    obtain ⟨ck13, hyp⟩ := hyp
    refine mf_getf (r := (RX1, TX1, 14)) (ci := 1) (k := 8) (t := 0) (v := h11 (g10 x0 3) 8) (mf_dat eX2_readBeing 19 rfl) fl_X2_138 rfl (by decide) rfl rfl ck13 ?_
    refine mf_iconst (v := 1) (mf_dat eX2_readBeing 20 rfl) (by decide) ?_
    refine mf_isub (mf_dat eX2_readBeing 21 rfl) ?_
    refine mf_callV (Yc := YX2_readNumber) (r := (RX2, TX2, 5)) (ci := 2) (mf_dat eX2_readBeing 22 rfl) ml_X2_107 okX2_readNumber im_X2_readNumber sl_X2_readNumber rfl rfl rfl rfl (Nat.le_of_ble_eq_true rfl) (mf_rr (Nat.le_trans (by decide) hd) (Nat.le_refl _)) (Nat.le_refl _) ck1 hyp (fun r14 g15 h16 hyp => ?_)
    refine mf_istore_n (mf_dat eX2_readBeing 23 rfl) rfl (by decide) ?_
    refine mf_aload_n (mf_dat eX2_readBeing 24 rfl) rfl rfl ?_
    refine mf_getf (r := (RX2, TX2, 5)) (ci := 2) (k := 0) (t := 2) (v := g15 x0 0) (mf_dat eX2_readBeing 25 rfl) fl_X2_9 rfl (by decide) rfl rfl ck1 ?_
    refine mf_bipush (v := 22) (mf_dat eX2_readBeing 26 rfl) (by decide) ?_
    obtain ⟨ck20, hyp⟩ := hyp
    refine mf_callV (Yc := YX9_passWord) (r := (RX9, TX9, 9)) (ci := 9) (mf_dat eX2_readBeing 27 rfl) ml_X2_135 okX9_passWord im_X9_passWord sl_X9_passWord rfl rfl rfl rfl (Nat.le_of_ble_eq_true rfl) (mf_rr (Nat.le_trans (by decide) hd) (Nat.le_refl _)) (Nat.le_refl _) ck20 hyp (fun r17 g18 h19 hyp => ?_)
    refine mf_aload_n (mf_dat eX2_readBeing 28 rfl) rfl rfl ?_
    refine mf_iload_n (mf_dat eX2_readBeing 29 rfl) rfl rfl ?_
    refine mf_callV (Yc := YX2_readFreeCell) (r := (RX2, TX2, 5)) (ci := 2) (mf_dat eX2_readBeing 30 rfl) ml_X2_147 okX2_readFreeCell im_X2_readFreeCell sl_X2_readFreeCell rfl rfl rfl rfl (Nat.le_of_ble_eq_true rfl) (mf_rr (Nat.le_trans (by decide) hd) (Nat.le_refl _)) (Nat.le_refl _) ck1 hyp (fun r21 g22 h23 hyp => ?_)
    refine mf_istore_n (mf_dat eX2_readBeing 31 rfl) rfl (by decide) ?_
    refine mf_aload_n (mf_dat eX2_readBeing 32 rfl) rfl rfl ?_
    refine mf_getf (r := (RX2, TX2, 5)) (ci := 2) (k := 0) (t := 2) (v := g22 x0 0) (mf_dat eX2_readBeing 33 rfl) fl_X2_9 rfl (by decide) rfl rfl ck1 ?_
    refine mf_iconst (v := 3) (mf_dat eX2_readBeing 34 rfl) (by decide) ?_
    obtain ⟨ck27, hyp⟩ := hyp
    refine mf_callV (Yc := YX9_passWord) (r := (RX9, TX9, 9)) (ci := 9) (mf_dat eX2_readBeing 35 rfl) ml_X2_135 okX9_passWord im_X9_passWord sl_X9_passWord rfl rfl rfl rfl (Nat.le_of_ble_eq_true rfl) (mf_rr (Nat.le_trans (by decide) hd) (Nat.le_refl _)) (Nat.le_refl _) ck27 hyp (fun r24 g25 h26 hyp => ?_)
    refine mf_aload_n (mf_dat eX2_readBeing 36 rfl) rfl rfl ?_
    refine mf_iconst (v := 0) (mf_dat eX2_readBeing 37 rfl) (by decide) ?_
    refine mf_bipush (v := 9) (mf_dat eX2_readBeing 38 rfl) (by decide) ?_
    refine mf_callV (Yc := YX2_readNumber) (r := (RX2, TX2, 5)) (ci := 2) (mf_dat eX2_readBeing 39 rfl) ml_X2_107 okX2_readNumber im_X2_readNumber sl_X2_readNumber rfl rfl rfl rfl (Nat.le_of_ble_eq_true rfl) (mf_rr (Nat.le_trans (by decide) hd) (Nat.le_refl _)) (Nat.le_refl _) ck1 hyp (fun r28 g29 h30 hyp => ?_)
    refine mf_istore (mf_dat eX2_readBeing 40 rfl) (by decide) ?_
    refine mf_aload_n (mf_dat eX2_readBeing 41 rfl) rfl rfl ?_
    refine mf_getf (r := (RX2, TX2, 5)) (ci := 2) (k := 0) (t := 2) (v := g29 x0 0) (mf_dat eX2_readBeing 42 rfl) fl_X2_9 rfl (by decide) rfl rfl ck1 ?_
    obtain ⟨ck31, hyp⟩ := hyp
    refine mf_getf (r := (RX9, TX9, 9)) (ci := 9) (k := 7) (t := 0) (v := h30 (g29 x0 0) 7) (mf_dat eX2_readBeing 43 rfl) fl_X2_37 rfl (by decide) rfl rfl ck31 ?_
    refine mf_if_ne (tgt := 100) (mf_dat eX2_readBeing 44 rfl) (by decide) (fun hc => ?_) (fun hc => ?_)
    · replace hyp := hyp.1 hc
      exact mf_return (mf_dat eX2_readBeing 52 rfl) rfl hyp
    · replace hyp := hyp.2 hc
      refine mf_aload_n (mf_dat eX2_readBeing 45 rfl) rfl rfl ?_
      refine mf_getf (r := (RX2, TX2, 5)) (ci := 2) (k := 3) (t := 2) (v := g29 x0 3) (mf_dat eX2_readBeing 46 rfl) fl_X2_23 rfl (by decide) rfl rfl ck1 ?_
      refine mf_iload_n (mf_dat eX2_readBeing 47 rfl) rfl rfl ?_
      refine mf_iload_n (mf_dat eX2_readBeing 48 rfl) rfl rfl ?_
      refine mf_iload_n (mf_dat eX2_readBeing 49 rfl) rfl rfl ?_
      refine mf_iload (mf_dat eX2_readBeing 50 rfl) rfl ?_
      obtain ⟨ck35, hyp⟩ := hyp
      refine mf_callV (Yc := YX1_addBeing) (r := (RX1, TX1, 14)) (ci := 1) (mf_dat eX2_readBeing 51 rfl) ml_X2_176 okX1_addBeing im_X1_addBeing sl_X1_addBeing rfl rfl rfl rfl (Nat.le_of_ble_eq_true rfl) (mf_rr (Nat.le_trans (by decide) hd) (Nat.le_refl _)) (Nat.le_refl _) ck35 hyp (fun r32 g33 h34 hyp => ?_)
      exact mf_return (mf_dat eX2_readBeing 52 rfl) rfl hyp
  · replace hyp := hyp.2 hc
    exact mf_return (mf_dat eX2_readBeing 7 rfl) rfl hyp
set_option maxRecDepth 100000 in
set_option maxHeartbeats 4000000 in
theorem mX2_readName {C : mf_G} {l : Launch} {d n : Nat} {K : mf_Kt} {x0 : Int} {g h : mf_M} (hd : 3 ≤ d) (hyp : mf_is n x0 2 ∧ mf_is n (g x0 0) 9 ∧ (∀ v3 : Int, v3 = h (g x0 0) 5 → ((h (g x0 0) 2 = 1 → ((h (g x0 0) 4 ≤ 6 → mf_MT C l 1 YX2_isOwnWord [(2, x0), (0, v3)] n n g h (fun r4 g5 h6 => ((r4 = 0 → mf_is n (g5 x0 3) 1 ∧ mf_MT C l 0 YX1_hasName [(2, g5 x0 3), (0, v3)] n n g5 h6 (fun r7 g8 h9 => ((r7 = 0 → mf_is n (g8 x0 0) 9 ∧ mf_MT C l 2 YX9_step [(2, g8 x0 0)] n n g8 h9 (fun r11 g12 h13 => K v3 g12 h13)) ∧ (¬ r7 = 0 → mf_is n (g8 x0 0) 9 ∧ mf_MT C l 0 YX9_fail [(2, g8 x0 0), (0, 3), (0, h9 (g8 x0 0) 3)] n n g8 h9 (fun r16 g17 h18 => K v3 g17 h18))))) ∧ (¬ r4 = 0 → mf_is n (g5 x0 0) 9 ∧ mf_MT C l 0 YX9_fail [(2, g5 x0 0), (0, 1), (0, h6 (g5 x0 0) 3)] n n g5 h6 (fun r20 g21 h22 => K v3 g21 h22))))) ∧ (¬ h (g x0 0) 4 ≤ 6 → mf_MT C l 0 YX9_fail [(2, g x0 0), (0, 1), (0, mf_w32 ((h (g x0 0) 3) + 6))] n n g h (fun r23 g24 h25 => K v3 g24 h25)))) ∧ (¬ h (g x0 0) 2 = 1 → mf_MT C l 0 YX9_fail [(2, g x0 0), (0, 1), (0, h (g x0 0) 3)] n n g h (fun r26 g27 h28 => K v3 g27 h28))))) : mf_MT C l d YX2_readName [(2, x0)] n n g h K := by
  refine mf_entry (by decide) (Nat.le_of_ble_eq_true rfl) ?_
  refine mf_aload_n (mf_dat eX2_readName_p0 0 rfl) rfl rfl ?_
  obtain ⟨ck1, hyp⟩ := hyp
  refine mf_getf (r := (RX2, TX2, 5)) (ci := 2) (k := 0) (t := 2) (v := g x0 0) (mf_dat eX2_readName_p0 1 rfl) fl_X2_9 rfl (by decide) rfl rfl ck1 ?_
  obtain ⟨ck2, hyp⟩ := hyp
  refine mf_getf (r := (RX9, TX9, 9)) (ci := 9) (k := 5) (t := 0) (v := h (g x0 0) 5) (mf_dat eX2_readName_p0 2 rfl) fl_X2_71 rfl (by decide) rfl rfl ck2 ?_
  generalize qv3 : h (g x0 0) 5 = v3
  replace hyp := hyp _ qv3.symm
  refine mf_istore_n (mf_dat eX2_readName_p0 3 rfl) rfl (by decide) ?_
  refine mf_aload_n (mf_dat eX2_readName_p0 4 rfl) rfl rfl ?_
  refine mf_getf (r := (RX2, TX2, 5)) (ci := 2) (k := 0) (t := 2) (v := g x0 0) (mf_dat eX2_readName_p0 5 rfl) fl_X2_9 rfl (by decide) rfl rfl ck1 ?_
  refine mf_getf (r := (RX9, TX9, 9)) (ci := 9) (k := 2) (t := 0) (v := h (g x0 0) 2) (mf_dat eX2_readName_p0 6 rfl) fl_X2_41 rfl (by decide) rfl rfl ck2 ?_
  refine mf_iconst (v := 1) (mf_dat eX2_readName_p0 7 rfl) (by decide) ?_
  refine mf_icmp_eq (tgt := 37) (mf_dat eX2_readName_p0 8 rfl) (by decide) (fun hc => ?_) (fun hc => ?_)
  · replace hyp := hyp.1 hc
    refine mf_aload_n (mf_dat eX2_readName_p0 17 rfl) rfl rfl ?_
    refine mf_getf (r := (RX2, TX2, 5)) (ci := 2) (k := 0) (t := 2) (v := g x0 0) (mf_dat eX2_readName_p0 18 rfl) fl_X2_9 rfl (by decide) rfl rfl ck1 ?_
    refine mf_getf (r := (RX9, TX9, 9)) (ci := 9) (k := 4) (t := 0) (v := h (g x0 0) 4) (mf_dat eX2_readName_p0 19 rfl) fl_X2_180 rfl (by decide) rfl rfl ck2 ?_
    refine mf_bipush (v := 6) (mf_dat eX2_readName_p0 20 rfl) (by decide) ?_
    refine mf_icmp_le (tgt := 70) (mf_dat eX2_readName_p0 21 rfl) (by decide) (fun hc => ?_) (fun hc => ?_)
    · replace hyp := hyp.1 hc
      refine mf_aload_n (mf_dat eX2_readName_p0 32 rfl) rfl rfl ?_
      refine mf_iload_n (mf_dat eX2_readName_p0 33 rfl) rfl rfl ?_
      refine mf_callV (Yc := YX2_isOwnWord) (r := (RX2, TX2, 5)) (ci := 2) (mf_dat eX2_readName_p0 34 rfl) ml_X2_183 okX2_isOwnWord im_X2_isOwnWord sl_X2_isOwnWord rfl rfl rfl rfl (Nat.le_of_ble_eq_true rfl) (mf_rr (Nat.le_trans (by decide) hd) (Nat.le_refl _)) (Nat.le_refl _) ck1 hyp (fun r4 g5 h6 hyp => ?_)
      refine mf_if_eq (tgt := 96) (mf_dat eX2_readName_p0 35 rfl) (by decide) (fun hc => ?_) (fun hc => ?_)
      · replace hyp := hyp.1 hc
        refine mf_aload_n (mf_dat eX2_readName_p0 44 rfl) rfl rfl ?_
        refine mf_getf (r := (RX2, TX2, 5)) (ci := 2) (k := 3) (t := 2) (v := g5 x0 3) (mf_dat eX2_readName_p0 45 rfl) fl_X2_23 rfl (by decide) rfl rfl ck1 ?_
        refine mf_iload_n (mf_dat eX2_readName_p0 46 rfl) rfl rfl ?_
        obtain ⟨ck10, hyp⟩ := hyp
        refine mf_callV (Yc := YX1_hasName) (r := (RX1, TX1, 14)) (ci := 1) (mf_dat eX2_readName_p0 47 rfl) ml_X2_186 okX1_hasName im_X1_hasName sl_X1_hasName rfl rfl rfl rfl (Nat.le_of_ble_eq_true rfl) (mf_rr (Nat.le_trans (by decide) hd) (Nat.le_refl _)) (Nat.le_refl _) ck10 hyp (fun r7 g8 h9 hyp => ?_)
        refine mf_if_eq (tgt := 125) (mf_dat eX2_readName_p0 48 rfl) (by decide) (fun hc => ?_) (fun hc => ?_)
        · replace hyp := hyp.1 hc
          refine mf_aload_n (mf_dat eX2_readName_p0 57 rfl) rfl rfl ?_
          refine mf_getf (r := (RX2, TX2, 5)) (ci := 2) (k := 0) (t := 2) (v := g8 x0 0) (mf_dat eX2_readName_p0 58 rfl) fl_X2_9 rfl (by decide) rfl rfl ck1 ?_
          obtain ⟨ck14, hyp⟩ := hyp
          refine mf_callV (Yc := YX9_step) (r := (RX9, TX9, 9)) (ci := 9) (mf_dat eX2_readName_p0 59 rfl) ml_X2_104 okX9_step im_X9_step sl_X9_step rfl rfl rfl rfl (Nat.le_of_ble_eq_true rfl) (mf_rr (Nat.le_trans (by decide) hd) (Nat.le_refl _)) (Nat.le_refl _) ck14 hyp (fun r11 g12 h13 hyp => ?_)
          refine mf_iload_n (mf_dat eX2_readName_p1 0 rfl) rfl rfl ?_
          exact mf_ireturn (mf_dat eX2_readName_p1 1 rfl) rfl (Or.inl rfl) hyp
        · replace hyp := hyp.2 hc
          refine mf_aload_n (mf_dat eX2_readName_p0 49 rfl) rfl rfl ?_
          refine mf_getf (r := (RX2, TX2, 5)) (ci := 2) (k := 0) (t := 2) (v := g8 x0 0) (mf_dat eX2_readName_p0 50 rfl) fl_X2_9 rfl (by decide) rfl rfl ck1 ?_
          refine mf_iconst (v := 3) (mf_dat eX2_readName_p0 51 rfl) (by decide) ?_
          refine mf_aload_n (mf_dat eX2_readName_p0 52 rfl) rfl rfl ?_
          refine mf_getf (r := (RX2, TX2, 5)) (ci := 2) (k := 0) (t := 2) (v := g8 x0 0) (mf_dat eX2_readName_p0 53 rfl) fl_X2_9 rfl (by decide) rfl rfl ck1 ?_
          obtain ⟨ck15, hyp⟩ := hyp
          refine mf_getf (r := (RX9, TX9, 9)) (ci := 9) (k := 3) (t := 0) (v := h9 (g8 x0 0) 3) (mf_dat eX2_readName_p0 54 rfl) fl_X2_44 rfl (by decide) rfl rfl ck15 ?_
          refine mf_callV (Yc := YX9_fail) (r := (RX9, TX9, 9)) (ci := 9) (mf_dat eX2_readName_p0 55 rfl) ml_X2_47 okX9_fail im_X9_fail sl_X9_fail rfl rfl rfl rfl (Nat.le_of_ble_eq_true rfl) (mf_rr (Nat.le_trans (by decide) hd) (Nat.le_refl _)) (Nat.le_refl _) ck15 hyp (fun r16 g17 h18 hyp => ?_)
          refine mf_goto (tgt := 132) (mf_dat eX2_readName_p0 56 rfl) (by decide) ?_
          refine mf_iload_n (mf_dat eX2_readName_p1 0 rfl) rfl rfl ?_
          exact mf_ireturn (mf_dat eX2_readName_p1 1 rfl) rfl (Or.inl rfl) hyp
      · replace hyp := hyp.2 hc
        refine mf_aload_n (mf_dat eX2_readName_p0 36 rfl) rfl rfl ?_
        refine mf_getf (r := (RX2, TX2, 5)) (ci := 2) (k := 0) (t := 2) (v := g5 x0 0) (mf_dat eX2_readName_p0 37 rfl) fl_X2_9 rfl (by decide) rfl rfl ck1 ?_
        refine mf_iconst (v := 1) (mf_dat eX2_readName_p0 38 rfl) (by decide) ?_
        refine mf_aload_n (mf_dat eX2_readName_p0 39 rfl) rfl rfl ?_
        refine mf_getf (r := (RX2, TX2, 5)) (ci := 2) (k := 0) (t := 2) (v := g5 x0 0) (mf_dat eX2_readName_p0 40 rfl) fl_X2_9 rfl (by decide) rfl rfl ck1 ?_
        obtain ⟨ck19, hyp⟩ := hyp
        refine mf_getf (r := (RX9, TX9, 9)) (ci := 9) (k := 3) (t := 0) (v := h6 (g5 x0 0) 3) (mf_dat eX2_readName_p0 41 rfl) fl_X2_44 rfl (by decide) rfl rfl ck19 ?_
        refine mf_callV (Yc := YX9_fail) (r := (RX9, TX9, 9)) (ci := 9) (mf_dat eX2_readName_p0 42 rfl) ml_X2_47 okX9_fail im_X9_fail sl_X9_fail rfl rfl rfl rfl (Nat.le_of_ble_eq_true rfl) (mf_rr (Nat.le_trans (by decide) hd) (Nat.le_refl _)) (Nat.le_refl _) ck19 hyp (fun r20 g21 h22 hyp => ?_)
        refine mf_goto (tgt := 132) (mf_dat eX2_readName_p0 43 rfl) (by decide) ?_
        refine mf_iload_n (mf_dat eX2_readName_p1 0 rfl) rfl rfl ?_
        exact mf_ireturn (mf_dat eX2_readName_p1 1 rfl) rfl (Or.inl rfl) hyp
    · replace hyp := hyp.2 hc
      refine mf_aload_n (mf_dat eX2_readName_p0 22 rfl) rfl rfl ?_
      refine mf_getf (r := (RX2, TX2, 5)) (ci := 2) (k := 0) (t := 2) (v := g x0 0) (mf_dat eX2_readName_p0 23 rfl) fl_X2_9 rfl (by decide) rfl rfl ck1 ?_
      refine mf_iconst (v := 1) (mf_dat eX2_readName_p0 24 rfl) (by decide) ?_
      refine mf_aload_n (mf_dat eX2_readName_p0 25 rfl) rfl rfl ?_
      refine mf_getf (r := (RX2, TX2, 5)) (ci := 2) (k := 0) (t := 2) (v := g x0 0) (mf_dat eX2_readName_p0 26 rfl) fl_X2_9 rfl (by decide) rfl rfl ck1 ?_
      refine mf_getf (r := (RX9, TX9, 9)) (ci := 9) (k := 3) (t := 0) (v := h (g x0 0) 3) (mf_dat eX2_readName_p0 27 rfl) fl_X2_44 rfl (by decide) rfl rfl ck2 ?_
      refine mf_bipush (v := 6) (mf_dat eX2_readName_p0 28 rfl) (by decide) ?_
      refine mf_iadd (mf_dat eX2_readName_p0 29 rfl) ?_
      refine mf_callV (Yc := YX9_fail) (r := (RX9, TX9, 9)) (ci := 9) (mf_dat eX2_readName_p0 30 rfl) ml_X2_47 okX9_fail im_X9_fail sl_X9_fail rfl rfl rfl rfl (Nat.le_of_ble_eq_true rfl) (mf_rr (Nat.le_trans (by decide) hd) (Nat.le_refl _)) (Nat.le_refl _) ck2 hyp (fun r23 g24 h25 hyp => ?_)
      refine mf_goto (tgt := 132) (mf_dat eX2_readName_p0 31 rfl) (by decide) ?_
      refine mf_iload_n (mf_dat eX2_readName_p1 0 rfl) rfl rfl ?_
      exact mf_ireturn (mf_dat eX2_readName_p1 1 rfl) rfl (Or.inl rfl) hyp
  · replace hyp := hyp.2 hc
    refine mf_aload_n (mf_dat eX2_readName_p0 9 rfl) rfl rfl ?_
    refine mf_getf (r := (RX2, TX2, 5)) (ci := 2) (k := 0) (t := 2) (v := g x0 0) (mf_dat eX2_readName_p0 10 rfl) fl_X2_9 rfl (by decide) rfl rfl ck1 ?_
    refine mf_iconst (v := 1) (mf_dat eX2_readName_p0 11 rfl) (by decide) ?_
    refine mf_aload_n (mf_dat eX2_readName_p0 12 rfl) rfl rfl ?_
    refine mf_getf (r := (RX2, TX2, 5)) (ci := 2) (k := 0) (t := 2) (v := g x0 0) (mf_dat eX2_readName_p0 13 rfl) fl_X2_9 rfl (by decide) rfl rfl ck1 ?_
    refine mf_getf (r := (RX9, TX9, 9)) (ci := 9) (k := 3) (t := 0) (v := h (g x0 0) 3) (mf_dat eX2_readName_p0 14 rfl) fl_X2_44 rfl (by decide) rfl rfl ck2 ?_
    refine mf_callV (Yc := YX9_fail) (r := (RX9, TX9, 9)) (ci := 9) (mf_dat eX2_readName_p0 15 rfl) ml_X2_47 okX9_fail im_X9_fail sl_X9_fail rfl rfl rfl rfl (Nat.le_of_ble_eq_true rfl) (mf_rr (Nat.le_trans (by decide) hd) (Nat.le_refl _)) (Nat.le_refl _) ck2 hyp (fun r26 g27 h28 hyp => ?_)
    refine mf_goto (tgt := 132) (mf_dat eX2_readName_p0 16 rfl) (by decide) ?_
    refine mf_iload_n (mf_dat eX2_readName_p1 0 rfl) rfl rfl ?_
    exact mf_ireturn (mf_dat eX2_readName_p1 1 rfl) rfl (Or.inl rfl) hyp
set_option maxRecDepth 100000 in
set_option maxHeartbeats 4000000 in
theorem mX2_isOwnWord {C : mf_G} {l : Launch} {d n : Nat} {K : mf_Kt} {x0 x1 : Int} {g h : mf_M} (hd : 1 ≤ d) (hyp : mf_is n x0 2 ∧ mf_is n (g x0 1) 10 ∧ mf_MT C l 0 YX10_find [(2, g x0 1), (0, x1)] n n g h (fun r2 g3 h4 => ((r2 < 0 → K 0 g3 h4) ∧ (¬ r2 < 0 → ((28 ≤ r2 → K 0 g3 h4) ∧ (¬ 28 ≤ r2 → K 1 g3 h4)))))) : mf_MT C l d YX2_isOwnWord [(2, x0), (0, x1)] n n g h K := by
  refine mf_entry (by decide) (Nat.le_of_ble_eq_true rfl) ?_
  refine mf_aload_n (mf_dat eX2_isOwnWord 0 rfl) rfl rfl ?_
  obtain ⟨ck1, hyp⟩ := hyp
  refine mf_getf (r := (RX2, TX2, 5)) (ci := 2) (k := 1) (t := 2) (v := g x0 1) (mf_dat eX2_isOwnWord 1 rfl) fl_X2_15 rfl (by decide) rfl rfl ck1 ?_
  refine mf_iload_n (mf_dat eX2_isOwnWord 2 rfl) rfl rfl ?_
  obtain ⟨ck5, hyp⟩ := hyp
  refine mf_callV (Yc := YX10_find) (r := (RX10, TX10, 1)) (ci := 10) (mf_dat eX2_isOwnWord 3 rfl) ml_X2_74 okX10_find im_X10_find sl_X10_find rfl rfl rfl rfl (Nat.le_of_ble_eq_true rfl) (mf_rr (Nat.le_trans (by decide) hd) (Nat.le_refl _)) (Nat.le_refl _) ck5 hyp (fun r2 g3 h4 hyp => ?_)
  refine mf_istore_n (mf_dat eX2_isOwnWord 4 rfl) rfl (by decide) ?_
  refine mf_iload_n (mf_dat eX2_isOwnWord 5 rfl) rfl rfl ?_
  refine mf_if_lt (tgt := 23) (mf_dat eX2_isOwnWord 6 rfl) (by decide) (fun hc => ?_) (fun hc => ?_)
  · replace hyp := hyp.1 hc
    refine mf_iconst (v := 0) (mf_dat eX2_isOwnWord 12 rfl) (by decide) ?_
    exact mf_ireturn (mf_dat eX2_isOwnWord 13 rfl) rfl (Or.inr ⟨rfl, by decide⟩) hyp
  · replace hyp := hyp.2 hc
    refine mf_iload_n (mf_dat eX2_isOwnWord 7 rfl) rfl rfl ?_
    refine mf_bipush (v := 28) (mf_dat eX2_isOwnWord 8 rfl) (by decide) ?_
    refine mf_icmp_ge (tgt := 23) (mf_dat eX2_isOwnWord 9 rfl) (by decide) (fun hc => ?_) (fun hc => ?_)
    · replace hyp := hyp.1 hc
      refine mf_iconst (v := 0) (mf_dat eX2_isOwnWord 12 rfl) (by decide) ?_
      exact mf_ireturn (mf_dat eX2_isOwnWord 13 rfl) rfl (Or.inr ⟨rfl, by decide⟩) hyp
    · replace hyp := hyp.2 hc
      refine mf_iconst (v := 1) (mf_dat eX2_isOwnWord 10 rfl) (by decide) ?_
      refine mf_goto (tgt := 24) (mf_dat eX2_isOwnWord 11 rfl) (by decide) ?_
      exact mf_ireturn (mf_dat eX2_isOwnWord 13 rfl) rfl (Or.inr ⟨rfl, by decide⟩) hyp
set_option maxRecDepth 100000 in
set_option maxHeartbeats 4000000 in
theorem mX3_init {C : mf_G} {l : Launch} {d n0 n1 : Nat} {K : mf_Kt} {x0 : Int} {g h : mf_M} (hd : 1 ≤ d) (hyp : 0 ≤ x0 ∧ mf_sh n0 = (20, 9) ∧ mf_more (mf_rm d n0 n1) n0 n0 ∧ (∀ j : Nat, g n0 j = -1) ∧ (∀ j : Nat, h n0 j = 0) ∧ mf_is (n0 + 1) x0 3 ∧ (∀ g7 : mf_M, g7 = mf_up g x0 0 ((n0 : Nat) : Int) → mf_sh (n0 + 1) = (22, 8) ∧ mf_more (mf_rm d n0 n1) n0 (n0 + 1) ∧ (∀ j : Nat, g7 (n0 + 1) j = -1) ∧ (∀ j : Nat, h (n0 + 1) j = 0) ∧ mf_is (n0 + 2) x0 3 ∧ (∀ g13 : mf_M, g13 = mf_up g7 x0 1 ((n0 + 1 : Nat) : Int) → mf_sh (n0 + 2) = (20, 64) ∧ mf_more (mf_rm d n0 n1) n0 (n0 + 2) ∧ (∀ j : Nat, g13 (n0 + 2) j = -1) ∧ (∀ j : Nat, h (n0 + 2) j = 0) ∧ mf_is (n0 + 3) x0 3 ∧ (∀ g19 : mf_M, g19 = mf_up g13 x0 2 ((n0 + 2 : Nat) : Int) → n0 + 3 = n1 ∧ K 0 g19 h)))) : mf_MT C l d YX3_init [(2, x0)] n0 n1 g h K := by
  refine mf_entry (by decide) (Nat.le_of_ble_eq_true rfl) ?_
  refine mf_aload_n (mf_dat eX3_init 0 rfl) rfl rfl ?_
  obtain ⟨ck1, hyp⟩ := hyp
  refine mf_objInit (mf_dat eX3_init 1 rfl) ml_X3_3 im_obj co_obj (mf_rmf hd) (mf_rml hd (Nat.le_of_ble_eq_true rfl)) ck1 ?_
  refine mf_aload_n (mf_dat eX3_init 2 rfl) rfl rfl ?_
  refine mf_bipush (v := 9) (mf_dat eX3_init 3 rfl) (by decide) ?_
  obtain ⟨ck2, hyp⟩ := hyp
  obtain ⟨ck3, hyp⟩ := hyp
  obtain ⟨ck4, hyp⟩ := hyp
  obtain ⟨ck5, hyp⟩ := hyp
  refine mf_newa (at_ := .int) (i := 0) (mf_dat eX3_init 4 rfl) ac_20 rfl ck2 rfl (by decide) rfl rfl (by decide) (by intro c; simp) (by decide) ck3 ck4 ck5 ?_
  obtain ⟨ck6, hyp⟩ := hyp
  refine mf_putRF (r := (RX3, TX3, 4)) (ci := 3) (k := 0) (kI := 0) (t := 2) (mf_dat eX3_init 5 rfl) fl_X3_11 rfl rfl (by decide) rfl (by decide) rfl rfl rfl (by decide) (fun h9 => absurd h9 (by decide)) ck6 ?_
  generalize qg7 : mf_up g x0 0 ((n0 : Nat) : Int) = g7
  replace hyp := hyp _ qg7.symm
  refine mf_aload_n (mf_dat eX3_init 6 rfl) rfl rfl ?_
  refine mf_bipush (v := 8) (mf_dat eX3_init 7 rfl) (by decide) ?_
  obtain ⟨ck8, hyp⟩ := hyp
  obtain ⟨ck9, hyp⟩ := hyp
  obtain ⟨ck10, hyp⟩ := hyp
  obtain ⟨ck11, hyp⟩ := hyp
  refine mf_newa (at_ := .boolean) (i := 2) (mf_dat eX3_init 8 rfl) ac_22 rfl ck8 rfl (by decide) rfl rfl (by decide) (by intro c; simp) (by decide) ck9 ck10 ck11 ?_
  obtain ⟨ck12, hyp⟩ := hyp
  refine mf_putRF (r := (RX3, TX3, 4)) (ci := 3) (k := 1) (kI := 1) (t := 2) (mf_dat eX3_init 9 rfl) fl_X3_17 rfl rfl (by decide) rfl (by decide) rfl rfl rfl (by decide) (fun h9 => absurd h9 (by decide)) ck12 ?_
  generalize qg13 : mf_up g7 x0 1 ((n0 + 1 : Nat) : Int) = g13
  replace hyp := hyp _ qg13.symm
  refine mf_aload_n (mf_dat eX3_init 10 rfl) rfl rfl ?_
  refine mf_bipush (v := 64) (mf_dat eX3_init 11 rfl) (by decide) ?_
  obtain ⟨ck14, hyp⟩ := hyp
  obtain ⟨ck15, hyp⟩ := hyp
  obtain ⟨ck16, hyp⟩ := hyp
  obtain ⟨ck17, hyp⟩ := hyp
  refine mf_newa (at_ := .int) (i := 0) (mf_dat eX3_init 12 rfl) ac_20 rfl ck14 rfl (by decide) rfl rfl (by decide) (by intro c; simp) (by decide) ck15 ck16 ck17 ?_
  obtain ⟨ck18, hyp⟩ := hyp
  refine mf_putRF (r := (RX3, TX3, 4)) (ci := 3) (k := 2) (kI := 2) (t := 2) (mf_dat eX3_init 13 rfl) fl_X3_21 rfl rfl (by decide) rfl (by decide) rfl rfl rfl (by decide) (fun h9 => absurd h9 (by decide)) ck18 ?_
  generalize qg19 : mf_up g13 x0 2 ((n0 + 2 : Nat) : Int) = g19
  replace hyp := hyp _ qg19.symm
  obtain ⟨ck20, hyp⟩ := hyp
  subst ck20
  exact mf_return (mf_dat eX3_init 14 rfl) rfl hyp
abbrev JX3_reckon_42 (C : mf_G) (l : Launch) (d n : Nat) (K : mf_Kt) (x0 x1 x3 x4 : Int) (g h : mf_M) : Prop := mf_AW C l YX3_reckon (mf_rm d n n) n (mf_Zm C YX3_reckon n n K) (fun _ _ => True) 42 [(0, (2, x0)), (1, (2, x1)), (3, (0, x3)), (4, (0, x4))] [] n g h
set_option maxRecDepth 100000 in
set_option maxHeartbeats 4000000 in
theorem bX3_reckon_42 {C : mf_G} {l : Launch} {d n : Nat} {K : mf_Kt} {x0 x1 x3 x4 : Int} {g h : mf_M} (hd : 3 ≤ d) (hyp : ((x3 ≤ x4 → mf_is n x0 3 ∧ ((h x0 3 ≤ 0 → K 0 g h) ∧ (¬ h x0 3 ≤ 0 → mf_is n (g x0 2) 20 ∧ 0 ≤ mf_w32 ((h x0 3) - 1) ∧ mf_w32 ((h x0 3) - 1) < mf_len (g x0 2) ∧ K (h (g x0 2) (mf_w32 ((h x0 3) - 1))) g h))) ∧ (¬ x3 ≤ x4 → mf_is n x1 4 ∧ mf_is n (g x1 0) 20 ∧ 0 ≤ x4 ∧ x4 < mf_len (g x1 0) ∧ (∀ v9 : Int, v9 = h (g x1 0) x4 → ((v9 < 40 → ((v9 < 20 → ((v9 = 12 → mf_is n x0 3 ∧ mf_MT C l 0 YX3_changeTop [(2, x0), (0, v9)] n n g h (fun r10 g11 h12 => (∀ v14 : Int, v14 = mf_w32 (x4 + 1) → JX3_reckon_42 C l d n K x0 x1 x3 v14 g11 h12))) ∧ (¬ v9 = 12 → ((¬ v9 = 13 → mf_is n x0 3 ∧ mf_MT C l 2 YX3_joinTwo [(2, x0), (0, v9)] n n g h (fun r15 g16 h17 => (∀ v19 : Int, v19 = mf_w32 (x4 + 1) → JX3_reckon_42 C l d n K x0 x1 x3 v19 g16 h17))) ∧ (v9 = 13 → mf_is n x0 3 ∧ mf_MT C l 0 YX3_changeTop [(2, x0), (0, v9)] n n g h (fun r20 g21 h22 => (∀ v24 : Int, v24 = mf_w32 (x4 + 1) → JX3_reckon_42 C l d n K x0 x1 x3 v24 g21 h22))))))) ∧ (¬ v9 < 20 → mf_is n x0 3 ∧ mf_is n (g x0 0) 20 ∧ ((mf_len (g x0 0) ≤ mf_w32 (v9 - 20) → mf_MT C l 0 YX3_push [(2, x0), (0, 0)] n n g h (fun r27 g28 h29 => (∀ v30 : Int, v30 = mf_w32 (x4 + 1) → JX3_reckon_42 C l d n K x0 x1 x3 v30 g28 h29))) ∧ (¬ mf_len (g x0 0) ≤ mf_w32 (v9 - 20) → 0 ≤ mf_w32 (v9 - 20) ∧ mf_w32 (v9 - 20) < mf_len (g x0 0) ∧ mf_MT C l 0 YX3_push [(2, x0), (0, h (g x0 0) (mf_w32 (v9 - 20)))] n n g h (fun r33 g34 h35 => (∀ v36 : Int, v36 = mf_w32 (x4 + 1) → JX3_reckon_42 C l d n K x0 x1 x3 v36 g34 h35))))))) ∧ (¬ v9 < 40 → mf_is n x0 3 ∧ mf_MT C l 0 YX3_push [(2, x0), (0, mf_w32 (v9 - 40))] n n g h (fun r37 g38 h39 => (∀ v41 : Int, v41 = mf_w32 (x4 + 1) → JX3_reckon_42 C l d n K x0 x1 x3 v41 g38 h39)))))))) : JX3_reckon_42 C l d n K x0 x1 x3 x4 g h := by
  refine mf_iload (mf_dat eX3_reckon_p0 25 rfl) rfl ?_
  refine mf_iload_n (mf_dat eX3_reckon_p0 26 rfl) rfl rfl ?_
  refine mf_icmp_ge (tgt := 152) (mf_dat eX3_reckon_p0 27 rfl) (by decide) (fun hc => ?_) (fun hc => ?_)
  · replace hyp := hyp.1 hc
    refine mf_aload_n (mf_dat eX3_reckon_p1 18 rfl) rfl rfl ?_
    obtain ⟨ck1, hyp⟩ := hyp
    refine mf_getf (r := (RX3, TX3, 4)) (ci := 3) (k := 3) (t := 0) (v := h x0 3) (mf_dat eX3_reckon_p1 19 rfl) fl_X3_24 rfl (by decide) rfl rfl ck1 ?_
    refine mf_if_le (tgt := 173) (mf_dat eX3_reckon_p1 20 rfl) (by decide) (fun hc => ?_) (fun hc => ?_)
    · replace hyp := hyp.1 hc
      refine mf_iconst (v := 0) (mf_dat eX3_reckon_p1 29 rfl) (by decide) ?_
      exact mf_ireturn (mf_dat eX3_reckon_p1 30 rfl) rfl (Or.inl rfl) hyp
    · replace hyp := hyp.2 hc
      refine mf_aload_n (mf_dat eX3_reckon_p1 21 rfl) rfl rfl ?_
      refine mf_getf (r := (RX3, TX3, 4)) (ci := 3) (k := 2) (t := 2) (v := g x0 2) (mf_dat eX3_reckon_p1 22 rfl) fl_X3_21 rfl (by decide) rfl rfl ck1 ?_
      refine mf_aload_n (mf_dat eX3_reckon_p1 23 rfl) rfl rfl ?_
      refine mf_getf (r := (RX3, TX3, 4)) (ci := 3) (k := 3) (t := 0) (v := h x0 3) (mf_dat eX3_reckon_p1 24 rfl) fl_X3_24 rfl (by decide) rfl rfl ck1 ?_
      refine mf_iconst (v := 1) (mf_dat eX3_reckon_p1 25 rfl) (by decide) ?_
      refine mf_isub (mf_dat eX3_reckon_p1 26 rfl) ?_
      obtain ⟨ck2, hyp⟩ := hyp
      obtain ⟨ck3, hyp⟩ := hyp
      obtain ⟨ck4, hyp⟩ := hyp
      refine mf_iald (mf_dat eX3_reckon_p1 27 rfl) ck2 ck3 ck4 ?_
      refine mf_goto (tgt := 174) (mf_dat eX3_reckon_p1 28 rfl) (by decide) ?_
      exact mf_ireturn (mf_dat eX3_reckon_p1 30 rfl) rfl (Or.inl rfl) hyp
  · replace hyp := hyp.2 hc
    refine mf_aload_n (mf_dat eX3_reckon_p0 28 rfl) rfl rfl ?_
    obtain ⟨ck5, hyp⟩ := hyp
    refine mf_getf (r := (RX4, TX4, 5)) (ci := 4) (k := 0) (t := 2) (v := g x1 0) (mf_dat eX3_reckon_p0 29 rfl) fl_X3_37 rfl (by decide) rfl rfl ck5 ?_
    refine mf_iload (mf_dat eX3_reckon_p0 30 rfl) rfl ?_
    obtain ⟨ck6, hyp⟩ := hyp
    obtain ⟨ck7, hyp⟩ := hyp
    obtain ⟨ck8, hyp⟩ := hyp
    refine mf_iald (mf_dat eX3_reckon_p0 31 rfl) ck6 ck7 ck8 ?_
    generalize qv9 : h (g x1 0) x4 = v9
    replace hyp := hyp _ qv9.symm
    refine mf_istore (mf_dat eX3_reckon_p0 32 rfl) (by decide) ?_
    refine mf_iload (mf_dat eX3_reckon_p0 33 rfl) rfl ?_
    refine mf_bipush (v := 40) (mf_dat eX3_reckon_p0 34 rfl) (by decide) ?_
    refine mf_icmp_lt (tgt := 76) (mf_dat eX3_reckon_p0 35 rfl) (by decide) (fun hc => ?_) (fun hc => ?_)
    · replace hyp := hyp.1 hc
      refine mf_iload (mf_dat eX3_reckon_p0 42 rfl) rfl ?_
      refine mf_bipush (v := 20) (mf_dat eX3_reckon_p0 43 rfl) (by decide) ?_
      refine mf_icmp_lt (tgt := 117) (mf_dat eX3_reckon_p0 44 rfl) (by decide) (fun hc => ?_) (fun hc => ?_)
      · replace hyp := hyp.1 hc
        refine mf_iload (mf_dat eX3_reckon_p1 3 rfl) rfl ?_
        refine mf_bipush (v := 12) (mf_dat eX3_reckon_p1 4 rfl) (by decide) ?_
        refine mf_icmp_eq (tgt := 131) (mf_dat eX3_reckon_p1 5 rfl) (by decide) (fun hc => ?_) (fun hc => ?_)
        · replace hyp := hyp.1 hc
          refine mf_aload_n (mf_dat eX3_reckon_p1 9 rfl) rfl rfl ?_
          refine mf_iload (mf_dat eX3_reckon_p1 10 rfl) rfl ?_
          obtain ⟨ck13, hyp⟩ := hyp
          refine mf_callV (Yc := YX3_changeTop) (r := (RX3, TX3, 4)) (ci := 3) (mf_dat eX3_reckon_p1 11 rfl) ml_X3_56 okX3_changeTop im_X3_changeTop sl_X3_changeTop rfl rfl rfl rfl (Nat.le_of_ble_eq_true rfl) (mf_rr (Nat.le_trans (by decide) hd) (Nat.le_refl _)) (Nat.le_refl _) ck13 hyp (fun r10 g11 h12 hyp => ?_)
          refine mf_goto (tgt := 146) (mf_dat eX3_reckon_p1 12 rfl) (by decide) ?_
          refine mf_iinc (mf_dat eX3_reckon_p1 16 rfl) rfl (by decide) (by decide) ?_
          generalize qv14 : mf_w32 (x4 + 1) = v14
          replace hyp := hyp _ qv14.symm
          refine mf_goto (tgt := 42) (mf_dat eX3_reckon_p1 17 rfl) (by decide) ?_
          exact mf_sub [2, 3, 4, 0] rfl hyp
        · replace hyp := hyp.2 hc
          refine mf_iload (mf_dat eX3_reckon_p1 6 rfl) rfl ?_
          refine mf_bipush (v := 13) (mf_dat eX3_reckon_p1 7 rfl) (by decide) ?_
          refine mf_icmp_ne (tgt := 140) (mf_dat eX3_reckon_p1 8 rfl) (by decide) (fun hc => ?_) (fun hc => ?_)
          · replace hyp := hyp.1 hc
            refine mf_aload_n (mf_dat eX3_reckon_p1 13 rfl) rfl rfl ?_
            refine mf_iload (mf_dat eX3_reckon_p1 14 rfl) rfl ?_
            obtain ⟨ck18, hyp⟩ := hyp
            refine mf_callV (Yc := YX3_joinTwo) (r := (RX3, TX3, 4)) (ci := 3) (mf_dat eX3_reckon_p1 15 rfl) ml_X3_59 okX3_joinTwo im_X3_joinTwo sl_X3_joinTwo rfl rfl rfl rfl (Nat.le_of_ble_eq_true rfl) (mf_rr (Nat.le_trans (by decide) hd) (Nat.le_refl _)) (Nat.le_refl _) ck18 hyp (fun r15 g16 h17 hyp => ?_)
            refine mf_iinc (mf_dat eX3_reckon_p1 16 rfl) rfl (by decide) (by decide) ?_
            generalize qv19 : mf_w32 (x4 + 1) = v19
            replace hyp := hyp _ qv19.symm
            refine mf_goto (tgt := 42) (mf_dat eX3_reckon_p1 17 rfl) (by decide) ?_
            exact mf_sub [2, 3, 4, 0] rfl hyp
          · replace hyp := hyp.2 hc
            refine mf_aload_n (mf_dat eX3_reckon_p1 9 rfl) rfl rfl ?_
            refine mf_iload (mf_dat eX3_reckon_p1 10 rfl) rfl ?_
            obtain ⟨ck23, hyp⟩ := hyp
            refine mf_callV (Yc := YX3_changeTop) (r := (RX3, TX3, 4)) (ci := 3) (mf_dat eX3_reckon_p1 11 rfl) ml_X3_56 okX3_changeTop im_X3_changeTop sl_X3_changeTop rfl rfl rfl rfl (Nat.le_of_ble_eq_true rfl) (mf_rr (Nat.le_trans (by decide) hd) (Nat.le_refl _)) (Nat.le_refl _) ck23 hyp (fun r20 g21 h22 hyp => ?_)
            refine mf_goto (tgt := 146) (mf_dat eX3_reckon_p1 12 rfl) (by decide) ?_
            refine mf_iinc (mf_dat eX3_reckon_p1 16 rfl) rfl (by decide) (by decide) ?_
            generalize qv24 : mf_w32 (x4 + 1) = v24
            replace hyp := hyp _ qv24.symm
            refine mf_goto (tgt := 42) (mf_dat eX3_reckon_p1 17 rfl) (by decide) ?_
            exact mf_sub [2, 3, 4, 0] rfl hyp
      · replace hyp := hyp.2 hc
        refine mf_aload_n (mf_dat eX3_reckon_p0 45 rfl) rfl rfl ?_
        refine mf_iload (mf_dat eX3_reckon_p0 46 rfl) rfl ?_
        refine mf_bipush (v := 20) (mf_dat eX3_reckon_p0 47 rfl) (by decide) ?_
        refine mf_isub (mf_dat eX3_reckon_p0 48 rfl) ?_
        refine mf_aload_n (mf_dat eX3_reckon_p0 49 rfl) rfl rfl ?_
        obtain ⟨ck25, hyp⟩ := hyp
        refine mf_getf (r := (RX3, TX3, 4)) (ci := 3) (k := 0) (t := 2) (v := g x0 0) (mf_dat eX3_reckon_p0 50 rfl) fl_X3_11 rfl (by decide) rfl rfl ck25 ?_
        obtain ⟨ck26, hyp⟩ := hyp
        refine mf_alen (c := 20) (i := 0) (ty := .int) (v := mf_len _) (mf_dat eX3_reckon_p0 51 rfl) (by decide) rfl ck26 rfl (mf_len_small _) ?_
        refine mf_icmp_ge (tgt := 110) (mf_dat eX3_reckon_p0 52 rfl) (by decide) (fun hc => ?_) (fun hc => ?_)
        · replace hyp := hyp.1 hc
          refine mf_iconst (v := 0) (mf_dat eX3_reckon_p1 0 rfl) (by decide) ?_
          refine mf_callV (Yc := YX3_push) (r := (RX3, TX3, 4)) (ci := 3) (mf_dat eX3_reckon_p1 1 rfl) ml_X3_52 okX3_push im_X3_push sl_X3_push rfl rfl rfl rfl (Nat.le_of_ble_eq_true rfl) (mf_rr (Nat.le_trans (by decide) hd) (Nat.le_refl _)) (Nat.le_refl _) ck25 hyp (fun r27 g28 h29 hyp => ?_)
          refine mf_goto (tgt := 146) (mf_dat eX3_reckon_p1 2 rfl) (by decide) ?_
          refine mf_iinc (mf_dat eX3_reckon_p1 16 rfl) rfl (by decide) (by decide) ?_
          generalize qv30 : mf_w32 (x4 + 1) = v30
          replace hyp := hyp _ qv30.symm
          refine mf_goto (tgt := 42) (mf_dat eX3_reckon_p1 17 rfl) (by decide) ?_
          exact mf_sub [2, 3, 4, 0] rfl hyp
        · replace hyp := hyp.2 hc
          refine mf_aload_n (mf_dat eX3_reckon_p0 53 rfl) rfl rfl ?_
          refine mf_getf (r := (RX3, TX3, 4)) (ci := 3) (k := 0) (t := 2) (v := g x0 0) (mf_dat eX3_reckon_p0 54 rfl) fl_X3_11 rfl (by decide) rfl rfl ck25 ?_
          refine mf_iload (mf_dat eX3_reckon_p0 55 rfl) rfl ?_
          refine mf_bipush (v := 20) (mf_dat eX3_reckon_p0 56 rfl) (by decide) ?_
          refine mf_isub (mf_dat eX3_reckon_p0 57 rfl) ?_
          obtain ⟨ck31, hyp⟩ := hyp
          obtain ⟨ck32, hyp⟩ := hyp
          refine mf_iald (mf_dat eX3_reckon_p0 58 rfl) ck26 ck31 ck32 ?_
          refine mf_goto (tgt := 111) (mf_dat eX3_reckon_p0 59 rfl) (by decide) ?_
          refine mf_callV (Yc := YX3_push) (r := (RX3, TX3, 4)) (ci := 3) (mf_dat eX3_reckon_p1 1 rfl) ml_X3_52 okX3_push im_X3_push sl_X3_push rfl rfl rfl rfl (Nat.le_of_ble_eq_true rfl) (mf_rr (Nat.le_trans (by decide) hd) (Nat.le_refl _)) (Nat.le_refl _) ck25 hyp (fun r33 g34 h35 hyp => ?_)
          refine mf_goto (tgt := 146) (mf_dat eX3_reckon_p1 2 rfl) (by decide) ?_
          refine mf_iinc (mf_dat eX3_reckon_p1 16 rfl) rfl (by decide) (by decide) ?_
          generalize qv36 : mf_w32 (x4 + 1) = v36
          replace hyp := hyp _ qv36.symm
          refine mf_goto (tgt := 42) (mf_dat eX3_reckon_p1 17 rfl) (by decide) ?_
          exact mf_sub [2, 3, 4, 0] rfl hyp
    · replace hyp := hyp.2 hc
      refine mf_aload_n (mf_dat eX3_reckon_p0 36 rfl) rfl rfl ?_
      refine mf_iload (mf_dat eX3_reckon_p0 37 rfl) rfl ?_
      refine mf_bipush (v := 40) (mf_dat eX3_reckon_p0 38 rfl) (by decide) ?_
      refine mf_isub (mf_dat eX3_reckon_p0 39 rfl) ?_
      obtain ⟨ck40, hyp⟩ := hyp
      refine mf_callV (Yc := YX3_push) (r := (RX3, TX3, 4)) (ci := 3) (mf_dat eX3_reckon_p0 40 rfl) ml_X3_52 okX3_push im_X3_push sl_X3_push rfl rfl rfl rfl (Nat.le_of_ble_eq_true rfl) (mf_rr (Nat.le_trans (by decide) hd) (Nat.le_refl _)) (Nat.le_refl _) ck40 hyp (fun r37 g38 h39 hyp => ?_)
      refine mf_goto (tgt := 146) (mf_dat eX3_reckon_p0 41 rfl) (by decide) ?_
      refine mf_iinc (mf_dat eX3_reckon_p1 16 rfl) rfl (by decide) (by decide) ?_
      generalize qv41 : mf_w32 (x4 + 1) = v41
      replace hyp := hyp _ qv41.symm
      refine mf_goto (tgt := 42) (mf_dat eX3_reckon_p1 17 rfl) (by decide) ?_
      exact mf_sub [2, 3, 4, 0] rfl hyp
set_option maxRecDepth 100000 in
set_option maxHeartbeats 4000000 in
theorem mX3_reckon {C : mf_G} {l : Launch} {d n : Nat} {K : mf_Kt} {x0 x1 x2 : Int} {g h : mf_M} (hd : 1 ≤ d) (hyp : mf_is n x0 3 ∧ (∀ h2 : mf_M, h2 = mf_up h x0 3 0 → mf_is n x1 4 ∧ mf_MT C l 0 YX4_isTold [(2, x1), (0, x2)] n n g h2 (fun r3 g4 h5 => ((¬ r3 = 0 → mf_is n (g4 x1 2) 20 ∧ 0 ≤ x2 ∧ x2 < mf_len (g4 x1 2) ∧ mf_is n (g4 x1 0) 20 ∧ mf_MT C l 0 YJ9_min_7cf53 [(0, h5 (g4 x1 2) x2), (0, mf_len (g4 x1 0))] n n g4 h5 (fun r11 g12 h13 => mf_is n (g12 x1 1) 20 ∧ x2 < mf_len (g12 x1 1) ∧ mf_MT C l 0 YJ9_max_7cf53 [(0, 0), (0, h13 (g12 x1 1) x2)] n n g12 h13 (fun r16 g17 h18 => JX3_reckon_42 C l d n K x0 x1 r11 r16 g17 h18))) ∧ (r3 = 0 → K 0 g4 h5))))) : mf_MT C l d YX3_reckon [(2, x0), (2, x1), (0, x2)] n n g h K := by
  refine mf_entry (by decide) (Nat.le_of_ble_eq_true rfl) ?_
  refine mf_aload_n (mf_dat eX3_reckon_p0 0 rfl) rfl rfl ?_
  refine mf_iconst (v := 0) (mf_dat eX3_reckon_p0 1 rfl) (by decide) ?_
  obtain ⟨ck1, hyp⟩ := hyp
  refine mf_putI (r := (RX3, TX3, 4)) (ci := 3) (k := 3) (kI := 3) (t := 0) (mf_dat eX3_reckon_p0 2 rfl) fl_X3_24 rfl rfl (by decide) rfl (by decide) rfl (by decide) (fun h9 => absurd h9 (by decide)) ck1 ?_
  generalize qh2 : mf_up h x0 3 0 = h2
  replace hyp := hyp _ qh2.symm
  refine mf_aload_n (mf_dat eX3_reckon_p0 3 rfl) rfl rfl ?_
  refine mf_iload_n (mf_dat eX3_reckon_p0 4 rfl) rfl rfl ?_
  obtain ⟨ck6, hyp⟩ := hyp
  refine mf_callV (Yc := YX4_isTold) (r := (RX4, TX4, 5)) (ci := 4) (mf_dat eX3_reckon_p0 5 rfl) ml_X3_28 okX4_isTold im_X4_isTold sl_X4_isTold rfl rfl rfl rfl (Nat.le_of_ble_eq_true rfl) (mf_rr (Nat.le_trans (by decide) hd) (Nat.le_refl _)) (Nat.le_refl _) ck6 hyp (fun r3 g4 h5 hyp => ?_)
  refine mf_if_ne (tgt := 15) (mf_dat eX3_reckon_p0 6 rfl) (by decide) (fun hc => ?_) (fun hc => ?_)
  · replace hyp := hyp.1 hc
    refine mf_aload_n (mf_dat eX3_reckon_p0 9 rfl) rfl rfl ?_
    refine mf_getf (r := (RX4, TX4, 5)) (ci := 4) (k := 2) (t := 2) (v := g4 x1 2) (mf_dat eX3_reckon_p0 10 rfl) fl_X3_34 rfl (by decide) rfl rfl ck6 ?_
    refine mf_iload_n (mf_dat eX3_reckon_p0 11 rfl) rfl rfl ?_
    obtain ⟨ck7, hyp⟩ := hyp
    obtain ⟨ck8, hyp⟩ := hyp
    obtain ⟨ck9, hyp⟩ := hyp
    refine mf_iald (mf_dat eX3_reckon_p0 12 rfl) ck7 ck8 ck9 ?_
    refine mf_aload_n (mf_dat eX3_reckon_p0 13 rfl) rfl rfl ?_
    refine mf_getf (r := (RX4, TX4, 5)) (ci := 4) (k := 0) (t := 2) (v := g4 x1 0) (mf_dat eX3_reckon_p0 14 rfl) fl_X3_37 rfl (by decide) rfl rfl ck6 ?_
    obtain ⟨ck10, hyp⟩ := hyp
    refine mf_alen (c := 20) (i := 0) (ty := .int) (v := mf_len _) (mf_dat eX3_reckon_p0 15 rfl) (by decide) rfl ck10 rfl (mf_len_small _) ?_
    refine mf_callS (Yc := YJ9_min_7cf53) (mf_dat eX3_reckon_p0 16 rfl) ml_X3_40 okJ9_min_7cf53 sm_J9_min_7cf53 rfl rfl (Nat.le_of_ble_eq_true rfl) (mf_rr (Nat.le_trans (by decide) hd) (Nat.le_refl _)) (Nat.le_refl _) hyp (fun r11 g12 h13 hyp => ?_)
    refine mf_istore_n (mf_dat eX3_reckon_p0 17 rfl) rfl (by decide) ?_
    refine mf_iconst (v := 0) (mf_dat eX3_reckon_p0 18 rfl) (by decide) ?_
    refine mf_aload_n (mf_dat eX3_reckon_p0 19 rfl) rfl rfl ?_
    refine mf_getf (r := (RX4, TX4, 5)) (ci := 4) (k := 1) (t := 2) (v := g12 x1 1) (mf_dat eX3_reckon_p0 20 rfl) fl_X3_46 rfl (by decide) rfl rfl ck6 ?_
    refine mf_iload_n (mf_dat eX3_reckon_p0 21 rfl) rfl rfl ?_
    obtain ⟨ck14, hyp⟩ := hyp
    obtain ⟨ck15, hyp⟩ := hyp
    refine mf_iald (mf_dat eX3_reckon_p0 22 rfl) ck14 ck8 ck15 ?_
    refine mf_callS (Yc := YJ9_max_7cf53) (mf_dat eX3_reckon_p0 23 rfl) ml_X3_49 okJ9_max_7cf53 sm_J9_max_7cf53 rfl rfl (Nat.le_of_ble_eq_true rfl) (mf_rr (Nat.le_trans (by decide) hd) (Nat.le_refl _)) (Nat.le_refl _) hyp (fun r16 g17 h18 hyp => ?_)
    refine mf_istore (mf_dat eX3_reckon_p0 24 rfl) (by decide) ?_
    exact mf_sub [2, 3, 1, 0] rfl hyp
  · replace hyp := hyp.2 hc
    refine mf_iconst (v := 0) (mf_dat eX3_reckon_p0 7 rfl) (by decide) ?_
    exact mf_ireturn (mf_dat eX3_reckon_p0 8 rfl) rfl (Or.inl rfl) hyp
set_option maxRecDepth 100000 in
set_option maxHeartbeats 4000000 in
theorem mX3_push {C : mf_G} {l : Launch} {d n : Nat} {K : mf_Kt} {x0 x1 : Int} {g h : mf_M} (hyp : mf_is n x0 3 ∧ mf_is n (g x0 2) 20 ∧ ((mf_len (g x0 2) ≤ h x0 3 → K 0 g h) ∧ (¬ mf_len (g x0 2) ≤ h x0 3 → 0 ≤ h x0 3 ∧ h x0 3 < mf_len (g x0 2) ∧ (∀ h5 : mf_M, h5 = mf_up h (g x0 2) (h x0 3) x1 → (∀ h6 : mf_M, h6 = mf_up h5 x0 3 (mf_w32 ((h5 x0 3) + 1)) → K 0 g h6))))) : mf_MT C l d YX3_push [(2, x0), (0, x1)] n n g h K := by
  refine mf_entry (by decide) (Nat.le_of_ble_eq_true rfl) ?_
  refine mf_aload_n (mf_dat eX3_push 0 rfl) rfl rfl ?_
  obtain ⟨ck1, hyp⟩ := hyp
  refine mf_getf (r := (RX3, TX3, 4)) (ci := 3) (k := 3) (t := 0) (v := h x0 3) (mf_dat eX3_push 1 rfl) fl_X3_24 rfl (by decide) rfl rfl ck1 ?_
  refine mf_aload_n (mf_dat eX3_push 2 rfl) rfl rfl ?_
  refine mf_getf (r := (RX3, TX3, 4)) (ci := 3) (k := 2) (t := 2) (v := g x0 2) (mf_dat eX3_push 3 rfl) fl_X3_21 rfl (by decide) rfl rfl ck1 ?_
  obtain ⟨ck2, hyp⟩ := hyp
  refine mf_alen (c := 20) (i := 0) (ty := .int) (v := mf_len _) (mf_dat eX3_push 4 rfl) (by decide) rfl ck2 rfl (mf_len_small _) ?_
  refine mf_icmp_ge (tgt := 32) (mf_dat eX3_push 5 rfl) (by decide) (fun hc => ?_) (fun hc => ?_)
  · replace hyp := hyp.1 hc
    exact mf_return (mf_dat eX3_push 18 rfl) rfl hyp
  · replace hyp := hyp.2 hc
    refine mf_aload_n (mf_dat eX3_push 6 rfl) rfl rfl ?_
    refine mf_getf (r := (RX3, TX3, 4)) (ci := 3) (k := 2) (t := 2) (v := g x0 2) (mf_dat eX3_push 7 rfl) fl_X3_21 rfl (by decide) rfl rfl ck1 ?_
    refine mf_aload_n (mf_dat eX3_push 8 rfl) rfl rfl ?_
    refine mf_getf (r := (RX3, TX3, 4)) (ci := 3) (k := 3) (t := 0) (v := h x0 3) (mf_dat eX3_push 9 rfl) fl_X3_24 rfl (by decide) rfl rfl ck1 ?_
    refine mf_iload_n (mf_dat eX3_push 10 rfl) rfl rfl ?_
    obtain ⟨ck3, hyp⟩ := hyp
    obtain ⟨ck4, hyp⟩ := hyp
    refine mf_iast (mf_dat eX3_push 11 rfl) ck2 ck3 ck4 ?_
    generalize qh5 : mf_up h (g x0 2) (h x0 3) x1 = h5
    replace hyp := hyp _ qh5.symm
    refine mf_aload_n (mf_dat eX3_push 12 rfl) rfl rfl ?_
    refine mf_dup (mf_dat eX3_push 13 rfl) (by decide) ?_
    refine mf_getf (r := (RX3, TX3, 4)) (ci := 3) (k := 3) (t := 0) (v := h5 x0 3) (mf_dat eX3_push 14 rfl) fl_X3_24 rfl (by decide) rfl rfl ck1 ?_
    refine mf_iconst (v := 1) (mf_dat eX3_push 15 rfl) (by decide) ?_
    refine mf_iadd (mf_dat eX3_push 16 rfl) ?_
    refine mf_putI (r := (RX3, TX3, 4)) (ci := 3) (k := 3) (kI := 3) (t := 0) (mf_dat eX3_push 17 rfl) fl_X3_24 rfl rfl (by decide) rfl (by decide) rfl (by decide) (fun h9 => absurd h9 (by decide)) ck1 ?_
    generalize qh6 : mf_up h5 x0 3 (mf_w32 ((h5 x0 3) + 1)) = h6
    replace hyp := hyp _ qh6.symm
    exact mf_return (mf_dat eX3_push 18 rfl) rfl hyp
abbrev JX3_changeTop_78 (C : mf_G) (l : Launch) (d n : Nat) (K : mf_Kt) (x0 s0 : Int) (g h : mf_M) : Prop := mf_AW C l YX3_changeTop (mf_rm d n n) n (mf_Zm C YX3_changeTop n n K) (fun _ _ => True) 78 [(0, (2, x0))] [(0, s0)] n g h
set_option maxRecDepth 100000 in
set_option maxHeartbeats 4000000 in
theorem bX3_changeTop_78 {C : mf_G} {l : Launch} {d n : Nat} {K : mf_Kt} {x0 s0 : Int} {g h : mf_M} (hyp : mf_is n x0 3 ∧ ((s0 = 0 → mf_is n (g x0 2) 20 ∧ 0 ≤ mf_w32 ((h x0 3) - 1) ∧ mf_w32 ((h x0 3) - 1) < mf_len (g x0 2) ∧ (∀ h5 : mf_M, h5 = mf_up h (g x0 2) (mf_w32 ((h x0 3) - 1)) 0 → K 0 g h5)) ∧ (¬ s0 = 0 → mf_is n (g x0 2) 20 ∧ 0 ≤ mf_w32 ((h x0 3) - 1) ∧ mf_w32 ((h x0 3) - 1) < mf_len (g x0 2) ∧ (∀ h9 : mf_M, h9 = mf_up h (g x0 2) (mf_w32 ((h x0 3) - 1)) 1 → K 0 g h9)))) : JX3_changeTop_78 C l d n K x0 s0 g h := by
  refine mf_istore_n (mf_dat eX3_changeTop 43 rfl) rfl (by decide) ?_
  refine mf_aload_n (mf_dat eX3_changeTop 44 rfl) rfl rfl ?_
  obtain ⟨ck1, hyp⟩ := hyp
  refine mf_getf (r := (RX3, TX3, 4)) (ci := 3) (k := 2) (t := 2) (v := g x0 2) (mf_dat eX3_changeTop 45 rfl) fl_X3_21 rfl (by decide) rfl rfl ck1 ?_
  refine mf_aload_n (mf_dat eX3_changeTop 46 rfl) rfl rfl ?_
  refine mf_getf (r := (RX3, TX3, 4)) (ci := 3) (k := 3) (t := 0) (v := h x0 3) (mf_dat eX3_changeTop 47 rfl) fl_X3_24 rfl (by decide) rfl rfl ck1 ?_
  refine mf_iconst (v := 1) (mf_dat eX3_changeTop 48 rfl) (by decide) ?_
  refine mf_isub (mf_dat eX3_changeTop 49 rfl) ?_
  refine mf_iload_n (mf_dat eX3_changeTop 50 rfl) rfl rfl ?_
  refine mf_if_eq (tgt := 97) (mf_dat eX3_changeTop 51 rfl) (by decide) (fun hc => ?_) (fun hc => ?_)
  · replace hyp := hyp.1 hc
    refine mf_iconst (v := 0) (mf_dat eX3_changeTop 54 rfl) (by decide) ?_
    obtain ⟨ck2, hyp⟩ := hyp
    obtain ⟨ck3, hyp⟩ := hyp
    obtain ⟨ck4, hyp⟩ := hyp
    refine mf_iast (mf_dat eX3_changeTop 55 rfl) ck2 ck3 ck4 ?_
    generalize qh5 : mf_up h (g x0 2) (mf_w32 ((h x0 3) - 1)) 0 = h5
    replace hyp := hyp _ qh5.symm
    exact mf_return (mf_dat eX3_changeTop 56 rfl) rfl hyp
  · replace hyp := hyp.2 hc
    refine mf_iconst (v := 1) (mf_dat eX3_changeTop 52 rfl) (by decide) ?_
    refine mf_goto (tgt := 98) (mf_dat eX3_changeTop 53 rfl) (by decide) ?_
    obtain ⟨ck6, hyp⟩ := hyp
    obtain ⟨ck7, hyp⟩ := hyp
    obtain ⟨ck8, hyp⟩ := hyp
    refine mf_iast (mf_dat eX3_changeTop 55 rfl) ck6 ck7 ck8 ?_
    generalize qh9 : mf_up h (g x0 2) (mf_w32 ((h x0 3) - 1)) 1 = h9
    replace hyp := hyp _ qh9.symm
    exact mf_return (mf_dat eX3_changeTop 56 rfl) rfl hyp
set_option maxRecDepth 100000 in
set_option maxHeartbeats 4000000 in
theorem mX3_changeTop {C : mf_G} {l : Launch} {d n : Nat} {K : mf_Kt} {x0 x1 : Int} {g h : mf_M} (hyp : mf_is n x0 3 ∧ ((h x0 3 < 1 → K 0 g h) ∧ (¬ h x0 3 < 1 → mf_is n (g x0 2) 20 ∧ ((h x0 3 ≤ mf_len (g x0 2) → 0 ≤ mf_w32 ((h x0 3) - 1) ∧ mf_w32 ((h x0 3) - 1) < mf_len (g x0 2) ∧ (∀ v5 : Int, v5 = h (g x0 2) (mf_w32 ((h x0 3) - 1)) → ((¬ x1 = 12 → ((v5 < 0 → JX3_changeTop_78 C l d n K x0 0 g h) ∧ (¬ v5 < 0 → mf_is n (g x0 1) 22 ∧ ((mf_len (g x0 1) ≤ v5 → JX3_changeTop_78 C l d n K x0 0 g h) ∧ (¬ mf_len (g x0 1) ≤ v5 → 0 ≤ v5 ∧ v5 < mf_len (g x0 1) ∧ ((h (g x0 1) v5 = 0 → JX3_changeTop_78 C l d n K x0 0 g h) ∧ (¬ h (g x0 1) v5 = 0 → JX3_changeTop_78 C l d n K x0 1 g h))))))) ∧ (x1 = 12 → ((¬ v5 = 0 → JX3_changeTop_78 C l d n K x0 0 g h) ∧ (v5 = 0 → JX3_changeTop_78 C l d n K x0 1 g h)))))) ∧ (¬ h x0 3 ≤ mf_len (g x0 2) → K 0 g h))))) : mf_MT C l d YX3_changeTop [(2, x0), (0, x1)] n n g h K := by
  refine mf_entry (by decide) (Nat.le_of_ble_eq_true rfl) ?_
  refine mf_aload_n (mf_dat eX3_changeTop 0 rfl) rfl rfl ?_
  obtain ⟨ck1, hyp⟩ := hyp
  refine mf_getf (r := (RX3, TX3, 4)) (ci := 3) (k := 3) (t := 0) (v := h x0 3) (mf_dat eX3_changeTop 1 rfl) fl_X3_24 rfl (by decide) rfl rfl ck1 ?_
  refine mf_iconst (v := 1) (mf_dat eX3_changeTop 2 rfl) (by decide) ?_
  refine mf_icmp_lt (tgt := 20) (mf_dat eX3_changeTop 3 rfl) (by decide) (fun hc => ?_) (fun hc => ?_)
  · replace hyp := hyp.1 hc
    exact mf_return (mf_dat eX3_changeTop 10 rfl) rfl hyp
  · replace hyp := hyp.2 hc
    refine mf_aload_n (mf_dat eX3_changeTop 4 rfl) rfl rfl ?_
    refine mf_getf (r := (RX3, TX3, 4)) (ci := 3) (k := 3) (t := 0) (v := h x0 3) (mf_dat eX3_changeTop 5 rfl) fl_X3_24 rfl (by decide) rfl rfl ck1 ?_
    refine mf_aload_n (mf_dat eX3_changeTop 6 rfl) rfl rfl ?_
    refine mf_getf (r := (RX3, TX3, 4)) (ci := 3) (k := 2) (t := 2) (v := g x0 2) (mf_dat eX3_changeTop 7 rfl) fl_X3_21 rfl (by decide) rfl rfl ck1 ?_
    obtain ⟨ck2, hyp⟩ := hyp
    refine mf_alen (c := 20) (i := 0) (ty := .int) (v := mf_len _) (mf_dat eX3_changeTop 8 rfl) (by decide) rfl ck2 rfl (mf_len_small _) ?_
    refine mf_icmp_le (tgt := 21) (mf_dat eX3_changeTop 9 rfl) (by decide) (fun hc => ?_) (fun hc => ?_)
    · replace hyp := hyp.1 hc
      refine mf_aload_n (mf_dat eX3_changeTop 11 rfl) rfl rfl ?_
      refine mf_getf (r := (RX3, TX3, 4)) (ci := 3) (k := 2) (t := 2) (v := g x0 2) (mf_dat eX3_changeTop 12 rfl) fl_X3_21 rfl (by decide) rfl rfl ck1 ?_
      refine mf_aload_n (mf_dat eX3_changeTop 13 rfl) rfl rfl ?_
      refine mf_getf (r := (RX3, TX3, 4)) (ci := 3) (k := 3) (t := 0) (v := h x0 3) (mf_dat eX3_changeTop 14 rfl) fl_X3_24 rfl (by decide) rfl rfl ck1 ?_
      refine mf_iconst (v := 1) (mf_dat eX3_changeTop 15 rfl) (by decide) ?_
      refine mf_isub (mf_dat eX3_changeTop 16 rfl) ?_
      obtain ⟨ck3, hyp⟩ := hyp
      obtain ⟨ck4, hyp⟩ := hyp
      refine mf_iald (mf_dat eX3_changeTop 17 rfl) ck2 ck3 ck4 ?_
      generalize qv5 : h (g x0 2) (mf_w32 ((h x0 3) - 1)) = v5
      replace hyp := hyp _ qv5.symm
      refine mf_istore_n (mf_dat eX3_changeTop 18 rfl) rfl (by decide) ?_
      refine mf_iload_n (mf_dat eX3_changeTop 19 rfl) rfl rfl ?_
      refine mf_bipush (v := 12) (mf_dat eX3_changeTop 20 rfl) (by decide) ?_
      refine mf_icmp_ne (tgt := 51) (mf_dat eX3_changeTop 21 rfl) (by decide) (fun hc => ?_) (fun hc => ?_)
      · replace hyp := hyp.1 hc
        refine mf_iload_n (mf_dat eX3_changeTop 28 rfl) rfl rfl ?_
        refine mf_if_lt (tgt := 77) (mf_dat eX3_changeTop 29 rfl) (by decide) (fun hc => ?_) (fun hc => ?_)
        · replace hyp := hyp.1 hc
          refine mf_iconst (v := 0) (mf_dat eX3_changeTop 42 rfl) (by decide) ?_
          exact mf_sub [1] rfl hyp
        · replace hyp := hyp.2 hc
          refine mf_iload_n (mf_dat eX3_changeTop 30 rfl) rfl rfl ?_
          refine mf_aload_n (mf_dat eX3_changeTop 31 rfl) rfl rfl ?_
          refine mf_getf (r := (RX3, TX3, 4)) (ci := 3) (k := 1) (t := 2) (v := g x0 1) (mf_dat eX3_changeTop 32 rfl) fl_X3_17 rfl (by decide) rfl rfl ck1 ?_
          obtain ⟨ck6, hyp⟩ := hyp
          refine mf_alen (c := 22) (i := 2) (ty := .boolean) (v := mf_len _) (mf_dat eX3_changeTop 33 rfl) (by decide) rfl ck6 rfl (mf_len_small _) ?_
          refine mf_icmp_ge (tgt := 77) (mf_dat eX3_changeTop 34 rfl) (by decide) (fun hc => ?_) (fun hc => ?_)
          · replace hyp := hyp.1 hc
            refine mf_iconst (v := 0) (mf_dat eX3_changeTop 42 rfl) (by decide) ?_
            exact mf_sub [1] rfl hyp
          · replace hyp := hyp.2 hc
            refine mf_aload_n (mf_dat eX3_changeTop 35 rfl) rfl rfl ?_
            refine mf_getf (r := (RX3, TX3, 4)) (ci := 3) (k := 1) (t := 2) (v := g x0 1) (mf_dat eX3_changeTop 36 rfl) fl_X3_17 rfl (by decide) rfl rfl ck1 ?_
            refine mf_iload_n (mf_dat eX3_changeTop 37 rfl) rfl rfl ?_
            obtain ⟨ck7, hyp⟩ := hyp
            obtain ⟨ck8, hyp⟩ := hyp
            refine mf_zald (mf_dat eX3_changeTop 38 rfl) ck6 ck7 ck8 ?_
            refine mf_if_eq (tgt := 77) (mf_dat eX3_changeTop 39 rfl) (by decide) (fun hc => ?_) (fun hc => ?_)
            · replace hyp := hyp.1 hc
              refine mf_iconst (v := 0) (mf_dat eX3_changeTop 42 rfl) (by decide) ?_
              exact mf_sub [1] rfl hyp
            · replace hyp := hyp.2 hc
              refine mf_iconst (v := 1) (mf_dat eX3_changeTop 40 rfl) (by decide) ?_
              refine mf_goto (tgt := 78) (mf_dat eX3_changeTop 41 rfl) (by decide) ?_
              exact mf_sub [1] rfl hyp
      · replace hyp := hyp.2 hc
        refine mf_iload_n (mf_dat eX3_changeTop 22 rfl) rfl rfl ?_
        refine mf_if_ne (tgt := 47) (mf_dat eX3_changeTop 23 rfl) (by decide) (fun hc => ?_) (fun hc => ?_)
        · replace hyp := hyp.1 hc
          refine mf_iconst (v := 0) (mf_dat eX3_changeTop 26 rfl) (by decide) ?_
          refine mf_goto (tgt := 78) (mf_dat eX3_changeTop 27 rfl) (by decide) ?_
          exact mf_sub [1] rfl hyp
        · replace hyp := hyp.2 hc
          refine mf_iconst (v := 1) (mf_dat eX3_changeTop 24 rfl) (by decide) ?_
          refine mf_goto (tgt := 78) (mf_dat eX3_changeTop 25 rfl) (by decide) ?_
          exact mf_sub [1] rfl hyp
    · replace hyp := hyp.2 hc
      exact mf_return (mf_dat eX3_changeTop 10 rfl) rfl hyp
set_option maxRecDepth 100000 in
set_option maxHeartbeats 4000000 in
theorem mX3_joinTwo {C : mf_G} {l : Launch} {d n : Nat} {K : mf_Kt} {x0 x1 : Int} {g h : mf_M} (hd : 2 ≤ d) (hyp : mf_is n x0 3 ∧ ((h x0 3 < 2 → K 0 g h) ∧ (¬ h x0 3 < 2 → mf_is n (g x0 2) 20 ∧ ((h x0 3 ≤ mf_len (g x0 2) → (∀ h3 : mf_M, h3 = mf_up h x0 3 (mf_w32 ((h x0 3) - 1)) → 0 ≤ mf_w32 ((h3 x0 3) - 1) ∧ mf_w32 ((h3 x0 3) - 1) < mf_len (g x0 2) ∧ (∀ v6 : Int, v6 = h3 (g x0 2) (mf_w32 ((h3 x0 3) - 1)) → 0 ≤ h3 x0 3 ∧ h3 x0 3 < mf_len (g x0 2) ∧ (∀ v9 : Int, v9 = h3 (g x0 2) (h3 x0 3) → mf_MT C l 1 YX3_join [(0, x1), (0, v6), (0, v9)] n n g h3 (fun r10 g11 h12 => (∀ h13 : mf_M, h13 = mf_up h12 (g x0 2) (mf_w32 ((h3 x0 3) - 1)) r10 → K 0 g11 h13)))))) ∧ (¬ h x0 3 ≤ mf_len (g x0 2) → K 0 g h))))) : mf_MT C l d YX3_joinTwo [(2, x0), (0, x1)] n n g h K := by
  refine mf_entry (by decide) (Nat.le_of_ble_eq_true rfl) ?_
  refine mf_aload_n (mf_dat eX3_joinTwo 0 rfl) rfl rfl ?_
  obtain ⟨ck1, hyp⟩ := hyp
  refine mf_getf (r := (RX3, TX3, 4)) (ci := 3) (k := 3) (t := 0) (v := h x0 3) (mf_dat eX3_joinTwo 1 rfl) fl_X3_24 rfl (by decide) rfl rfl ck1 ?_
  refine mf_iconst (v := 2) (mf_dat eX3_joinTwo 2 rfl) (by decide) ?_
  refine mf_icmp_lt (tgt := 20) (mf_dat eX3_joinTwo 3 rfl) (by decide) (fun hc => ?_) (fun hc => ?_)
  · replace hyp := hyp.1 hc
    exact mf_return (mf_dat eX3_joinTwo 10 rfl) rfl hyp
  · replace hyp := hyp.2 hc
    refine mf_aload_n (mf_dat eX3_joinTwo 4 rfl) rfl rfl ?_
    refine mf_getf (r := (RX3, TX3, 4)) (ci := 3) (k := 3) (t := 0) (v := h x0 3) (mf_dat eX3_joinTwo 5 rfl) fl_X3_24 rfl (by decide) rfl rfl ck1 ?_
    refine mf_aload_n (mf_dat eX3_joinTwo 6 rfl) rfl rfl ?_
    refine mf_getf (r := (RX3, TX3, 4)) (ci := 3) (k := 2) (t := 2) (v := g x0 2) (mf_dat eX3_joinTwo 7 rfl) fl_X3_21 rfl (by decide) rfl rfl ck1 ?_
    obtain ⟨ck2, hyp⟩ := hyp
    refine mf_alen (c := 20) (i := 0) (ty := .int) (v := mf_len _) (mf_dat eX3_joinTwo 8 rfl) (by decide) rfl ck2 rfl (mf_len_small _) ?_
    refine mf_icmp_le (tgt := 21) (mf_dat eX3_joinTwo 9 rfl) (by decide) (fun hc => ?_) (fun hc => ?_)
    · replace hyp := hyp.1 hc
      refine mf_aload_n (mf_dat eX3_joinTwo 11 rfl) rfl rfl ?_
      refine mf_dup (mf_dat eX3_joinTwo 12 rfl) (by decide) ?_
      refine mf_getf (r := (RX3, TX3, 4)) (ci := 3) (k := 3) (t := 0) (v := h x0 3) (mf_dat eX3_joinTwo 13 rfl) fl_X3_24 rfl (by decide) rfl rfl ck1 ?_
      refine mf_iconst (v := 1) (mf_dat eX3_joinTwo 14 rfl) (by decide) ?_
      refine mf_isub (mf_dat eX3_joinTwo 15 rfl) ?_
      refine mf_putI (r := (RX3, TX3, 4)) (ci := 3) (k := 3) (kI := 3) (t := 0) (mf_dat eX3_joinTwo 16 rfl) fl_X3_24 rfl rfl (by decide) rfl (by decide) rfl (by decide) (fun h9 => absurd h9 (by decide)) ck1 ?_
      generalize qh3 : mf_up h x0 3 (mf_w32 ((h x0 3) - 1)) = h3
      replace hyp := hyp _ qh3.symm
      refine mf_aload_n (mf_dat eX3_joinTwo 17 rfl) rfl rfl ?_
      refine mf_getf (r := (RX3, TX3, 4)) (ci := 3) (k := 2) (t := 2) (v := g x0 2) (mf_dat eX3_joinTwo 18 rfl) fl_X3_21 rfl (by decide) rfl rfl ck1 ?_
      refine mf_aload_n (mf_dat eX3_joinTwo 19 rfl) rfl rfl ?_
      refine mf_getf (r := (RX3, TX3, 4)) (ci := 3) (k := 3) (t := 0) (v := h3 x0 3) (mf_dat eX3_joinTwo 20 rfl) fl_X3_24 rfl (by decide) rfl rfl ck1 ?_
      refine mf_iconst (v := 1) (mf_dat eX3_joinTwo 21 rfl) (by decide) ?_
      refine mf_isub (mf_dat eX3_joinTwo 22 rfl) ?_
      obtain ⟨ck4, hyp⟩ := hyp
      obtain ⟨ck5, hyp⟩ := hyp
      refine mf_iald (mf_dat eX3_joinTwo 23 rfl) ck2 ck4 ck5 ?_
      generalize qv6 : h3 (g x0 2) (mf_w32 ((h3 x0 3) - 1)) = v6
      replace hyp := hyp _ qv6.symm
      refine mf_istore_n (mf_dat eX3_joinTwo 24 rfl) rfl (by decide) ?_
      refine mf_aload_n (mf_dat eX3_joinTwo 25 rfl) rfl rfl ?_
      refine mf_getf (r := (RX3, TX3, 4)) (ci := 3) (k := 2) (t := 2) (v := g x0 2) (mf_dat eX3_joinTwo 26 rfl) fl_X3_21 rfl (by decide) rfl rfl ck1 ?_
      refine mf_aload_n (mf_dat eX3_joinTwo 27 rfl) rfl rfl ?_
      refine mf_getf (r := (RX3, TX3, 4)) (ci := 3) (k := 3) (t := 0) (v := h3 x0 3) (mf_dat eX3_joinTwo 28 rfl) fl_X3_24 rfl (by decide) rfl rfl ck1 ?_
      obtain ⟨ck7, hyp⟩ := hyp
      obtain ⟨ck8, hyp⟩ := hyp
      refine mf_iald (mf_dat eX3_joinTwo 29 rfl) ck2 ck7 ck8 ?_
      generalize qv9 : h3 (g x0 2) (h3 x0 3) = v9
      replace hyp := hyp _ qv9.symm
      refine mf_istore_n (mf_dat eX3_joinTwo 30 rfl) rfl (by decide) ?_
      refine mf_aload_n (mf_dat eX3_joinTwo 31 rfl) rfl rfl ?_
      refine mf_getf (r := (RX3, TX3, 4)) (ci := 3) (k := 2) (t := 2) (v := g x0 2) (mf_dat eX3_joinTwo 32 rfl) fl_X3_21 rfl (by decide) rfl rfl ck1 ?_
      refine mf_aload_n (mf_dat eX3_joinTwo 33 rfl) rfl rfl ?_
      refine mf_getf (r := (RX3, TX3, 4)) (ci := 3) (k := 3) (t := 0) (v := h3 x0 3) (mf_dat eX3_joinTwo 34 rfl) fl_X3_24 rfl (by decide) rfl rfl ck1 ?_
      refine mf_iconst (v := 1) (mf_dat eX3_joinTwo 35 rfl) (by decide) ?_
      refine mf_isub (mf_dat eX3_joinTwo 36 rfl) ?_
      refine mf_iload_n (mf_dat eX3_joinTwo 37 rfl) rfl rfl ?_
      refine mf_iload_n (mf_dat eX3_joinTwo 38 rfl) rfl rfl ?_
      refine mf_iload_n (mf_dat eX3_joinTwo 39 rfl) rfl rfl ?_
      refine mf_callS (Yc := YX3_join) (mf_dat eX3_joinTwo 40 rfl) ml_X3_62 okX3_join sm_X3_join rfl rfl (Nat.le_of_ble_eq_true rfl) (mf_rr (Nat.le_trans (by decide) hd) (Nat.le_refl _)) (Nat.le_refl _) hyp (fun r10 g11 h12 hyp => ?_)
      refine mf_iast (mf_dat eX3_joinTwo 41 rfl) ck2 ck4 ck5 ?_
      generalize qh13 : mf_up h12 (g x0 2) (mf_w32 ((h3 x0 3) - 1)) r10 = h13
      replace hyp := hyp _ qh13.symm
      exact mf_return (mf_dat eX3_joinTwo 42 rfl) rfl hyp
    · replace hyp := hyp.2 hc
      exact mf_return (mf_dat eX3_joinTwo 10 rfl) rfl hyp
set_option maxRecDepth 100000 in
set_option maxHeartbeats 4000000 in
theorem mX3_join {C : mf_G} {l : Launch} {d n : Nat} {K : mf_Kt} {x0 x1 x2 : Int} {g h : mf_M} (hd : 1 ≤ d) (hyp : ((x0 = 1 → mf_MT C l 0 YJ9_min_f86c9 [(1, 1000000), (1, mf_w64 (x1 + x2))] n n g h (fun r1 g2 h3 => mf_MT C l 0 YJ9_max_f86c9 [(1, (-1000000)), (1, r1)] n n g2 h3 (fun r4 g5 h6 => K (mf_w32 r4) g5 h6))) ∧ (x0 = 2 → mf_MT C l 0 YJ9_min_f86c9 [(1, 1000000), (1, mf_w64 (x1 - x2))] n n g h (fun r7 g8 h9 => mf_MT C l 0 YJ9_max_f86c9 [(1, (-1000000)), (1, r7)] n n g8 h9 (fun r10 g11 h12 => K (mf_w32 r10) g11 h12))) ∧ (x0 = 3 → mf_MT C l 0 YJ9_min_f86c9 [(1, 1000000), (1, mf_w64 (x1 * x2))] n n g h (fun r13 g14 h15 => mf_MT C l 0 YJ9_max_f86c9 [(1, (-1000000)), (1, r13)] n n g14 h15 (fun r16 g17 h18 => K (mf_w32 r16) g17 h18))) ∧ (x0 = 4 → ((¬ x2 = 0 → mf_MT C l 0 YJ9_floorDiv_7cf53 [(0, x1), (0, x2)] n n g h (fun r19 g20 h21 => K r19 g20 h21)) ∧ (x2 = 0 → K 0 g h))) ∧ (x0 = 5 → mf_MT C l 0 YJ9_min_7cf53 [(0, x1), (0, x2)] n n g h (fun r22 g23 h24 => K r22 g23 h24)) ∧ (x0 = 6 → mf_MT C l 0 YJ9_max_7cf53 [(0, x1), (0, x2)] n n g h (fun r25 g26 h27 => K r25 g26 h27)) ∧ (x0 = 7 → ((x2 ≤ x1 → K 0 g h) ∧ (¬ x2 ≤ x1 → K 1 g h))) ∧ (x0 = 8 → ((x1 ≤ x2 → K 0 g h) ∧ (¬ x1 ≤ x2 → K 1 g h))) ∧ (x0 = 9 → ((¬ x1 = x2 → K 0 g h) ∧ (x1 = x2 → K 1 g h))) ∧ (x0 = 10 → K (mf_and x1 x2) g h) ∧ (x0 = 11 → K (mf_or x1 x2) g h) ∧ ((x0 < 1 ∨ 11 < x0) → K 0 g h))) : mf_MT C l d YX3_join [(0, x0), (0, x1), (0, x2)] n n g h K := by
  refine mf_entry (by decide) (Nat.le_of_ble_eq_true rfl) ?_
  refine mf_iload_n (mf_dat eX3_join_p0 0 rfl) rfl rfl ?_
  refine mf_tsw1 (v := 1) (tgt := 60) (mf_dat eX3_join_p0 1 rfl) (by decide) (by decide) (off := 59) (by decide) (by decide) (fun hc => ?_) (fun hc0 => ?_)
  · replace hyp := hyp.1 hc
    refine mf_ldc2 (v := (-1000000)) cl_X3_66 (mf_dat eX3_join_p0 2 rfl) (by decide) ?_
    refine mf_ldc2 (v := 1000000) cl_X3_68 (mf_dat eX3_join_p0 3 rfl) (by decide) ?_
    refine mf_iload_n (mf_dat eX3_join_p0 4 rfl) rfl rfl ?_
    refine mf_i2l (mf_dat eX3_join_p0 5 rfl) ?_
    refine mf_iload_n (mf_dat eX3_join_p0 6 rfl) rfl rfl ?_
    refine mf_i2l (mf_dat eX3_join_p0 7 rfl) ?_
    refine mf_ladd (mf_dat eX3_join_p0 8 rfl) ?_
    refine mf_callS (Yc := YJ9_min_f86c9) (mf_dat eX3_join_p0 9 rfl) ml_X3_70 okJ9_min_f86c9 sm_J9_min_f86c9 rfl rfl (Nat.le_of_ble_eq_true rfl) (mf_rr (Nat.le_trans (by decide) hd) (Nat.le_refl _)) (Nat.le_refl _) hyp (fun r1 g2 h3 hyp => ?_)
    refine mf_callS (Yc := YJ9_max_f86c9) (mf_dat eX3_join_p0 10 rfl) ml_X3_73 okJ9_max_f86c9 sm_J9_max_f86c9 rfl rfl (Nat.le_of_ble_eq_true rfl) (mf_rr (Nat.le_trans (by decide) hd) (Nat.le_refl _)) (Nat.le_refl _) hyp (fun r4 g5 h6 hyp => ?_)
    refine mf_l2i (mf_dat eX3_join_p0 11 rfl) ?_
    exact mf_ireturn (mf_dat eX3_join_p0 12 rfl) rfl (Or.inl rfl) hyp
  replace hyp := hyp.2
  refine mf_tsw1 (v := 2) (tgt := 79) (mf_dat eX3_join_p0 1 rfl) (by decide) (by decide) (off := 78) (by decide) (by decide) (fun hc => ?_) (fun hc1 => ?_)
  · replace hyp := hyp.1 hc
    refine mf_ldc2 (v := (-1000000)) cl_X3_66 (mf_dat eX3_join_p0 13 rfl) (by decide) ?_
    refine mf_ldc2 (v := 1000000) cl_X3_68 (mf_dat eX3_join_p0 14 rfl) (by decide) ?_
    refine mf_iload_n (mf_dat eX3_join_p0 15 rfl) rfl rfl ?_
    refine mf_i2l (mf_dat eX3_join_p0 16 rfl) ?_
    refine mf_iload_n (mf_dat eX3_join_p0 17 rfl) rfl rfl ?_
    refine mf_i2l (mf_dat eX3_join_p0 18 rfl) ?_
    refine mf_lsub (mf_dat eX3_join_p0 19 rfl) ?_
    refine mf_callS (Yc := YJ9_min_f86c9) (mf_dat eX3_join_p0 20 rfl) ml_X3_70 okJ9_min_f86c9 sm_J9_min_f86c9 rfl rfl (Nat.le_of_ble_eq_true rfl) (mf_rr (Nat.le_trans (by decide) hd) (Nat.le_refl _)) (Nat.le_refl _) hyp (fun r7 g8 h9 hyp => ?_)
    refine mf_callS (Yc := YJ9_max_f86c9) (mf_dat eX3_join_p0 21 rfl) ml_X3_73 okJ9_max_f86c9 sm_J9_max_f86c9 rfl rfl (Nat.le_of_ble_eq_true rfl) (mf_rr (Nat.le_trans (by decide) hd) (Nat.le_refl _)) (Nat.le_refl _) hyp (fun r10 g11 h12 hyp => ?_)
    refine mf_l2i (mf_dat eX3_join_p0 22 rfl) ?_
    exact mf_ireturn (mf_dat eX3_join_p0 23 rfl) rfl (Or.inl rfl) hyp
  replace hyp := hyp.2
  refine mf_tsw1 (v := 3) (tgt := 98) (mf_dat eX3_join_p0 1 rfl) (by decide) (by decide) (off := 97) (by decide) (by decide) (fun hc => ?_) (fun hc2 => ?_)
  · replace hyp := hyp.1 hc
    refine mf_ldc2 (v := (-1000000)) cl_X3_66 (mf_dat eX3_join_p0 24 rfl) (by decide) ?_
    refine mf_ldc2 (v := 1000000) cl_X3_68 (mf_dat eX3_join_p0 25 rfl) (by decide) ?_
    refine mf_iload_n (mf_dat eX3_join_p0 26 rfl) rfl rfl ?_
    refine mf_i2l (mf_dat eX3_join_p0 27 rfl) ?_
    refine mf_iload_n (mf_dat eX3_join_p0 28 rfl) rfl rfl ?_
    refine mf_i2l (mf_dat eX3_join_p0 29 rfl) ?_
    refine mf_lmul (mf_dat eX3_join_p0 30 rfl) ?_
    refine mf_callS (Yc := YJ9_min_f86c9) (mf_dat eX3_join_p0 31 rfl) ml_X3_70 okJ9_min_f86c9 sm_J9_min_f86c9 rfl rfl (Nat.le_of_ble_eq_true rfl) (mf_rr (Nat.le_trans (by decide) hd) (Nat.le_refl _)) (Nat.le_refl _) hyp (fun r13 g14 h15 hyp => ?_)
    refine mf_callS (Yc := YJ9_max_f86c9) (mf_dat eX3_join_p0 32 rfl) ml_X3_73 okJ9_max_f86c9 sm_J9_max_f86c9 rfl rfl (Nat.le_of_ble_eq_true rfl) (mf_rr (Nat.le_trans (by decide) hd) (Nat.le_refl _)) (Nat.le_refl _) hyp (fun r16 g17 h18 hyp => ?_)
    refine mf_l2i (mf_dat eX3_join_p0 33 rfl) ?_
    exact mf_ireturn (mf_dat eX3_join_p0 34 rfl) rfl (Or.inl rfl) hyp
  replace hyp := hyp.2
  refine mf_tsw1 (v := 4) (tgt := 117) (mf_dat eX3_join_p0 1 rfl) (by decide) (by decide) (off := 116) (by decide) (by decide) (fun hc => ?_) (fun hc3 => ?_)
  · replace hyp := hyp.1 hc
    refine mf_iload_n (mf_dat eX3_join_p0 35 rfl) rfl rfl ?_
    refine mf_if_ne (tgt := 125) (mf_dat eX3_join_p0 36 rfl) (by decide) (fun hc => ?_) (fun hc => ?_)
    · replace hyp := hyp.1 hc
      refine mf_iload_n (mf_dat eX3_join_p0 39 rfl) rfl rfl ?_
      refine mf_iload_n (mf_dat eX3_join_p0 40 rfl) rfl rfl ?_
      refine mf_callS (Yc := YJ9_floorDiv_7cf53) (mf_dat eX3_join_p0 41 rfl) ml_X3_75 okJ9_floorDiv_7cf53 sm_J9_floorDiv_7cf53 rfl rfl (Nat.le_of_ble_eq_true rfl) (mf_rr (Nat.le_trans (by decide) hd) (Nat.le_refl _)) (Nat.le_refl _) hyp (fun r19 g20 h21 hyp => ?_)
      exact mf_ireturn (mf_dat eX3_join_p0 42 rfl) rfl (Or.inl rfl) hyp
    · replace hyp := hyp.2 hc
      refine mf_iconst (v := 0) (mf_dat eX3_join_p0 37 rfl) (by decide) ?_
      refine mf_goto (tgt := 130) (mf_dat eX3_join_p0 38 rfl) (by decide) ?_
      exact mf_ireturn (mf_dat eX3_join_p0 42 rfl) rfl (Or.inl rfl) hyp
  replace hyp := hyp.2
  refine mf_tsw1 (v := 5) (tgt := 131) (mf_dat eX3_join_p0 1 rfl) (by decide) (by decide) (off := 130) (by decide) (by decide) (fun hc => ?_) (fun hc4 => ?_)
  · replace hyp := hyp.1 hc
    refine mf_iload_n (mf_dat eX3_join_p0 43 rfl) rfl rfl ?_
    refine mf_iload_n (mf_dat eX3_join_p0 44 rfl) rfl rfl ?_
    refine mf_callS (Yc := YJ9_min_7cf53) (mf_dat eX3_join_p0 45 rfl) ml_X3_40 okJ9_min_7cf53 sm_J9_min_7cf53 rfl rfl (Nat.le_of_ble_eq_true rfl) (mf_rr (Nat.le_trans (by decide) hd) (Nat.le_refl _)) (Nat.le_refl _) hyp (fun r22 g23 h24 hyp => ?_)
    exact mf_ireturn (mf_dat eX3_join_p0 46 rfl) rfl (Or.inl rfl) hyp
  replace hyp := hyp.2
  refine mf_tsw1 (v := 6) (tgt := 137) (mf_dat eX3_join_p0 1 rfl) (by decide) (by decide) (off := 136) (by decide) (by decide) (fun hc => ?_) (fun hc5 => ?_)
  · replace hyp := hyp.1 hc
    refine mf_iload_n (mf_dat eX3_join_p0 47 rfl) rfl rfl ?_
    refine mf_iload_n (mf_dat eX3_join_p0 48 rfl) rfl rfl ?_
    refine mf_callS (Yc := YJ9_max_7cf53) (mf_dat eX3_join_p0 49 rfl) ml_X3_49 okJ9_max_7cf53 sm_J9_max_7cf53 rfl rfl (Nat.le_of_ble_eq_true rfl) (mf_rr (Nat.le_trans (by decide) hd) (Nat.le_refl _)) (Nat.le_refl _) hyp (fun r25 g26 h27 hyp => ?_)
    exact mf_ireturn (mf_dat eX3_join_p0 50 rfl) rfl (Or.inl rfl) hyp
  replace hyp := hyp.2
  refine mf_tsw1 (v := 7) (tgt := 143) (mf_dat eX3_join_p0 1 rfl) (by decide) (by decide) (off := 142) (by decide) (by decide) (fun hc => ?_) (fun hc6 => ?_)
  · replace hyp := hyp.1 hc
    refine mf_iload_n (mf_dat eX3_join_p0 51 rfl) rfl rfl ?_
    refine mf_iload_n (mf_dat eX3_join_p0 52 rfl) rfl rfl ?_
    refine mf_icmp_ge (tgt := 152) (mf_dat eX3_join_p0 53 rfl) (by decide) (fun hc => ?_) (fun hc => ?_)
    · replace hyp := hyp.1 hc
      refine mf_iconst (v := 0) (mf_dat eX3_join_p0 56 rfl) (by decide) ?_
      exact mf_ireturn (mf_dat eX3_join_p0 57 rfl) rfl (Or.inl rfl) hyp
    · replace hyp := hyp.2 hc
      refine mf_iconst (v := 1) (mf_dat eX3_join_p0 54 rfl) (by decide) ?_
      refine mf_goto (tgt := 153) (mf_dat eX3_join_p0 55 rfl) (by decide) ?_
      exact mf_ireturn (mf_dat eX3_join_p0 57 rfl) rfl (Or.inl rfl) hyp
  replace hyp := hyp.2
  refine mf_tsw1 (v := 8) (tgt := 154) (mf_dat eX3_join_p0 1 rfl) (by decide) (by decide) (off := 153) (by decide) (by decide) (fun hc => ?_) (fun hc7 => ?_)
  · replace hyp := hyp.1 hc
    refine mf_iload_n (mf_dat eX3_join_p0 58 rfl) rfl rfl ?_
    refine mf_iload_n (mf_dat eX3_join_p0 59 rfl) rfl rfl ?_
    refine mf_icmp_le (tgt := 163) (mf_dat eX3_join_p1 0 rfl) (by decide) (fun hc => ?_) (fun hc => ?_)
    · replace hyp := hyp.1 hc
      refine mf_iconst (v := 0) (mf_dat eX3_join_p1 3 rfl) (by decide) ?_
      exact mf_ireturn (mf_dat eX3_join_p1 4 rfl) rfl (Or.inl rfl) hyp
    · replace hyp := hyp.2 hc
      refine mf_iconst (v := 1) (mf_dat eX3_join_p1 1 rfl) (by decide) ?_
      refine mf_goto (tgt := 164) (mf_dat eX3_join_p1 2 rfl) (by decide) ?_
      exact mf_ireturn (mf_dat eX3_join_p1 4 rfl) rfl (Or.inl rfl) hyp
  replace hyp := hyp.2
  refine mf_tsw1 (v := 9) (tgt := 165) (mf_dat eX3_join_p0 1 rfl) (by decide) (by decide) (off := 164) (by decide) (by decide) (fun hc => ?_) (fun hc8 => ?_)
  · replace hyp := hyp.1 hc
    refine mf_iload_n (mf_dat eX3_join_p1 5 rfl) rfl rfl ?_
    refine mf_iload_n (mf_dat eX3_join_p1 6 rfl) rfl rfl ?_
    refine mf_icmp_ne (tgt := 174) (mf_dat eX3_join_p1 7 rfl) (by decide) (fun hc => ?_) (fun hc => ?_)
    · replace hyp := hyp.1 hc
      refine mf_iconst (v := 0) (mf_dat eX3_join_p1 10 rfl) (by decide) ?_
      exact mf_ireturn (mf_dat eX3_join_p1 11 rfl) rfl (Or.inl rfl) hyp
    · replace hyp := hyp.2 hc
      refine mf_iconst (v := 1) (mf_dat eX3_join_p1 8 rfl) (by decide) ?_
      refine mf_goto (tgt := 175) (mf_dat eX3_join_p1 9 rfl) (by decide) ?_
      exact mf_ireturn (mf_dat eX3_join_p1 11 rfl) rfl (Or.inl rfl) hyp
  replace hyp := hyp.2
  refine mf_tsw1 (v := 10) (tgt := 176) (mf_dat eX3_join_p0 1 rfl) (by decide) (by decide) (off := 175) (by decide) (by decide) (fun hc => ?_) (fun hc9 => ?_)
  · replace hyp := hyp.1 hc
    refine mf_iload_n (mf_dat eX3_join_p1 12 rfl) rfl rfl ?_
    refine mf_iload_n (mf_dat eX3_join_p1 13 rfl) rfl rfl ?_
    refine mf_iand (mf_dat eX3_join_p1 14 rfl) ?_
    exact mf_ireturn (mf_dat eX3_join_p1 15 rfl) rfl (Or.inl rfl) hyp
  replace hyp := hyp.2
  refine mf_tsw1 (v := 11) (tgt := 180) (mf_dat eX3_join_p0 1 rfl) (by decide) (by decide) (off := 179) (by decide) (by decide) (fun hc => ?_) (fun hc10 => ?_)
  · replace hyp := hyp.1 hc
    refine mf_iload_n (mf_dat eX3_join_p1 16 rfl) rfl rfl ?_
    refine mf_iload_n (mf_dat eX3_join_p1 17 rfl) rfl rfl ?_
    refine mf_ior (mf_dat eX3_join_p1 18 rfl) ?_
    exact mf_ireturn (mf_dat eX3_join_p1 19 rfl) rfl (Or.inl rfl) hyp
  replace hyp := hyp.2
  refine mf_tswO (tgt := 184) (mf_dat eX3_join_p0 1 rfl) (by omega) (by decide) ?_
  replace hyp := hyp (by omega)
  refine mf_iconst (v := 0) (mf_dat eX3_join_p1 20 rfl) (by decide) ?_
  exact mf_ireturn (mf_dat eX3_join_p1 21 rfl) rfl (Or.inl rfl) hyp
set_option maxRecDepth 100000 in
set_option maxHeartbeats 4000000 in
theorem mX4_init {C : mf_G} {l : Launch} {d n0 n1 : Nat} {K : mf_Kt} {x0 : Int} {g h : mf_M} (hd : 1 ≤ d) (hyp : 0 ≤ x0 ∧ mf_sh n0 = (20, 1600) ∧ mf_more (mf_rm d n0 n1) n0 n0 ∧ (∀ j : Nat, g n0 j = -1) ∧ (∀ j : Nat, h n0 j = 0) ∧ mf_is (n0 + 1) x0 4 ∧ (∀ g7 : mf_M, g7 = mf_up g x0 0 ((n0 : Nat) : Int) → mf_sh (n0 + 1) = (20, 4) ∧ mf_more (mf_rm d n0 n1) n0 (n0 + 1) ∧ (∀ j : Nat, g7 (n0 + 1) j = -1) ∧ (∀ j : Nat, h (n0 + 1) j = 0) ∧ mf_is (n0 + 2) x0 4 ∧ (∀ g13 : mf_M, g13 = mf_up g7 x0 1 ((n0 + 1 : Nat) : Int) → mf_sh (n0 + 2) = (20, 4) ∧ mf_more (mf_rm d n0 n1) n0 (n0 + 2) ∧ (∀ j : Nat, g13 (n0 + 2) j = -1) ∧ (∀ j : Nat, h (n0 + 2) j = 0) ∧ mf_is (n0 + 3) x0 4 ∧ (∀ g19 : mf_M, g19 = mf_up g13 x0 2 ((n0 + 2 : Nat) : Int) → (∀ h20 : mf_M, h20 = mf_up h x0 4 (-1) → n0 + 3 = n1 ∧ K 0 g19 h20))))) : mf_MT C l d YX4_init [(2, x0)] n0 n1 g h K := by
  refine mf_entry (by decide) (Nat.le_of_ble_eq_true rfl) ?_
  refine mf_aload_n (mf_dat eX4_init 0 rfl) rfl rfl ?_
  obtain ⟨ck1, hyp⟩ := hyp
  refine mf_objInit (mf_dat eX4_init 1 rfl) ml_X4_3 im_obj co_obj (mf_rmf hd) (mf_rml hd (Nat.le_of_ble_eq_true rfl)) ck1 ?_
  refine mf_aload_n (mf_dat eX4_init 2 rfl) rfl rfl ?_
  refine mf_sipush (v := 1600) (mf_dat eX4_init 3 rfl) (by decide) ?_
  obtain ⟨ck2, hyp⟩ := hyp
  obtain ⟨ck3, hyp⟩ := hyp
  obtain ⟨ck4, hyp⟩ := hyp
  obtain ⟨ck5, hyp⟩ := hyp
  refine mf_newa (at_ := .int) (i := 0) (mf_dat eX4_init 4 rfl) ac_20 rfl ck2 rfl (by decide) rfl rfl (by decide) (by intro c; simp) (by decide) ck3 ck4 ck5 ?_
  obtain ⟨ck6, hyp⟩ := hyp
  refine mf_putRF (r := (RX4, TX4, 5)) (ci := 4) (k := 0) (kI := 0) (t := 2) (mf_dat eX4_init 5 rfl) fl_X4_9 rfl rfl (by decide) rfl (by decide) rfl rfl rfl (by decide) (fun h9 => absurd h9 (by decide)) ck6 ?_
  generalize qg7 : mf_up g x0 0 ((n0 : Nat) : Int) = g7
  replace hyp := hyp _ qg7.symm
  refine mf_aload_n (mf_dat eX4_init 6 rfl) rfl rfl ?_
  refine mf_iconst (v := 4) (mf_dat eX4_init 7 rfl) (by decide) ?_
  obtain ⟨ck8, hyp⟩ := hyp
  obtain ⟨ck9, hyp⟩ := hyp
  obtain ⟨ck10, hyp⟩ := hyp
  obtain ⟨ck11, hyp⟩ := hyp
  refine mf_newa (at_ := .int) (i := 0) (mf_dat eX4_init 8 rfl) ac_20 rfl ck8 rfl (by decide) rfl rfl (by decide) (by intro c; simp) (by decide) ck9 ck10 ck11 ?_
  obtain ⟨ck12, hyp⟩ := hyp
  refine mf_putRF (r := (RX4, TX4, 5)) (ci := 4) (k := 1) (kI := 1) (t := 2) (mf_dat eX4_init 9 rfl) fl_X4_15 rfl rfl (by decide) rfl (by decide) rfl rfl rfl (by decide) (fun h9 => absurd h9 (by decide)) ck12 ?_
  generalize qg13 : mf_up g7 x0 1 ((n0 + 1 : Nat) : Int) = g13
  replace hyp := hyp _ qg13.symm
  refine mf_aload_n (mf_dat eX4_init 10 rfl) rfl rfl ?_
  refine mf_iconst (v := 4) (mf_dat eX4_init 11 rfl) (by decide) ?_
  obtain ⟨ck14, hyp⟩ := hyp
  obtain ⟨ck15, hyp⟩ := hyp
  obtain ⟨ck16, hyp⟩ := hyp
  obtain ⟨ck17, hyp⟩ := hyp
  refine mf_newa (at_ := .int) (i := 0) (mf_dat eX4_init 12 rfl) ac_20 rfl ck14 rfl (by decide) rfl rfl (by decide) (by intro c; simp) (by decide) ck15 ck16 ck17 ?_
  obtain ⟨ck18, hyp⟩ := hyp
  refine mf_putRF (r := (RX4, TX4, 5)) (ci := 4) (k := 2) (kI := 2) (t := 2) (mf_dat eX4_init 13 rfl) fl_X4_18 rfl rfl (by decide) rfl (by decide) rfl rfl rfl (by decide) (fun h9 => absurd h9 (by decide)) ck18 ?_
  generalize qg19 : mf_up g13 x0 2 ((n0 + 2 : Nat) : Int) = g19
  replace hyp := hyp _ qg19.symm
  refine mf_aload_n (mf_dat eX4_init 14 rfl) rfl rfl ?_
  refine mf_iconst (v := (-1)) (mf_dat eX4_init 15 rfl) (by decide) ?_
  refine mf_putI (r := (RX4, TX4, 5)) (ci := 4) (k := 4) (kI := 4) (t := 0) (mf_dat eX4_init 16 rfl) fl_X4_21 rfl rfl (by decide) rfl (by decide) rfl (by decide) (fun h9 => absurd h9 (by decide)) ck18 ?_
  generalize qh20 : mf_up h x0 4 (-1) = h20
  replace hyp := hyp _ qh20.symm
  obtain ⟨ck21, hyp⟩ := hyp
  subst ck21
  exact mf_return (mf_dat eX4_init 17 rfl) rfl hyp
abbrev JX4_forget_12 (C : mf_G) (l : Launch) (d n : Nat) (K : mf_Kt) (x0 x1 : Int) (g h : mf_M) : Prop := mf_AW C l YX4_forget (mf_rm d n n) n (mf_Zm C YX4_forget n n K) (fun _ _ => True) 12 [(0, (2, x0)), (1, (0, x1))] [] n g h
set_option maxRecDepth 100000 in
set_option maxHeartbeats 4000000 in
theorem bX4_forget_12 {C : mf_G} {l : Launch} {d n : Nat} {K : mf_Kt} {x0 x1 : Int} {g h : mf_M} (hyp : ((4 ≤ x1 → K 0 g h) ∧ (¬ 4 ≤ x1 → mf_is n x0 4 ∧ mf_is n (g x0 1) 20 ∧ 0 ≤ x1 ∧ x1 < mf_len (g x0 1) ∧ (∀ h5 : mf_M, h5 = mf_up h (g x0 1) x1 0 → mf_is n (g x0 2) 20 ∧ x1 < mf_len (g x0 2) ∧ (∀ h8 : mf_M, h8 = mf_up h5 (g x0 2) x1 0 → (∀ v9 : Int, v9 = mf_w32 (x1 + 1) → JX4_forget_12 C l d n K x0 v9 g h8)))))) : JX4_forget_12 C l d n K x0 x1 g h := by
  refine mf_iload_n (mf_dat eX4_forget 8 rfl) rfl rfl ?_
  refine mf_iconst (v := 4) (mf_dat eX4_forget 9 rfl) (by decide) ?_
  refine mf_icmp_ge (tgt := 37) (mf_dat eX4_forget 10 rfl) (by decide) (fun hc => ?_) (fun hc => ?_)
  · replace hyp := hyp.1 hc
    exact mf_return (mf_dat eX4_forget 23 rfl) rfl hyp
  · replace hyp := hyp.2 hc
    refine mf_aload_n (mf_dat eX4_forget 11 rfl) rfl rfl ?_
    obtain ⟨ck1, hyp⟩ := hyp
    refine mf_getf (r := (RX4, TX4, 5)) (ci := 4) (k := 1) (t := 2) (v := g x0 1) (mf_dat eX4_forget 12 rfl) fl_X4_15 rfl (by decide) rfl rfl ck1 ?_
    refine mf_iload_n (mf_dat eX4_forget 13 rfl) rfl rfl ?_
    refine mf_iconst (v := 0) (mf_dat eX4_forget 14 rfl) (by decide) ?_
    obtain ⟨ck2, hyp⟩ := hyp
    obtain ⟨ck3, hyp⟩ := hyp
    obtain ⟨ck4, hyp⟩ := hyp
    refine mf_iast (mf_dat eX4_forget 15 rfl) ck2 ck3 ck4 ?_
    generalize qh5 : mf_up h (g x0 1) x1 0 = h5
    replace hyp := hyp _ qh5.symm
    refine mf_aload_n (mf_dat eX4_forget 16 rfl) rfl rfl ?_
    refine mf_getf (r := (RX4, TX4, 5)) (ci := 4) (k := 2) (t := 2) (v := g x0 2) (mf_dat eX4_forget 17 rfl) fl_X4_18 rfl (by decide) rfl rfl ck1 ?_
    refine mf_iload_n (mf_dat eX4_forget 18 rfl) rfl rfl ?_
    refine mf_iconst (v := 0) (mf_dat eX4_forget 19 rfl) (by decide) ?_
    obtain ⟨ck6, hyp⟩ := hyp
    obtain ⟨ck7, hyp⟩ := hyp
    refine mf_iast (mf_dat eX4_forget 20 rfl) ck6 ck3 ck7 ?_
    generalize qh8 : mf_up h5 (g x0 2) x1 0 = h8
    replace hyp := hyp _ qh8.symm
    refine mf_iinc (mf_dat eX4_forget 21 rfl) rfl (by decide) (by decide) ?_
    generalize qv9 : mf_w32 (x1 + 1) = v9
    replace hyp := hyp _ qv9.symm
    refine mf_goto (tgt := 12) (mf_dat eX4_forget 22 rfl) (by decide) ?_
    exact mf_sub [1, 0] rfl hyp
set_option maxRecDepth 100000 in
set_option maxHeartbeats 4000000 in
theorem mX4_forget {C : mf_G} {l : Launch} {d n : Nat} {K : mf_Kt} {x0 : Int} {g h : mf_M} (hyp : mf_is n x0 4 ∧ (∀ h2 : mf_M, h2 = mf_up h x0 3 0 → (∀ h3 : mf_M, h3 = mf_up h2 x0 4 (-1) → JX4_forget_12 C l d n K x0 0 g h3))) : mf_MT C l d YX4_forget [(2, x0)] n n g h K := by
  refine mf_entry (by decide) (Nat.le_of_ble_eq_true rfl) ?_
  refine mf_aload_n (mf_dat eX4_forget 0 rfl) rfl rfl ?_
  refine mf_iconst (v := 0) (mf_dat eX4_forget 1 rfl) (by decide) ?_
  obtain ⟨ck1, hyp⟩ := hyp
  refine mf_putI (r := (RX4, TX4, 5)) (ci := 4) (k := 3) (kI := 3) (t := 0) (mf_dat eX4_forget 2 rfl) fl_X4_25 rfl rfl (by decide) rfl (by decide) rfl (by decide) (fun h9 => absurd h9 (by decide)) ck1 ?_
  generalize qh2 : mf_up h x0 3 0 = h2
  replace hyp := hyp _ qh2.symm
  refine mf_aload_n (mf_dat eX4_forget 3 rfl) rfl rfl ?_
  refine mf_iconst (v := (-1)) (mf_dat eX4_forget 4 rfl) (by decide) ?_
  refine mf_putI (r := (RX4, TX4, 5)) (ci := 4) (k := 4) (kI := 4) (t := 0) (mf_dat eX4_forget 5 rfl) fl_X4_21 rfl rfl (by decide) rfl (by decide) rfl (by decide) (fun h9 => absurd h9 (by decide)) ck1 ?_
  generalize qh3 : mf_up h2 x0 4 (-1) = h3
  replace hyp := hyp _ qh3.symm
  refine mf_iconst (v := 0) (mf_dat eX4_forget 6 rfl) (by decide) ?_
  refine mf_istore_n (mf_dat eX4_forget 7 rfl) rfl (by decide) ?_
  exact mf_sub [1, 0] rfl hyp
set_option maxRecDepth 100000 in
set_option maxHeartbeats 4000000 in
theorem mX4_isTold {C : mf_G} {l : Launch} {d n : Nat} {K : mf_Kt} {x0 x1 : Int} {g h : mf_M} (hyp : ((x1 < 0 → K 0 g h) ∧ (¬ x1 < 0 → ((4 ≤ x1 → K 0 g h) ∧ (¬ 4 ≤ x1 → mf_is n x0 4 ∧ mf_is n (g x0 2) 20 ∧ 0 ≤ x1 ∧ x1 < mf_len (g x0 2) ∧ mf_is n (g x0 1) 20 ∧ x1 < mf_len (g x0 1) ∧ ((h (g x0 2) x1 ≤ h (g x0 1) x1 → K 0 g h) ∧ (¬ h (g x0 2) x1 ≤ h (g x0 1) x1 → K 1 g h))))))) : mf_MT C l d YX4_isTold [(2, x0), (0, x1)] n n g h K := by
  refine mf_entry (by decide) (Nat.le_of_ble_eq_true rfl) ?_
  refine mf_iload_n (mf_dat eX4_isTold 0 rfl) rfl rfl ?_
  refine mf_if_lt (tgt := 28) (mf_dat eX4_isTold 1 rfl) (by decide) (fun hc => ?_) (fun hc => ?_)
  · replace hyp := hyp.1 hc
    refine mf_iconst (v := 0) (mf_dat eX4_isTold 16 rfl) (by decide) ?_
    exact mf_ireturn (mf_dat eX4_isTold 17 rfl) rfl (Or.inr ⟨rfl, by decide⟩) hyp
  · replace hyp := hyp.2 hc
    refine mf_iload_n (mf_dat eX4_isTold 2 rfl) rfl rfl ?_
    refine mf_iconst (v := 4) (mf_dat eX4_isTold 3 rfl) (by decide) ?_
    refine mf_icmp_ge (tgt := 28) (mf_dat eX4_isTold 4 rfl) (by decide) (fun hc => ?_) (fun hc => ?_)
    · replace hyp := hyp.1 hc
      refine mf_iconst (v := 0) (mf_dat eX4_isTold 16 rfl) (by decide) ?_
      exact mf_ireturn (mf_dat eX4_isTold 17 rfl) rfl (Or.inr ⟨rfl, by decide⟩) hyp
    · replace hyp := hyp.2 hc
      refine mf_aload_n (mf_dat eX4_isTold 5 rfl) rfl rfl ?_
      obtain ⟨ck1, hyp⟩ := hyp
      refine mf_getf (r := (RX4, TX4, 5)) (ci := 4) (k := 2) (t := 2) (v := g x0 2) (mf_dat eX4_isTold 6 rfl) fl_X4_18 rfl (by decide) rfl rfl ck1 ?_
      refine mf_iload_n (mf_dat eX4_isTold 7 rfl) rfl rfl ?_
      obtain ⟨ck2, hyp⟩ := hyp
      obtain ⟨ck3, hyp⟩ := hyp
      obtain ⟨ck4, hyp⟩ := hyp
      refine mf_iald (mf_dat eX4_isTold 8 rfl) ck2 ck3 ck4 ?_
      refine mf_aload_n (mf_dat eX4_isTold 9 rfl) rfl rfl ?_
      refine mf_getf (r := (RX4, TX4, 5)) (ci := 4) (k := 1) (t := 2) (v := g x0 1) (mf_dat eX4_isTold 10 rfl) fl_X4_15 rfl (by decide) rfl rfl ck1 ?_
      refine mf_iload_n (mf_dat eX4_isTold 11 rfl) rfl rfl ?_
      obtain ⟨ck5, hyp⟩ := hyp
      obtain ⟨ck6, hyp⟩ := hyp
      refine mf_iald (mf_dat eX4_isTold 12 rfl) ck5 ck3 ck6 ?_
      refine mf_icmp_le (tgt := 28) (mf_dat eX4_isTold 13 rfl) (by decide) (fun hc => ?_) (fun hc => ?_)
      · replace hyp := hyp.1 hc
        refine mf_iconst (v := 0) (mf_dat eX4_isTold 16 rfl) (by decide) ?_
        exact mf_ireturn (mf_dat eX4_isTold 17 rfl) rfl (Or.inr ⟨rfl, by decide⟩) hyp
      · replace hyp := hyp.2 hc
        refine mf_iconst (v := 1) (mf_dat eX4_isTold 14 rfl) (by decide) ?_
        refine mf_goto (tgt := 29) (mf_dat eX4_isTold 15 rfl) (by decide) ?_
        exact mf_ireturn (mf_dat eX4_isTold 17 rfl) rfl (Or.inr ⟨rfl, by decide⟩) hyp
set_option maxRecDepth 100000 in
set_option maxHeartbeats 4000000 in
theorem mX4_begin {C : mf_G} {l : Launch} {d n : Nat} {K : mf_Kt} {x0 x1 : Int} {g h : mf_M} (hyp : mf_is n x0 4 ∧ (∀ h2 : mf_M, h2 = mf_up h x0 4 x1 → ((x1 < 0 → K 0 g h2) ∧ (¬ x1 < 0 → ((4 ≤ x1 → K 0 g h2) ∧ (¬ 4 ≤ x1 → mf_is n (g x0 1) 20 ∧ 0 ≤ x1 ∧ x1 < mf_len (g x0 1) ∧ (∀ h6 : mf_M, h6 = mf_up h2 (g x0 1) x1 (h2 x0 3) → K 0 g h6))))))) : mf_MT C l d YX4_begin [(2, x0), (0, x1)] n n g h K := by
  refine mf_entry (by decide) (Nat.le_of_ble_eq_true rfl) ?_
  refine mf_aload_n (mf_dat eX4_begin 0 rfl) rfl rfl ?_
  refine mf_iload_n (mf_dat eX4_begin 1 rfl) rfl rfl ?_
  obtain ⟨ck1, hyp⟩ := hyp
  refine mf_putI (r := (RX4, TX4, 5)) (ci := 4) (k := 4) (kI := 4) (t := 0) (mf_dat eX4_begin 2 rfl) fl_X4_21 rfl rfl (by decide) rfl (by decide) rfl (by decide) (fun h9 => absurd h9 (by decide)) ck1 ?_
  generalize qh2 : mf_up h x0 4 x1 = h2
  replace hyp := hyp _ qh2.symm
  refine mf_iload_n (mf_dat eX4_begin 3 rfl) rfl rfl ?_
  refine mf_if_lt (tgt := 24) (mf_dat eX4_begin 4 rfl) (by decide) (fun hc => ?_) (fun hc => ?_)
  · replace hyp := hyp.1 hc
    exact mf_return (mf_dat eX4_begin 14 rfl) rfl hyp
  · replace hyp := hyp.2 hc
    refine mf_iload_n (mf_dat eX4_begin 5 rfl) rfl rfl ?_
    refine mf_iconst (v := 4) (mf_dat eX4_begin 6 rfl) (by decide) ?_
    refine mf_icmp_ge (tgt := 24) (mf_dat eX4_begin 7 rfl) (by decide) (fun hc => ?_) (fun hc => ?_)
    · replace hyp := hyp.1 hc
      exact mf_return (mf_dat eX4_begin 14 rfl) rfl hyp
    · replace hyp := hyp.2 hc
      refine mf_aload_n (mf_dat eX4_begin 8 rfl) rfl rfl ?_
      refine mf_getf (r := (RX4, TX4, 5)) (ci := 4) (k := 1) (t := 2) (v := g x0 1) (mf_dat eX4_begin 9 rfl) fl_X4_15 rfl (by decide) rfl rfl ck1 ?_
      refine mf_iload_n (mf_dat eX4_begin 10 rfl) rfl rfl ?_
      refine mf_aload_n (mf_dat eX4_begin 11 rfl) rfl rfl ?_
      refine mf_getf (r := (RX4, TX4, 5)) (ci := 4) (k := 3) (t := 0) (v := h2 x0 3) (mf_dat eX4_begin 12 rfl) fl_X4_25 rfl (by decide) rfl rfl ck1 ?_
      obtain ⟨ck3, hyp⟩ := hyp
      obtain ⟨ck4, hyp⟩ := hyp
      obtain ⟨ck5, hyp⟩ := hyp
      refine mf_iast (mf_dat eX4_begin 13 rfl) ck3 ck4 ck5 ?_
      generalize qh6 : mf_up h2 (g x0 1) x1 (h2 x0 3) = h6
      replace hyp := hyp _ qh6.symm
      exact mf_return (mf_dat eX4_begin 14 rfl) rfl hyp
set_option maxRecDepth 100000 in
set_option maxHeartbeats 4000000 in
theorem mX4_finish {C : mf_G} {l : Launch} {d n : Nat} {K : mf_Kt} {x0 : Int} {g h : mf_M} (hyp : mf_is n x0 4 ∧ ((h x0 4 < 0 → (∀ h2 : mf_M, h2 = mf_up h x0 4 (-1) → K 0 g h2)) ∧ (¬ h x0 4 < 0 → ((4 ≤ h x0 4 → (∀ h3 : mf_M, h3 = mf_up h x0 4 (-1) → K 0 g h3)) ∧ (¬ 4 ≤ h x0 4 → mf_is n (g x0 2) 20 ∧ 0 ≤ h x0 4 ∧ h x0 4 < mf_len (g x0 2) ∧ (∀ h7 : mf_M, h7 = mf_up h (g x0 2) (h x0 4) (h x0 3) → (∀ h8 : mf_M, h8 = mf_up h7 x0 4 (-1) → K 0 g h8))))))) : mf_MT C l d YX4_finish [(2, x0)] n n g h K := by
  refine mf_entry (by decide) (Nat.le_of_ble_eq_true rfl) ?_
  refine mf_aload_n (mf_dat eX4_finish 0 rfl) rfl rfl ?_
  obtain ⟨ck1, hyp⟩ := hyp
  refine mf_getf (r := (RX4, TX4, 5)) (ci := 4) (k := 4) (t := 0) (v := h x0 4) (mf_dat eX4_finish 1 rfl) fl_X4_21 rfl (by decide) rfl rfl ck1 ?_
  refine mf_if_lt (tgt := 28) (mf_dat eX4_finish 2 rfl) (by decide) (fun hc => ?_) (fun hc => ?_)
  · replace hyp := hyp.1 hc
    refine mf_aload_n (mf_dat eX4_finish 14 rfl) rfl rfl ?_
    refine mf_iconst (v := (-1)) (mf_dat eX4_finish 15 rfl) (by decide) ?_
    refine mf_putI (r := (RX4, TX4, 5)) (ci := 4) (k := 4) (kI := 4) (t := 0) (mf_dat eX4_finish 16 rfl) fl_X4_21 rfl rfl (by decide) rfl (by decide) rfl (by decide) (fun h9 => absurd h9 (by decide)) ck1 ?_
    generalize qh2 : mf_up h x0 4 (-1) = h2
    replace hyp := hyp _ qh2.symm
    exact mf_return (mf_dat eX4_finish 17 rfl) rfl hyp
  · replace hyp := hyp.2 hc
    refine mf_aload_n (mf_dat eX4_finish 3 rfl) rfl rfl ?_
    refine mf_getf (r := (RX4, TX4, 5)) (ci := 4) (k := 4) (t := 0) (v := h x0 4) (mf_dat eX4_finish 4 rfl) fl_X4_21 rfl (by decide) rfl rfl ck1 ?_
    refine mf_iconst (v := 4) (mf_dat eX4_finish 5 rfl) (by decide) ?_
    refine mf_icmp_ge (tgt := 28) (mf_dat eX4_finish 6 rfl) (by decide) (fun hc => ?_) (fun hc => ?_)
    · replace hyp := hyp.1 hc
      refine mf_aload_n (mf_dat eX4_finish 14 rfl) rfl rfl ?_
      refine mf_iconst (v := (-1)) (mf_dat eX4_finish 15 rfl) (by decide) ?_
      refine mf_putI (r := (RX4, TX4, 5)) (ci := 4) (k := 4) (kI := 4) (t := 0) (mf_dat eX4_finish 16 rfl) fl_X4_21 rfl rfl (by decide) rfl (by decide) rfl (by decide) (fun h9 => absurd h9 (by decide)) ck1 ?_
      generalize qh3 : mf_up h x0 4 (-1) = h3
      replace hyp := hyp _ qh3.symm
      exact mf_return (mf_dat eX4_finish 17 rfl) rfl hyp
    · replace hyp := hyp.2 hc
      refine mf_aload_n (mf_dat eX4_finish 7 rfl) rfl rfl ?_
      refine mf_getf (r := (RX4, TX4, 5)) (ci := 4) (k := 2) (t := 2) (v := g x0 2) (mf_dat eX4_finish 8 rfl) fl_X4_18 rfl (by decide) rfl rfl ck1 ?_
      refine mf_aload_n (mf_dat eX4_finish 9 rfl) rfl rfl ?_
      refine mf_getf (r := (RX4, TX4, 5)) (ci := 4) (k := 4) (t := 0) (v := h x0 4) (mf_dat eX4_finish 10 rfl) fl_X4_21 rfl (by decide) rfl rfl ck1 ?_
      refine mf_aload_n (mf_dat eX4_finish 11 rfl) rfl rfl ?_
      refine mf_getf (r := (RX4, TX4, 5)) (ci := 4) (k := 3) (t := 0) (v := h x0 3) (mf_dat eX4_finish 12 rfl) fl_X4_25 rfl (by decide) rfl rfl ck1 ?_
      obtain ⟨ck4, hyp⟩ := hyp
      obtain ⟨ck5, hyp⟩ := hyp
      obtain ⟨ck6, hyp⟩ := hyp
      refine mf_iast (mf_dat eX4_finish 13 rfl) ck4 ck5 ck6 ?_
      generalize qh7 : mf_up h (g x0 2) (h x0 4) (h x0 3) = h7
      replace hyp := hyp _ qh7.symm
      refine mf_aload_n (mf_dat eX4_finish 14 rfl) rfl rfl ?_
      refine mf_iconst (v := (-1)) (mf_dat eX4_finish 15 rfl) (by decide) ?_
      refine mf_putI (r := (RX4, TX4, 5)) (ci := 4) (k := 4) (kI := 4) (t := 0) (mf_dat eX4_finish 16 rfl) fl_X4_21 rfl rfl (by decide) rfl (by decide) rfl (by decide) (fun h9 => absurd h9 (by decide)) ck1 ?_
      generalize qh8 : mf_up h7 x0 4 (-1) = h8
      replace hyp := hyp _ qh8.symm
      exact mf_return (mf_dat eX4_finish 17 rfl) rfl hyp
set_option maxRecDepth 100000 in
set_option maxHeartbeats 4000000 in
theorem mX4_add {C : mf_G} {l : Launch} {d n : Nat} {K : mf_Kt} {x0 x1 : Int} {g h : mf_M} (hyp : mf_is n x0 4 ∧ mf_is n (g x0 0) 20 ∧ ((mf_len (g x0 0) ≤ h x0 3 → K 0 g h) ∧ (¬ mf_len (g x0 0) ≤ h x0 3 → 0 ≤ h x0 3 ∧ h x0 3 < mf_len (g x0 0) ∧ (∀ h5 : mf_M, h5 = mf_up h (g x0 0) (h x0 3) x1 → (∀ h6 : mf_M, h6 = mf_up h5 x0 3 (mf_w32 ((h5 x0 3) + 1)) → K 0 g h6))))) : mf_MT C l d YX4_add [(2, x0), (0, x1)] n n g h K := by
  refine mf_entry (by decide) (Nat.le_of_ble_eq_true rfl) ?_
  refine mf_aload_n (mf_dat eX4_add 0 rfl) rfl rfl ?_
  obtain ⟨ck1, hyp⟩ := hyp
  refine mf_getf (r := (RX4, TX4, 5)) (ci := 4) (k := 3) (t := 0) (v := h x0 3) (mf_dat eX4_add 1 rfl) fl_X4_25 rfl (by decide) rfl rfl ck1 ?_
  refine mf_aload_n (mf_dat eX4_add 2 rfl) rfl rfl ?_
  refine mf_getf (r := (RX4, TX4, 5)) (ci := 4) (k := 0) (t := 2) (v := g x0 0) (mf_dat eX4_add 3 rfl) fl_X4_9 rfl (by decide) rfl rfl ck1 ?_
  obtain ⟨ck2, hyp⟩ := hyp
  refine mf_alen (c := 20) (i := 0) (ty := .int) (v := mf_len _) (mf_dat eX4_add 4 rfl) (by decide) rfl ck2 rfl (mf_len_small _) ?_
  refine mf_icmp_ge (tgt := 32) (mf_dat eX4_add 5 rfl) (by decide) (fun hc => ?_) (fun hc => ?_)
  · replace hyp := hyp.1 hc
    exact mf_return (mf_dat eX4_add 18 rfl) rfl hyp
  · replace hyp := hyp.2 hc
    refine mf_aload_n (mf_dat eX4_add 6 rfl) rfl rfl ?_
    refine mf_getf (r := (RX4, TX4, 5)) (ci := 4) (k := 0) (t := 2) (v := g x0 0) (mf_dat eX4_add 7 rfl) fl_X4_9 rfl (by decide) rfl rfl ck1 ?_
    refine mf_aload_n (mf_dat eX4_add 8 rfl) rfl rfl ?_
    refine mf_getf (r := (RX4, TX4, 5)) (ci := 4) (k := 3) (t := 0) (v := h x0 3) (mf_dat eX4_add 9 rfl) fl_X4_25 rfl (by decide) rfl rfl ck1 ?_
    refine mf_iload_n (mf_dat eX4_add 10 rfl) rfl rfl ?_
    obtain ⟨ck3, hyp⟩ := hyp
    obtain ⟨ck4, hyp⟩ := hyp
    refine mf_iast (mf_dat eX4_add 11 rfl) ck2 ck3 ck4 ?_
    generalize qh5 : mf_up h (g x0 0) (h x0 3) x1 = h5
    replace hyp := hyp _ qh5.symm
    refine mf_aload_n (mf_dat eX4_add 12 rfl) rfl rfl ?_
    refine mf_dup (mf_dat eX4_add 13 rfl) (by decide) ?_
    refine mf_getf (r := (RX4, TX4, 5)) (ci := 4) (k := 3) (t := 0) (v := h5 x0 3) (mf_dat eX4_add 14 rfl) fl_X4_25 rfl (by decide) rfl rfl ck1 ?_
    refine mf_iconst (v := 1) (mf_dat eX4_add 15 rfl) (by decide) ?_
    refine mf_iadd (mf_dat eX4_add 16 rfl) ?_
    refine mf_putI (r := (RX4, TX4, 5)) (ci := 4) (k := 3) (kI := 3) (t := 0) (mf_dat eX4_add 17 rfl) fl_X4_25 rfl rfl (by decide) rfl (by decide) rfl (by decide) (fun h9 => absurd h9 (by decide)) ck1 ?_
    generalize qh6 : mf_up h5 x0 3 (mf_w32 ((h5 x0 3) + 1)) = h6
    replace hyp := hyp _ qh6.symm
    exact mf_return (mf_dat eX4_add 18 rfl) rfl hyp
abbrev JX5_init_84 (C : mf_G) (l : Launch) (d n0 n1 n : Nat) (K : mf_Kt) (x0 x2 : Int) (g h : mf_M) : Prop := mf_AW C l YX5_init (mf_rm d n0 n1) n0 (mf_Zm C YX5_init n0 n1 K) (fun _ _ => True) 84 [(0, (2, x0)), (2, (0, x2))] [] n g h
set_option maxRecDepth 100000 in
set_option maxHeartbeats 4000000 in
theorem bX5_init_84 {C : mf_G} {l : Launch} {d n0 n1 n : Nat} {K : mf_Kt} {x0 x2 : Int} {g h : mf_M} (hd : 2 ≤ d) (hn0 : n0 ≤ n) (hyp : mf_is n x0 5 ∧ mf_is n (g x0 1) 25 ∧ ((mf_len (g x0 1) ≤ x2 → n = n1 ∧ K 0 g h) ∧ (¬ mf_len (g x0 1) ≤ x2 → (mf_sh n).1 = 6 ∧ mf_more (mf_rm d n0 n1) n0 n ∧ (∀ j : Nat, g n j = -1) ∧ (∀ j : Nat, h n j = 0) ∧ (∀ v8 : Int, v8 = ((n : Nat) : Int) → n + 7 ≤ n1 ∧ 0 ≤ v8 ∧ mf_MT C l 1 YX6_init [(2, v8)] (n + 1) (n + 7) g h (fun r10 g11 h12 => mf_is (n + 7) (g x0 1) 25 ∧ 0 ≤ x2 ∧ x2 < mf_len (g x0 1) ∧ mf_is (n + 7) v8 6 ∧ (∀ g18 : mf_M, g18 = mf_up g11 (g x0 1) x2 v8 → (∀ v19 : Int, v19 = mf_w32 (x2 + 1) → JX5_init_84 C l d n0 n1 (n + 7) K x0 v19 g18 h12))))))) : JX5_init_84 C l d n0 n1 n K x0 x2 g h := by
  refine mf_iload_n (mf_dat eX5_init 44 rfl) rfl rfl ?_
  refine mf_aload_n (mf_dat eX5_init 45 rfl) rfl rfl ?_
  obtain ⟨ck1, hyp⟩ := hyp
  refine mf_getf (r := (RX5, TX5, 12)) (ci := 5) (k := 1) (t := 2) (v := g x0 1) (mf_dat eX5_init 46 rfl) fl_X5_11 rfl (by decide) rfl rfl ck1 ?_
  obtain ⟨ck2, hyp⟩ := hyp
  refine mf_alen (c := 25) (i := 5) (ty := .object "MarginFolk$State") (v := mf_len _) (mf_dat eX5_init 47 rfl) (by decide) rfl ck2 rfl (mf_len_small _) ?_
  refine mf_icmp_ge (tgt := 112) (mf_dat eX5_init 48 rfl) (by decide) (fun hc => ?_) (fun hc => ?_)
  · replace hyp := hyp.1 hc
    obtain ⟨ck3, hyp⟩ := hyp
    subst ck3
    exact mf_return (mf_dat eX5_init 58 rfl) rfl hyp
  · replace hyp := hyp.2 hc
    refine mf_aload_n (mf_dat eX5_init 49 rfl) rfl rfl ?_
    refine mf_getf (r := (RX5, TX5, 12)) (ci := 5) (k := 1) (t := 2) (v := g x0 1) (mf_dat eX5_init 50 rfl) fl_X5_11 rfl (by decide) rfl rfl ck1 ?_
    refine mf_iload_n (mf_dat eX5_init 51 rfl) rfl rfl ?_
    obtain ⟨ck4, hyp⟩ := hyp
    obtain ⟨ck5, hyp⟩ := hyp
    obtain ⟨ck6, hyp⟩ := hyp
    obtain ⟨ck7, hyp⟩ := hyp
    refine mf_new (r := (RX6, TX6, 8)) (ci := 6) (mf_dat eX5_init 52 rfl) kl_X5_9 in_X6 ii_X6 rfl (by decide) ck4 ck5 ck6 ck7 ?_
    generalize qv8 : ((n : Nat) : Int) = v8
    replace hyp := hyp _ qv8.symm
    refine mf_dup (mf_dat eX5_init 53 rfl) (by decide) ?_
    obtain ⟨ck9, hyp⟩ := hyp
    obtain ⟨ck13, hyp⟩ := hyp
    refine mf_callIN (Yc := YX6_init) (host := "MarginFolk") (mf_dat eX5_init 54 rfl) (List.mem_of_getElem? (i := 7) rfl) okX6_init im_X6_init rfl rfl rfl rfl (Nat.le_of_ble_eq_true rfl) (mf_rr (Nat.le_trans (by decide) hd) ck9) (by omega) ck13 hyp (fun r10 g11 h12 hyp => ?_)
    obtain ⟨ck14, hyp⟩ := hyp
    obtain ⟨ck15, hyp⟩ := hyp
    obtain ⟨ck16, hyp⟩ := hyp
    obtain ⟨ck17, hyp⟩ := hyp
    refine mf_aast (mf_dat eX5_init 55 rfl) ck14 ck15 ck16 ck17 ?_
    generalize qg18 : mf_up g11 (g x0 1) x2 v8 = g18
    replace hyp := hyp _ qg18.symm
    refine mf_iinc (mf_dat eX5_init 56 rfl) rfl (by decide) (by decide) ?_
    generalize qv19 : mf_w32 (x2 + 1) = v19
    replace hyp := hyp _ qv19.symm
    refine mf_goto (tgt := 84) (mf_dat eX5_init 57 rfl) (by decide) ?_
    exact mf_sub [1, 0] rfl hyp
set_option maxRecDepth 100000 in
set_option maxHeartbeats 4000000 in
theorem mX5_init {C : mf_G} {l : Launch} {d n0 n1 : Nat} {K : mf_Kt} {x0 x1 : Int} {g h : mf_M} (hd : 2 ≤ d) (hyp : 0 ≤ x0 ∧ mf_sh n0 = (25, 3) ∧ mf_more (mf_rm d n0 n1) n0 n0 ∧ (∀ j : Nat, g n0 j = -1) ∧ (∀ j : Nat, h n0 j = 0) ∧ mf_is (n0 + 1) x0 5 ∧ (∀ g7 : mf_M, g7 = mf_up g x0 1 ((n0 : Nat) : Int) → (mf_sh (n0 + 1)).1 = 6 ∧ mf_more (mf_rm d n0 n1) n0 (n0 + 1) ∧ (∀ j : Nat, g7 (n0 + 1) j = -1) ∧ (∀ j : Nat, h (n0 + 1) j = 0) ∧ (∀ v12 : Int, v12 = ((n0 + 1 : Nat) : Int) → n0 + 8 ≤ n1 ∧ 0 ≤ v12 ∧ mf_MT C l 1 YX6_init [(2, v12)] (n0 + 2) (n0 + 8) g7 h (fun r14 g15 h16 => mf_is (n0 + 8) x0 5 ∧ (∀ g19 : mf_M, g19 = mf_up g15 x0 2 v12 → mf_sh (n0 + 8) = (20, 3) ∧ mf_more (mf_rm d n0 n1) n0 (n0 + 8) ∧ (∀ j : Nat, g19 (n0 + 8) j = -1) ∧ (∀ j : Nat, h16 (n0 + 8) j = 0) ∧ mf_is (n0 + 9) x0 5 ∧ (∀ g25 : mf_M, g25 = mf_up g19 x0 3 ((n0 + 8 : Nat) : Int) → mf_sh (n0 + 9) = (20, 3) ∧ mf_more (mf_rm d n0 n1) n0 (n0 + 9) ∧ (∀ j : Nat, g25 (n0 + 9) j = -1) ∧ (∀ j : Nat, h16 (n0 + 9) j = 0) ∧ mf_is (n0 + 10) x0 5 ∧ (∀ g31 : mf_M, g31 = mf_up g25 x0 4 ((n0 + 9 : Nat) : Int) → mf_sh (n0 + 10) = (20, 6) ∧ mf_more (mf_rm d n0 n1) n0 (n0 + 10) ∧ (∀ j : Nat, g31 (n0 + 10) j = -1) ∧ (∀ j : Nat, h16 (n0 + 10) j = 0) ∧ mf_is (n0 + 11) x0 5 ∧ (∀ g37 : mf_M, g37 = mf_up g31 x0 5 ((n0 + 10 : Nat) : Int) → mf_sh (n0 + 11) = (20, 6) ∧ mf_more (mf_rm d n0 n1) n0 (n0 + 11) ∧ (∀ j : Nat, g37 (n0 + 11) j = -1) ∧ (∀ j : Nat, h16 (n0 + 11) j = 0) ∧ mf_is (n0 + 12) x0 5 ∧ (∀ g43 : mf_M, g43 = mf_up g37 x0 6 ((n0 + 11 : Nat) : Int) → mf_sh (n0 + 12) = (20, 56) ∧ mf_more (mf_rm d n0 n1) n0 (n0 + 12) ∧ (∀ j : Nat, g43 (n0 + 12) j = -1) ∧ (∀ j : Nat, h16 (n0 + 12) j = 0) ∧ mf_is (n0 + 13) x0 5 ∧ (∀ g49 : mf_M, g49 = mf_up g43 x0 7 ((n0 + 12 : Nat) : Int) → mf_sh (n0 + 13) = (20, 16) ∧ mf_more (mf_rm d n0 n1) n0 (n0 + 13) ∧ (∀ j : Nat, g49 (n0 + 13) j = -1) ∧ (∀ j : Nat, h16 (n0 + 13) j = 0) ∧ mf_is (n0 + 14) x0 5 ∧ (∀ g55 : mf_M, g55 = mf_up g49 x0 8 ((n0 + 13 : Nat) : Int) → mf_sh (n0 + 14) = (20, 16) ∧ mf_more (mf_rm d n0 n1) n0 (n0 + 14) ∧ (∀ j : Nat, g55 (n0 + 14) j = -1) ∧ (∀ j : Nat, h16 (n0 + 14) j = 0) ∧ mf_is (n0 + 15) x0 5 ∧ (∀ g61 : mf_M, g61 = mf_up g55 x0 9 ((n0 + 14 : Nat) : Int) → (∀ g62 : mf_M, g62 = mf_up g61 x0 0 x1 → JX5_init_84 C l d n0 n1 (n0 + 15) K x0 0 g62 h16))))))))))))) : mf_MT C l d YX5_init [(2, x0), (2, x1)] n0 n1 g h K := by
  refine mf_entry (by decide) (Nat.le_of_ble_eq_true rfl) ?_
  refine mf_aload_n (mf_dat eX5_init 0 rfl) rfl rfl ?_
  obtain ⟨ck1, hyp⟩ := hyp
  refine mf_objInit (mf_dat eX5_init 1 rfl) ml_X5_3 im_obj co_obj (mf_rmf hd) (mf_rml hd (Nat.le_of_ble_eq_true rfl)) ck1 ?_
  refine mf_aload_n (mf_dat eX5_init 2 rfl) rfl rfl ?_
  refine mf_iconst (v := 3) (mf_dat eX5_init 3 rfl) (by decide) ?_
  obtain ⟨ck2, hyp⟩ := hyp
  obtain ⟨ck3, hyp⟩ := hyp
  obtain ⟨ck4, hyp⟩ := hyp
  obtain ⟨ck5, hyp⟩ := hyp
  refine mf_anew (mf_dat eX5_init 4 rfl) kl_X5_9 ao_State ck2 rfl (by decide) ck3 ck4 ck5 ?_
  obtain ⟨ck6, hyp⟩ := hyp
  refine mf_putRF (r := (RX5, TX5, 12)) (ci := 5) (k := 1) (kI := 1) (t := 2) (mf_dat eX5_init 5 rfl) fl_X5_11 rfl rfl (by decide) rfl (by decide) rfl rfl rfl (by decide) (fun h9 => absurd h9 (by decide)) ck6 ?_
  generalize qg7 : mf_up g x0 1 ((n0 : Nat) : Int) = g7
  replace hyp := hyp _ qg7.symm
  refine mf_aload_n (mf_dat eX5_init 6 rfl) rfl rfl ?_
  obtain ⟨ck8, hyp⟩ := hyp
  obtain ⟨ck9, hyp⟩ := hyp
  obtain ⟨ck10, hyp⟩ := hyp
  obtain ⟨ck11, hyp⟩ := hyp
  refine mf_new (r := (RX6, TX6, 8)) (ci := 6) (mf_dat eX5_init 7 rfl) kl_X5_9 in_X6 ii_X6 rfl (by decide) ck8 ck9 ck10 ck11 ?_
  generalize qv12 : ((n0 + 1 : Nat) : Int) = v12
  replace hyp := hyp _ qv12.symm
  refine mf_dup (mf_dat eX5_init 8 rfl) (by decide) ?_
  obtain ⟨ck13, hyp⟩ := hyp
  obtain ⟨ck17, hyp⟩ := hyp
  refine mf_callIN (Yc := YX6_init) (host := "MarginFolk") (mf_dat eX5_init 9 rfl) (List.mem_of_getElem? (i := 7) rfl) okX6_init im_X6_init rfl rfl rfl rfl (Nat.le_of_ble_eq_true rfl) (mf_rr (Nat.le_trans (by decide) hd) ck13) (by omega) ck17 hyp (fun r14 g15 h16 hyp => ?_)
  obtain ⟨ck18, hyp⟩ := hyp
  refine mf_putRF (r := (RX5, TX5, 12)) (ci := 5) (k := 2) (kI := 2) (t := 2) (mf_dat eX5_init 10 rfl) fl_X5_18 rfl rfl (by decide) rfl (by decide) rfl rfl rfl (by decide) (fun h9 => absurd h9 (by decide)) ck18 ?_
  generalize qg19 : mf_up g15 x0 2 v12 = g19
  replace hyp := hyp _ qg19.symm
  refine mf_aload_n (mf_dat eX5_init 11 rfl) rfl rfl ?_
  refine mf_iconst (v := 3) (mf_dat eX5_init 12 rfl) (by decide) ?_
  obtain ⟨ck20, hyp⟩ := hyp
  obtain ⟨ck21, hyp⟩ := hyp
  obtain ⟨ck22, hyp⟩ := hyp
  obtain ⟨ck23, hyp⟩ := hyp
  refine mf_newa (at_ := .int) (i := 0) (mf_dat eX5_init 13 rfl) ac_20 rfl ck20 rfl (by decide) rfl rfl (by decide) (by intro c; simp) (by decide) ck21 ck22 ck23 ?_
  obtain ⟨ck24, hyp⟩ := hyp
  refine mf_putRF (r := (RX5, TX5, 12)) (ci := 5) (k := 3) (kI := 3) (t := 2) (mf_dat eX5_init 14 rfl) fl_X5_22 rfl rfl (by decide) rfl (by decide) rfl rfl rfl (by decide) (fun h9 => absurd h9 (by decide)) ck24 ?_
  generalize qg25 : mf_up g19 x0 3 ((n0 + 8 : Nat) : Int) = g25
  replace hyp := hyp _ qg25.symm
  refine mf_aload_n (mf_dat eX5_init 15 rfl) rfl rfl ?_
  refine mf_iconst (v := 3) (mf_dat eX5_init 16 rfl) (by decide) ?_
  obtain ⟨ck26, hyp⟩ := hyp
  obtain ⟨ck27, hyp⟩ := hyp
  obtain ⟨ck28, hyp⟩ := hyp
  obtain ⟨ck29, hyp⟩ := hyp
  refine mf_newa (at_ := .int) (i := 0) (mf_dat eX5_init 17 rfl) ac_20 rfl ck26 rfl (by decide) rfl rfl (by decide) (by intro c; simp) (by decide) ck27 ck28 ck29 ?_
  obtain ⟨ck30, hyp⟩ := hyp
  refine mf_putRF (r := (RX5, TX5, 12)) (ci := 5) (k := 4) (kI := 4) (t := 2) (mf_dat eX5_init 18 rfl) fl_X5_26 rfl rfl (by decide) rfl (by decide) rfl rfl rfl (by decide) (fun h9 => absurd h9 (by decide)) ck30 ?_
  generalize qg31 : mf_up g25 x0 4 ((n0 + 9 : Nat) : Int) = g31
  replace hyp := hyp _ qg31.symm
  refine mf_aload_n (mf_dat eX5_init 19 rfl) rfl rfl ?_
  refine mf_bipush (v := 6) (mf_dat eX5_init 20 rfl) (by decide) ?_
  obtain ⟨ck32, hyp⟩ := hyp
  obtain ⟨ck33, hyp⟩ := hyp
  obtain ⟨ck34, hyp⟩ := hyp
  obtain ⟨ck35, hyp⟩ := hyp
  refine mf_newa (at_ := .int) (i := 0) (mf_dat eX5_init 21 rfl) ac_20 rfl ck32 rfl (by decide) rfl rfl (by decide) (by intro c; simp) (by decide) ck33 ck34 ck35 ?_
  obtain ⟨ck36, hyp⟩ := hyp
  refine mf_putRF (r := (RX5, TX5, 12)) (ci := 5) (k := 5) (kI := 5) (t := 2) (mf_dat eX5_init 22 rfl) fl_X5_29 rfl rfl (by decide) rfl (by decide) rfl rfl rfl (by decide) (fun h9 => absurd h9 (by decide)) ck36 ?_
  generalize qg37 : mf_up g31 x0 5 ((n0 + 10 : Nat) : Int) = g37
  replace hyp := hyp _ qg37.symm
  refine mf_aload_n (mf_dat eX5_init 23 rfl) rfl rfl ?_
  refine mf_bipush (v := 6) (mf_dat eX5_init 24 rfl) (by decide) ?_
  obtain ⟨ck38, hyp⟩ := hyp
  obtain ⟨ck39, hyp⟩ := hyp
  obtain ⟨ck40, hyp⟩ := hyp
  obtain ⟨ck41, hyp⟩ := hyp
  refine mf_newa (at_ := .int) (i := 0) (mf_dat eX5_init 25 rfl) ac_20 rfl ck38 rfl (by decide) rfl rfl (by decide) (by intro c; simp) (by decide) ck39 ck40 ck41 ?_
  obtain ⟨ck42, hyp⟩ := hyp
  refine mf_putRF (r := (RX5, TX5, 12)) (ci := 5) (k := 6) (kI := 6) (t := 2) (mf_dat eX5_init 26 rfl) fl_X5_32 rfl rfl (by decide) rfl (by decide) rfl rfl rfl (by decide) (fun h9 => absurd h9 (by decide)) ck42 ?_
  generalize qg43 : mf_up g37 x0 6 ((n0 + 11 : Nat) : Int) = g43
  replace hyp := hyp _ qg43.symm
  refine mf_aload_n (mf_dat eX5_init 27 rfl) rfl rfl ?_
  refine mf_bipush (v := 56) (mf_dat eX5_init 28 rfl) (by decide) ?_
  obtain ⟨ck44, hyp⟩ := hyp
  obtain ⟨ck45, hyp⟩ := hyp
  obtain ⟨ck46, hyp⟩ := hyp
  obtain ⟨ck47, hyp⟩ := hyp
  refine mf_newa (at_ := .int) (i := 0) (mf_dat eX5_init 29 rfl) ac_20 rfl ck44 rfl (by decide) rfl rfl (by decide) (by intro c; simp) (by decide) ck45 ck46 ck47 ?_
  obtain ⟨ck48, hyp⟩ := hyp
  refine mf_putRF (r := (RX5, TX5, 12)) (ci := 5) (k := 7) (kI := 7) (t := 2) (mf_dat eX5_init 30 rfl) fl_X5_35 rfl rfl (by decide) rfl (by decide) rfl rfl rfl (by decide) (fun h9 => absurd h9 (by decide)) ck48 ?_
  generalize qg49 : mf_up g43 x0 7 ((n0 + 12 : Nat) : Int) = g49
  replace hyp := hyp _ qg49.symm
  refine mf_aload_n (mf_dat eX5_init 31 rfl) rfl rfl ?_
  refine mf_bipush (v := 16) (mf_dat eX5_init 32 rfl) (by decide) ?_
  obtain ⟨ck50, hyp⟩ := hyp
  obtain ⟨ck51, hyp⟩ := hyp
  obtain ⟨ck52, hyp⟩ := hyp
  obtain ⟨ck53, hyp⟩ := hyp
  refine mf_newa (at_ := .int) (i := 0) (mf_dat eX5_init 33 rfl) ac_20 rfl ck50 rfl (by decide) rfl rfl (by decide) (by intro c; simp) (by decide) ck51 ck52 ck53 ?_
  obtain ⟨ck54, hyp⟩ := hyp
  refine mf_putRF (r := (RX5, TX5, 12)) (ci := 5) (k := 8) (kI := 8) (t := 2) (mf_dat eX5_init 34 rfl) fl_X5_38 rfl rfl (by decide) rfl (by decide) rfl rfl rfl (by decide) (fun h9 => absurd h9 (by decide)) ck54 ?_
  generalize qg55 : mf_up g49 x0 8 ((n0 + 13 : Nat) : Int) = g55
  replace hyp := hyp _ qg55.symm
  refine mf_aload_n (mf_dat eX5_init 35 rfl) rfl rfl ?_
  refine mf_bipush (v := 16) (mf_dat eX5_init 36 rfl) (by decide) ?_
  obtain ⟨ck56, hyp⟩ := hyp
  obtain ⟨ck57, hyp⟩ := hyp
  obtain ⟨ck58, hyp⟩ := hyp
  obtain ⟨ck59, hyp⟩ := hyp
  refine mf_newa (at_ := .int) (i := 0) (mf_dat eX5_init 37 rfl) ac_20 rfl ck56 rfl (by decide) rfl rfl (by decide) (by intro c; simp) (by decide) ck57 ck58 ck59 ?_
  obtain ⟨ck60, hyp⟩ := hyp
  refine mf_putRF (r := (RX5, TX5, 12)) (ci := 5) (k := 9) (kI := 9) (t := 2) (mf_dat eX5_init 38 rfl) fl_X5_41 rfl rfl (by decide) rfl (by decide) rfl rfl rfl (by decide) (fun h9 => absurd h9 (by decide)) ck60 ?_
  generalize qg61 : mf_up g55 x0 9 ((n0 + 14 : Nat) : Int) = g61
  replace hyp := hyp _ qg61.symm
  refine mf_aload_n (mf_dat eX5_init 39 rfl) rfl rfl ?_
  refine mf_aload_n (mf_dat eX5_init 40 rfl) rfl rfl ?_
  refine mf_putRF (r := (RX5, TX5, 12)) (ci := 5) (k := 0) (kI := 0) (t := 2) (mf_dat eX5_init 41 rfl) fl_X5_44 rfl rfl (by decide) rfl (by decide) rfl rfl rfl (by decide) (fun h9 => absurd h9 (by decide)) ck60 ?_
  generalize qg62 : mf_up g61 x0 0 x1 = g62
  replace hyp := hyp _ qg62.symm
  refine mf_iconst (v := 0) (mf_dat eX5_init 42 rfl) (by decide) ?_
  refine mf_istore_n (mf_dat eX5_init 43 rfl) rfl (by decide) ?_
  exact mf_sub [1, 0] rfl hyp
abbrev JX5_findApart_13 (C : mf_G) (l : Launch) (d n : Nat) (K : mf_Kt) (x1 x2 x3 x4 x5 : Int) (g h : mf_M) : Prop := mf_AW C l YX5_findApart (mf_rm d n n) n (mf_Zm C YX5_findApart n n K) (fun _ _ => True) 13 [(1, (2, x1)), (2, (2, x2)), (3, (0, x3)), (4, (0, x4)), (5, (0, x5))] [] n g h
set_option maxRecDepth 100000 in
set_option maxHeartbeats 4000000 in
theorem bX5_findApart_13 {C : mf_G} {l : Launch} {d n : Nat} {K : mf_Kt} {x1 x2 x3 x4 x5 : Int} {g h : mf_M} (hd : 4 ≤ d) (hyp : mf_is n x1 1 ∧ ((h x1 8 < x5 → K x3 g h) ∧ (¬ h x1 8 < x5 → mf_MT C l 3 YX0_countPairs [(2, x1), (2, x2), (0, x5)] n n g h (fun r2 g3 h4 => ((x4 ≤ r2 → (∀ v5 : Int, v5 = mf_w32 (x5 + 1) → JX5_findApart_13 C l d n K x1 x2 x3 x4 v5 g3 h4)) ∧ (¬ x4 ≤ r2 → (∀ v6 : Int, v6 = mf_w32 (x5 + 1) → JX5_findApart_13 C l d n K x1 x2 x5 r2 v6 g3 h4))))))) : JX5_findApart_13 C l d n K x1 x2 x3 x4 x5 g h := by
  refine mf_iload (mf_dat eX5_findApart 9 rfl) rfl ?_
  refine mf_aload_n (mf_dat eX5_findApart 10 rfl) rfl rfl ?_
  obtain ⟨ck1, hyp⟩ := hyp
  refine mf_getf (r := (RX1, TX1, 14)) (ci := 1) (k := 8) (t := 0) (v := h x1 8) (mf_dat eX5_findApart 11 rfl) fl_X5_54 rfl (by decide) rfl rfl ck1 ?_
  refine mf_icmp_gt (tgt := 51) (mf_dat eX5_findApart 12 rfl) (by decide) (fun hc => ?_) (fun hc => ?_)
  · replace hyp := hyp.1 hc
    refine mf_iload_n (mf_dat eX5_findApart 27 rfl) rfl rfl ?_
    exact mf_ireturn (mf_dat eX5_findApart 28 rfl) rfl (Or.inl rfl) hyp
  · replace hyp := hyp.2 hc
    refine mf_aload_n (mf_dat eX5_findApart 13 rfl) rfl rfl ?_
    refine mf_aload_n (mf_dat eX5_findApart 14 rfl) rfl rfl ?_
    refine mf_iload (mf_dat eX5_findApart 15 rfl) rfl ?_
    refine mf_callS (Yc := YX0_countPairs) (mf_dat eX5_findApart 16 rfl) ml_X5_48 okX0_countPairs sm_X0_countPairs rfl rfl (Nat.le_of_ble_eq_true rfl) (mf_rr (Nat.le_trans (by decide) hd) (Nat.le_refl _)) (Nat.le_refl _) hyp (fun r2 g3 h4 hyp => ?_)
    refine mf_istore (mf_dat eX5_findApart 17 rfl) (by decide) ?_
    refine mf_iload (mf_dat eX5_findApart 18 rfl) rfl ?_
    refine mf_iload (mf_dat eX5_findApart 19 rfl) rfl ?_
    refine mf_icmp_ge (tgt := 45) (mf_dat eX5_findApart 20 rfl) (by decide) (fun hc => ?_) (fun hc => ?_)
    · replace hyp := hyp.1 hc
      refine mf_iinc (mf_dat eX5_findApart 25 rfl) rfl (by decide) (by decide) ?_
      generalize qv5 : mf_w32 (x5 + 1) = v5
      replace hyp := hyp _ qv5.symm
      refine mf_goto (tgt := 13) (mf_dat eX5_findApart 26 rfl) (by decide) ?_
      exact mf_sub [2, 3, 4, 5, 0] rfl hyp
    · replace hyp := hyp.2 hc
      refine mf_iload (mf_dat eX5_findApart 21 rfl) rfl ?_
      refine mf_istore (mf_dat eX5_findApart 22 rfl) (by decide) ?_
      refine mf_iload (mf_dat eX5_findApart 23 rfl) rfl ?_
      refine mf_istore_n (mf_dat eX5_findApart 24 rfl) rfl (by decide) ?_
      refine mf_iinc (mf_dat eX5_findApart 25 rfl) rfl (by decide) (by decide) ?_
      generalize qv6 : mf_w32 (x5 + 1) = v6
      replace hyp := hyp _ qv6.symm
      refine mf_goto (tgt := 13) (mf_dat eX5_findApart 26 rfl) (by decide) ?_
      exact mf_sub [4, 5, 1, 2, 0] rfl hyp
set_option maxRecDepth 100000 in
set_option maxHeartbeats 4000000 in
theorem mX5_findApart {C : mf_G} {l : Launch} {d n : Nat} {K : mf_Kt} {x0 x1 x2 : Int} {g h : mf_M} (hd : 4 ≤ d) (hyp : mf_MT C l 3 YX0_countPairs [(2, x1), (2, x2), (0, 0)] n n g h (fun r1 g2 h3 => JX5_findApart_13 C l d n K x1 x2 0 r1 1 g2 h3)) : mf_MT C l d YX5_findApart [(2, x0), (2, x1), (2, x2)] n n g h K := by
  refine mf_entry (by decide) (Nat.le_of_ble_eq_true rfl) ?_
  refine mf_iconst (v := 0) (mf_dat eX5_findApart 0 rfl) (by decide) ?_
  refine mf_istore_n (mf_dat eX5_findApart 1 rfl) rfl (by decide) ?_
  refine mf_aload_n (mf_dat eX5_findApart 2 rfl) rfl rfl ?_
  refine mf_aload_n (mf_dat eX5_findApart 3 rfl) rfl rfl ?_
  refine mf_iconst (v := 0) (mf_dat eX5_findApart 4 rfl) (by decide) ?_
  refine mf_callS (Yc := YX0_countPairs) (mf_dat eX5_findApart 5 rfl) ml_X5_48 okX0_countPairs sm_X0_countPairs rfl rfl (Nat.le_of_ble_eq_true rfl) (mf_rr (Nat.le_trans (by decide) hd) (Nat.le_refl _)) (Nat.le_refl _) hyp (fun r1 g2 h3 hyp => ?_)
  refine mf_istore (mf_dat eX5_findApart 6 rfl) (by decide) ?_
  refine mf_iconst (v := 1) (mf_dat eX5_findApart 7 rfl) (by decide) ?_
  refine mf_istore (mf_dat eX5_findApart 8 rfl) (by decide) ?_
  exact mf_sub [4, 5, 2, 1, 0] rfl hyp
set_option maxRecDepth 100000 in
set_option maxHeartbeats 4000000 in
theorem mX5_findReading {C : mf_G} {l : Launch} {d n : Nat} {K : mf_Kt} {x0 x1 x2 x3 x4 : Int} {g h : mf_M} (hd : 67 ≤ d) (hyp : mf_is n x0 5 ∧ (∀ h2 : mf_M, h2 = mf_up h x0 10 1000 → mf_MT C l 66 YX5_tryReadings [(2, x0), (2, x1), (2, x2), (0, x3), (0, 0), (0, 0)] n n g h2 (fun r3 g4 h5 => ((x4 < 0 → K (h5 x0 10) g4 h5) ∧ (¬ x4 < 0 → mf_is n (g4 x0 4) 20 ∧ ((mf_len (g4 x0 4) ≤ x4 → K (h5 x0 10) g4 h5) ∧ (¬ mf_len (g4 x0 4) ≤ x4 → 0 ≤ x4 ∧ x4 < mf_len (g4 x0 4) ∧ K (h5 (g4 x0 4) x4) g4 h5))))))) : mf_MT C l d YX5_findReading [(2, x0), (2, x1), (2, x2), (0, x3), (0, x4)] n n g h K := by
  refine mf_entry (by decide) (Nat.le_of_ble_eq_true rfl) ?_
  refine mf_aload_n (mf_dat eX5_findReading 0 rfl) rfl rfl ?_
  refine mf_sipush (v := 1000) (mf_dat eX5_findReading 1 rfl) (by decide) ?_
  obtain ⟨ck1, hyp⟩ := hyp
  refine mf_putI (r := (RX5, TX5, 12)) (ci := 5) (k := 10) (kI := 10) (t := 0) (mf_dat eX5_findReading 2 rfl) fl_X5_60 rfl rfl (by decide) rfl (by decide) rfl (by decide) (fun h9 => absurd h9 (by decide)) ck1 ?_
  generalize qh2 : mf_up h x0 10 1000 = h2
  replace hyp := hyp _ qh2.symm
  refine mf_aload_n (mf_dat eX5_findReading 3 rfl) rfl rfl ?_
  refine mf_aload_n (mf_dat eX5_findReading 4 rfl) rfl rfl ?_
  refine mf_aload_n (mf_dat eX5_findReading 5 rfl) rfl rfl ?_
  refine mf_iload_n (mf_dat eX5_findReading 6 rfl) rfl rfl ?_
  refine mf_iconst (v := 0) (mf_dat eX5_findReading 7 rfl) (by decide) ?_
  refine mf_iconst (v := 0) (mf_dat eX5_findReading 8 rfl) (by decide) ?_
  refine mf_callV (Yc := YX5_tryReadings) (r := (RX5, TX5, 12)) (ci := 5) (mf_dat eX5_findReading 9 rfl) ml_X5_63 okX5_tryReadings im_X5_tryReadings sl_X5_tryReadings rfl rfl rfl rfl (Nat.le_of_ble_eq_true rfl) (mf_rr (Nat.le_trans (by decide) hd) (Nat.le_refl _)) (Nat.le_refl _) ck1 hyp (fun r3 g4 h5 hyp => ?_)
  refine mf_iload (mf_dat eX5_findReading 10 rfl) rfl ?_
  refine mf_if_lt (tgt := 41) (mf_dat eX5_findReading 11 rfl) (by decide) (fun hc => ?_) (fun hc => ?_)
  · replace hyp := hyp.1 hc
    refine mf_aload_n (mf_dat eX5_findReading 22 rfl) rfl rfl ?_
    refine mf_getf (r := (RX5, TX5, 12)) (ci := 5) (k := 10) (t := 0) (v := h5 x0 10) (mf_dat eX5_findReading 23 rfl) fl_X5_60 rfl (by decide) rfl rfl ck1 ?_
    exact mf_ireturn (mf_dat eX5_findReading 24 rfl) rfl (Or.inl rfl) hyp
  · replace hyp := hyp.2 hc
    refine mf_iload (mf_dat eX5_findReading 12 rfl) rfl ?_
    refine mf_aload_n (mf_dat eX5_findReading 13 rfl) rfl rfl ?_
    refine mf_getf (r := (RX5, TX5, 12)) (ci := 5) (k := 4) (t := 2) (v := g4 x0 4) (mf_dat eX5_findReading 14 rfl) fl_X5_26 rfl (by decide) rfl rfl ck1 ?_
    obtain ⟨ck6, hyp⟩ := hyp
    refine mf_alen (c := 20) (i := 0) (ty := .int) (v := mf_len _) (mf_dat eX5_findReading 15 rfl) (by decide) rfl ck6 rfl (mf_len_small _) ?_
    refine mf_icmp_ge (tgt := 41) (mf_dat eX5_findReading 16 rfl) (by decide) (fun hc => ?_) (fun hc => ?_)
    · replace hyp := hyp.1 hc
      refine mf_aload_n (mf_dat eX5_findReading 22 rfl) rfl rfl ?_
      refine mf_getf (r := (RX5, TX5, 12)) (ci := 5) (k := 10) (t := 0) (v := h5 x0 10) (mf_dat eX5_findReading 23 rfl) fl_X5_60 rfl (by decide) rfl rfl ck1 ?_
      exact mf_ireturn (mf_dat eX5_findReading 24 rfl) rfl (Or.inl rfl) hyp
    · replace hyp := hyp.2 hc
      refine mf_aload_n (mf_dat eX5_findReading 17 rfl) rfl rfl ?_
      refine mf_getf (r := (RX5, TX5, 12)) (ci := 5) (k := 4) (t := 2) (v := g4 x0 4) (mf_dat eX5_findReading 18 rfl) fl_X5_26 rfl (by decide) rfl rfl ck1 ?_
      refine mf_iload (mf_dat eX5_findReading 19 rfl) rfl ?_
      obtain ⟨ck7, hyp⟩ := hyp
      obtain ⟨ck8, hyp⟩ := hyp
      refine mf_iald (mf_dat eX5_findReading 20 rfl) ck6 ck7 ck8 ?_
      refine mf_goto (tgt := 45) (mf_dat eX5_findReading 21 rfl) (by decide) ?_
      exact mf_ireturn (mf_dat eX5_findReading 24 rfl) rfl (Or.inl rfl) hyp
abbrev JX5_tryReadings_15 (C : mf_G) (l : Launch) (d n : Nat) (K : mf_Kt) (x0 x1 x2 x3 x4 x5 x6 : Int) (g h : mf_M) : Prop := mf_AW C l YX5_tryReadings (mf_rm d n n) n (mf_Zm C YX5_tryReadings n n K) (fun _ _ => True) 15 [(0, (2, x0)), (1, (2, x1)), (2, (2, x2)), (3, (0, x3)), (4, (0, x4)), (5, (0, x5)), (6, (0, x6))] [] n g h
set_option maxRecDepth 100000 in
set_option maxHeartbeats 4000000 in
theorem bX5_tryReadings_15 {C : mf_G} {l : Launch} {e n : Nat} {K : mf_Kt} {x0 x1 x2 x3 x4 x5 x6 : Int} {g h : mf_M} (hd : 6 ≤ e + 1) (hyp : mf_is n x1 1 ∧ ((h x1 8 < x6 → K 0 g h) ∧ (¬ h x1 8 < x6 → mf_is n x0 5 ∧ ((h x0 10 ≤ 0 → K 0 g h) ∧ (¬ h x0 10 ≤ 0 → mf_MT C l 3 YX0_countPairs [(2, x1), (2, x2), (0, x6)] n n g h (fun r3 g4 h5 => (∀ v6 : Int, v6 = mf_w32 (x5 + r3) → ((h5 x0 10 ≤ v6 → (∀ v7 : Int, v7 = mf_w32 (x6 + 1) → JX5_tryReadings_15 C l (e + 1) n K x0 x1 x2 x3 x4 x5 v7 g4 h5)) ∧ (¬ h5 x0 10 ≤ v6 → mf_is n (g4 x0 3) 20 ∧ 0 ≤ x4 ∧ x4 < mf_len (g4 x0 3) ∧ (∀ h11 : mf_M, h11 = mf_up h5 (g4 x0 3) x4 x6 → ((mf_w32 (x4 + 1) < x3 → mf_is n (g4 x0 1) 25 ∧ x4 < mf_len (g4 x0 1) ∧ (∀ v14 : Int, v14 = g4 (g4 x0 1) x4 → mf_is n v14 6 ∧ mf_MT C l 1 YX6_copyFolk [(2, v14), (2, x2)] n n g4 h11 (fun r15 g16 h17 => mf_is n (g16 x0 0) 0 ∧ mf_MT C l 5 YX0_passDay [(2, g16 x0 0), (2, x1), (2, v14), (0, x6)] n n g16 h17 (fun r19 g20 h21 => mf_MT C l e YX5_tryReadings [(2, x0), (2, x1), (2, v14), (0, x3), (0, mf_w32 (x4 + 1)), (0, v6)] n n g20 h21 (fun r23 g24 h25 => (∀ v26 : Int, v26 = mf_w32 (x6 + 1) → JX5_tryReadings_15 C l (e + 1) n K x0 x1 x2 x3 x4 x5 v26 g24 h25)))))) ∧ (¬ mf_w32 (x4 + 1) < x3 → (∀ h27 : mf_M, h27 = mf_up h11 x0 10 v6 → mf_is n (g4 x0 4) 20 ∧ 0 + 3 ≤ mf_len (g4 x0 3) ∧ 0 + 3 ≤ mf_len (g4 x0 4) ∧ (∀ h31 : mf_M, h31 = mf_cpy h27 (g4 x0 3) (g4 x0 4) 0 0 3 → (∀ v32 : Int, v32 = mf_w32 (x6 + 1) → JX5_tryReadings_15 C l (e + 1) n K x0 x1 x2 x3 x4 x5 v32 g4 h31))))))))))))))) : JX5_tryReadings_15 C l (e + 1) n K x0 x1 x2 x3 x4 x5 x6 g h := by
  refine mf_iload (mf_dat eX5_tryReadings_p0 8 rfl) rfl ?_
  refine mf_aload_n (mf_dat eX5_tryReadings_p0 9 rfl) rfl rfl ?_
  obtain ⟨ck1, hyp⟩ := hyp
  refine mf_getf (r := (RX1, TX1, 14)) (ci := 1) (k := 8) (t := 0) (v := h x1 8) (mf_dat eX5_tryReadings_p0 10 rfl) fl_X5_54 rfl (by decide) rfl rfl ck1 ?_
  refine mf_icmp_gt (tgt := 140) (mf_dat eX5_tryReadings_p0 11 rfl) (by decide) (fun hc => ?_) (fun hc => ?_)
  · replace hyp := hyp.1 hc
    exact mf_return (mf_dat eX5_tryReadings_p1 14 rfl) rfl hyp
  · replace hyp := hyp.2 hc
    refine mf_aload_n (mf_dat eX5_tryReadings_p0 12 rfl) rfl rfl ?_
    obtain ⟨ck2, hyp⟩ := hyp
    refine mf_getf (r := (RX5, TX5, 12)) (ci := 5) (k := 10) (t := 0) (v := h x0 10) (mf_dat eX5_tryReadings_p0 13 rfl) fl_X5_60 rfl (by decide) rfl rfl ck2 ?_
    refine mf_if_le (tgt := 140) (mf_dat eX5_tryReadings_p0 14 rfl) (by decide) (fun hc => ?_) (fun hc => ?_)
    · replace hyp := hyp.1 hc
      exact mf_return (mf_dat eX5_tryReadings_p1 14 rfl) rfl hyp
    · replace hyp := hyp.2 hc
      refine mf_iload (mf_dat eX5_tryReadings_p0 15 rfl) rfl ?_
      refine mf_aload_n (mf_dat eX5_tryReadings_p0 16 rfl) rfl rfl ?_
      refine mf_aload_n (mf_dat eX5_tryReadings_p0 17 rfl) rfl rfl ?_
      refine mf_iload (mf_dat eX5_tryReadings_p0 18 rfl) rfl ?_
      refine mf_callS (Yc := YX0_countPairs) (mf_dat eX5_tryReadings_p0 19 rfl) ml_X5_48 okX0_countPairs sm_X0_countPairs rfl rfl (Nat.le_of_ble_eq_true rfl) (mf_rr (Nat.le_trans (by decide) hd) (Nat.le_refl _)) (Nat.le_refl _) hyp (fun r3 g4 h5 hyp => ?_)
      refine mf_iadd (mf_dat eX5_tryReadings_p0 20 rfl) ?_
      generalize qv6 : mf_w32 (x5 + r3) = v6
      replace hyp := hyp _ qv6.symm
      refine mf_istore (mf_dat eX5_tryReadings_p0 21 rfl) (by decide) ?_
      refine mf_iload (mf_dat eX5_tryReadings_p0 22 rfl) rfl ?_
      refine mf_aload_n (mf_dat eX5_tryReadings_p0 23 rfl) rfl rfl ?_
      refine mf_getf (r := (RX5, TX5, 12)) (ci := 5) (k := 10) (t := 0) (v := h5 x0 10) (mf_dat eX5_tryReadings_p0 24 rfl) fl_X5_60 rfl (by decide) rfl rfl ck2 ?_
      refine mf_icmp_ge (tgt := 134) (mf_dat eX5_tryReadings_p0 25 rfl) (by decide) (fun hc => ?_) (fun hc => ?_)
      · replace hyp := hyp.1 hc
        refine mf_iinc (mf_dat eX5_tryReadings_p1 12 rfl) rfl (by decide) (by decide) ?_
        generalize qv7 : mf_w32 (x6 + 1) = v7
        replace hyp := hyp _ qv7.symm
        refine mf_goto (tgt := 15) (mf_dat eX5_tryReadings_p1 13 rfl) (by decide) ?_
        exact mf_sub [2, 3, 4, 5, 6, 7, 0] rfl hyp
      · replace hyp := hyp.2 hc
        refine mf_aload_n (mf_dat eX5_tryReadings_p0 26 rfl) rfl rfl ?_
        refine mf_getf (r := (RX5, TX5, 12)) (ci := 5) (k := 3) (t := 2) (v := g4 x0 3) (mf_dat eX5_tryReadings_p0 27 rfl) fl_X5_22 rfl (by decide) rfl rfl ck2 ?_
        refine mf_iload (mf_dat eX5_tryReadings_p0 28 rfl) rfl ?_
        refine mf_iload (mf_dat eX5_tryReadings_p0 29 rfl) rfl ?_
        obtain ⟨ck8, hyp⟩ := hyp
        obtain ⟨ck9, hyp⟩ := hyp
        obtain ⟨ck10, hyp⟩ := hyp
        refine mf_iast (mf_dat eX5_tryReadings_p0 30 rfl) ck8 ck9 ck10 ?_
        generalize qh11 : mf_up h5 (g4 x0 3) x4 x6 = h11
        replace hyp := hyp _ qh11.symm
        refine mf_iload (mf_dat eX5_tryReadings_p0 31 rfl) rfl ?_
        refine mf_iconst (v := 1) (mf_dat eX5_tryReadings_p0 32 rfl) (by decide) ?_
        refine mf_iadd (mf_dat eX5_tryReadings_p0 33 rfl) ?_
        refine mf_iload_n (mf_dat eX5_tryReadings_p0 34 rfl) rfl rfl ?_
        refine mf_icmp_lt (tgt := 92) (mf_dat eX5_tryReadings_p0 35 rfl) (by decide) (fun hc => ?_) (fun hc => ?_)
        · replace hyp := hyp.1 hc
          refine mf_aload_n (mf_dat eX5_tryReadings_p0 48 rfl) rfl rfl ?_
          refine mf_getf (r := (RX5, TX5, 12)) (ci := 5) (k := 1) (t := 2) (v := g4 x0 1) (mf_dat eX5_tryReadings_p0 49 rfl) fl_X5_11 rfl (by decide) rfl rfl ck2 ?_
          refine mf_iload (mf_dat eX5_tryReadings_p0 50 rfl) rfl ?_
          obtain ⟨ck12, hyp⟩ := hyp
          obtain ⟨ck13, hyp⟩ := hyp
          refine mf_aald (mf_dat eX5_tryReadings_p0 51 rfl) ck12 ck9 ck13 ?_
          generalize qv14 : g4 (g4 x0 1) x4 = v14
          replace hyp := hyp _ qv14.symm
          refine mf_astore (mf_dat eX5_tryReadings_p0 52 rfl) (by decide) ?_
          refine mf_aload (mf_dat eX5_tryReadings_p0 53 rfl) rfl ?_
          refine mf_aload_n (mf_dat eX5_tryReadings_p0 54 rfl) rfl rfl ?_
          obtain ⟨ck18, hyp⟩ := hyp
          refine mf_callV (Yc := YX6_copyFolk) (r := (RX6, TX6, 8)) (ci := 6) (mf_dat eX5_tryReadings_p0 55 rfl) ml_X5_73 okX6_copyFolk im_X6_copyFolk sl_X6_copyFolk rfl rfl rfl rfl (Nat.le_of_ble_eq_true rfl) (mf_rr (Nat.le_trans (by decide) hd) (Nat.le_refl _)) (Nat.le_refl _) ck18 hyp (fun r15 g16 h17 hyp => ?_)
          refine mf_aload_n (mf_dat eX5_tryReadings_p0 56 rfl) rfl rfl ?_
          refine mf_getf (r := (RX5, TX5, 12)) (ci := 5) (k := 0) (t := 2) (v := g16 x0 0) (mf_dat eX5_tryReadings_p0 57 rfl) fl_X5_44 rfl (by decide) rfl rfl ck2 ?_
          refine mf_aload_n (mf_dat eX5_tryReadings_p0 58 rfl) rfl rfl ?_
          refine mf_aload (mf_dat eX5_tryReadings_p0 59 rfl) rfl ?_
          refine mf_iload (mf_dat eX5_tryReadings_p1 0 rfl) rfl ?_
          obtain ⟨ck22, hyp⟩ := hyp
          refine mf_callV (Yc := YX0_passDay) (r := (RX0, TX0, 1)) (ci := 0) (mf_dat eX5_tryReadings_p1 1 rfl) ml_X5_77 okX0_passDay im_X0_passDay sl_X0_passDay rfl rfl rfl rfl (Nat.le_of_ble_eq_true rfl) (mf_rr (Nat.le_trans (by decide) hd) (Nat.le_refl _)) (Nat.le_refl _) ck22 hyp (fun r19 g20 h21 hyp => ?_)
          refine mf_pop (mf_dat eX5_tryReadings_p1 2 rfl) (by decide) ?_
          refine mf_aload_n (mf_dat eX5_tryReadings_p1 3 rfl) rfl rfl ?_
          refine mf_aload_n (mf_dat eX5_tryReadings_p1 4 rfl) rfl rfl ?_
          refine mf_aload (mf_dat eX5_tryReadings_p1 5 rfl) rfl ?_
          refine mf_iload_n (mf_dat eX5_tryReadings_p1 6 rfl) rfl rfl ?_
          refine mf_iload (mf_dat eX5_tryReadings_p1 7 rfl) rfl ?_
          refine mf_iconst (v := 1) (mf_dat eX5_tryReadings_p1 8 rfl) (by decide) ?_
          refine mf_iadd (mf_dat eX5_tryReadings_p1 9 rfl) ?_
          refine mf_iload (mf_dat eX5_tryReadings_p1 10 rfl) rfl ?_
          refine mf_callV (Yc := YX5_tryReadings) (r := (RX5, TX5, 12)) (ci := 5) (mf_dat eX5_tryReadings_p1 11 rfl) ml_X5_63 okX5_tryReadings im_X5_tryReadings sl_X5_tryReadings rfl rfl rfl rfl (Nat.le_of_ble_eq_true rfl) (mf_rr (Nat.le_refl _) (Nat.le_refl _)) (Nat.le_refl _) ck2 hyp (fun r23 g24 h25 hyp => ?_)
          refine mf_iinc (mf_dat eX5_tryReadings_p1 12 rfl) rfl (by decide) (by decide) ?_
          generalize qv26 : mf_w32 (x6 + 1) = v26
          replace hyp := hyp _ qv26.symm
          refine mf_goto (tgt := 15) (mf_dat eX5_tryReadings_p1 13 rfl) (by decide) ?_
          exact mf_sub [3, 4, 5, 6, 7, 8, 0] rfl hyp
        · replace hyp := hyp.2 hc
          refine mf_aload_n (mf_dat eX5_tryReadings_p0 36 rfl) rfl rfl ?_
          refine mf_iload (mf_dat eX5_tryReadings_p0 37 rfl) rfl ?_
          refine mf_putI (r := (RX5, TX5, 12)) (ci := 5) (k := 10) (kI := 10) (t := 0) (mf_dat eX5_tryReadings_p0 38 rfl) fl_X5_60 rfl rfl (by decide) rfl (by decide) rfl (by decide) (fun h9 => absurd h9 (by decide)) ck2 ?_
          generalize qh27 : mf_up h11 x0 10 v6 = h27
          replace hyp := hyp _ qh27.symm
          refine mf_aload_n (mf_dat eX5_tryReadings_p0 39 rfl) rfl rfl ?_
          refine mf_getf (r := (RX5, TX5, 12)) (ci := 5) (k := 3) (t := 2) (v := g4 x0 3) (mf_dat eX5_tryReadings_p0 40 rfl) fl_X5_22 rfl (by decide) rfl rfl ck2 ?_
          refine mf_iconst (v := 0) (mf_dat eX5_tryReadings_p0 41 rfl) (by decide) ?_
          refine mf_aload_n (mf_dat eX5_tryReadings_p0 42 rfl) rfl rfl ?_
          refine mf_getf (r := (RX5, TX5, 12)) (ci := 5) (k := 4) (t := 2) (v := g4 x0 4) (mf_dat eX5_tryReadings_p0 43 rfl) fl_X5_26 rfl (by decide) rfl rfl ck2 ?_
          refine mf_iconst (v := 0) (mf_dat eX5_tryReadings_p0 44 rfl) (by decide) ?_
          refine mf_iconst (v := 3) (mf_dat eX5_tryReadings_p0 45 rfl) (by decide) ?_
          obtain ⟨ck28, hyp⟩ := hyp
          obtain ⟨ck29, hyp⟩ := hyp
          obtain ⟨ck30, hyp⟩ := hyp
          refine mf_acopy (mf_dat eX5_tryReadings_p0 46 rfl) ml_X5_67 na_copy st_copy ii_System ck8 ck28 (by decide) (by decide) (by decide) ck29 ck30 (mf_rmf hd) (mf_rml hd (Nat.le_of_ble_eq_true rfl)) ?_
          generalize qh31 : mf_cpy h27 (g4 x0 3) (g4 x0 4) 0 0 3 = h31
          replace hyp := hyp _ qh31.symm
          refine mf_goto (tgt := 134) (mf_dat eX5_tryReadings_p0 47 rfl) (by decide) ?_
          refine mf_iinc (mf_dat eX5_tryReadings_p1 12 rfl) rfl (by decide) (by decide) ?_
          generalize qv32 : mf_w32 (x6 + 1) = v32
          replace hyp := hyp _ qv32.symm
          refine mf_goto (tgt := 15) (mf_dat eX5_tryReadings_p1 13 rfl) (by decide) ?_
          exact mf_sub [2, 3, 4, 5, 6, 7, 0] rfl hyp
set_option maxRecDepth 100000 in
set_option maxHeartbeats 4000000 in
theorem mX5_tryReadings {C : mf_G} {l : Launch} {e n : Nat} {K : mf_Kt} {x0 x1 x2 x3 x4 x5 : Int} {g h : mf_M} (hd : 1 ≤ e + 1) (hyp : ((x4 < 0 → K 0 g h) ∧ (¬ x4 < 0 → ((x4 < 3 → JX5_tryReadings_15 C l (e + 1) n K x0 x1 x2 x3 x4 x5 0 g h) ∧ (¬ x4 < 3 → K 0 g h))))) : mf_MT C l (e + 1) YX5_tryReadings [(2, x0), (2, x1), (2, x2), (0, x3), (0, x4), (0, x5)] n n g h K := by
  refine mf_entry (by decide) (Nat.le_of_ble_eq_true rfl) ?_
  refine mf_iload (mf_dat eX5_tryReadings_p0 0 rfl) rfl ?_
  refine mf_if_lt (tgt := 11) (mf_dat eX5_tryReadings_p0 1 rfl) (by decide) (fun hc => ?_) (fun hc => ?_)
  · replace hyp := hyp.1 hc
    exact mf_return (mf_dat eX5_tryReadings_p0 5 rfl) rfl hyp
  · replace hyp := hyp.2 hc
    refine mf_iload (mf_dat eX5_tryReadings_p0 2 rfl) rfl ?_
    refine mf_iconst (v := 3) (mf_dat eX5_tryReadings_p0 3 rfl) (by decide) ?_
    refine mf_icmp_lt (tgt := 12) (mf_dat eX5_tryReadings_p0 4 rfl) (by decide) (fun hc => ?_) (fun hc => ?_)
    · replace hyp := hyp.1 hc
      refine mf_iconst (v := 0) (mf_dat eX5_tryReadings_p0 6 rfl) (by decide) ?_
      refine mf_istore (mf_dat eX5_tryReadings_p0 7 rfl) (by decide) ?_
      exact mf_sub [1, 2, 3, 4, 5, 6, 0] rfl hyp
    · replace hyp := hyp.2 hc
      exact mf_return (mf_dat eX5_tryReadings_p0 5 rfl) rfl hyp
abbrev JX5_lookAhead_11 (C : mf_G) (l : Launch) (d n : Nat) (K : mf_Kt) (x0 x1 x3 x4 : Int) (g h : mf_M) : Prop := mf_AW C l YX5_lookAhead (mf_rm d n n) n (mf_Zm C YX5_lookAhead n n K) (fun _ _ => True) 11 [(0, (2, x0)), (1, (2, x1)), (3, (0, x3)), (4, (0, x4))] [] n g h
abbrev JX5_lookAhead_38 (C : mf_G) (l : Launch) (d n : Nat) (K : mf_Kt) (x0 x1 x3 x4 : Int) (g h : mf_M) : Prop := mf_AW C l YX5_lookAhead (mf_rm d n n) n (mf_Zm C YX5_lookAhead n n K) (fun _ _ => True) 38 [(0, (2, x0)), (1, (2, x1)), (3, (0, x3)), (4, (0, x4))] [] n g h
set_option maxRecDepth 100000 in
set_option maxHeartbeats 4000000 in
theorem bX5_lookAhead_11 {C : mf_G} {l : Launch} {d n : Nat} {K : mf_Kt} {x0 x1 x3 x4 : Int} {g h : mf_M} (hyp : ((8 ≤ x4 → JX5_lookAhead_38 C l d n K x0 x1 x3 0 g h) ∧ (¬ 8 ≤ x4 → mf_is n x0 5 ∧ mf_is n (g x0 2) 6 ∧ mf_is n (g (g x0 2) 4) 20 ∧ 0 ≤ x4 ∧ x4 < mf_len (g (g x0 2) 4) ∧ (∀ h6 : mf_M, h6 = mf_up h (g (g x0 2) 4) x4 0 → (∀ v7 : Int, v7 = mf_w32 (x4 + 1) → JX5_lookAhead_11 C l d n K x0 x1 x3 v7 g h6))))) : JX5_lookAhead_11 C l d n K x0 x1 x3 x4 g h := by
  refine mf_iload (mf_dat eX5_lookAhead 6 rfl) rfl ?_
  refine mf_bipush (v := 8) (mf_dat eX5_lookAhead 7 rfl) (by decide) ?_
  refine mf_icmp_ge (tgt := 35) (mf_dat eX5_lookAhead 8 rfl) (by decide) (fun hc => ?_) (fun hc => ?_)
  · replace hyp := hyp.1 hc
    refine mf_iconst (v := 0) (mf_dat eX5_lookAhead 17 rfl) (by decide) ?_
    refine mf_istore (mf_dat eX5_lookAhead 18 rfl) (by decide) ?_
    exact mf_sub [1, 2, 3, 0] rfl hyp
  · replace hyp := hyp.2 hc
    refine mf_aload_n (mf_dat eX5_lookAhead 9 rfl) rfl rfl ?_
    obtain ⟨ck1, hyp⟩ := hyp
    refine mf_getf (r := (RX5, TX5, 12)) (ci := 5) (k := 2) (t := 2) (v := g x0 2) (mf_dat eX5_lookAhead 10 rfl) fl_X5_18 rfl (by decide) rfl rfl ck1 ?_
    obtain ⟨ck2, hyp⟩ := hyp
    refine mf_getf (r := (RX6, TX6, 8)) (ci := 6) (k := 4) (t := 2) (v := g (g x0 2) 4) (mf_dat eX5_lookAhead 11 rfl) fl_X5_80 rfl (by decide) rfl rfl ck2 ?_
    refine mf_iload (mf_dat eX5_lookAhead 12 rfl) rfl ?_
    refine mf_iconst (v := 0) (mf_dat eX5_lookAhead 13 rfl) (by decide) ?_
    obtain ⟨ck3, hyp⟩ := hyp
    obtain ⟨ck4, hyp⟩ := hyp
    obtain ⟨ck5, hyp⟩ := hyp
    refine mf_iast (mf_dat eX5_lookAhead 14 rfl) ck3 ck4 ck5 ?_
    generalize qh6 : mf_up h (g (g x0 2) 4) x4 0 = h6
    replace hyp := hyp _ qh6.symm
    refine mf_iinc (mf_dat eX5_lookAhead 15 rfl) rfl (by decide) (by decide) ?_
    generalize qv7 : mf_w32 (x4 + 1) = v7
    replace hyp := hyp _ qv7.symm
    refine mf_goto (tgt := 11) (mf_dat eX5_lookAhead 16 rfl) (by decide) ?_
    exact mf_sub [1, 2, 3, 0] rfl hyp
set_option maxRecDepth 100000 in
set_option maxHeartbeats 4000000 in
theorem bX5_lookAhead_38 {C : mf_G} {l : Launch} {d n : Nat} {K : mf_Kt} {x0 x1 x3 x4 : Int} {g h : mf_M} (hd : 6 ≤ d) (hyp : ((x3 ≤ x4 → mf_is n x0 5 ∧ K (g x0 2) g h) ∧ (¬ x3 ≤ x4 → mf_is n x0 5 ∧ mf_is n (g x0 2) 6 ∧ mf_is n (g x0 0) 0 ∧ mf_MT C l 4 YX0_openingOf [(2, g x0 0), (2, x1), (0, h (g x0 2) 7)] n n g h (fun r4 g5 h6 => mf_MT C l 5 YX0_passDay [(2, g x0 0), (2, x1), (2, g x0 2), (0, r4)] n n g5 h6 (fun r8 g9 h10 => (∀ v11 : Int, v11 = mf_w32 (x4 + 1) → JX5_lookAhead_38 C l d n K x0 x1 x3 v11 g9 h10)))))) : JX5_lookAhead_38 C l d n K x0 x1 x3 x4 g h := by
  refine mf_iload (mf_dat eX5_lookAhead 19 rfl) rfl ?_
  refine mf_iload_n (mf_dat eX5_lookAhead 20 rfl) rfl rfl ?_
  refine mf_icmp_ge (tgt := 78) (mf_dat eX5_lookAhead 21 rfl) (by decide) (fun hc => ?_) (fun hc => ?_)
  · replace hyp := hyp.1 hc
    refine mf_aload_n (mf_dat eX5_lookAhead 38 rfl) rfl rfl ?_
    obtain ⟨ck1, hyp⟩ := hyp
    refine mf_getf (r := (RX5, TX5, 12)) (ci := 5) (k := 2) (t := 2) (v := g x0 2) (mf_dat eX5_lookAhead 39 rfl) fl_X5_18 rfl (by decide) rfl rfl ck1 ?_
    exact mf_areturn (mf_dat eX5_lookAhead 40 rfl) rfl (Or.inl ⟨_, rfl⟩) hyp
  · replace hyp := hyp.2 hc
    refine mf_aload_n (mf_dat eX5_lookAhead 22 rfl) rfl rfl ?_
    obtain ⟨ck2, hyp⟩ := hyp
    refine mf_getf (r := (RX5, TX5, 12)) (ci := 5) (k := 0) (t := 2) (v := g x0 0) (mf_dat eX5_lookAhead 23 rfl) fl_X5_44 rfl (by decide) rfl rfl ck2 ?_
    refine mf_aload_n (mf_dat eX5_lookAhead 24 rfl) rfl rfl ?_
    refine mf_aload_n (mf_dat eX5_lookAhead 25 rfl) rfl rfl ?_
    refine mf_getf (r := (RX5, TX5, 12)) (ci := 5) (k := 2) (t := 2) (v := g x0 2) (mf_dat eX5_lookAhead 26 rfl) fl_X5_18 rfl (by decide) rfl rfl ck2 ?_
    refine mf_aload_n (mf_dat eX5_lookAhead 27 rfl) rfl rfl ?_
    refine mf_getf (r := (RX5, TX5, 12)) (ci := 5) (k := 0) (t := 2) (v := g x0 0) (mf_dat eX5_lookAhead 28 rfl) fl_X5_44 rfl (by decide) rfl rfl ck2 ?_
    refine mf_aload_n (mf_dat eX5_lookAhead 29 rfl) rfl rfl ?_
    refine mf_aload_n (mf_dat eX5_lookAhead 30 rfl) rfl rfl ?_
    refine mf_getf (r := (RX5, TX5, 12)) (ci := 5) (k := 2) (t := 2) (v := g x0 2) (mf_dat eX5_lookAhead 31 rfl) fl_X5_18 rfl (by decide) rfl rfl ck2 ?_
    obtain ⟨ck3, hyp⟩ := hyp
    refine mf_getf (r := (RX6, TX6, 8)) (ci := 6) (k := 7) (t := 0) (v := h (g x0 2) 7) (mf_dat eX5_lookAhead 32 rfl) fl_X5_83 rfl (by decide) rfl rfl ck3 ?_
    obtain ⟨ck7, hyp⟩ := hyp
    refine mf_callV (Yc := YX0_openingOf) (r := (RX0, TX0, 1)) (ci := 0) (mf_dat eX5_lookAhead 33 rfl) ml_X5_86 okX0_openingOf im_X0_openingOf sl_X0_openingOf rfl rfl rfl rfl (Nat.le_of_ble_eq_true rfl) (mf_rr (Nat.le_trans (by decide) hd) (Nat.le_refl _)) (Nat.le_refl _) ck7 hyp (fun r4 g5 h6 hyp => ?_)
    refine mf_callV (Yc := YX0_passDay) (r := (RX0, TX0, 1)) (ci := 0) (mf_dat eX5_lookAhead 34 rfl) ml_X5_77 okX0_passDay im_X0_passDay sl_X0_passDay rfl rfl rfl rfl (Nat.le_of_ble_eq_true rfl) (mf_rr (Nat.le_trans (by decide) hd) (Nat.le_refl _)) (Nat.le_refl _) ck7 hyp (fun r8 g9 h10 hyp => ?_)
    refine mf_pop (mf_dat eX5_lookAhead 35 rfl) (by decide) ?_
    refine mf_iinc (mf_dat eX5_lookAhead 36 rfl) rfl (by decide) (by decide) ?_
    generalize qv11 : mf_w32 (x4 + 1) = v11
    replace hyp := hyp _ qv11.symm
    refine mf_goto (tgt := 38) (mf_dat eX5_lookAhead 37 rfl) (by decide) ?_
    exact mf_sub [1, 2, 3, 0] rfl hyp
set_option maxRecDepth 100000 in
set_option maxHeartbeats 4000000 in
theorem mX5_lookAhead {C : mf_G} {l : Launch} {d n : Nat} {K : mf_Kt} {x0 x1 x2 x3 : Int} {g h : mf_M} (hd : 2 ≤ d) (hyp : mf_is n x0 5 ∧ mf_is n (g x0 2) 6 ∧ mf_MT C l 1 YX6_copyFolk [(2, g x0 2), (2, x2)] n n g h (fun r2 g3 h4 => JX5_lookAhead_11 C l d n K x0 x1 x3 0 g3 h4)) : mf_MT C l d YX5_lookAhead [(2, x0), (2, x1), (2, x2), (0, x3)] n n g h K := by
  refine mf_entry (by decide) (Nat.le_of_ble_eq_true rfl) ?_
  refine mf_aload_n (mf_dat eX5_lookAhead 0 rfl) rfl rfl ?_
  obtain ⟨ck1, hyp⟩ := hyp
  refine mf_getf (r := (RX5, TX5, 12)) (ci := 5) (k := 2) (t := 2) (v := g x0 2) (mf_dat eX5_lookAhead 1 rfl) fl_X5_18 rfl (by decide) rfl rfl ck1 ?_
  refine mf_aload_n (mf_dat eX5_lookAhead 2 rfl) rfl rfl ?_
  obtain ⟨ck5, hyp⟩ := hyp
  refine mf_callV (Yc := YX6_copyFolk) (r := (RX6, TX6, 8)) (ci := 6) (mf_dat eX5_lookAhead 3 rfl) ml_X5_73 okX6_copyFolk im_X6_copyFolk sl_X6_copyFolk rfl rfl rfl rfl (Nat.le_of_ble_eq_true rfl) (mf_rr (Nat.le_trans (by decide) hd) (Nat.le_refl _)) (Nat.le_refl _) ck5 hyp (fun r2 g3 h4 hyp => ?_)
  refine mf_iconst (v := 0) (mf_dat eX5_lookAhead 4 rfl) (by decide) ?_
  refine mf_istore (mf_dat eX5_lookAhead 5 rfl) (by decide) ?_
  exact mf_sub [1, 2, 4, 0] rfl hyp
abbrev JX5_findWay_3 (C : mf_G) (l : Launch) (d n : Nat) (K : mf_Kt) (x0 x1 x2 x3 x4 x5 x6 : Int) (g h : mf_M) : Prop := mf_AW C l YX5_findWay (mf_rm d n n) n (mf_Zm C YX5_findWay n n K) (fun _ _ => True) 3 [(0, (2, x0)), (1, (2, x1)), (2, (2, x2)), (3, (0, x3)), (4, (0, x4)), (5, (0, x5)), (6, (0, x6))] [] n g h
abbrev JX5_findWay_46 (C : mf_G) (l : Launch) (d n : Nat) (K : mf_Kt) (x0 x1 x2 x4 x5 x6 : Int) (g h : mf_M) : Prop := mf_AW C l YX5_findWay (mf_rm d n n) n (mf_Zm C YX5_findWay n n K) (fun _ _ => True) 46 [(0, (2, x0)), (1, (2, x1)), (2, (2, x2)), (4, (0, x4)), (5, (0, x5)), (6, (0, x6))] [] n g h
set_option maxRecDepth 100000 in
set_option maxHeartbeats 4000000 in
theorem bX5_findWay_3 {C : mf_G} {l : Launch} {d n : Nat} {K : mf_Kt} {x0 x1 x2 x3 x4 x5 x6 : Int} {g h : mf_M} (hyp : ((6 ≤ x6 → mf_is n x0 5 ∧ mf_is n x2 6 ∧ mf_is n (g x2 1) 20 ∧ 0 ≤ x3 ∧ x3 < mf_len (g x2 1) ∧ mf_is n (g x2 2) 20 ∧ x3 < mf_len (g x2 2) ∧ mf_is n (g x0 5) 20 ∧ 0 ≤ h (g x2 1) x3 ∧ h (g x2 1) x3 < mf_len (g x0 5) ∧ (∀ h11 : mf_M, h11 = mf_up h (g x0 5) (h (g x2 1) x3) (mf_shl 1 (h (g x2 2) x3)) → JX5_findWay_46 C l d n K x0 x1 x2 x4 x5 0 g h11)) ∧ (¬ 6 ≤ x6 → mf_is n x0 5 ∧ mf_is n (g x0 5) 20 ∧ 0 ≤ x6 ∧ x6 < mf_len (g x0 5) ∧ (∀ h16 : mf_M, h16 = mf_up h (g x0 5) x6 0 → (∀ v17 : Int, v17 = mf_w32 (x6 + 1) → JX5_findWay_3 C l d n K x0 x1 x2 x3 x4 x5 v17 g h16))))) : JX5_findWay_3 C l d n K x0 x1 x2 x3 x4 x5 x6 g h := by
  refine mf_iload (mf_dat eX5_findWay_p0 2 rfl) rfl ?_
  refine mf_bipush (v := 6) (mf_dat eX5_findWay_p0 3 rfl) (by decide) ?_
  refine mf_icmp_ge (tgt := 24) (mf_dat eX5_findWay_p0 4 rfl) (by decide) (fun hc => ?_) (fun hc => ?_)
  · replace hyp := hyp.1 hc
    refine mf_aload_n (mf_dat eX5_findWay_p0 12 rfl) rfl rfl ?_
    obtain ⟨ck1, hyp⟩ := hyp
    refine mf_getf (r := (RX5, TX5, 12)) (ci := 5) (k := 5) (t := 2) (v := g x0 5) (mf_dat eX5_findWay_p0 13 rfl) fl_X5_29 rfl (by decide) rfl rfl ck1 ?_
    refine mf_aload_n (mf_dat eX5_findWay_p0 14 rfl) rfl rfl ?_
    obtain ⟨ck2, hyp⟩ := hyp
    refine mf_getf (r := (RX6, TX6, 8)) (ci := 6) (k := 1) (t := 2) (v := g x2 1) (mf_dat eX5_findWay_p0 15 rfl) fl_X5_90 rfl (by decide) rfl rfl ck2 ?_
    refine mf_iload_n (mf_dat eX5_findWay_p0 16 rfl) rfl rfl ?_
    obtain ⟨ck3, hyp⟩ := hyp
    obtain ⟨ck4, hyp⟩ := hyp
    obtain ⟨ck5, hyp⟩ := hyp
    refine mf_iald (mf_dat eX5_findWay_p0 17 rfl) ck3 ck4 ck5 ?_
    refine mf_iconst (v := 1) (mf_dat eX5_findWay_p0 18 rfl) (by decide) ?_
    refine mf_aload_n (mf_dat eX5_findWay_p0 19 rfl) rfl rfl ?_
    refine mf_getf (r := (RX6, TX6, 8)) (ci := 6) (k := 2) (t := 2) (v := g x2 2) (mf_dat eX5_findWay_p0 20 rfl) fl_X5_93 rfl (by decide) rfl rfl ck2 ?_
    refine mf_iload_n (mf_dat eX5_findWay_p0 21 rfl) rfl rfl ?_
    obtain ⟨ck6, hyp⟩ := hyp
    obtain ⟨ck7, hyp⟩ := hyp
    refine mf_iald (mf_dat eX5_findWay_p0 22 rfl) ck6 ck4 ck7 ?_
    refine mf_ishl (mf_dat eX5_findWay_p0 23 rfl) ?_
    obtain ⟨ck8, hyp⟩ := hyp
    obtain ⟨ck9, hyp⟩ := hyp
    obtain ⟨ck10, hyp⟩ := hyp
    refine mf_iast (mf_dat eX5_findWay_p0 24 rfl) ck8 ck9 ck10 ?_
    generalize qh11 : mf_up h (g x0 5) (h (g x2 1) x3) (mf_shl 1 (h (g x2 2) x3)) = h11
    replace hyp := hyp _ qh11.symm
    refine mf_iconst (v := 0) (mf_dat eX5_findWay_p0 25 rfl) (by decide) ?_
    refine mf_istore (mf_dat eX5_findWay_p0 26 rfl) (by decide) ?_
    exact mf_sub [1, 2, 3, 5, 6, 0] rfl hyp
  · replace hyp := hyp.2 hc
    refine mf_aload_n (mf_dat eX5_findWay_p0 5 rfl) rfl rfl ?_
    obtain ⟨ck12, hyp⟩ := hyp
    refine mf_getf (r := (RX5, TX5, 12)) (ci := 5) (k := 5) (t := 2) (v := g x0 5) (mf_dat eX5_findWay_p0 6 rfl) fl_X5_29 rfl (by decide) rfl rfl ck12 ?_
    refine mf_iload (mf_dat eX5_findWay_p0 7 rfl) rfl ?_
    refine mf_iconst (v := 0) (mf_dat eX5_findWay_p0 8 rfl) (by decide) ?_
    obtain ⟨ck13, hyp⟩ := hyp
    obtain ⟨ck14, hyp⟩ := hyp
    obtain ⟨ck15, hyp⟩ := hyp
    refine mf_iast (mf_dat eX5_findWay_p0 9 rfl) ck13 ck14 ck15 ?_
    generalize qh16 : mf_up h (g x0 5) x6 0 = h16
    replace hyp := hyp _ qh16.symm
    refine mf_iinc (mf_dat eX5_findWay_p0 10 rfl) rfl (by decide) (by decide) ?_
    generalize qv17 : mf_w32 (x6 + 1) = v17
    replace hyp := hyp _ qv17.symm
    refine mf_goto (tgt := 3) (mf_dat eX5_findWay_p0 11 rfl) (by decide) ?_
    exact mf_sub [1, 2, 3, 4, 5, 6, 0] rfl hyp
set_option maxRecDepth 100000 in
set_option maxHeartbeats 4000000 in
theorem bX5_findWay_46 {C : mf_G} {l : Launch} {d n : Nat} {K : mf_Kt} {x0 x1 x2 x4 x5 x6 : Int} {g h : mf_M} (hd : 5 ≤ d) (hyp : ((40 < x6 → K (-1) g h) ∧ (¬ 40 < x6 → mf_is n x2 6 ∧ ((999 < mf_w32 ((h x2 7) + x6) → K (-1) g h) ∧ (¬ 999 < mf_w32 ((h x2 7) + x6) → mf_is n x0 5 ∧ mf_is n (g x0 5) 20 ∧ 0 ≤ x4 ∧ x4 < mf_len (g x0 5) ∧ ((¬ mf_and (mf_shr (h (g x0 5) x4) x5) 1 = 1 → mf_is n (g x0 0) 0 ∧ mf_MT C l 4 YX0_openingOf [(2, g x0 0), (2, x1), (0, mf_w32 ((h x2 7) + x6))] n n g h (fun r6 g7 h8 => mf_MT C l 2 YX5_spread [(2, x0), (2, x1), (2, x2), (0, r6)] n n g7 h8 (fun r10 g11 h12 => (∀ v13 : Int, v13 = mf_w32 (x6 + 1) → JX5_findWay_46 C l d n K x0 x1 x2 x4 x5 v13 g11 h12)))) ∧ (mf_and (mf_shr (h (g x0 5) x4) x5) 1 = 1 → K x6 g h))))))) : JX5_findWay_46 C l d n K x0 x1 x2 x4 x5 x6 g h := by
  refine mf_iload (mf_dat eX5_findWay_p0 27 rfl) rfl ?_
  refine mf_bipush (v := 40) (mf_dat eX5_findWay_p0 28 rfl) (by decide) ?_
  refine mf_icmp_gt (tgt := 112) (mf_dat eX5_findWay_p0 29 rfl) (by decide) (fun hc => ?_) (fun hc => ?_)
  · replace hyp := hyp.1 hc
    refine mf_iconst (v := (-1)) (mf_dat eX5_findWay_p1 2 rfl) (by decide) ?_
    exact mf_ireturn (mf_dat eX5_findWay_p1 3 rfl) rfl (Or.inl rfl) hyp
  · replace hyp := hyp.2 hc
    refine mf_aload_n (mf_dat eX5_findWay_p0 30 rfl) rfl rfl ?_
    obtain ⟨ck1, hyp⟩ := hyp
    refine mf_getf (r := (RX6, TX6, 8)) (ci := 6) (k := 7) (t := 0) (v := h x2 7) (mf_dat eX5_findWay_p0 31 rfl) fl_X5_83 rfl (by decide) rfl rfl ck1 ?_
    refine mf_iload (mf_dat eX5_findWay_p0 32 rfl) rfl ?_
    refine mf_iadd (mf_dat eX5_findWay_p0 33 rfl) ?_
    refine mf_sipush (v := 999) (mf_dat eX5_findWay_p0 34 rfl) (by decide) ?_
    refine mf_icmp_gt (tgt := 112) (mf_dat eX5_findWay_p0 35 rfl) (by decide) (fun hc => ?_) (fun hc => ?_)
    · replace hyp := hyp.1 hc
      refine mf_iconst (v := (-1)) (mf_dat eX5_findWay_p1 2 rfl) (by decide) ?_
      exact mf_ireturn (mf_dat eX5_findWay_p1 3 rfl) rfl (Or.inl rfl) hyp
    · replace hyp := hyp.2 hc
      refine mf_aload_n (mf_dat eX5_findWay_p0 36 rfl) rfl rfl ?_
      obtain ⟨ck2, hyp⟩ := hyp
      refine mf_getf (r := (RX5, TX5, 12)) (ci := 5) (k := 5) (t := 2) (v := g x0 5) (mf_dat eX5_findWay_p0 37 rfl) fl_X5_29 rfl (by decide) rfl rfl ck2 ?_
      refine mf_iload (mf_dat eX5_findWay_p0 38 rfl) rfl ?_
      obtain ⟨ck3, hyp⟩ := hyp
      obtain ⟨ck4, hyp⟩ := hyp
      obtain ⟨ck5, hyp⟩ := hyp
      refine mf_iald (mf_dat eX5_findWay_p0 39 rfl) ck3 ck4 ck5 ?_
      refine mf_iload (mf_dat eX5_findWay_p0 40 rfl) rfl ?_
      refine mf_ishr (mf_dat eX5_findWay_p0 41 rfl) ?_
      refine mf_iconst (v := 1) (mf_dat eX5_findWay_p0 42 rfl) (by decide) ?_
      refine mf_iand (mf_dat eX5_findWay_p0 43 rfl) ?_
      refine mf_iconst (v := 1) (mf_dat eX5_findWay_p0 44 rfl) (by decide) ?_
      refine mf_icmp_ne (tgt := 85) (mf_dat eX5_findWay_p0 45 rfl) (by decide) (fun hc => ?_) (fun hc => ?_)
      · replace hyp := hyp.1 hc
        refine mf_aload_n (mf_dat eX5_findWay_p0 48 rfl) rfl rfl ?_
        refine mf_aload_n (mf_dat eX5_findWay_p0 49 rfl) rfl rfl ?_
        refine mf_aload_n (mf_dat eX5_findWay_p0 50 rfl) rfl rfl ?_
        refine mf_aload_n (mf_dat eX5_findWay_p0 51 rfl) rfl rfl ?_
        refine mf_getf (r := (RX5, TX5, 12)) (ci := 5) (k := 0) (t := 2) (v := g x0 0) (mf_dat eX5_findWay_p0 52 rfl) fl_X5_44 rfl (by decide) rfl rfl ck2 ?_
        refine mf_aload_n (mf_dat eX5_findWay_p0 53 rfl) rfl rfl ?_
        refine mf_aload_n (mf_dat eX5_findWay_p0 54 rfl) rfl rfl ?_
        refine mf_getf (r := (RX6, TX6, 8)) (ci := 6) (k := 7) (t := 0) (v := h x2 7) (mf_dat eX5_findWay_p0 55 rfl) fl_X5_83 rfl (by decide) rfl rfl ck1 ?_
        refine mf_iload (mf_dat eX5_findWay_p0 56 rfl) rfl ?_
        refine mf_iadd (mf_dat eX5_findWay_p0 57 rfl) ?_
        obtain ⟨ck9, hyp⟩ := hyp
        refine mf_callV (Yc := YX0_openingOf) (r := (RX0, TX0, 1)) (ci := 0) (mf_dat eX5_findWay_p0 58 rfl) ml_X5_86 okX0_openingOf im_X0_openingOf sl_X0_openingOf rfl rfl rfl rfl (Nat.le_of_ble_eq_true rfl) (mf_rr (Nat.le_trans (by decide) hd) (Nat.le_refl _)) (Nat.le_refl _) ck9 hyp (fun r6 g7 h8 hyp => ?_)
        refine mf_callV (Yc := YX5_spread) (r := (RX5, TX5, 12)) (ci := 5) (mf_dat eX5_findWay_p0 59 rfl) ml_X5_96 okX5_spread im_X5_spread sl_X5_spread rfl rfl rfl rfl (Nat.le_of_ble_eq_true rfl) (mf_rr (Nat.le_trans (by decide) hd) (Nat.le_refl _)) (Nat.le_refl _) ck2 hyp (fun r10 g11 h12 hyp => ?_)
        refine mf_iinc (mf_dat eX5_findWay_p1 0 rfl) rfl (by decide) (by decide) ?_
        generalize qv13 : mf_w32 (x6 + 1) = v13
        replace hyp := hyp _ qv13.symm
        refine mf_goto (tgt := 46) (mf_dat eX5_findWay_p1 1 rfl) (by decide) ?_
        exact mf_sub [1, 2, 3, 4, 5, 0] rfl hyp
      · replace hyp := hyp.2 hc
        refine mf_iload (mf_dat eX5_findWay_p0 46 rfl) rfl ?_
        exact mf_ireturn (mf_dat eX5_findWay_p0 47 rfl) rfl (Or.inl rfl) hyp
set_option maxRecDepth 100000 in
set_option maxHeartbeats 4000000 in
theorem mX5_findWay {C : mf_G} {l : Launch} {d n : Nat} {K : mf_Kt} {x0 x1 x2 x3 x4 x5 : Int} {g h : mf_M} (hyp : JX5_findWay_3 C l d n K x0 x1 x2 x3 x4 x5 0 g h) : mf_MT C l d YX5_findWay [(2, x0), (2, x1), (2, x2), (0, x3), (0, x4), (0, x5)] n n g h K := by
  refine mf_entry (by decide) (Nat.le_of_ble_eq_true rfl) ?_
  refine mf_iconst (v := 0) (mf_dat eX5_findWay_p0 0 rfl) (by decide) ?_
  refine mf_istore (mf_dat eX5_findWay_p0 1 rfl) (by decide) ?_
  exact mf_sub [1, 2, 3, 4, 5, 6, 0] rfl hyp
abbrev JX5_spread_3 (C : mf_G) (l : Launch) (d n : Nat) (K : mf_Kt) (x0 x1 x2 x3 x4 : Int) (g h : mf_M) : Prop := mf_AW C l YX5_spread (mf_rm d n n) n (mf_Zm C YX5_spread n n K) (fun _ _ => True) 3 [(0, (2, x0)), (1, (2, x1)), (2, (2, x2)), (3, (0, x3)), (4, (0, x4))] [] n g h
abbrev JX5_spread_73 (C : mf_G) (l : Launch) (d n : Nat) (K : mf_Kt) (x0 x1 x2 x3 x4 : Int) (g h : mf_M) : Prop := mf_AW C l YX5_spread (mf_rm d n n) n (mf_Zm C YX5_spread n n K) (fun _ _ => True) 73 [(0, (2, x0)), (1, (2, x1)), (2, (2, x2)), (3, (0, x3)), (4, (0, x4))] [] n g h
abbrev JX5_spread_117 (C : mf_G) (l : Launch) (d n : Nat) (K : mf_Kt) (x0 x1 x2 x4 : Int) (g h : mf_M) : Prop := mf_AW C l YX5_spread (mf_rm d n n) n (mf_Zm C YX5_spread n n K) (fun _ _ => True) 117 [(0, (2, x0)), (1, (2, x1)), (2, (2, x2)), (4, (0, x4))] [] n g h
abbrev JX5_spread_214 (C : mf_G) (l : Launch) (d n : Nat) (K : mf_Kt) (x0 x1 x2 x4 x5 : Int) (g h : mf_M) : Prop := mf_AW C l YX5_spread (mf_rm d n n) n (mf_Zm C YX5_spread n n K) (fun _ _ => True) 214 [(0, (2, x0)), (1, (2, x1)), (2, (2, x2)), (4, (0, x4)), (5, (0, x5))] [] n g h
set_option maxRecDepth 100000 in
set_option maxHeartbeats 4000000 in
theorem bX5_spread_3 {C : mf_G} {l : Launch} {d n : Nat} {K : mf_Kt} {x0 x1 x2 x3 x4 : Int} {g h : mf_M} (hd : 2 ≤ d) (hyp : mf_is n x1 1 ∧ ((h x1 8 ≤ x4 → JX5_spread_117 C l d n K x0 x1 x2 0 g h) ∧ (¬ h x1 8 ≤ x4 → mf_is n x0 5 ∧ mf_is n (g x0 5) 20 ∧ 0 ≤ x4 ∧ x4 < mf_len (g x0 5) ∧ (∀ v6 : Int, v6 = h (g x0 5) x4 → mf_is n (g x0 6) 20 ∧ x4 < mf_len (g x0 6) ∧ (∀ h9 : mf_M, h9 = mf_up h (g x0 6) x4 (mf_or (mf_or v6 (mf_shl v6 1)) (mf_shr v6 1)) → mf_MT C l 1 YX0_liesOnNext [(2, x1), (0, x3), (0, x4)] n n g h9 (fun r10 g11 h12 => ((r10 = 0 → JX5_spread_73 C l d n K x0 x1 x2 x3 x4 g11 h12) ∧ (¬ r10 = 0 → mf_is n (g11 x0 6) 20 ∧ x4 < mf_len (g11 x0 6) ∧ mf_is n (g11 x0 5) 20 ∧ 0 ≤ mf_w32 (x4 + 1) ∧ mf_w32 (x4 + 1) < mf_len (g11 x0 5) ∧ mf_MT C l 1 YX5_mirrorBits [(2, x1), (0, h12 (g11 x0 5) (mf_w32 (x4 + 1)))] n n g11 h12 (fun r18 g19 h20 => (∀ h21 : mf_M, h21 = mf_up h20 (g11 x0 6) x4 (mf_or (h12 (g11 x0 6) x4) r18) → JX5_spread_73 C l d n K x0 x1 x2 x3 x4 g19 h21)))))))))) : JX5_spread_3 C l d n K x0 x1 x2 x3 x4 g h := by
  refine mf_iload (mf_dat eX5_spread_p0 2 rfl) rfl ?_
  refine mf_aload_n (mf_dat eX5_spread_p0 3 rfl) rfl rfl ?_
  obtain ⟨ck1, hyp⟩ := hyp
  refine mf_getf (r := (RX1, TX1, 14)) (ci := 1) (k := 8) (t := 0) (v := h x1 8) (mf_dat eX5_spread_p0 4 rfl) fl_X5_54 rfl (by decide) rfl rfl ck1 ?_
  refine mf_icmp_ge (tgt := 114) (mf_dat eX5_spread_p0 5 rfl) (by decide) (fun hc => ?_) (fun hc => ?_)
  · replace hyp := hyp.1 hc
    refine mf_iconst (v := 0) (mf_dat eX5_spread_p1 8 rfl) (by decide) ?_
    refine mf_istore (mf_dat eX5_spread_p1 9 rfl) (by decide) ?_
    exact mf_sub [1, 2, 3, 0] rfl hyp
  · replace hyp := hyp.2 hc
    refine mf_aload_n (mf_dat eX5_spread_p0 6 rfl) rfl rfl ?_
    obtain ⟨ck2, hyp⟩ := hyp
    refine mf_getf (r := (RX5, TX5, 12)) (ci := 5) (k := 5) (t := 2) (v := g x0 5) (mf_dat eX5_spread_p0 7 rfl) fl_X5_29 rfl (by decide) rfl rfl ck2 ?_
    refine mf_iload (mf_dat eX5_spread_p0 8 rfl) rfl ?_
    obtain ⟨ck3, hyp⟩ := hyp
    obtain ⟨ck4, hyp⟩ := hyp
    obtain ⟨ck5, hyp⟩ := hyp
    refine mf_iald (mf_dat eX5_spread_p0 9 rfl) ck3 ck4 ck5 ?_
    generalize qv6 : h (g x0 5) x4 = v6
    replace hyp := hyp _ qv6.symm
    refine mf_istore (mf_dat eX5_spread_p0 10 rfl) (by decide) ?_
    refine mf_aload_n (mf_dat eX5_spread_p0 11 rfl) rfl rfl ?_
    refine mf_getf (r := (RX5, TX5, 12)) (ci := 5) (k := 6) (t := 2) (v := g x0 6) (mf_dat eX5_spread_p0 12 rfl) fl_X5_32 rfl (by decide) rfl rfl ck2 ?_
    refine mf_iload (mf_dat eX5_spread_p0 13 rfl) rfl ?_
    refine mf_iload (mf_dat eX5_spread_p0 14 rfl) rfl ?_
    refine mf_iload (mf_dat eX5_spread_p0 15 rfl) rfl ?_
    refine mf_iconst (v := 1) (mf_dat eX5_spread_p0 16 rfl) (by decide) ?_
    refine mf_ishl (mf_dat eX5_spread_p0 17 rfl) ?_
    refine mf_ior (mf_dat eX5_spread_p0 18 rfl) ?_
    refine mf_iload (mf_dat eX5_spread_p0 19 rfl) rfl ?_
    refine mf_iconst (v := 1) (mf_dat eX5_spread_p0 20 rfl) (by decide) ?_
    refine mf_ishr (mf_dat eX5_spread_p0 21 rfl) ?_
    refine mf_ior (mf_dat eX5_spread_p0 22 rfl) ?_
    obtain ⟨ck7, hyp⟩ := hyp
    obtain ⟨ck8, hyp⟩ := hyp
    refine mf_iast (mf_dat eX5_spread_p0 23 rfl) ck7 ck4 ck8 ?_
    generalize qh9 : mf_up h (g x0 6) x4 (mf_or (mf_or v6 (mf_shl v6 1)) (mf_shr v6 1)) = h9
    replace hyp := hyp _ qh9.symm
    refine mf_aload_n (mf_dat eX5_spread_p0 24 rfl) rfl rfl ?_
    refine mf_iload_n (mf_dat eX5_spread_p0 25 rfl) rfl rfl ?_
    refine mf_iload (mf_dat eX5_spread_p0 26 rfl) rfl ?_
    refine mf_callS (Yc := YX0_liesOnNext) (mf_dat eX5_spread_p0 27 rfl) ml_X5_100 okX0_liesOnNext sm_X0_liesOnNext rfl rfl (Nat.le_of_ble_eq_true rfl) (mf_rr (Nat.le_trans (by decide) hd) (Nat.le_refl _)) (Nat.le_refl _) hyp (fun r10 g11 h12 hyp => ?_)
    refine mf_if_eq (tgt := 73) (mf_dat eX5_spread_p0 28 rfl) (by decide) (fun hc => ?_) (fun hc => ?_)
    · replace hyp := hyp.1 hc
      exact mf_sub [1, 2, 3, 4, 5] rfl hyp
    · replace hyp := hyp.2 hc
      refine mf_aload_n (mf_dat eX5_spread_p0 29 rfl) rfl rfl ?_
      refine mf_getf (r := (RX5, TX5, 12)) (ci := 5) (k := 6) (t := 2) (v := g11 x0 6) (mf_dat eX5_spread_p0 30 rfl) fl_X5_32 rfl (by decide) rfl rfl ck2 ?_
      refine mf_iload (mf_dat eX5_spread_p0 31 rfl) rfl ?_
      refine mf_dup2 (mf_dat eX5_spread_p0 32 rfl) (by decide) (by decide) ?_
      obtain ⟨ck13, hyp⟩ := hyp
      obtain ⟨ck14, hyp⟩ := hyp
      refine mf_iald (mf_dat eX5_spread_p0 33 rfl) ck13 ck4 ck14 ?_
      refine mf_aload_n (mf_dat eX5_spread_p0 34 rfl) rfl rfl ?_
      refine mf_aload_n (mf_dat eX5_spread_p0 35 rfl) rfl rfl ?_
      refine mf_getf (r := (RX5, TX5, 12)) (ci := 5) (k := 5) (t := 2) (v := g11 x0 5) (mf_dat eX5_spread_p0 36 rfl) fl_X5_29 rfl (by decide) rfl rfl ck2 ?_
      refine mf_iload (mf_dat eX5_spread_p0 37 rfl) rfl ?_
      refine mf_iconst (v := 1) (mf_dat eX5_spread_p0 38 rfl) (by decide) ?_
      refine mf_iadd (mf_dat eX5_spread_p0 39 rfl) ?_
      obtain ⟨ck15, hyp⟩ := hyp
      obtain ⟨ck16, hyp⟩ := hyp
      obtain ⟨ck17, hyp⟩ := hyp
      refine mf_iald (mf_dat eX5_spread_p0 40 rfl) ck15 ck16 ck17 ?_
      refine mf_callS (Yc := YX5_mirrorBits) (mf_dat eX5_spread_p0 41 rfl) ml_X5_104 okX5_mirrorBits sm_X5_mirrorBits rfl rfl (Nat.le_of_ble_eq_true rfl) (mf_rr (Nat.le_trans (by decide) hd) (Nat.le_refl _)) (Nat.le_refl _) hyp (fun r18 g19 h20 hyp => ?_)
      refine mf_ior (mf_dat eX5_spread_p0 42 rfl) ?_
      refine mf_iast (mf_dat eX5_spread_p0 43 rfl) ck13 ck4 ck14 ?_
      generalize qh21 : mf_up h20 (g11 x0 6) x4 (mf_or (h12 (g11 x0 6) x4) r18) = h21
      replace hyp := hyp _ qh21.symm
      exact mf_sub [1, 2, 3, 4, 5] rfl hyp
set_option maxRecDepth 100000 in
set_option maxHeartbeats 4000000 in
theorem bX5_spread_73 {C : mf_G} {l : Launch} {d n : Nat} {K : mf_Kt} {x0 x1 x2 x3 x4 : Int} {g h : mf_M} (hd : 2 ≤ d) (hyp : mf_MT C l 1 YX0_liesOnNext [(2, x1), (0, x3), (0, mf_w32 (x4 - 1))] n n g h (fun r1 g2 h3 => ((r1 = 0 → (∀ v4 : Int, v4 = mf_w32 (x4 + 1) → JX5_spread_3 C l d n K x0 x1 x2 x3 v4 g2 h3)) ∧ (¬ r1 = 0 → mf_is n x0 5 ∧ mf_is n (g2 x0 6) 20 ∧ 0 ≤ x4 ∧ x4 < mf_len (g2 x0 6) ∧ mf_is n (g2 x0 5) 20 ∧ 0 ≤ mf_w32 (x4 - 1) ∧ mf_w32 (x4 - 1) < mf_len (g2 x0 5) ∧ mf_MT C l 1 YX5_mirrorBits [(2, x1), (0, h3 (g2 x0 5) (mf_w32 (x4 - 1)))] n n g2 h3 (fun r12 g13 h14 => (∀ h15 : mf_M, h15 = mf_up h14 (g2 x0 6) x4 (mf_or (h3 (g2 x0 6) x4) r12) → (∀ v16 : Int, v16 = mf_w32 (x4 + 1) → JX5_spread_3 C l d n K x0 x1 x2 x3 v16 g13 h15))))))) : JX5_spread_73 C l d n K x0 x1 x2 x3 x4 g h := by
  refine mf_aload_n (mf_dat eX5_spread_p0 44 rfl) rfl rfl ?_
  refine mf_iload_n (mf_dat eX5_spread_p0 45 rfl) rfl rfl ?_
  refine mf_iload (mf_dat eX5_spread_p0 46 rfl) rfl ?_
  refine mf_iconst (v := 1) (mf_dat eX5_spread_p0 47 rfl) (by decide) ?_
  refine mf_isub (mf_dat eX5_spread_p0 48 rfl) ?_
  refine mf_callS (Yc := YX0_liesOnNext) (mf_dat eX5_spread_p0 49 rfl) ml_X5_100 okX0_liesOnNext sm_X0_liesOnNext rfl rfl (Nat.le_of_ble_eq_true rfl) (mf_rr (Nat.le_trans (by decide) hd) (Nat.le_refl _)) (Nat.le_refl _) hyp (fun r1 g2 h3 hyp => ?_)
  refine mf_if_eq (tgt := 108) (mf_dat eX5_spread_p0 50 rfl) (by decide) (fun hc => ?_) (fun hc => ?_)
  · replace hyp := hyp.1 hc
    refine mf_iinc (mf_dat eX5_spread_p1 6 rfl) rfl (by decide) (by decide) ?_
    generalize qv4 : mf_w32 (x4 + 1) = v4
    replace hyp := hyp _ qv4.symm
    refine mf_goto (tgt := 3) (mf_dat eX5_spread_p1 7 rfl) (by decide) ?_
    exact mf_sub [1, 2, 3, 4, 0] rfl hyp
  · replace hyp := hyp.2 hc
    refine mf_aload_n (mf_dat eX5_spread_p0 51 rfl) rfl rfl ?_
    obtain ⟨ck5, hyp⟩ := hyp
    refine mf_getf (r := (RX5, TX5, 12)) (ci := 5) (k := 6) (t := 2) (v := g2 x0 6) (mf_dat eX5_spread_p0 52 rfl) fl_X5_32 rfl (by decide) rfl rfl ck5 ?_
    refine mf_iload (mf_dat eX5_spread_p0 53 rfl) rfl ?_
    refine mf_dup2 (mf_dat eX5_spread_p0 54 rfl) (by decide) (by decide) ?_
    obtain ⟨ck6, hyp⟩ := hyp
    obtain ⟨ck7, hyp⟩ := hyp
    obtain ⟨ck8, hyp⟩ := hyp
    refine mf_iald (mf_dat eX5_spread_p0 55 rfl) ck6 ck7 ck8 ?_
    refine mf_aload_n (mf_dat eX5_spread_p0 56 rfl) rfl rfl ?_
    refine mf_aload_n (mf_dat eX5_spread_p0 57 rfl) rfl rfl ?_
    refine mf_getf (r := (RX5, TX5, 12)) (ci := 5) (k := 5) (t := 2) (v := g2 x0 5) (mf_dat eX5_spread_p0 58 rfl) fl_X5_29 rfl (by decide) rfl rfl ck5 ?_
    refine mf_iload (mf_dat eX5_spread_p0 59 rfl) rfl ?_
    refine mf_iconst (v := 1) (mf_dat eX5_spread_p1 0 rfl) (by decide) ?_
    refine mf_isub (mf_dat eX5_spread_p1 1 rfl) ?_
    obtain ⟨ck9, hyp⟩ := hyp
    obtain ⟨ck10, hyp⟩ := hyp
    obtain ⟨ck11, hyp⟩ := hyp
    refine mf_iald (mf_dat eX5_spread_p1 2 rfl) ck9 ck10 ck11 ?_
    refine mf_callS (Yc := YX5_mirrorBits) (mf_dat eX5_spread_p1 3 rfl) ml_X5_104 okX5_mirrorBits sm_X5_mirrorBits rfl rfl (Nat.le_of_ble_eq_true rfl) (mf_rr (Nat.le_trans (by decide) hd) (Nat.le_refl _)) (Nat.le_refl _) hyp (fun r12 g13 h14 hyp => ?_)
    refine mf_ior (mf_dat eX5_spread_p1 4 rfl) ?_
    refine mf_iast (mf_dat eX5_spread_p1 5 rfl) ck6 ck7 ck8 ?_
    generalize qh15 : mf_up h14 (g2 x0 6) x4 (mf_or (h3 (g2 x0 6) x4) r12) = h15
    replace hyp := hyp _ qh15.symm
    refine mf_iinc (mf_dat eX5_spread_p1 6 rfl) rfl (by decide) (by decide) ?_
    generalize qv16 : mf_w32 (x4 + 1) = v16
    replace hyp := hyp _ qv16.symm
    refine mf_goto (tgt := 3) (mf_dat eX5_spread_p1 7 rfl) (by decide) ?_
    exact mf_sub [1, 2, 3, 4, 0] rfl hyp
set_option maxRecDepth 100000 in
set_option maxHeartbeats 4000000 in
theorem bX5_spread_117 {C : mf_G} {l : Launch} {d n : Nat} {K : mf_Kt} {x0 x1 x2 x4 : Int} {g h : mf_M} (hyp : mf_is n x1 1 ∧ ((h x1 11 ≤ x4 → (∀ v2 : Int, v2 = mf_w32 ((mf_shl 1 (h x1 9)) - 1) → JX5_spread_214 C l d n K x0 x1 x2 v2 0 g h)) ∧ (¬ h x1 11 ≤ x4 → mf_is n (g x1 0) 20 ∧ 0 ≤ x4 ∧ x4 < mf_len (g x1 0) ∧ (∀ v6 : Int, v6 = h (g x1 0) x4 → mf_is n (g x1 1) 20 ∧ x4 < mf_len (g x1 1) ∧ (∀ v9 : Int, v9 = h (g x1 1) x4 → mf_is n (g x1 2) 20 ∧ x4 < mf_len (g x1 2) ∧ (∀ v12 : Int, v12 = mf_shl 1 (h (g x1 2) x4) → mf_is n x0 5 ∧ mf_is n (g x0 6) 20 ∧ 0 ≤ v9 ∧ v9 < mf_len (g x0 6) ∧ mf_is n (g x0 5) 20 ∧ 0 ≤ v6 ∧ v6 < mf_len (g x0 5) ∧ (∀ h20 : mf_M, h20 = mf_up h (g x0 6) v9 (mf_or (h (g x0 6) v9) (mf_and (h (g x0 5) v6) v12)) → v6 < mf_len (g x0 6) ∧ v9 < mf_len (g x0 5) ∧ (∀ h23 : mf_M, h23 = mf_up h20 (g x0 6) v6 (mf_or (h20 (g x0 6) v6) (mf_and (h20 (g x0 5) v9) v12)) → (∀ v24 : Int, v24 = mf_w32 (x4 + 1) → JX5_spread_117 C l d n K x0 x1 x2 v24 g h23))))))))) : JX5_spread_117 C l d n K x0 x1 x2 x4 g h := by
  refine mf_iload (mf_dat eX5_spread_p1 10 rfl) rfl ?_
  refine mf_aload_n (mf_dat eX5_spread_p1 11 rfl) rfl rfl ?_
  obtain ⟨ck1, hyp⟩ := hyp
  refine mf_getf (r := (RX1, TX1, 14)) (ci := 1) (k := 11) (t := 0) (v := h x1 11) (mf_dat eX5_spread_p1 12 rfl) fl_X5_107 rfl (by decide) rfl rfl ck1 ?_
  refine mf_icmp_ge (tgt := 201) (mf_dat eX5_spread_p1 13 rfl) (by decide) (fun hc => ?_) (fun hc => ?_)
  · replace hyp := hyp.1 hc
    refine mf_iconst (v := 1) (mf_dat eX5_spread_p1 59 rfl) (by decide) ?_
    refine mf_aload_n (mf_dat eX5_spread_p2 0 rfl) rfl rfl ?_
    refine mf_getf (r := (RX1, TX1, 14)) (ci := 1) (k := 9) (t := 0) (v := h x1 9) (mf_dat eX5_spread_p2 1 rfl) fl_X5_119 rfl (by decide) rfl rfl ck1 ?_
    refine mf_ishl (mf_dat eX5_spread_p2 2 rfl) ?_
    refine mf_iconst (v := 1) (mf_dat eX5_spread_p2 3 rfl) (by decide) ?_
    refine mf_isub (mf_dat eX5_spread_p2 4 rfl) ?_
    generalize qv2 : mf_w32 ((mf_shl 1 (h x1 9)) - 1) = v2
    replace hyp := hyp _ qv2.symm
    refine mf_istore (mf_dat eX5_spread_p2 5 rfl) (by decide) ?_
    refine mf_iconst (v := 0) (mf_dat eX5_spread_p2 6 rfl) (by decide) ?_
    refine mf_istore (mf_dat eX5_spread_p2 7 rfl) (by decide) ?_
    exact mf_sub [2, 3, 4, 1, 0] rfl hyp
  · replace hyp := hyp.2 hc
    refine mf_aload_n (mf_dat eX5_spread_p1 14 rfl) rfl rfl ?_
    refine mf_getf (r := (RX1, TX1, 14)) (ci := 1) (k := 0) (t := 2) (v := g x1 0) (mf_dat eX5_spread_p1 15 rfl) fl_X5_110 rfl (by decide) rfl rfl ck1 ?_
    refine mf_iload (mf_dat eX5_spread_p1 16 rfl) rfl ?_
    obtain ⟨ck3, hyp⟩ := hyp
    obtain ⟨ck4, hyp⟩ := hyp
    obtain ⟨ck5, hyp⟩ := hyp
    refine mf_iald (mf_dat eX5_spread_p1 17 rfl) ck3 ck4 ck5 ?_
    generalize qv6 : h (g x1 0) x4 = v6
    replace hyp := hyp _ qv6.symm
    refine mf_istore (mf_dat eX5_spread_p1 18 rfl) (by decide) ?_
    refine mf_aload_n (mf_dat eX5_spread_p1 19 rfl) rfl rfl ?_
    refine mf_getf (r := (RX1, TX1, 14)) (ci := 1) (k := 1) (t := 2) (v := g x1 1) (mf_dat eX5_spread_p1 20 rfl) fl_X5_113 rfl (by decide) rfl rfl ck1 ?_
    refine mf_iload (mf_dat eX5_spread_p1 21 rfl) rfl ?_
    obtain ⟨ck7, hyp⟩ := hyp
    obtain ⟨ck8, hyp⟩ := hyp
    refine mf_iald (mf_dat eX5_spread_p1 22 rfl) ck7 ck4 ck8 ?_
    generalize qv9 : h (g x1 1) x4 = v9
    replace hyp := hyp _ qv9.symm
    refine mf_istore (mf_dat eX5_spread_p1 23 rfl) (by decide) ?_
    refine mf_iconst (v := 1) (mf_dat eX5_spread_p1 24 rfl) (by decide) ?_
    refine mf_aload_n (mf_dat eX5_spread_p1 25 rfl) rfl rfl ?_
    refine mf_getf (r := (RX1, TX1, 14)) (ci := 1) (k := 2) (t := 2) (v := g x1 2) (mf_dat eX5_spread_p1 26 rfl) fl_X5_116 rfl (by decide) rfl rfl ck1 ?_
    refine mf_iload (mf_dat eX5_spread_p1 27 rfl) rfl ?_
    obtain ⟨ck10, hyp⟩ := hyp
    obtain ⟨ck11, hyp⟩ := hyp
    refine mf_iald (mf_dat eX5_spread_p1 28 rfl) ck10 ck4 ck11 ?_
    refine mf_ishl (mf_dat eX5_spread_p1 29 rfl) ?_
    generalize qv12 : mf_shl 1 (h (g x1 2) x4) = v12
    replace hyp := hyp _ qv12.symm
    refine mf_istore (mf_dat eX5_spread_p1 30 rfl) (by decide) ?_
    refine mf_aload_n (mf_dat eX5_spread_p1 31 rfl) rfl rfl ?_
    obtain ⟨ck13, hyp⟩ := hyp
    refine mf_getf (r := (RX5, TX5, 12)) (ci := 5) (k := 6) (t := 2) (v := g x0 6) (mf_dat eX5_spread_p1 32 rfl) fl_X5_32 rfl (by decide) rfl rfl ck13 ?_
    refine mf_iload (mf_dat eX5_spread_p1 33 rfl) rfl ?_
    refine mf_dup2 (mf_dat eX5_spread_p1 34 rfl) (by decide) (by decide) ?_
    obtain ⟨ck14, hyp⟩ := hyp
    obtain ⟨ck15, hyp⟩ := hyp
    obtain ⟨ck16, hyp⟩ := hyp
    refine mf_iald (mf_dat eX5_spread_p1 35 rfl) ck14 ck15 ck16 ?_
    refine mf_aload_n (mf_dat eX5_spread_p1 36 rfl) rfl rfl ?_
    refine mf_getf (r := (RX5, TX5, 12)) (ci := 5) (k := 5) (t := 2) (v := g x0 5) (mf_dat eX5_spread_p1 37 rfl) fl_X5_29 rfl (by decide) rfl rfl ck13 ?_
    refine mf_iload (mf_dat eX5_spread_p1 38 rfl) rfl ?_
    obtain ⟨ck17, hyp⟩ := hyp
    obtain ⟨ck18, hyp⟩ := hyp
    obtain ⟨ck19, hyp⟩ := hyp
    refine mf_iald (mf_dat eX5_spread_p1 39 rfl) ck17 ck18 ck19 ?_
    refine mf_iload (mf_dat eX5_spread_p1 40 rfl) rfl ?_
    refine mf_iand (mf_dat eX5_spread_p1 41 rfl) ?_
    refine mf_ior (mf_dat eX5_spread_p1 42 rfl) ?_
    refine mf_iast (mf_dat eX5_spread_p1 43 rfl) ck14 ck15 ck16 ?_
    generalize qh20 : mf_up h (g x0 6) v9 (mf_or (h (g x0 6) v9) (mf_and (h (g x0 5) v6) v12)) = h20
    replace hyp := hyp _ qh20.symm
    refine mf_aload_n (mf_dat eX5_spread_p1 44 rfl) rfl rfl ?_
    refine mf_getf (r := (RX5, TX5, 12)) (ci := 5) (k := 6) (t := 2) (v := g x0 6) (mf_dat eX5_spread_p1 45 rfl) fl_X5_32 rfl (by decide) rfl rfl ck13 ?_
    refine mf_iload (mf_dat eX5_spread_p1 46 rfl) rfl ?_
    refine mf_dup2 (mf_dat eX5_spread_p1 47 rfl) (by decide) (by decide) ?_
    obtain ⟨ck21, hyp⟩ := hyp
    refine mf_iald (mf_dat eX5_spread_p1 48 rfl) ck14 ck18 ck21 ?_
    refine mf_aload_n (mf_dat eX5_spread_p1 49 rfl) rfl rfl ?_
    refine mf_getf (r := (RX5, TX5, 12)) (ci := 5) (k := 5) (t := 2) (v := g x0 5) (mf_dat eX5_spread_p1 50 rfl) fl_X5_29 rfl (by decide) rfl rfl ck13 ?_
    refine mf_iload (mf_dat eX5_spread_p1 51 rfl) rfl ?_
    obtain ⟨ck22, hyp⟩ := hyp
    refine mf_iald (mf_dat eX5_spread_p1 52 rfl) ck17 ck15 ck22 ?_
    refine mf_iload (mf_dat eX5_spread_p1 53 rfl) rfl ?_
    refine mf_iand (mf_dat eX5_spread_p1 54 rfl) ?_
    refine mf_ior (mf_dat eX5_spread_p1 55 rfl) ?_
    refine mf_iast (mf_dat eX5_spread_p1 56 rfl) ck14 ck18 ck21 ?_
    generalize qh23 : mf_up h20 (g x0 6) v6 (mf_or (h20 (g x0 6) v6) (mf_and (h20 (g x0 5) v9) v12)) = h23
    replace hyp := hyp _ qh23.symm
    refine mf_iinc (mf_dat eX5_spread_p1 57 rfl) rfl (by decide) (by decide) ?_
    generalize qv24 : mf_w32 (x4 + 1) = v24
    replace hyp := hyp _ qv24.symm
    refine mf_goto (tgt := 117) (mf_dat eX5_spread_p1 58 rfl) (by decide) ?_
    exact mf_sub [4, 5, 6, 0] rfl hyp
set_option maxRecDepth 100000 in
set_option maxHeartbeats 4000000 in
theorem bX5_spread_214 {C : mf_G} {l : Launch} {d n : Nat} {K : mf_Kt} {x0 x1 x2 x4 x5 : Int} {g h : mf_M} (hyp : mf_is n x1 1 ∧ ((h x1 8 ≤ x5 → K 0 g h) ∧ (¬ h x1 8 ≤ x5 → mf_is n x0 5 ∧ mf_is n (g x0 6) 20 ∧ 0 ≤ x5 ∧ x5 < mf_len (g x0 6) ∧ mf_is n x2 6 ∧ mf_is n (g x2 0) 20 ∧ x5 < mf_len (g x2 0) ∧ mf_is n (g x0 5) 20 ∧ x5 < mf_len (g x0 5) ∧ (∀ h11 : mf_M, h11 = mf_up h (g x0 5) x5 (mf_and (mf_and (h (g x0 6) x5) x4) (mf_xor (h (g x2 0) x5) (-1))) → (∀ v12 : Int, v12 = mf_w32 (x5 + 1) → JX5_spread_214 C l d n K x0 x1 x2 x4 v12 g h11))))) : JX5_spread_214 C l d n K x0 x1 x2 x4 x5 g h := by
  refine mf_iload (mf_dat eX5_spread_p2 8 rfl) rfl ?_
  refine mf_aload_n (mf_dat eX5_spread_p2 9 rfl) rfl rfl ?_
  obtain ⟨ck1, hyp⟩ := hyp
  refine mf_getf (r := (RX1, TX1, 14)) (ci := 1) (k := 8) (t := 0) (v := h x1 8) (mf_dat eX5_spread_p2 10 rfl) fl_X5_54 rfl (by decide) rfl rfl ck1 ?_
  refine mf_icmp_ge (tgt := 256) (mf_dat eX5_spread_p2 11 rfl) (by decide) (fun hc => ?_) (fun hc => ?_)
  · replace hyp := hyp.1 hc
    exact mf_return (mf_dat eX5_spread_p2 31 rfl) rfl hyp
  · replace hyp := hyp.2 hc
    refine mf_aload_n (mf_dat eX5_spread_p2 12 rfl) rfl rfl ?_
    obtain ⟨ck2, hyp⟩ := hyp
    refine mf_getf (r := (RX5, TX5, 12)) (ci := 5) (k := 5) (t := 2) (v := g x0 5) (mf_dat eX5_spread_p2 13 rfl) fl_X5_29 rfl (by decide) rfl rfl ck2 ?_
    refine mf_iload (mf_dat eX5_spread_p2 14 rfl) rfl ?_
    refine mf_aload_n (mf_dat eX5_spread_p2 15 rfl) rfl rfl ?_
    refine mf_getf (r := (RX5, TX5, 12)) (ci := 5) (k := 6) (t := 2) (v := g x0 6) (mf_dat eX5_spread_p2 16 rfl) fl_X5_32 rfl (by decide) rfl rfl ck2 ?_
    refine mf_iload (mf_dat eX5_spread_p2 17 rfl) rfl ?_
    obtain ⟨ck3, hyp⟩ := hyp
    obtain ⟨ck4, hyp⟩ := hyp
    obtain ⟨ck5, hyp⟩ := hyp
    refine mf_iald (mf_dat eX5_spread_p2 18 rfl) ck3 ck4 ck5 ?_
    refine mf_iload (mf_dat eX5_spread_p2 19 rfl) rfl ?_
    refine mf_iand (mf_dat eX5_spread_p2 20 rfl) ?_
    refine mf_aload_n (mf_dat eX5_spread_p2 21 rfl) rfl rfl ?_
    obtain ⟨ck6, hyp⟩ := hyp
    refine mf_getf (r := (RX6, TX6, 8)) (ci := 6) (k := 0) (t := 2) (v := g x2 0) (mf_dat eX5_spread_p2 22 rfl) fl_X5_122 rfl (by decide) rfl rfl ck6 ?_
    refine mf_iload (mf_dat eX5_spread_p2 23 rfl) rfl ?_
    obtain ⟨ck7, hyp⟩ := hyp
    obtain ⟨ck8, hyp⟩ := hyp
    refine mf_iald (mf_dat eX5_spread_p2 24 rfl) ck7 ck4 ck8 ?_
    refine mf_iconst (v := (-1)) (mf_dat eX5_spread_p2 25 rfl) (by decide) ?_
    refine mf_ixor (mf_dat eX5_spread_p2 26 rfl) ?_
    refine mf_iand (mf_dat eX5_spread_p2 27 rfl) ?_
    obtain ⟨ck9, hyp⟩ := hyp
    obtain ⟨ck10, hyp⟩ := hyp
    refine mf_iast (mf_dat eX5_spread_p2 28 rfl) ck9 ck4 ck10 ?_
    generalize qh11 : mf_up h (g x0 5) x5 (mf_and (mf_and (h (g x0 6) x5) x4) (mf_xor (h (g x2 0) x5) (-1))) = h11
    replace hyp := hyp _ qh11.symm
    refine mf_iinc (mf_dat eX5_spread_p2 29 rfl) rfl (by decide) (by decide) ?_
    generalize qv12 : mf_w32 (x5 + 1) = v12
    replace hyp := hyp _ qv12.symm
    refine mf_goto (tgt := 214) (mf_dat eX5_spread_p2 30 rfl) (by decide) ?_
    exact mf_sub [1, 2, 3, 4, 0] rfl hyp
set_option maxRecDepth 100000 in
set_option maxHeartbeats 4000000 in
theorem mX5_spread {C : mf_G} {l : Launch} {d n : Nat} {K : mf_Kt} {x0 x1 x2 x3 : Int} {g h : mf_M} (hyp : JX5_spread_3 C l d n K x0 x1 x2 x3 0 g h) : mf_MT C l d YX5_spread [(2, x0), (2, x1), (2, x2), (0, x3)] n n g h K := by
  refine mf_entry (by decide) (Nat.le_of_ble_eq_true rfl) ?_
  refine mf_iconst (v := 0) (mf_dat eX5_spread_p0 0 rfl) (by decide) ?_
  refine mf_istore (mf_dat eX5_spread_p0 1 rfl) (by decide) ?_
  exact mf_sub [1, 2, 3, 4, 0] rfl hyp
abbrev JX5_mirrorBits_4 (C : mf_G) (l : Launch) (d n : Nat) (K : mf_Kt) (x0 x1 x2 x3 : Int) (g h : mf_M) : Prop := mf_AW C l YX5_mirrorBits (mf_rm d n n) n (mf_Zm C YX5_mirrorBits n n K) (fun _ _ => True) 4 [(0, (2, x0)), (1, (0, x1)), (2, (0, x2)), (3, (0, x3))] [] n g h
set_option maxRecDepth 100000 in
set_option maxHeartbeats 4000000 in
theorem bX5_mirrorBits_4 {C : mf_G} {l : Launch} {d n : Nat} {K : mf_Kt} {x0 x1 x2 x3 : Int} {g h : mf_M} (hd : 1 ≤ d) (hyp : mf_is n x0 1 ∧ ((h x0 9 ≤ x3 → K x2 g h) ∧ (¬ h x0 9 ≤ x3 → mf_MT C l 0 YX1_mirror [(2, x0), (0, x3)] n n g h (fun r2 g3 h4 => (∀ v5 : Int, v5 = mf_or x2 (mf_shl (mf_and (mf_shr x1 x3) 1) r2) → (∀ v6 : Int, v6 = mf_w32 (x3 + 1) → JX5_mirrorBits_4 C l d n K x0 x1 v5 v6 g3 h4)))))) : JX5_mirrorBits_4 C l d n K x0 x1 x2 x3 g h := by
  refine mf_iload_n (mf_dat eX5_mirrorBits 4 rfl) rfl rfl ?_
  refine mf_aload_n (mf_dat eX5_mirrorBits 5 rfl) rfl rfl ?_
  obtain ⟨ck1, hyp⟩ := hyp
  refine mf_getf (r := (RX1, TX1, 14)) (ci := 1) (k := 9) (t := 0) (v := h x0 9) (mf_dat eX5_mirrorBits 6 rfl) fl_X5_119 rfl (by decide) rfl rfl ck1 ?_
  refine mf_icmp_ge (tgt := 32) (mf_dat eX5_mirrorBits 7 rfl) (by decide) (fun hc => ?_) (fun hc => ?_)
  · replace hyp := hyp.1 hc
    refine mf_iload_n (mf_dat eX5_mirrorBits 22 rfl) rfl rfl ?_
    exact mf_ireturn (mf_dat eX5_mirrorBits 23 rfl) rfl (Or.inl rfl) hyp
  · replace hyp := hyp.2 hc
    refine mf_iload_n (mf_dat eX5_mirrorBits 8 rfl) rfl rfl ?_
    refine mf_iload_n (mf_dat eX5_mirrorBits 9 rfl) rfl rfl ?_
    refine mf_iload_n (mf_dat eX5_mirrorBits 10 rfl) rfl rfl ?_
    refine mf_ishr (mf_dat eX5_mirrorBits 11 rfl) ?_
    refine mf_iconst (v := 1) (mf_dat eX5_mirrorBits 12 rfl) (by decide) ?_
    refine mf_iand (mf_dat eX5_mirrorBits 13 rfl) ?_
    refine mf_aload_n (mf_dat eX5_mirrorBits 14 rfl) rfl rfl ?_
    refine mf_iload_n (mf_dat eX5_mirrorBits 15 rfl) rfl rfl ?_
    refine mf_callV (Yc := YX1_mirror) (r := (RX1, TX1, 14)) (ci := 1) (mf_dat eX5_mirrorBits 16 rfl) ml_X5_125 okX1_mirror im_X1_mirror sl_X1_mirror rfl rfl rfl rfl (Nat.le_of_ble_eq_true rfl) (mf_rr (Nat.le_trans (by decide) hd) (Nat.le_refl _)) (Nat.le_refl _) ck1 hyp (fun r2 g3 h4 hyp => ?_)
    refine mf_ishl (mf_dat eX5_mirrorBits 17 rfl) ?_
    refine mf_ior (mf_dat eX5_mirrorBits 18 rfl) ?_
    generalize qv5 : mf_or x2 (mf_shl (mf_and (mf_shr x1 x3) 1) r2) = v5
    replace hyp := hyp _ qv5.symm
    refine mf_istore_n (mf_dat eX5_mirrorBits 19 rfl) rfl (by decide) ?_
    refine mf_iinc (mf_dat eX5_mirrorBits 20 rfl) rfl (by decide) (by decide) ?_
    generalize qv6 : mf_w32 (x3 + 1) = v6
    replace hyp := hyp _ qv6.symm
    refine mf_goto (tgt := 4) (mf_dat eX5_mirrorBits 21 rfl) (by decide) ?_
    exact mf_sub [2, 3, 1, 0] rfl hyp
set_option maxRecDepth 100000 in
set_option maxHeartbeats 4000000 in
theorem mX5_mirrorBits {C : mf_G} {l : Launch} {d n : Nat} {K : mf_Kt} {x0 x1 : Int} {g h : mf_M} (hyp : JX5_mirrorBits_4 C l d n K x0 x1 0 0 g h) : mf_MT C l d YX5_mirrorBits [(2, x0), (0, x1)] n n g h K := by
  refine mf_entry (by decide) (Nat.le_of_ble_eq_true rfl) ?_
  refine mf_iconst (v := 0) (mf_dat eX5_mirrorBits 0 rfl) (by decide) ?_
  refine mf_istore_n (mf_dat eX5_mirrorBits 1 rfl) rfl (by decide) ?_
  refine mf_iconst (v := 0) (mf_dat eX5_mirrorBits 2 rfl) (by decide) ?_
  refine mf_istore_n (mf_dat eX5_mirrorBits 3 rfl) rfl (by decide) ?_
  exact mf_sub [2, 3, 1, 0] rfl hyp
abbrev JX5_takeSeen_30 (C : mf_G) (l : Launch) (d n : Nat) (K : mf_Kt) (x0 x1 x2 x3 : Int) (g h : mf_M) : Prop := mf_AW C l YX5_takeSeen (mf_rm d n n) n (mf_Zm C YX5_takeSeen n n K) (fun _ _ => True) 30 [(0, (2, x0)), (1, (2, x1)), (2, (2, x2)), (3, (0, x3))] [] n g h
abbrev JX5_takeSeen_84 (C : mf_G) (l : Launch) (d n : Nat) (K : mf_Kt) (x0 x2 x3 : Int) (g h : mf_M) : Prop := mf_AW C l YX5_takeSeen (mf_rm d n n) n (mf_Zm C YX5_takeSeen n n K) (fun _ _ => True) 84 [(0, (2, x0)), (2, (2, x2)), (3, (0, x3))] [] n g h
set_option maxRecDepth 100000 in
set_option maxHeartbeats 4000000 in
theorem bX5_takeSeen_30 {C : mf_G} {l : Launch} {d n : Nat} {K : mf_Kt} {x0 x1 x2 x3 : Int} {g h : mf_M} (hd : 1 ≤ d) (hyp : mf_is n x2 8 ∧ ((h x2 1 ≤ x3 → mf_is n x0 5 ∧ (∀ h3 : mf_M, h3 = mf_up h x0 11 (mf_w32 ((h x2 1).tdiv 2)) → JX5_takeSeen_84 C l d n K x0 x2 0 g h3)) ∧ (¬ h x2 1 ≤ x3 → mf_MT C l 0 YX8_byteAt [(2, x2), (0, x3)] n n g h (fun r4 g5 h6 => mf_is n x1 1 ∧ ((h6 x1 12 ≤ r4 → K 0 g5 h6) ∧ (¬ h6 x1 12 ≤ r4 → mf_MT C l 0 YX8_byteAt [(2, x2), (0, mf_w32 (x3 + 1))] n n g5 h6 (fun r8 g9 h10 => ((r8 < h10 x1 9 → (∀ v11 : Int, v11 = mf_w32 (x3 + 2) → JX5_takeSeen_30 C l d n K x0 x1 x2 v11 g9 h10)) ∧ (¬ r8 < h10 x1 9 → K 0 g9 h10))))))))) : JX5_takeSeen_30 C l d n K x0 x1 x2 x3 g h := by
  refine mf_iload_n (mf_dat eX5_takeSeen_p0 17 rfl) rfl rfl ?_
  refine mf_aload_n (mf_dat eX5_takeSeen_p0 18 rfl) rfl rfl ?_
  obtain ⟨ck1, hyp⟩ := hyp
  refine mf_getf (r := (RX8, TX8, 2)) (ci := 8) (k := 1) (t := 0) (v := h x2 1) (mf_dat eX5_takeSeen_p0 19 rfl) fl_X5_129 rfl (by decide) rfl rfl ck1 ?_
  refine mf_icmp_ge (tgt := 72) (mf_dat eX5_takeSeen_p0 20 rfl) (by decide) (fun hc => ?_) (fun hc => ?_)
  · replace hyp := hyp.1 hc
    refine mf_aload_n (mf_dat eX5_takeSeen_p0 39 rfl) rfl rfl ?_
    refine mf_aload_n (mf_dat eX5_takeSeen_p0 40 rfl) rfl rfl ?_
    refine mf_getf (r := (RX8, TX8, 2)) (ci := 8) (k := 1) (t := 0) (v := h x2 1) (mf_dat eX5_takeSeen_p0 41 rfl) fl_X5_129 rfl (by decide) rfl rfl ck1 ?_
    refine mf_iconst (v := 2) (mf_dat eX5_takeSeen_p0 42 rfl) (by decide) ?_
    refine mf_idiv (mf_dat eX5_takeSeen_p0 43 rfl) (by decide) ?_
    obtain ⟨ck2, hyp⟩ := hyp
    refine mf_putI (r := (RX5, TX5, 12)) (ci := 5) (k := 11) (kI := 11) (t := 0) (mf_dat eX5_takeSeen_p0 44 rfl) fl_X5_140 rfl rfl (by decide) rfl (by decide) rfl (by decide) (fun h9 => absurd h9 (by decide)) ck2 ?_
    generalize qh3 : mf_up h x0 11 (mf_w32 ((h x2 1).tdiv 2)) = h3
    replace hyp := hyp _ qh3.symm
    refine mf_iconst (v := 0) (mf_dat eX5_takeSeen_p0 45 rfl) (by decide) ?_
    refine mf_istore_n (mf_dat eX5_takeSeen_p0 46 rfl) rfl (by decide) ?_
    exact mf_sub [1, 3, 0] rfl hyp
  · replace hyp := hyp.2 hc
    refine mf_aload_n (mf_dat eX5_takeSeen_p0 21 rfl) rfl rfl ?_
    refine mf_iload_n (mf_dat eX5_takeSeen_p0 22 rfl) rfl rfl ?_
    refine mf_callV (Yc := YX8_byteAt) (r := (RX8, TX8, 2)) (ci := 8) (mf_dat eX5_takeSeen_p0 23 rfl) ml_X5_134 okX8_byteAt im_X8_byteAt sl_X8_byteAt rfl rfl rfl rfl (Nat.le_of_ble_eq_true rfl) (mf_rr (Nat.le_trans (by decide) hd) (Nat.le_refl _)) (Nat.le_refl _) ck1 hyp (fun r4 g5 h6 hyp => ?_)
    refine mf_aload_n (mf_dat eX5_takeSeen_p0 24 rfl) rfl rfl ?_
    obtain ⟨ck7, hyp⟩ := hyp
    refine mf_getf (r := (RX1, TX1, 14)) (ci := 1) (k := 12) (t := 0) (v := h6 x1 12) (mf_dat eX5_takeSeen_p0 25 rfl) fl_X5_137 rfl (by decide) rfl rfl ck7 ?_
    refine mf_icmp_ge (tgt := 64) (mf_dat eX5_takeSeen_p0 26 rfl) (by decide) (fun hc => ?_) (fun hc => ?_)
    · replace hyp := hyp.1 hc
      refine mf_iconst (v := 0) (mf_dat eX5_takeSeen_p0 35 rfl) (by decide) ?_
      exact mf_ireturn (mf_dat eX5_takeSeen_p0 36 rfl) rfl (Or.inr ⟨rfl, by decide⟩) hyp
    · replace hyp := hyp.2 hc
      refine mf_aload_n (mf_dat eX5_takeSeen_p0 27 rfl) rfl rfl ?_
      refine mf_iload_n (mf_dat eX5_takeSeen_p0 28 rfl) rfl rfl ?_
      refine mf_iconst (v := 1) (mf_dat eX5_takeSeen_p0 29 rfl) (by decide) ?_
      refine mf_iadd (mf_dat eX5_takeSeen_p0 30 rfl) ?_
      refine mf_callV (Yc := YX8_byteAt) (r := (RX8, TX8, 2)) (ci := 8) (mf_dat eX5_takeSeen_p0 31 rfl) ml_X5_134 okX8_byteAt im_X8_byteAt sl_X8_byteAt rfl rfl rfl rfl (Nat.le_of_ble_eq_true rfl) (mf_rr (Nat.le_trans (by decide) hd) (Nat.le_refl _)) (Nat.le_refl _) ck1 hyp (fun r8 g9 h10 hyp => ?_)
      refine mf_aload_n (mf_dat eX5_takeSeen_p0 32 rfl) rfl rfl ?_
      refine mf_getf (r := (RX1, TX1, 14)) (ci := 1) (k := 9) (t := 0) (v := h10 x1 9) (mf_dat eX5_takeSeen_p0 33 rfl) fl_X5_119 rfl (by decide) rfl rfl ck7 ?_
      refine mf_icmp_lt (tgt := 66) (mf_dat eX5_takeSeen_p0 34 rfl) (by decide) (fun hc => ?_) (fun hc => ?_)
      · replace hyp := hyp.1 hc
        refine mf_iinc (mf_dat eX5_takeSeen_p0 37 rfl) rfl (by decide) (by decide) ?_
        generalize qv11 : mf_w32 (x3 + 2) = v11
        replace hyp := hyp _ qv11.symm
        refine mf_goto (tgt := 30) (mf_dat eX5_takeSeen_p0 38 rfl) (by decide) ?_
        exact mf_sub [1, 2, 3, 0] rfl hyp
      · replace hyp := hyp.2 hc
        refine mf_iconst (v := 0) (mf_dat eX5_takeSeen_p0 35 rfl) (by decide) ?_
        exact mf_ireturn (mf_dat eX5_takeSeen_p0 36 rfl) rfl (Or.inr ⟨rfl, by decide⟩) hyp
set_option maxRecDepth 100000 in
set_option maxHeartbeats 4000000 in
theorem bX5_takeSeen_84 {C : mf_G} {l : Launch} {d n : Nat} {K : mf_Kt} {x0 x2 x3 : Int} {g h : mf_M} (hd : 1 ≤ d) (hyp : mf_is n x0 5 ∧ ((h x0 11 ≤ x3 → K 1 g h) ∧ (¬ h x0 11 ≤ x3 → ((16 ≤ x3 → K 1 g h) ∧ (¬ 16 ≤ x3 → mf_is n x2 8 ∧ mf_MT C l 0 YX8_byteAt [(2, x2), (0, mf_w32 (2 * x3))] n n g h (fun r2 g3 h4 => mf_is n (g x0 8) 20 ∧ 0 ≤ x3 ∧ x3 < mf_len (g x0 8) ∧ (∀ h9 : mf_M, h9 = mf_up h4 (g x0 8) x3 r2 → mf_MT C l 0 YX8_byteAt [(2, x2), (0, mf_w32 ((mf_w32 (2 * x3)) + 1))] n n g3 h9 (fun r10 g11 h12 => mf_is n (g3 x0 9) 20 ∧ x3 < mf_len (g3 x0 9) ∧ (∀ h15 : mf_M, h15 = mf_up h12 (g3 x0 9) x3 r10 → (∀ v16 : Int, v16 = mf_w32 (x3 + 1) → JX5_takeSeen_84 C l d n K x0 x2 v16 g11 h15)))))))))) : JX5_takeSeen_84 C l d n K x0 x2 x3 g h := by
  refine mf_iload_n (mf_dat eX5_takeSeen_p0 47 rfl) rfl rfl ?_
  refine mf_aload_n (mf_dat eX5_takeSeen_p0 48 rfl) rfl rfl ?_
  obtain ⟨ck1, hyp⟩ := hyp
  refine mf_getf (r := (RX5, TX5, 12)) (ci := 5) (k := 11) (t := 0) (v := h x0 11) (mf_dat eX5_takeSeen_p0 49 rfl) fl_X5_140 rfl (by decide) rfl rfl ck1 ?_
  refine mf_icmp_ge (tgt := 132) (mf_dat eX5_takeSeen_p0 50 rfl) (by decide) (fun hc => ?_) (fun hc => ?_)
  · replace hyp := hyp.1 hc
    refine mf_iconst (v := 1) (mf_dat eX5_takeSeen_p1 16 rfl) (by decide) ?_
    exact mf_ireturn (mf_dat eX5_takeSeen_p1 17 rfl) rfl (Or.inr ⟨rfl, by decide⟩) hyp
  · replace hyp := hyp.2 hc
    refine mf_iload_n (mf_dat eX5_takeSeen_p0 51 rfl) rfl rfl ?_
    refine mf_bipush (v := 16) (mf_dat eX5_takeSeen_p0 52 rfl) (by decide) ?_
    refine mf_icmp_ge (tgt := 132) (mf_dat eX5_takeSeen_p0 53 rfl) (by decide) (fun hc => ?_) (fun hc => ?_)
    · replace hyp := hyp.1 hc
      refine mf_iconst (v := 1) (mf_dat eX5_takeSeen_p1 16 rfl) (by decide) ?_
      exact mf_ireturn (mf_dat eX5_takeSeen_p1 17 rfl) rfl (Or.inr ⟨rfl, by decide⟩) hyp
    · replace hyp := hyp.2 hc
      refine mf_aload_n (mf_dat eX5_takeSeen_p0 54 rfl) rfl rfl ?_
      refine mf_getf (r := (RX5, TX5, 12)) (ci := 5) (k := 8) (t := 2) (v := g x0 8) (mf_dat eX5_takeSeen_p0 55 rfl) fl_X5_38 rfl (by decide) rfl rfl ck1 ?_
      refine mf_iload_n (mf_dat eX5_takeSeen_p0 56 rfl) rfl rfl ?_
      refine mf_aload_n (mf_dat eX5_takeSeen_p0 57 rfl) rfl rfl ?_
      refine mf_iconst (v := 2) (mf_dat eX5_takeSeen_p0 58 rfl) (by decide) ?_
      refine mf_iload_n (mf_dat eX5_takeSeen_p0 59 rfl) rfl rfl ?_
      refine mf_imul (mf_dat eX5_takeSeen_p1 0 rfl) ?_
      obtain ⟨ck5, hyp⟩ := hyp
      refine mf_callV (Yc := YX8_byteAt) (r := (RX8, TX8, 2)) (ci := 8) (mf_dat eX5_takeSeen_p1 1 rfl) ml_X5_134 okX8_byteAt im_X8_byteAt sl_X8_byteAt rfl rfl rfl rfl (Nat.le_of_ble_eq_true rfl) (mf_rr (Nat.le_trans (by decide) hd) (Nat.le_refl _)) (Nat.le_refl _) ck5 hyp (fun r2 g3 h4 hyp => ?_)
      obtain ⟨ck6, hyp⟩ := hyp
      obtain ⟨ck7, hyp⟩ := hyp
      obtain ⟨ck8, hyp⟩ := hyp
      refine mf_iast (mf_dat eX5_takeSeen_p1 2 rfl) ck6 ck7 ck8 ?_
      generalize qh9 : mf_up h4 (g x0 8) x3 r2 = h9
      replace hyp := hyp _ qh9.symm
      refine mf_aload_n (mf_dat eX5_takeSeen_p1 3 rfl) rfl rfl ?_
      refine mf_getf (r := (RX5, TX5, 12)) (ci := 5) (k := 9) (t := 2) (v := g3 x0 9) (mf_dat eX5_takeSeen_p1 4 rfl) fl_X5_41 rfl (by decide) rfl rfl ck1 ?_
      refine mf_iload_n (mf_dat eX5_takeSeen_p1 5 rfl) rfl rfl ?_
      refine mf_aload_n (mf_dat eX5_takeSeen_p1 6 rfl) rfl rfl ?_
      refine mf_iconst (v := 2) (mf_dat eX5_takeSeen_p1 7 rfl) (by decide) ?_
      refine mf_iload_n (mf_dat eX5_takeSeen_p1 8 rfl) rfl rfl ?_
      refine mf_imul (mf_dat eX5_takeSeen_p1 9 rfl) ?_
      refine mf_iconst (v := 1) (mf_dat eX5_takeSeen_p1 10 rfl) (by decide) ?_
      refine mf_iadd (mf_dat eX5_takeSeen_p1 11 rfl) ?_
      refine mf_callV (Yc := YX8_byteAt) (r := (RX8, TX8, 2)) (ci := 8) (mf_dat eX5_takeSeen_p1 12 rfl) ml_X5_134 okX8_byteAt im_X8_byteAt sl_X8_byteAt rfl rfl rfl rfl (Nat.le_of_ble_eq_true rfl) (mf_rr (Nat.le_trans (by decide) hd) (Nat.le_refl _)) (Nat.le_refl _) ck5 hyp (fun r10 g11 h12 hyp => ?_)
      obtain ⟨ck13, hyp⟩ := hyp
      obtain ⟨ck14, hyp⟩ := hyp
      refine mf_iast (mf_dat eX5_takeSeen_p1 13 rfl) ck13 ck7 ck14 ?_
      generalize qh15 : mf_up h12 (g3 x0 9) x3 r10 = h15
      replace hyp := hyp _ qh15.symm
      refine mf_iinc (mf_dat eX5_takeSeen_p1 14 rfl) rfl (by decide) (by decide) ?_
      generalize qv16 : mf_w32 (x3 + 1) = v16
      replace hyp := hyp _ qv16.symm
      refine mf_goto (tgt := 84) (mf_dat eX5_takeSeen_p1 15 rfl) (by decide) ?_
      exact mf_sub [1, 2, 0] rfl hyp
set_option maxRecDepth 100000 in
set_option maxHeartbeats 4000000 in
theorem mX5_takeSeen {C : mf_G} {l : Launch} {d n : Nat} {K : mf_Kt} {x0 x1 x2 : Int} {g h : mf_M} (hyp : mf_is n x2 8 ∧ ((h x2 1 < 2 → K 0 g h) ∧ (¬ h x2 1 < 2 → ((32 < h x2 1 → K 0 g h) ∧ (¬ 32 < h x2 1 → (((h x2 1).tmod 2 = 0 → JX5_takeSeen_30 C l d n K x0 x1 x2 0 g h) ∧ (¬ (h x2 1).tmod 2 = 0 → K 0 g h))))))) : mf_MT C l d YX5_takeSeen [(2, x0), (2, x1), (2, x2)] n n g h K := by
  refine mf_entry (by decide) (Nat.le_of_ble_eq_true rfl) ?_
  refine mf_aload_n (mf_dat eX5_takeSeen_p0 0 rfl) rfl rfl ?_
  obtain ⟨ck1, hyp⟩ := hyp
  refine mf_getf (r := (RX8, TX8, 2)) (ci := 8) (k := 1) (t := 0) (v := h x2 1) (mf_dat eX5_takeSeen_p0 1 rfl) fl_X5_129 rfl (by decide) rfl rfl ck1 ?_
  refine mf_iconst (v := 2) (mf_dat eX5_takeSeen_p0 2 rfl) (by decide) ?_
  refine mf_icmp_lt (tgt := 26) (mf_dat eX5_takeSeen_p0 3 rfl) (by decide) (fun hc => ?_) (fun hc => ?_)
  · replace hyp := hyp.1 hc
    refine mf_iconst (v := 0) (mf_dat eX5_takeSeen_p0 13 rfl) (by decide) ?_
    exact mf_ireturn (mf_dat eX5_takeSeen_p0 14 rfl) rfl (Or.inr ⟨rfl, by decide⟩) hyp
  · replace hyp := hyp.2 hc
    refine mf_aload_n (mf_dat eX5_takeSeen_p0 4 rfl) rfl rfl ?_
    refine mf_getf (r := (RX8, TX8, 2)) (ci := 8) (k := 1) (t := 0) (v := h x2 1) (mf_dat eX5_takeSeen_p0 5 rfl) fl_X5_129 rfl (by decide) rfl rfl ck1 ?_
    refine mf_bipush (v := 32) (mf_dat eX5_takeSeen_p0 6 rfl) (by decide) ?_
    refine mf_icmp_gt (tgt := 26) (mf_dat eX5_takeSeen_p0 7 rfl) (by decide) (fun hc => ?_) (fun hc => ?_)
    · replace hyp := hyp.1 hc
      refine mf_iconst (v := 0) (mf_dat eX5_takeSeen_p0 13 rfl) (by decide) ?_
      exact mf_ireturn (mf_dat eX5_takeSeen_p0 14 rfl) rfl (Or.inr ⟨rfl, by decide⟩) hyp
    · replace hyp := hyp.2 hc
      refine mf_aload_n (mf_dat eX5_takeSeen_p0 8 rfl) rfl rfl ?_
      refine mf_getf (r := (RX8, TX8, 2)) (ci := 8) (k := 1) (t := 0) (v := h x2 1) (mf_dat eX5_takeSeen_p0 9 rfl) fl_X5_129 rfl (by decide) rfl rfl ck1 ?_
      refine mf_iconst (v := 2) (mf_dat eX5_takeSeen_p0 10 rfl) (by decide) ?_
      refine mf_irem (mf_dat eX5_takeSeen_p0 11 rfl) (by decide) ?_
      refine mf_if_eq (tgt := 28) (mf_dat eX5_takeSeen_p0 12 rfl) (by decide) (fun hc => ?_) (fun hc => ?_)
      · replace hyp := hyp.1 hc
        refine mf_iconst (v := 0) (mf_dat eX5_takeSeen_p0 15 rfl) (by decide) ?_
        refine mf_istore_n (mf_dat eX5_takeSeen_p0 16 rfl) rfl (by decide) ?_
        exact mf_sub [1, 2, 3, 0] rfl hyp
      · replace hyp := hyp.2 hc
        refine mf_iconst (v := 0) (mf_dat eX5_takeSeen_p0 13 rfl) (by decide) ?_
        exact mf_ireturn (mf_dat eX5_takeSeen_p0 14 rfl) rfl (Or.inr ⟨rfl, by decide⟩) hyp
abbrev JX5_findOpenings_5 (C : mf_G) (l : Launch) (d n : Nat) (K : mf_Kt) (x0 x1 x2 x3 x4 : Int) (g h : mf_M) : Prop := mf_AW C l YX5_findOpenings (mf_rm d n n) n (mf_Zm C YX5_findOpenings n n K) (fun _ _ => True) 5 [(0, (2, x0)), (1, (2, x1)), (2, (2, x2)), (3, (0, x3)), (4, (0, x4))] [] n g h
set_option maxRecDepth 100000 in
set_option maxHeartbeats 4000000 in
theorem bX5_findOpenings_5 {C : mf_G} {l : Launch} {d n : Nat} {K : mf_Kt} {x0 x1 x2 x3 x4 : Int} {g h : mf_M} (hd : 6 ≤ d) (hyp : mf_is n x1 1 ∧ ((h x1 8 < x4 → K x3 g h) ∧ (¬ h x1 8 < x4 → mf_is n x0 5 ∧ mf_is n (g x0 2) 6 ∧ mf_MT C l 1 YX6_copyFolk [(2, g x0 2), (2, x2)] n n g h (fun r3 g4 h5 => mf_is n (g4 x0 0) 0 ∧ mf_MT C l 5 YX0_passDay [(2, g4 x0 0), (2, x1), (2, g4 x0 2), (0, x4)] n n g4 h5 (fun r7 g8 h9 => mf_is n (g8 x0 2) 6 ∧ mf_is n (g8 (g8 x0 2) 2) 20 ∧ mf_is n (g8 x0 7) 20 ∧ 0 ≤ mf_w32 (x4 * 8) ∧ 0 + 8 ≤ mf_len (g8 (g8 x0 2) 2) ∧ mf_w32 (x4 * 8) + 8 ≤ mf_len (g8 x0 7) ∧ (∀ h17 : mf_M, h17 = mf_cpy h9 (g8 (g8 x0 2) 2) (g8 x0 7) 0 (mf_w32 (x4 * 8)) 8 → mf_MT C l 0 YX5_isAsSeen [(2, x0), (2, g8 x0 2)] n n g8 h17 (fun r18 g19 h20 => ((r18 = 0 → (∀ v21 : Int, v21 = mf_w32 (x4 + 1) → JX5_findOpenings_5 C l d n K x0 x1 x2 x3 v21 g19 h20)) ∧ (¬ r18 = 0 → (∀ v22 : Int, v22 = mf_or x3 (mf_shl 1 x4) → (∀ v23 : Int, v23 = mf_w32 (x4 + 1) → JX5_findOpenings_5 C l d n K x0 x1 x2 v22 v23 g19 h20))))))))))) : JX5_findOpenings_5 C l d n K x0 x1 x2 x3 x4 g h := by
  refine mf_iload (mf_dat eX5_findOpenings 4 rfl) rfl ?_
  refine mf_aload_n (mf_dat eX5_findOpenings 5 rfl) rfl rfl ?_
  obtain ⟨ck1, hyp⟩ := hyp
  refine mf_getf (r := (RX1, TX1, 14)) (ci := 1) (k := 8) (t := 0) (v := h x1 8) (mf_dat eX5_findOpenings 6 rfl) fl_X5_54 rfl (by decide) rfl rfl ck1 ?_
  refine mf_icmp_gt (tgt := 83) (mf_dat eX5_findOpenings 7 rfl) (by decide) (fun hc => ?_) (fun hc => ?_)
  · replace hyp := hyp.1 hc
    refine mf_iload_n (mf_dat eX5_findOpenings 44 rfl) rfl rfl ?_
    exact mf_ireturn (mf_dat eX5_findOpenings 45 rfl) rfl (Or.inl rfl) hyp
  · replace hyp := hyp.2 hc
    refine mf_aload_n (mf_dat eX5_findOpenings 8 rfl) rfl rfl ?_
    obtain ⟨ck2, hyp⟩ := hyp
    refine mf_getf (r := (RX5, TX5, 12)) (ci := 5) (k := 2) (t := 2) (v := g x0 2) (mf_dat eX5_findOpenings 9 rfl) fl_X5_18 rfl (by decide) rfl rfl ck2 ?_
    refine mf_aload_n (mf_dat eX5_findOpenings 10 rfl) rfl rfl ?_
    obtain ⟨ck6, hyp⟩ := hyp
    refine mf_callV (Yc := YX6_copyFolk) (r := (RX6, TX6, 8)) (ci := 6) (mf_dat eX5_findOpenings 11 rfl) ml_X5_73 okX6_copyFolk im_X6_copyFolk sl_X6_copyFolk rfl rfl rfl rfl (Nat.le_of_ble_eq_true rfl) (mf_rr (Nat.le_trans (by decide) hd) (Nat.le_refl _)) (Nat.le_refl _) ck6 hyp (fun r3 g4 h5 hyp => ?_)
    refine mf_aload_n (mf_dat eX5_findOpenings 12 rfl) rfl rfl ?_
    refine mf_getf (r := (RX5, TX5, 12)) (ci := 5) (k := 0) (t := 2) (v := g4 x0 0) (mf_dat eX5_findOpenings 13 rfl) fl_X5_44 rfl (by decide) rfl rfl ck2 ?_
    refine mf_aload_n (mf_dat eX5_findOpenings 14 rfl) rfl rfl ?_
    refine mf_aload_n (mf_dat eX5_findOpenings 15 rfl) rfl rfl ?_
    refine mf_getf (r := (RX5, TX5, 12)) (ci := 5) (k := 2) (t := 2) (v := g4 x0 2) (mf_dat eX5_findOpenings 16 rfl) fl_X5_18 rfl (by decide) rfl rfl ck2 ?_
    refine mf_iload (mf_dat eX5_findOpenings 17 rfl) rfl ?_
    obtain ⟨ck10, hyp⟩ := hyp
    refine mf_callV (Yc := YX0_passDay) (r := (RX0, TX0, 1)) (ci := 0) (mf_dat eX5_findOpenings 18 rfl) ml_X5_77 okX0_passDay im_X0_passDay sl_X0_passDay rfl rfl rfl rfl (Nat.le_of_ble_eq_true rfl) (mf_rr (Nat.le_trans (by decide) hd) (Nat.le_refl _)) (Nat.le_refl _) ck10 hyp (fun r7 g8 h9 hyp => ?_)
    refine mf_pop (mf_dat eX5_findOpenings 19 rfl) (by decide) ?_
    refine mf_aload_n (mf_dat eX5_findOpenings 20 rfl) rfl rfl ?_
    refine mf_getf (r := (RX5, TX5, 12)) (ci := 5) (k := 2) (t := 2) (v := g8 x0 2) (mf_dat eX5_findOpenings 21 rfl) fl_X5_18 rfl (by decide) rfl rfl ck2 ?_
    obtain ⟨ck11, hyp⟩ := hyp
    refine mf_getf (r := (RX6, TX6, 8)) (ci := 6) (k := 2) (t := 2) (v := g8 (g8 x0 2) 2) (mf_dat eX5_findOpenings 22 rfl) fl_X5_93 rfl (by decide) rfl rfl ck11 ?_
    refine mf_iconst (v := 0) (mf_dat eX5_findOpenings 23 rfl) (by decide) ?_
    refine mf_aload_n (mf_dat eX5_findOpenings 24 rfl) rfl rfl ?_
    refine mf_getf (r := (RX5, TX5, 12)) (ci := 5) (k := 7) (t := 2) (v := g8 x0 7) (mf_dat eX5_findOpenings 25 rfl) fl_X5_35 rfl (by decide) rfl rfl ck2 ?_
    refine mf_iload (mf_dat eX5_findOpenings 26 rfl) rfl ?_
    refine mf_bipush (v := 8) (mf_dat eX5_findOpenings 27 rfl) (by decide) ?_
    refine mf_imul (mf_dat eX5_findOpenings 28 rfl) ?_
    refine mf_bipush (v := 8) (mf_dat eX5_findOpenings 29 rfl) (by decide) ?_
    obtain ⟨ck12, hyp⟩ := hyp
    obtain ⟨ck13, hyp⟩ := hyp
    obtain ⟨ck14, hyp⟩ := hyp
    obtain ⟨ck15, hyp⟩ := hyp
    obtain ⟨ck16, hyp⟩ := hyp
    refine mf_acopy (mf_dat eX5_findOpenings 30 rfl) ml_X5_67 na_copy st_copy ii_System ck12 ck13 (by decide) ck14 (by decide) ck15 ck16 (mf_rmf hd) (mf_rml hd (Nat.le_of_ble_eq_true rfl)) ?_
    generalize qh17 : mf_cpy h9 (g8 (g8 x0 2) 2) (g8 x0 7) 0 (mf_w32 (x4 * 8)) 8 = h17
    replace hyp := hyp _ qh17.symm
    refine mf_aload_n (mf_dat eX5_findOpenings 31 rfl) rfl rfl ?_
    refine mf_aload_n (mf_dat eX5_findOpenings 32 rfl) rfl rfl ?_
    refine mf_getf (r := (RX5, TX5, 12)) (ci := 5) (k := 2) (t := 2) (v := g8 x0 2) (mf_dat eX5_findOpenings 33 rfl) fl_X5_18 rfl (by decide) rfl rfl ck2 ?_
    refine mf_callV (Yc := YX5_isAsSeen) (r := (RX5, TX5, 12)) (ci := 5) (mf_dat eX5_findOpenings 34 rfl) ml_X5_143 okX5_isAsSeen im_X5_isAsSeen sl_X5_isAsSeen rfl rfl rfl rfl (Nat.le_of_ble_eq_true rfl) (mf_rr (Nat.le_trans (by decide) hd) (Nat.le_refl _)) (Nat.le_refl _) ck2 hyp (fun r18 g19 h20 hyp => ?_)
    refine mf_if_eq (tgt := 77) (mf_dat eX5_findOpenings 35 rfl) (by decide) (fun hc => ?_) (fun hc => ?_)
    · replace hyp := hyp.1 hc
      refine mf_iinc (mf_dat eX5_findOpenings 42 rfl) rfl (by decide) (by decide) ?_
      generalize qv21 : mf_w32 (x4 + 1) = v21
      replace hyp := hyp _ qv21.symm
      refine mf_goto (tgt := 5) (mf_dat eX5_findOpenings 43 rfl) (by decide) ?_
      exact mf_sub [1, 2, 3, 4, 0] rfl hyp
    · replace hyp := hyp.2 hc
      refine mf_iload_n (mf_dat eX5_findOpenings 36 rfl) rfl rfl ?_
      refine mf_iconst (v := 1) (mf_dat eX5_findOpenings 37 rfl) (by decide) ?_
      refine mf_iload (mf_dat eX5_findOpenings 38 rfl) rfl ?_
      refine mf_ishl (mf_dat eX5_findOpenings 39 rfl) ?_
      refine mf_ior (mf_dat eX5_findOpenings 40 rfl) ?_
      generalize qv22 : mf_or x3 (mf_shl 1 x4) = v22
      replace hyp := hyp _ qv22.symm
      refine mf_istore_n (mf_dat eX5_findOpenings 41 rfl) rfl (by decide) ?_
      refine mf_iinc (mf_dat eX5_findOpenings 42 rfl) rfl (by decide) (by decide) ?_
      generalize qv23 : mf_w32 (x4 + 1) = v23
      replace hyp := hyp _ qv23.symm
      refine mf_goto (tgt := 5) (mf_dat eX5_findOpenings 43 rfl) (by decide) ?_
      exact mf_sub [2, 3, 4, 1, 0] rfl hyp
set_option maxRecDepth 100000 in
set_option maxHeartbeats 4000000 in
theorem mX5_findOpenings {C : mf_G} {l : Launch} {d n : Nat} {K : mf_Kt} {x0 x1 x2 : Int} {g h : mf_M} (hyp : JX5_findOpenings_5 C l d n K x0 x1 x2 0 0 g h) : mf_MT C l d YX5_findOpenings [(2, x0), (2, x1), (2, x2)] n n g h K := by
  refine mf_entry (by decide) (Nat.le_of_ble_eq_true rfl) ?_
  refine mf_iconst (v := 0) (mf_dat eX5_findOpenings 0 rfl) (by decide) ?_
  refine mf_istore_n (mf_dat eX5_findOpenings 1 rfl) rfl (by decide) ?_
  refine mf_iconst (v := 0) (mf_dat eX5_findOpenings 2 rfl) (by decide) ?_
  refine mf_istore (mf_dat eX5_findOpenings 3 rfl) (by decide) ?_
  exact mf_sub [2, 3, 4, 1, 0] rfl hyp
abbrev JX5_isAsSeen_2 (C : mf_G) (l : Launch) (d n : Nat) (K : mf_Kt) (x0 x1 x2 : Int) (g h : mf_M) : Prop := mf_AW C l YX5_isAsSeen (mf_rm d n n) n (mf_Zm C YX5_isAsSeen n n K) (fun _ _ => True) 2 [(0, (2, x0)), (1, (2, x1)), (2, (0, x2))] [] n g h
set_option maxRecDepth 100000 in
set_option maxHeartbeats 4000000 in
theorem bX5_isAsSeen_2 {C : mf_G} {l : Launch} {d n : Nat} {K : mf_Kt} {x0 x1 x2 : Int} {g h : mf_M} (hyp : mf_is n x0 5 ∧ ((h x0 11 ≤ x2 → K 1 g h) ∧ (¬ h x0 11 ≤ x2 → ((16 ≤ x2 → K 1 g h) ∧ (¬ 16 ≤ x2 → mf_is n x1 6 ∧ mf_is n (g x0 8) 20 ∧ 0 ≤ x2 ∧ x2 < mf_len (g x0 8) ∧ mf_is n (g x1 2) 20 ∧ 0 ≤ h (g x0 8) x2 ∧ h (g x0 8) x2 < mf_len (g x1 2) ∧ mf_is n (g x0 9) 20 ∧ x2 < mf_len (g x0 9) ∧ ((h (g x1 2) (h (g x0 8) x2) = h (g x0 9) x2 → (∀ v11 : Int, v11 = mf_w32 (x2 + 1) → JX5_isAsSeen_2 C l d n K x0 x1 v11 g h)) ∧ (¬ h (g x1 2) (h (g x0 8) x2) = h (g x0 9) x2 → K 0 g h))))))) : JX5_isAsSeen_2 C l d n K x0 x1 x2 g h := by
  refine mf_iload_n (mf_dat eX5_isAsSeen 2 rfl) rfl rfl ?_
  refine mf_aload_n (mf_dat eX5_isAsSeen 3 rfl) rfl rfl ?_
  obtain ⟨ck1, hyp⟩ := hyp
  refine mf_getf (r := (RX5, TX5, 12)) (ci := 5) (k := 11) (t := 0) (v := h x0 11) (mf_dat eX5_isAsSeen 4 rfl) fl_X5_140 rfl (by decide) rfl rfl ck1 ?_
  refine mf_icmp_ge (tgt := 44) (mf_dat eX5_isAsSeen 5 rfl) (by decide) (fun hc => ?_) (fun hc => ?_)
  · replace hyp := hyp.1 hc
    refine mf_iconst (v := 1) (mf_dat eX5_isAsSeen 25 rfl) (by decide) ?_
    exact mf_ireturn (mf_dat eX5_isAsSeen 26 rfl) rfl (Or.inr ⟨rfl, by decide⟩) hyp
  · replace hyp := hyp.2 hc
    refine mf_iload_n (mf_dat eX5_isAsSeen 6 rfl) rfl rfl ?_
    refine mf_bipush (v := 16) (mf_dat eX5_isAsSeen 7 rfl) (by decide) ?_
    refine mf_icmp_ge (tgt := 44) (mf_dat eX5_isAsSeen 8 rfl) (by decide) (fun hc => ?_) (fun hc => ?_)
    · replace hyp := hyp.1 hc
      refine mf_iconst (v := 1) (mf_dat eX5_isAsSeen 25 rfl) (by decide) ?_
      exact mf_ireturn (mf_dat eX5_isAsSeen 26 rfl) rfl (Or.inr ⟨rfl, by decide⟩) hyp
    · replace hyp := hyp.2 hc
      refine mf_aload_n (mf_dat eX5_isAsSeen 9 rfl) rfl rfl ?_
      obtain ⟨ck2, hyp⟩ := hyp
      refine mf_getf (r := (RX6, TX6, 8)) (ci := 6) (k := 2) (t := 2) (v := g x1 2) (mf_dat eX5_isAsSeen 10 rfl) fl_X5_93 rfl (by decide) rfl rfl ck2 ?_
      refine mf_aload_n (mf_dat eX5_isAsSeen 11 rfl) rfl rfl ?_
      refine mf_getf (r := (RX5, TX5, 12)) (ci := 5) (k := 8) (t := 2) (v := g x0 8) (mf_dat eX5_isAsSeen 12 rfl) fl_X5_38 rfl (by decide) rfl rfl ck1 ?_
      refine mf_iload_n (mf_dat eX5_isAsSeen 13 rfl) rfl rfl ?_
      obtain ⟨ck3, hyp⟩ := hyp
      obtain ⟨ck4, hyp⟩ := hyp
      obtain ⟨ck5, hyp⟩ := hyp
      refine mf_iald (mf_dat eX5_isAsSeen 14 rfl) ck3 ck4 ck5 ?_
      obtain ⟨ck6, hyp⟩ := hyp
      obtain ⟨ck7, hyp⟩ := hyp
      obtain ⟨ck8, hyp⟩ := hyp
      refine mf_iald (mf_dat eX5_isAsSeen 15 rfl) ck6 ck7 ck8 ?_
      refine mf_aload_n (mf_dat eX5_isAsSeen 16 rfl) rfl rfl ?_
      refine mf_getf (r := (RX5, TX5, 12)) (ci := 5) (k := 9) (t := 2) (v := g x0 9) (mf_dat eX5_isAsSeen 17 rfl) fl_X5_41 rfl (by decide) rfl rfl ck1 ?_
      refine mf_iload_n (mf_dat eX5_isAsSeen 18 rfl) rfl rfl ?_
      obtain ⟨ck9, hyp⟩ := hyp
      obtain ⟨ck10, hyp⟩ := hyp
      refine mf_iald (mf_dat eX5_isAsSeen 19 rfl) ck9 ck4 ck10 ?_
      refine mf_icmp_eq (tgt := 38) (mf_dat eX5_isAsSeen 20 rfl) (by decide) (fun hc => ?_) (fun hc => ?_)
      · replace hyp := hyp.1 hc
        refine mf_iinc (mf_dat eX5_isAsSeen 23 rfl) rfl (by decide) (by decide) ?_
        generalize qv11 : mf_w32 (x2 + 1) = v11
        replace hyp := hyp _ qv11.symm
        refine mf_goto (tgt := 2) (mf_dat eX5_isAsSeen 24 rfl) (by decide) ?_
        exact mf_sub [1, 2, 0] rfl hyp
      · replace hyp := hyp.2 hc
        refine mf_iconst (v := 0) (mf_dat eX5_isAsSeen 21 rfl) (by decide) ?_
        exact mf_ireturn (mf_dat eX5_isAsSeen 22 rfl) rfl (Or.inr ⟨rfl, by decide⟩) hyp
set_option maxRecDepth 100000 in
set_option maxHeartbeats 4000000 in
theorem mX5_isAsSeen {C : mf_G} {l : Launch} {d n : Nat} {K : mf_Kt} {x0 x1 : Int} {g h : mf_M} (hyp : JX5_isAsSeen_2 C l d n K x0 x1 0 g h) : mf_MT C l d YX5_isAsSeen [(2, x0), (2, x1)] n n g h K := by
  refine mf_entry (by decide) (Nat.le_of_ble_eq_true rfl) ?_
  refine mf_iconst (v := 0) (mf_dat eX5_isAsSeen 0 rfl) (by decide) ?_
  refine mf_istore_n (mf_dat eX5_isAsSeen 1 rfl) rfl (by decide) ?_
  exact mf_sub [1, 2, 0] rfl hyp
abbrev JX5_askAfter_24 (C : mf_G) (l : Launch) (d n : Nat) (K : mf_Kt) (x0 x1 x3 x4 x5 x6 x7 : Int) (g h : mf_M) : Prop := mf_AW C l YX5_askAfter (mf_rm d n n) n (mf_Zm C YX5_askAfter n n K) (fun _ _ => True) 24 [(0, (2, x0)), (1, (2, x1)), (3, (0, x3)), (4, (0, x4)), (5, (0, x5)), (6, (0, x6)), (7, (0, x7))] [] n g h
set_option maxRecDepth 100000 in
set_option maxHeartbeats 4000000 in
theorem bX5_askAfter_24 {C : mf_G} {l : Launch} {d n : Nat} {K : mf_Kt} {x0 x1 x3 x4 x5 x6 x7 : Int} {g h : mf_M} (hd : 2 ≤ d) (hyp : mf_is n x1 1 ∧ ((h x1 12 ≤ x7 → ((¬ x3 = 0 → K x6 g h) ∧ (x3 = 0 → K x5 g h))) ∧ (¬ h x1 12 ≤ x7 → mf_is n x0 5 ∧ mf_MT C l 1 YX5_mostLeft [(2, x0), (2, x1), (0, x7), (0, x4)] n n g h (fun r2 g3 h4 => ((x5 = (-1) → (∀ v6 : Int, v6 = mf_w32 (x7 + 1) → JX5_askAfter_24 C l d n K x0 x1 x3 x4 x7 r2 v6 g3 h4)) ∧ (¬ x5 = (-1) → ((x6 ≤ r2 → (∀ v7 : Int, v7 = mf_w32 (x7 + 1) → JX5_askAfter_24 C l d n K x0 x1 x3 x4 x5 x6 v7 g3 h4)) ∧ (¬ x6 ≤ r2 → (∀ v8 : Int, v8 = mf_w32 (x7 + 1) → JX5_askAfter_24 C l d n K x0 x1 x3 x4 x7 r2 v8 g3 h4))))))))) : JX5_askAfter_24 C l d n K x0 x1 x3 x4 x5 x6 x7 g h := by
  refine mf_iload (mf_dat eX5_askAfter 15 rfl) rfl ?_
  refine mf_aload_n (mf_dat eX5_askAfter 16 rfl) rfl rfl ?_
  obtain ⟨ck1, hyp⟩ := hyp
  refine mf_getf (r := (RX1, TX1, 14)) (ci := 1) (k := 12) (t := 0) (v := h x1 12) (mf_dat eX5_askAfter 17 rfl) fl_X5_137 rfl (by decide) rfl rfl ck1 ?_
  refine mf_icmp_ge (tgt := 71) (mf_dat eX5_askAfter 18 rfl) (by decide) (fun hc => ?_) (fun hc => ?_)
  · replace hyp := hyp.1 hc
    refine mf_iload_n (mf_dat eX5_askAfter 37 rfl) rfl rfl ?_
    refine mf_if_ne (tgt := 80) (mf_dat eX5_askAfter 38 rfl) (by decide) (fun hc => ?_) (fun hc => ?_)
    · replace hyp := hyp.1 hc
      refine mf_iload (mf_dat eX5_askAfter 41 rfl) rfl ?_
      exact mf_ireturn (mf_dat eX5_askAfter 42 rfl) rfl (Or.inl rfl) hyp
    · replace hyp := hyp.2 hc
      refine mf_iload (mf_dat eX5_askAfter 39 rfl) rfl ?_
      refine mf_goto (tgt := 82) (mf_dat eX5_askAfter 40 rfl) (by decide) ?_
      exact mf_ireturn (mf_dat eX5_askAfter 42 rfl) rfl (Or.inl rfl) hyp
  · replace hyp := hyp.2 hc
    refine mf_aload_n (mf_dat eX5_askAfter 19 rfl) rfl rfl ?_
    refine mf_aload_n (mf_dat eX5_askAfter 20 rfl) rfl rfl ?_
    refine mf_iload (mf_dat eX5_askAfter 21 rfl) rfl ?_
    refine mf_iload (mf_dat eX5_askAfter 22 rfl) rfl ?_
    obtain ⟨ck5, hyp⟩ := hyp
    refine mf_callV (Yc := YX5_mostLeft) (r := (RX5, TX5, 12)) (ci := 5) (mf_dat eX5_askAfter 23 rfl) ml_X5_151 okX5_mostLeft im_X5_mostLeft sl_X5_mostLeft rfl rfl rfl rfl (Nat.le_of_ble_eq_true rfl) (mf_rr (Nat.le_trans (by decide) hd) (Nat.le_refl _)) (Nat.le_refl _) ck5 hyp (fun r2 g3 h4 hyp => ?_)
    refine mf_istore (mf_dat eX5_askAfter 24 rfl) (by decide) ?_
    refine mf_iload (mf_dat eX5_askAfter 25 rfl) rfl ?_
    refine mf_iconst (v := (-1)) (mf_dat eX5_askAfter 26 rfl) (by decide) ?_
    refine mf_icmp_eq (tgt := 57) (mf_dat eX5_askAfter 27 rfl) (by decide) (fun hc => ?_) (fun hc => ?_)
    · replace hyp := hyp.1 hc
      refine mf_iload (mf_dat eX5_askAfter 31 rfl) rfl ?_
      refine mf_istore (mf_dat eX5_askAfter 32 rfl) (by decide) ?_
      refine mf_iload (mf_dat eX5_askAfter 33 rfl) rfl ?_
      refine mf_istore (mf_dat eX5_askAfter 34 rfl) (by decide) ?_
      refine mf_iinc (mf_dat eX5_askAfter 35 rfl) rfl (by decide) (by decide) ?_
      generalize qv6 : mf_w32 (x7 + 1) = v6
      replace hyp := hyp _ qv6.symm
      refine mf_goto (tgt := 24) (mf_dat eX5_askAfter 36 rfl) (by decide) ?_
      exact mf_sub [4, 5, 6, 7, 2, 1, 0] rfl hyp
    · replace hyp := hyp.2 hc
      refine mf_iload (mf_dat eX5_askAfter 28 rfl) rfl ?_
      refine mf_iload (mf_dat eX5_askAfter 29 rfl) rfl ?_
      refine mf_icmp_ge (tgt := 65) (mf_dat eX5_askAfter 30 rfl) (by decide) (fun hc => ?_) (fun hc => ?_)
      · replace hyp := hyp.1 hc
        refine mf_iinc (mf_dat eX5_askAfter 35 rfl) rfl (by decide) (by decide) ?_
        generalize qv7 : mf_w32 (x7 + 1) = v7
        replace hyp := hyp _ qv7.symm
        refine mf_goto (tgt := 24) (mf_dat eX5_askAfter 36 rfl) (by decide) ?_
        exact mf_sub [2, 3, 4, 5, 6, 7, 0] rfl hyp
      · replace hyp := hyp.2 hc
        refine mf_iload (mf_dat eX5_askAfter 31 rfl) rfl ?_
        refine mf_istore (mf_dat eX5_askAfter 32 rfl) (by decide) ?_
        refine mf_iload (mf_dat eX5_askAfter 33 rfl) rfl ?_
        refine mf_istore (mf_dat eX5_askAfter 34 rfl) (by decide) ?_
        refine mf_iinc (mf_dat eX5_askAfter 35 rfl) rfl (by decide) (by decide) ?_
        generalize qv8 : mf_w32 (x7 + 1) = v8
        replace hyp := hyp _ qv8.symm
        refine mf_goto (tgt := 24) (mf_dat eX5_askAfter 36 rfl) (by decide) ?_
        exact mf_sub [4, 5, 6, 7, 2, 1, 0] rfl hyp
set_option maxRecDepth 100000 in
set_option maxHeartbeats 4000000 in
theorem mX5_askAfter {C : mf_G} {l : Launch} {d n : Nat} {K : mf_Kt} {x0 x1 x2 x3 : Int} {g h : mf_M} (hd : 7 ≤ d) (hyp : mf_is n x0 5 ∧ mf_MT C l 6 YX5_findOpenings [(2, x0), (2, x1), (2, x2)] n n g h (fun r1 g2 h3 => ((¬ r1 = 0 → JX5_askAfter_24 C l d n K x0 x1 x3 r1 (-1) (-1) 0 g2 h3) ∧ (r1 = 0 → K (-1) g2 h3)))) : mf_MT C l d YX5_askAfter [(2, x0), (2, x1), (2, x2), (0, x3)] n n g h K := by
  refine mf_entry (by decide) (Nat.le_of_ble_eq_true rfl) ?_
  refine mf_aload_n (mf_dat eX5_askAfter 0 rfl) rfl rfl ?_
  refine mf_aload_n (mf_dat eX5_askAfter 1 rfl) rfl rfl ?_
  refine mf_aload_n (mf_dat eX5_askAfter 2 rfl) rfl rfl ?_
  obtain ⟨ck4, hyp⟩ := hyp
  refine mf_callV (Yc := YX5_findOpenings) (r := (RX5, TX5, 12)) (ci := 5) (mf_dat eX5_askAfter 3 rfl) ml_X5_147 okX5_findOpenings im_X5_findOpenings sl_X5_findOpenings rfl rfl rfl rfl (Nat.le_of_ble_eq_true rfl) (mf_rr (Nat.le_trans (by decide) hd) (Nat.le_refl _)) (Nat.le_refl _) ck4 hyp (fun r1 g2 h3 hyp => ?_)
  refine mf_istore (mf_dat eX5_askAfter 4 rfl) (by decide) ?_
  refine mf_iload (mf_dat eX5_askAfter 5 rfl) rfl ?_
  refine mf_if_ne (tgt := 15) (mf_dat eX5_askAfter 6 rfl) (by decide) (fun hc => ?_) (fun hc => ?_)
  · replace hyp := hyp.1 hc
    refine mf_iconst (v := (-1)) (mf_dat eX5_askAfter 9 rfl) (by decide) ?_
    refine mf_istore (mf_dat eX5_askAfter 10 rfl) (by decide) ?_
    refine mf_iconst (v := (-1)) (mf_dat eX5_askAfter 11 rfl) (by decide) ?_
    refine mf_istore (mf_dat eX5_askAfter 12 rfl) (by decide) ?_
    refine mf_iconst (v := 0) (mf_dat eX5_askAfter 13 rfl) (by decide) ?_
    refine mf_istore (mf_dat eX5_askAfter 14 rfl) (by decide) ?_
    exact mf_sub [4, 5, 7, 3, 2, 1, 0] rfl hyp
  · replace hyp := hyp.2 hc
    refine mf_iconst (v := (-1)) (mf_dat eX5_askAfter 7 rfl) (by decide) ?_
    exact mf_ireturn (mf_dat eX5_askAfter 8 rfl) rfl (Or.inl rfl) hyp
abbrev JX5_mostLeft_6 (C : mf_G) (l : Launch) (d n : Nat) (K : mf_Kt) (x0 x1 x2 x3 x4 x5 : Int) (g h : mf_M) : Prop := mf_AW C l YX5_mostLeft (mf_rm d n n) n (mf_Zm C YX5_mostLeft n n K) (fun _ _ => True) 6 [(0, (2, x0)), (1, (2, x1)), (2, (0, x2)), (3, (0, x3)), (4, (0, x4)), (5, (0, x5))] [] n g h
abbrev JX5_mostLeft_21 (C : mf_G) (l : Launch) (d n : Nat) (K : mf_Kt) (x0 x1 x2 x3 x4 x5 x6 x7 : Int) (g h : mf_M) : Prop := mf_AW C l YX5_mostLeft (mf_rm d n n) n (mf_Zm C YX5_mostLeft n n K) (fun _ _ => True) 21 [(0, (2, x0)), (1, (2, x1)), (2, (0, x2)), (3, (0, x3)), (4, (0, x4)), (5, (0, x5)), (6, (0, x6)), (7, (0, x7))] [] n g h
set_option maxRecDepth 100000 in
set_option maxHeartbeats 4000000 in
theorem bX5_mostLeft_6 {C : mf_G} {l : Launch} {d n : Nat} {K : mf_Kt} {x0 x1 x2 x3 x4 x5 : Int} {g h : mf_M} (hyp : mf_is n x1 1 ∧ ((h x1 9 ≤ x5 → K x4 g h) ∧ (¬ h x1 9 ≤ x5 → JX5_mostLeft_21 C l d n K x0 x1 x2 x3 x4 x5 0 0 g h))) : JX5_mostLeft_6 C l d n K x0 x1 x2 x3 x4 x5 g h := by
  refine mf_iload (mf_dat eX5_mostLeft 4 rfl) rfl ?_
  refine mf_aload_n (mf_dat eX5_mostLeft 5 rfl) rfl rfl ?_
  obtain ⟨ck1, hyp⟩ := hyp
  refine mf_getf (r := (RX1, TX1, 14)) (ci := 1) (k := 9) (t := 0) (v := h x1 9) (mf_dat eX5_mostLeft 6 rfl) fl_X5_119 rfl (by decide) rfl rfl ck1 ?_
  refine mf_icmp_ge (tgt := 81) (mf_dat eX5_mostLeft 7 rfl) (by decide) (fun hc => ?_) (fun hc => ?_)
  · replace hyp := hyp.1 hc
    refine mf_iload (mf_dat eX5_mostLeft 42 rfl) rfl ?_
    exact mf_ireturn (mf_dat eX5_mostLeft 43 rfl) rfl (Or.inl rfl) hyp
  · replace hyp := hyp.2 hc
    refine mf_iconst (v := 0) (mf_dat eX5_mostLeft 8 rfl) (by decide) ?_
    refine mf_istore (mf_dat eX5_mostLeft 9 rfl) (by decide) ?_
    refine mf_iconst (v := 0) (mf_dat eX5_mostLeft 10 rfl) (by decide) ?_
    refine mf_istore (mf_dat eX5_mostLeft 11 rfl) (by decide) ?_
    exact mf_sub [2, 3, 4, 5, 6, 7, 1, 0] rfl hyp
set_option maxRecDepth 100000 in
set_option maxHeartbeats 4000000 in
theorem bX5_mostLeft_21 {C : mf_G} {l : Launch} {d n : Nat} {K : mf_Kt} {x0 x1 x2 x3 x4 x5 x6 x7 : Int} {g h : mf_M} (hd : 1 ≤ d) (hyp : mf_is n x1 1 ∧ ((h x1 8 < x7 → mf_MT C l 0 YJ9_max_7cf53 [(0, x4), (0, x6)] n n g h (fun r2 g3 h4 => (∀ v5 : Int, v5 = mf_w32 (x5 + 1) → JX5_mostLeft_6 C l d n K x0 x1 x2 x3 r2 v5 g3 h4))) ∧ (¬ h x1 8 < x7 → ((¬ mf_and (mf_shr x3 x7) 1 = 1 → (∀ v6 : Int, v6 = mf_w32 (x7 + 1) → JX5_mostLeft_21 C l d n K x0 x1 x2 x3 x4 x5 x6 v6 g h)) ∧ (mf_and (mf_shr x3 x7) 1 = 1 → mf_is n x0 5 ∧ mf_is n (g x0 7) 20 ∧ 0 ≤ mf_w32 ((mf_w32 (x7 * 8)) + x2) ∧ mf_w32 ((mf_w32 (x7 * 8)) + x2) < mf_len (g x0 7) ∧ ((¬ h (g x0 7) (mf_w32 ((mf_w32 (x7 * 8)) + x2)) = x5 → (∀ v11 : Int, v11 = mf_w32 (x7 + 1) → JX5_mostLeft_21 C l d n K x0 x1 x2 x3 x4 x5 x6 v11 g h)) ∧ (h (g x0 7) (mf_w32 ((mf_w32 (x7 * 8)) + x2)) = x5 → (∀ v12 : Int, v12 = mf_w32 (x6 + 1) → (∀ v13 : Int, v13 = mf_w32 (x7 + 1) → JX5_mostLeft_21 C l d n K x0 x1 x2 x3 x4 x5 v12 v13 g h))))))))) : JX5_mostLeft_21 C l d n K x0 x1 x2 x3 x4 x5 x6 x7 g h := by
  refine mf_iload (mf_dat eX5_mostLeft 12 rfl) rfl ?_
  refine mf_aload_n (mf_dat eX5_mostLeft 13 rfl) rfl rfl ?_
  obtain ⟨ck1, hyp⟩ := hyp
  refine mf_getf (r := (RX1, TX1, 14)) (ci := 1) (k := 8) (t := 0) (v := h x1 8) (mf_dat eX5_mostLeft 14 rfl) fl_X5_54 rfl (by decide) rfl rfl ck1 ?_
  refine mf_icmp_gt (tgt := 66) (mf_dat eX5_mostLeft 15 rfl) (by decide) (fun hc => ?_) (fun hc => ?_)
  · replace hyp := hyp.1 hc
    refine mf_iload (mf_dat eX5_mostLeft 36 rfl) rfl ?_
    refine mf_iload (mf_dat eX5_mostLeft 37 rfl) rfl ?_
    refine mf_callS (Yc := YJ9_max_7cf53) (mf_dat eX5_mostLeft 38 rfl) ml_X5_155 okJ9_max_7cf53 sm_J9_max_7cf53 rfl rfl (Nat.le_of_ble_eq_true rfl) (mf_rr (Nat.le_trans (by decide) hd) (Nat.le_refl _)) (Nat.le_refl _) hyp (fun r2 g3 h4 hyp => ?_)
    refine mf_istore (mf_dat eX5_mostLeft 39 rfl) (by decide) ?_
    refine mf_iinc (mf_dat eX5_mostLeft 40 rfl) rfl (by decide) (by decide) ?_
    generalize qv5 : mf_w32 (x5 + 1) = v5
    replace hyp := hyp _ qv5.symm
    refine mf_goto (tgt := 6) (mf_dat eX5_mostLeft 41 rfl) (by decide) ?_
    exact mf_sub [2, 3, 4, 5, 1, 0] rfl hyp
  · replace hyp := hyp.2 hc
    refine mf_iload_n (mf_dat eX5_mostLeft 16 rfl) rfl rfl ?_
    refine mf_iload (mf_dat eX5_mostLeft 17 rfl) rfl ?_
    refine mf_ishr (mf_dat eX5_mostLeft 18 rfl) ?_
    refine mf_iconst (v := 1) (mf_dat eX5_mostLeft 19 rfl) (by decide) ?_
    refine mf_iand (mf_dat eX5_mostLeft 20 rfl) ?_
    refine mf_iconst (v := 1) (mf_dat eX5_mostLeft 21 rfl) (by decide) ?_
    refine mf_icmp_ne (tgt := 60) (mf_dat eX5_mostLeft 22 rfl) (by decide) (fun hc => ?_) (fun hc => ?_)
    · replace hyp := hyp.1 hc
      refine mf_iinc (mf_dat eX5_mostLeft 34 rfl) rfl (by decide) (by decide) ?_
      generalize qv6 : mf_w32 (x7 + 1) = v6
      replace hyp := hyp _ qv6.symm
      refine mf_goto (tgt := 21) (mf_dat eX5_mostLeft 35 rfl) (by decide) ?_
      exact mf_sub [1, 2, 3, 4, 5, 6, 7, 0] rfl hyp
    · replace hyp := hyp.2 hc
      refine mf_aload_n (mf_dat eX5_mostLeft 23 rfl) rfl rfl ?_
      obtain ⟨ck7, hyp⟩ := hyp
      refine mf_getf (r := (RX5, TX5, 12)) (ci := 5) (k := 7) (t := 2) (v := g x0 7) (mf_dat eX5_mostLeft 24 rfl) fl_X5_35 rfl (by decide) rfl rfl ck7 ?_
      refine mf_iload (mf_dat eX5_mostLeft 25 rfl) rfl ?_
      refine mf_bipush (v := 8) (mf_dat eX5_mostLeft 26 rfl) (by decide) ?_
      refine mf_imul (mf_dat eX5_mostLeft 27 rfl) ?_
      refine mf_iload_n (mf_dat eX5_mostLeft 28 rfl) rfl rfl ?_
      refine mf_iadd (mf_dat eX5_mostLeft 29 rfl) ?_
      obtain ⟨ck8, hyp⟩ := hyp
      obtain ⟨ck9, hyp⟩ := hyp
      obtain ⟨ck10, hyp⟩ := hyp
      refine mf_iald (mf_dat eX5_mostLeft 30 rfl) ck8 ck9 ck10 ?_
      refine mf_iload (mf_dat eX5_mostLeft 31 rfl) rfl ?_
      refine mf_icmp_ne (tgt := 60) (mf_dat eX5_mostLeft 32 rfl) (by decide) (fun hc => ?_) (fun hc => ?_)
      · replace hyp := hyp.1 hc
        refine mf_iinc (mf_dat eX5_mostLeft 34 rfl) rfl (by decide) (by decide) ?_
        generalize qv11 : mf_w32 (x7 + 1) = v11
        replace hyp := hyp _ qv11.symm
        refine mf_goto (tgt := 21) (mf_dat eX5_mostLeft 35 rfl) (by decide) ?_
        exact mf_sub [1, 2, 3, 4, 5, 6, 7, 0] rfl hyp
      · replace hyp := hyp.2 hc
        refine mf_iinc (mf_dat eX5_mostLeft 33 rfl) rfl (by decide) (by decide) ?_
        generalize qv12 : mf_w32 (x6 + 1) = v12
        replace hyp := hyp _ qv12.symm
        refine mf_iinc (mf_dat eX5_mostLeft 34 rfl) rfl (by decide) (by decide) ?_
        generalize qv13 : mf_w32 (x7 + 1) = v13
        replace hyp := hyp _ qv13.symm
        refine mf_goto (tgt := 21) (mf_dat eX5_mostLeft 35 rfl) (by decide) ?_
        exact mf_sub [2, 3, 4, 5, 6, 7, 1, 0] rfl hyp
set_option maxRecDepth 100000 in
set_option maxHeartbeats 4000000 in
theorem mX5_mostLeft {C : mf_G} {l : Launch} {d n : Nat} {K : mf_Kt} {x0 x1 x2 x3 : Int} {g h : mf_M} (hyp : JX5_mostLeft_6 C l d n K x0 x1 x2 x3 0 0 g h) : mf_MT C l d YX5_mostLeft [(2, x0), (2, x1), (0, x2), (0, x3)] n n g h K := by
  refine mf_entry (by decide) (Nat.le_of_ble_eq_true rfl) ?_
  refine mf_iconst (v := 0) (mf_dat eX5_mostLeft 0 rfl) (by decide) ?_
  refine mf_istore (mf_dat eX5_mostLeft 1 rfl) (by decide) ?_
  refine mf_iconst (v := 0) (mf_dat eX5_mostLeft 2 rfl) (by decide) ?_
  refine mf_istore (mf_dat eX5_mostLeft 3 rfl) (by decide) ?_
  exact mf_sub [2, 3, 4, 5, 1, 0] rfl hyp
abbrev JX5_findTrim_22 (C : mf_G) (l : Launch) (d n : Nat) (K : mf_Kt) (x1 x2 x3 x6 x7 x8 : Int) (g h : mf_M) : Prop := mf_AW C l YX5_findTrim (mf_rm d n n) n (mf_Zm C YX5_findTrim n n K) (fun _ _ => True) 22 [(1, (2, x1)), (2, (2, x2)), (3, (0, x3)), (6, (0, x6)), (7, (0, x7)), (8, (0, x8))] [] n g h
abbrev JX5_findTrim_46 (C : mf_G) (l : Launch) (d n : Nat) (K : mf_Kt) (x1 x2 x3 x6 x7 x8 : Int) (g h : mf_M) : Prop := mf_AW C l YX5_findTrim (mf_rm d n n) n (mf_Zm C YX5_findTrim n n K) (fun _ _ => True) 46 [(1, (2, x1)), (2, (2, x2)), (3, (0, x3)), (6, (0, x6)), (7, (0, x7)), (8, (0, x8))] [] n g h
set_option maxRecDepth 100000 in
set_option maxHeartbeats 4000000 in
theorem bX5_findTrim_22 {C : mf_G} {l : Launch} {d n : Nat} {K : mf_Kt} {x1 x2 x3 x6 x7 x8 : Int} {g h : mf_M} (hd : 1 ≤ d) (hyp : mf_is n x1 1 ∧ ((h x1 9 ≤ x8 → K x7 g h) ∧ (¬ h x1 9 ≤ x8 → mf_is n x2 6 ∧ mf_MT C l 0 YX6_whoStands [(2, x2), (0, x3), (0, x8), (0, h x1 12)] n n g h (fun r2 g3 h4 => ((r2 = (-1) → (∀ v6 : Int, v6 = mf_w32 (x8 + 1) → JX5_findTrim_22 C l d n K x1 x2 x3 x6 x7 v6 g3 h4)) ∧ (¬ r2 = (-1) → JX5_findTrim_46 C l d n K x1 x2 x3 x6 x7 x8 g3 h4)))))) : JX5_findTrim_22 C l d n K x1 x2 x3 x6 x7 x8 g h := by
  refine mf_iload (mf_dat eX5_findTrim 13 rfl) rfl ?_
  refine mf_aload_n (mf_dat eX5_findTrim 14 rfl) rfl rfl ?_
  obtain ⟨ck1, hyp⟩ := hyp
  refine mf_getf (r := (RX1, TX1, 14)) (ci := 1) (k := 9) (t := 0) (v := h x1 9) (mf_dat eX5_findTrim 15 rfl) fl_X5_119 rfl (by decide) rfl rfl ck1 ?_
  refine mf_icmp_ge (tgt := 97) (mf_dat eX5_findTrim 16 rfl) (by decide) (fun hc => ?_) (fun hc => ?_)
  · replace hyp := hyp.1 hc
    refine mf_iload (mf_dat eX5_findTrim 49 rfl) rfl ?_
    exact mf_ireturn (mf_dat eX5_findTrim 50 rfl) rfl (Or.inl rfl) hyp
  · replace hyp := hyp.2 hc
    refine mf_aload_n (mf_dat eX5_findTrim 17 rfl) rfl rfl ?_
    refine mf_iload_n (mf_dat eX5_findTrim 18 rfl) rfl rfl ?_
    refine mf_iload (mf_dat eX5_findTrim 19 rfl) rfl ?_
    refine mf_aload_n (mf_dat eX5_findTrim 20 rfl) rfl rfl ?_
    refine mf_getf (r := (RX1, TX1, 14)) (ci := 1) (k := 12) (t := 0) (v := h x1 12) (mf_dat eX5_findTrim 21 rfl) fl_X5_137 rfl (by decide) rfl rfl ck1 ?_
    obtain ⟨ck5, hyp⟩ := hyp
    refine mf_callV (Yc := YX6_whoStands) (r := (RX6, TX6, 8)) (ci := 6) (mf_dat eX5_findTrim 22 rfl) ml_X5_161 okX6_whoStands im_X6_whoStands sl_X6_whoStands rfl rfl rfl rfl (Nat.le_of_ble_eq_true rfl) (mf_rr (Nat.le_trans (by decide) hd) (Nat.le_refl _)) (Nat.le_refl _) ck5 hyp (fun r2 g3 h4 hyp => ?_)
    refine mf_iconst (v := (-1)) (mf_dat eX5_findTrim 23 rfl) (by decide) ?_
    refine mf_icmp_eq (tgt := 91) (mf_dat eX5_findTrim 24 rfl) (by decide) (fun hc => ?_) (fun hc => ?_)
    · replace hyp := hyp.1 hc
      refine mf_iinc (mf_dat eX5_findTrim 47 rfl) rfl (by decide) (by decide) ?_
      generalize qv6 : mf_w32 (x8 + 1) = v6
      replace hyp := hyp _ qv6.symm
      refine mf_goto (tgt := 22) (mf_dat eX5_findTrim 48 rfl) (by decide) ?_
      exact mf_sub [1, 2, 3, 4, 5, 0] rfl hyp
    · replace hyp := hyp.2 hc
      exact mf_sub [0, 1, 2, 3, 4, 5] rfl hyp
set_option maxRecDepth 100000 in
set_option maxHeartbeats 4000000 in
theorem bX5_findTrim_46 {C : mf_G} {l : Launch} {d n : Nat} {K : mf_Kt} {x1 x2 x3 x6 x7 x8 : Int} {g h : mf_M} (hd : 2 ≤ d) (hyp : ((x6 < 0 → ((0 ≤ x6 → (∀ v1 : Int, v1 = mf_w32 (x7 + (mf_w32 (x8 - x6))) → (∀ v2 : Int, v2 = mf_w32 (x6 + (-1)) → (∀ v3 : Int, v3 = mf_w32 (x8 + 1) → JX5_findTrim_22 C l d n K x1 x2 x3 v2 v1 v3 g h)))) ∧ (¬ 0 ≤ x6 → K (-1) g h))) ∧ (¬ x6 < 0 → mf_is n x1 1 ∧ mf_is n x2 6 ∧ mf_MT C l 1 YX6_isFree [(2, x2), (0, x3), (0, x6), (0, h x1 12)] n n g h (fun r5 g6 h7 => ((¬ r5 = 0 → ((0 ≤ x6 → (∀ v9 : Int, v9 = mf_w32 (x7 + (mf_w32 (x8 - x6))) → (∀ v10 : Int, v10 = mf_w32 (x6 + (-1)) → (∀ v11 : Int, v11 = mf_w32 (x8 + 1) → JX5_findTrim_22 C l d n K x1 x2 x3 v10 v9 v11 g6 h7)))) ∧ (¬ 0 ≤ x6 → K (-1) g6 h7))) ∧ (r5 = 0 → (∀ v12 : Int, v12 = mf_w32 (x6 + (-1)) → JX5_findTrim_46 C l d n K x1 x2 x3 v12 x7 x8 g6 h7))))))) : JX5_findTrim_46 C l d n K x1 x2 x3 x6 x7 x8 g h := by
  refine mf_iload (mf_dat eX5_findTrim 25 rfl) rfl ?_
  refine mf_if_lt (tgt := 71) (mf_dat eX5_findTrim 26 rfl) (by decide) (fun hc => ?_) (fun hc => ?_)
  · replace hyp := hyp.1 hc
    refine mf_iload (mf_dat eX5_findTrim 36 rfl) rfl ?_
    refine mf_if_ge (tgt := 78) (mf_dat eX5_findTrim 37 rfl) (by decide) (fun hc => ?_) (fun hc => ?_)
    · replace hyp := hyp.1 hc
      refine mf_iload (mf_dat eX5_findTrim 40 rfl) rfl ?_
      refine mf_iload (mf_dat eX5_findTrim 41 rfl) rfl ?_
      refine mf_iload (mf_dat eX5_findTrim 42 rfl) rfl ?_
      refine mf_isub (mf_dat eX5_findTrim 43 rfl) ?_
      refine mf_iadd (mf_dat eX5_findTrim 44 rfl) ?_
      generalize qv1 : mf_w32 (x7 + (mf_w32 (x8 - x6))) = v1
      replace hyp := hyp _ qv1.symm
      refine mf_istore (mf_dat eX5_findTrim 45 rfl) (by decide) ?_
      refine mf_iinc (mf_dat eX5_findTrim 46 rfl) rfl (by decide) (by decide) ?_
      generalize qv2 : mf_w32 (x6 + (-1)) = v2
      replace hyp := hyp _ qv2.symm
      refine mf_iinc (mf_dat eX5_findTrim 47 rfl) rfl (by decide) (by decide) ?_
      generalize qv3 : mf_w32 (x8 + 1) = v3
      replace hyp := hyp _ qv3.symm
      refine mf_goto (tgt := 22) (mf_dat eX5_findTrim 48 rfl) (by decide) ?_
      exact mf_sub [3, 4, 5, 1, 2, 0] rfl hyp
    · replace hyp := hyp.2 hc
      refine mf_iconst (v := (-1)) (mf_dat eX5_findTrim 38 rfl) (by decide) ?_
      exact mf_ireturn (mf_dat eX5_findTrim 39 rfl) rfl (Or.inl rfl) hyp
  · replace hyp := hyp.2 hc
    refine mf_aload_n (mf_dat eX5_findTrim 27 rfl) rfl rfl ?_
    refine mf_iload_n (mf_dat eX5_findTrim 28 rfl) rfl rfl ?_
    refine mf_iload (mf_dat eX5_findTrim 29 rfl) rfl ?_
    refine mf_aload_n (mf_dat eX5_findTrim 30 rfl) rfl rfl ?_
    obtain ⟨ck4, hyp⟩ := hyp
    refine mf_getf (r := (RX1, TX1, 14)) (ci := 1) (k := 12) (t := 0) (v := h x1 12) (mf_dat eX5_findTrim 31 rfl) fl_X5_137 rfl (by decide) rfl rfl ck4 ?_
    obtain ⟨ck8, hyp⟩ := hyp
    refine mf_callV (Yc := YX6_isFree) (r := (RX6, TX6, 8)) (ci := 6) (mf_dat eX5_findTrim 32 rfl) ml_X5_165 okX6_isFree im_X6_isFree sl_X6_isFree rfl rfl rfl rfl (Nat.le_of_ble_eq_true rfl) (mf_rr (Nat.le_trans (by decide) hd) (Nat.le_refl _)) (Nat.le_refl _) ck8 hyp (fun r5 g6 h7 hyp => ?_)
    refine mf_if_ne (tgt := 71) (mf_dat eX5_findTrim 33 rfl) (by decide) (fun hc => ?_) (fun hc => ?_)
    · replace hyp := hyp.1 hc
      refine mf_iload (mf_dat eX5_findTrim 36 rfl) rfl ?_
      refine mf_if_ge (tgt := 78) (mf_dat eX5_findTrim 37 rfl) (by decide) (fun hc => ?_) (fun hc => ?_)
      · replace hyp := hyp.1 hc
        refine mf_iload (mf_dat eX5_findTrim 40 rfl) rfl ?_
        refine mf_iload (mf_dat eX5_findTrim 41 rfl) rfl ?_
        refine mf_iload (mf_dat eX5_findTrim 42 rfl) rfl ?_
        refine mf_isub (mf_dat eX5_findTrim 43 rfl) ?_
        refine mf_iadd (mf_dat eX5_findTrim 44 rfl) ?_
        generalize qv9 : mf_w32 (x7 + (mf_w32 (x8 - x6))) = v9
        replace hyp := hyp _ qv9.symm
        refine mf_istore (mf_dat eX5_findTrim 45 rfl) (by decide) ?_
        refine mf_iinc (mf_dat eX5_findTrim 46 rfl) rfl (by decide) (by decide) ?_
        generalize qv10 : mf_w32 (x6 + (-1)) = v10
        replace hyp := hyp _ qv10.symm
        refine mf_iinc (mf_dat eX5_findTrim 47 rfl) rfl (by decide) (by decide) ?_
        generalize qv11 : mf_w32 (x8 + 1) = v11
        replace hyp := hyp _ qv11.symm
        refine mf_goto (tgt := 22) (mf_dat eX5_findTrim 48 rfl) (by decide) ?_
        exact mf_sub [3, 4, 5, 1, 2, 0] rfl hyp
      · replace hyp := hyp.2 hc
        refine mf_iconst (v := (-1)) (mf_dat eX5_findTrim 38 rfl) (by decide) ?_
        exact mf_ireturn (mf_dat eX5_findTrim 39 rfl) rfl (Or.inl rfl) hyp
    · replace hyp := hyp.2 hc
      refine mf_iinc (mf_dat eX5_findTrim 34 rfl) rfl (by decide) (by decide) ?_
      generalize qv12 : mf_w32 (x6 + (-1)) = v12
      replace hyp := hyp _ qv12.symm
      refine mf_goto (tgt := 46) (mf_dat eX5_findTrim 35 rfl) (by decide) ?_
      exact mf_sub [1, 2, 3, 0, 4, 5] rfl hyp
set_option maxRecDepth 100000 in
set_option maxHeartbeats 4000000 in
theorem mX5_findTrim {C : mf_G} {l : Launch} {d n : Nat} {K : mf_Kt} {x0 x1 x2 x3 x4 : Int} {g h : mf_M} (hyp : mf_is n x1 1 ∧ (∀ v2 : Int, v2 = mf_w32 ((h x1 9) - x4) → (∀ v3 : Int, v3 = mf_w32 (v2 - 1) → JX5_findTrim_22 C l d n K x1 x2 x3 v3 0 v2 g h))) : mf_MT C l d YX5_findTrim [(2, x0), (2, x1), (2, x2), (0, x3), (0, x4)] n n g h K := by
  refine mf_entry (by decide) (Nat.le_of_ble_eq_true rfl) ?_
  refine mf_aload_n (mf_dat eX5_findTrim 0 rfl) rfl rfl ?_
  obtain ⟨ck1, hyp⟩ := hyp
  refine mf_getf (r := (RX1, TX1, 14)) (ci := 1) (k := 9) (t := 0) (v := h x1 9) (mf_dat eX5_findTrim 1 rfl) fl_X5_119 rfl (by decide) rfl rfl ck1 ?_
  refine mf_iload (mf_dat eX5_findTrim 2 rfl) rfl ?_
  refine mf_isub (mf_dat eX5_findTrim 3 rfl) ?_
  generalize qv2 : mf_w32 ((h x1 9) - x4) = v2
  replace hyp := hyp _ qv2.symm
  refine mf_istore (mf_dat eX5_findTrim 4 rfl) (by decide) ?_
  refine mf_iload (mf_dat eX5_findTrim 5 rfl) rfl ?_
  refine mf_iconst (v := 1) (mf_dat eX5_findTrim 6 rfl) (by decide) ?_
  refine mf_isub (mf_dat eX5_findTrim 7 rfl) ?_
  generalize qv3 : mf_w32 (v2 - 1) = v3
  replace hyp := hyp _ qv3.symm
  refine mf_istore (mf_dat eX5_findTrim 8 rfl) (by decide) ?_
  refine mf_iconst (v := 0) (mf_dat eX5_findTrim 9 rfl) (by decide) ?_
  refine mf_istore (mf_dat eX5_findTrim 10 rfl) (by decide) ?_
  refine mf_iload (mf_dat eX5_findTrim 11 rfl) rfl ?_
  refine mf_istore (mf_dat eX5_findTrim 12 rfl) (by decide) ?_
  exact mf_sub [5, 6, 7, 2, 1, 0] rfl hyp
set_option maxRecDepth 100000 in
set_option maxHeartbeats 4000000 in
theorem mX6_init {C : mf_G} {l : Launch} {d n0 n1 : Nat} {K : mf_Kt} {x0 : Int} {g h : mf_M} (hd : 1 ≤ d) (hyp : 0 ≤ x0 ∧ mf_sh n0 = (20, 6) ∧ mf_more (mf_rm d n0 n1) n0 n0 ∧ (∀ j : Nat, g n0 j = -1) ∧ (∀ j : Nat, h n0 j = 0) ∧ mf_is (n0 + 1) x0 6 ∧ (∀ g7 : mf_M, g7 = mf_up g x0 0 ((n0 : Nat) : Int) → mf_sh (n0 + 1) = (20, 8) ∧ mf_more (mf_rm d n0 n1) n0 (n0 + 1) ∧ (∀ j : Nat, g7 (n0 + 1) j = -1) ∧ (∀ j : Nat, h (n0 + 1) j = 0) ∧ mf_is (n0 + 2) x0 6 ∧ (∀ g13 : mf_M, g13 = mf_up g7 x0 1 ((n0 + 1 : Nat) : Int) → mf_sh (n0 + 2) = (20, 8) ∧ mf_more (mf_rm d n0 n1) n0 (n0 + 2) ∧ (∀ j : Nat, g13 (n0 + 2) j = -1) ∧ (∀ j : Nat, h (n0 + 2) j = 0) ∧ mf_is (n0 + 3) x0 6 ∧ (∀ g19 : mf_M, g19 = mf_up g13 x0 2 ((n0 + 2 : Nat) : Int) → mf_sh (n0 + 3) = (20, 8) ∧ mf_more (mf_rm d n0 n1) n0 (n0 + 3) ∧ (∀ j : Nat, g19 (n0 + 3) j = -1) ∧ (∀ j : Nat, h (n0 + 3) j = 0) ∧ mf_is (n0 + 4) x0 6 ∧ (∀ g25 : mf_M, g25 = mf_up g19 x0 3 ((n0 + 3 : Nat) : Int) → mf_sh (n0 + 4) = (20, 8) ∧ mf_more (mf_rm d n0 n1) n0 (n0 + 4) ∧ (∀ j : Nat, g25 (n0 + 4) j = -1) ∧ (∀ j : Nat, h (n0 + 4) j = 0) ∧ mf_is (n0 + 5) x0 6 ∧ (∀ g31 : mf_M, g31 = mf_up g25 x0 4 ((n0 + 4 : Nat) : Int) → mf_sh (n0 + 5) = (20, 40) ∧ mf_more (mf_rm d n0 n1) n0 (n0 + 5) ∧ (∀ j : Nat, g31 (n0 + 5) j = -1) ∧ (∀ j : Nat, h (n0 + 5) j = 0) ∧ mf_is (n0 + 6) x0 6 ∧ (∀ g37 : mf_M, g37 = mf_up g31 x0 5 ((n0 + 5 : Nat) : Int) → n0 + 6 = n1 ∧ K 0 g37 h))))))) : mf_MT C l d YX6_init [(2, x0)] n0 n1 g h K := by
  refine mf_entry (by decide) (Nat.le_of_ble_eq_true rfl) ?_
  refine mf_aload_n (mf_dat eX6_init 0 rfl) rfl rfl ?_
  obtain ⟨ck1, hyp⟩ := hyp
  refine mf_objInit (mf_dat eX6_init 1 rfl) ml_X6_3 im_obj co_obj (mf_rmf hd) (mf_rml hd (Nat.le_of_ble_eq_true rfl)) ck1 ?_
  refine mf_aload_n (mf_dat eX6_init 2 rfl) rfl rfl ?_
  refine mf_bipush (v := 6) (mf_dat eX6_init 3 rfl) (by decide) ?_
  obtain ⟨ck2, hyp⟩ := hyp
  obtain ⟨ck3, hyp⟩ := hyp
  obtain ⟨ck4, hyp⟩ := hyp
  obtain ⟨ck5, hyp⟩ := hyp
  refine mf_newa (at_ := .int) (i := 0) (mf_dat eX6_init 4 rfl) ac_20 rfl ck2 rfl (by decide) rfl rfl (by decide) (by intro c; simp) (by decide) ck3 ck4 ck5 ?_
  obtain ⟨ck6, hyp⟩ := hyp
  refine mf_putRF (r := (RX6, TX6, 8)) (ci := 6) (k := 0) (kI := 0) (t := 2) (mf_dat eX6_init 5 rfl) fl_X6_9 rfl rfl (by decide) rfl (by decide) rfl rfl rfl (by decide) (fun h9 => absurd h9 (by decide)) ck6 ?_
  generalize qg7 : mf_up g x0 0 ((n0 : Nat) : Int) = g7
  replace hyp := hyp _ qg7.symm
  refine mf_aload_n (mf_dat eX6_init 6 rfl) rfl rfl ?_
  refine mf_bipush (v := 8) (mf_dat eX6_init 7 rfl) (by decide) ?_
  obtain ⟨ck8, hyp⟩ := hyp
  obtain ⟨ck9, hyp⟩ := hyp
  obtain ⟨ck10, hyp⟩ := hyp
  obtain ⟨ck11, hyp⟩ := hyp
  refine mf_newa (at_ := .int) (i := 0) (mf_dat eX6_init 8 rfl) ac_20 rfl ck8 rfl (by decide) rfl rfl (by decide) (by intro c; simp) (by decide) ck9 ck10 ck11 ?_
  obtain ⟨ck12, hyp⟩ := hyp
  refine mf_putRF (r := (RX6, TX6, 8)) (ci := 6) (k := 1) (kI := 1) (t := 2) (mf_dat eX6_init 9 rfl) fl_X6_15 rfl rfl (by decide) rfl (by decide) rfl rfl rfl (by decide) (fun h9 => absurd h9 (by decide)) ck12 ?_
  generalize qg13 : mf_up g7 x0 1 ((n0 + 1 : Nat) : Int) = g13
  replace hyp := hyp _ qg13.symm
  refine mf_aload_n (mf_dat eX6_init 10 rfl) rfl rfl ?_
  refine mf_bipush (v := 8) (mf_dat eX6_init 11 rfl) (by decide) ?_
  obtain ⟨ck14, hyp⟩ := hyp
  obtain ⟨ck15, hyp⟩ := hyp
  obtain ⟨ck16, hyp⟩ := hyp
  obtain ⟨ck17, hyp⟩ := hyp
  refine mf_newa (at_ := .int) (i := 0) (mf_dat eX6_init 12 rfl) ac_20 rfl ck14 rfl (by decide) rfl rfl (by decide) (by intro c; simp) (by decide) ck15 ck16 ck17 ?_
  obtain ⟨ck18, hyp⟩ := hyp
  refine mf_putRF (r := (RX6, TX6, 8)) (ci := 6) (k := 2) (kI := 2) (t := 2) (mf_dat eX6_init 13 rfl) fl_X6_18 rfl rfl (by decide) rfl (by decide) rfl rfl rfl (by decide) (fun h9 => absurd h9 (by decide)) ck18 ?_
  generalize qg19 : mf_up g13 x0 2 ((n0 + 2 : Nat) : Int) = g19
  replace hyp := hyp _ qg19.symm
  refine mf_aload_n (mf_dat eX6_init 14 rfl) rfl rfl ?_
  refine mf_bipush (v := 8) (mf_dat eX6_init 15 rfl) (by decide) ?_
  obtain ⟨ck20, hyp⟩ := hyp
  obtain ⟨ck21, hyp⟩ := hyp
  obtain ⟨ck22, hyp⟩ := hyp
  obtain ⟨ck23, hyp⟩ := hyp
  refine mf_newa (at_ := .int) (i := 0) (mf_dat eX6_init 16 rfl) ac_20 rfl ck20 rfl (by decide) rfl rfl (by decide) (by intro c; simp) (by decide) ck21 ck22 ck23 ?_
  obtain ⟨ck24, hyp⟩ := hyp
  refine mf_putRF (r := (RX6, TX6, 8)) (ci := 6) (k := 3) (kI := 3) (t := 2) (mf_dat eX6_init 17 rfl) fl_X6_21 rfl rfl (by decide) rfl (by decide) rfl rfl rfl (by decide) (fun h9 => absurd h9 (by decide)) ck24 ?_
  generalize qg25 : mf_up g19 x0 3 ((n0 + 3 : Nat) : Int) = g25
  replace hyp := hyp _ qg25.symm
  refine mf_aload_n (mf_dat eX6_init 18 rfl) rfl rfl ?_
  refine mf_bipush (v := 8) (mf_dat eX6_init 19 rfl) (by decide) ?_
  obtain ⟨ck26, hyp⟩ := hyp
  obtain ⟨ck27, hyp⟩ := hyp
  obtain ⟨ck28, hyp⟩ := hyp
  obtain ⟨ck29, hyp⟩ := hyp
  refine mf_newa (at_ := .int) (i := 0) (mf_dat eX6_init 20 rfl) ac_20 rfl ck26 rfl (by decide) rfl rfl (by decide) (by intro c; simp) (by decide) ck27 ck28 ck29 ?_
  obtain ⟨ck30, hyp⟩ := hyp
  refine mf_putRF (r := (RX6, TX6, 8)) (ci := 6) (k := 4) (kI := 4) (t := 2) (mf_dat eX6_init 21 rfl) fl_X6_24 rfl rfl (by decide) rfl (by decide) rfl rfl rfl (by decide) (fun h9 => absurd h9 (by decide)) ck30 ?_
  generalize qg31 : mf_up g25 x0 4 ((n0 + 4 : Nat) : Int) = g31
  replace hyp := hyp _ qg31.symm
  refine mf_aload_n (mf_dat eX6_init 22 rfl) rfl rfl ?_
  refine mf_bipush (v := 40) (mf_dat eX6_init 23 rfl) (by decide) ?_
  obtain ⟨ck32, hyp⟩ := hyp
  obtain ⟨ck33, hyp⟩ := hyp
  obtain ⟨ck34, hyp⟩ := hyp
  obtain ⟨ck35, hyp⟩ := hyp
  refine mf_newa (at_ := .int) (i := 0) (mf_dat eX6_init 24 rfl) ac_20 rfl ck32 rfl (by decide) rfl rfl (by decide) (by intro c; simp) (by decide) ck33 ck34 ck35 ?_
  obtain ⟨ck36, hyp⟩ := hyp
  refine mf_putRF (r := (RX6, TX6, 8)) (ci := 6) (k := 5) (kI := 5) (t := 2) (mf_dat eX6_init 25 rfl) fl_X6_27 rfl rfl (by decide) rfl (by decide) rfl rfl rfl (by decide) (fun h9 => absurd h9 (by decide)) ck36 ?_
  generalize qg37 : mf_up g31 x0 5 ((n0 + 5 : Nat) : Int) = g37
  replace hyp := hyp _ qg37.symm
  obtain ⟨ck38, hyp⟩ := hyp
  subst ck38
  exact mf_return (mf_dat eX6_init 26 rfl) rfl hyp
abbrev JX6_forget_12 (C : mf_G) (l : Launch) (d n : Nat) (K : mf_Kt) (x0 x1 : Int) (g h : mf_M) : Prop := mf_AW C l YX6_forget (mf_rm d n n) n (mf_Zm C YX6_forget n n K) (fun _ _ => True) 12 [(0, (2, x0)), (1, (0, x1))] [] n g h
set_option maxRecDepth 100000 in
set_option maxHeartbeats 4000000 in
theorem bX6_forget_12 {C : mf_G} {l : Launch} {d n : Nat} {K : mf_Kt} {x0 x1 : Int} {g h : mf_M} (hyp : mf_is n x0 6 ∧ mf_is n (g x0 0) 20 ∧ ((mf_len (g x0 0) ≤ x1 → K 0 g h) ∧ (¬ mf_len (g x0 0) ≤ x1 → 0 ≤ x1 ∧ x1 < mf_len (g x0 0) ∧ (∀ h5 : mf_M, h5 = mf_up h (g x0 0) x1 0 → (∀ v6 : Int, v6 = mf_w32 (x1 + 1) → JX6_forget_12 C l d n K x0 v6 g h5))))) : JX6_forget_12 C l d n K x0 x1 g h := by
  refine mf_iload_n (mf_dat eX6_forget 8 rfl) rfl rfl ?_
  refine mf_aload_n (mf_dat eX6_forget 9 rfl) rfl rfl ?_
  obtain ⟨ck1, hyp⟩ := hyp
  refine mf_getf (r := (RX6, TX6, 8)) (ci := 6) (k := 0) (t := 2) (v := g x0 0) (mf_dat eX6_forget 10 rfl) fl_X6_9 rfl (by decide) rfl rfl ck1 ?_
  obtain ⟨ck2, hyp⟩ := hyp
  refine mf_alen (c := 20) (i := 0) (ty := .int) (v := mf_len _) (mf_dat eX6_forget 11 rfl) (by decide) rfl ck2 rfl (mf_len_small _) ?_
  refine mf_icmp_ge (tgt := 34) (mf_dat eX6_forget 12 rfl) (by decide) (fun hc => ?_) (fun hc => ?_)
  · replace hyp := hyp.1 hc
    exact mf_return (mf_dat eX6_forget 20 rfl) rfl hyp
  · replace hyp := hyp.2 hc
    refine mf_aload_n (mf_dat eX6_forget 13 rfl) rfl rfl ?_
    refine mf_getf (r := (RX6, TX6, 8)) (ci := 6) (k := 0) (t := 2) (v := g x0 0) (mf_dat eX6_forget 14 rfl) fl_X6_9 rfl (by decide) rfl rfl ck1 ?_
    refine mf_iload_n (mf_dat eX6_forget 15 rfl) rfl rfl ?_
    refine mf_iconst (v := 0) (mf_dat eX6_forget 16 rfl) (by decide) ?_
    obtain ⟨ck3, hyp⟩ := hyp
    obtain ⟨ck4, hyp⟩ := hyp
    refine mf_iast (mf_dat eX6_forget 17 rfl) ck2 ck3 ck4 ?_
    generalize qh5 : mf_up h (g x0 0) x1 0 = h5
    replace hyp := hyp _ qh5.symm
    refine mf_iinc (mf_dat eX6_forget 18 rfl) rfl (by decide) (by decide) ?_
    generalize qv6 : mf_w32 (x1 + 1) = v6
    replace hyp := hyp _ qv6.symm
    refine mf_goto (tgt := 12) (mf_dat eX6_forget 19 rfl) (by decide) ?_
    exact mf_sub [1, 0] rfl hyp
set_option maxRecDepth 100000 in
set_option maxHeartbeats 4000000 in
theorem mX6_forget {C : mf_G} {l : Launch} {d n : Nat} {K : mf_Kt} {x0 : Int} {g h : mf_M} (hyp : mf_is n x0 6 ∧ (∀ h2 : mf_M, h2 = mf_up h x0 7 0 → (∀ h3 : mf_M, h3 = mf_up h2 x0 6 0 → JX6_forget_12 C l d n K x0 0 g h3))) : mf_MT C l d YX6_forget [(2, x0)] n n g h K := by
  refine mf_entry (by decide) (Nat.le_of_ble_eq_true rfl) ?_
  refine mf_aload_n (mf_dat eX6_forget 0 rfl) rfl rfl ?_
  refine mf_iconst (v := 0) (mf_dat eX6_forget 1 rfl) (by decide) ?_
  obtain ⟨ck1, hyp⟩ := hyp
  refine mf_putI (r := (RX6, TX6, 8)) (ci := 6) (k := 7) (kI := 7) (t := 0) (mf_dat eX6_forget 2 rfl) fl_X6_30 rfl rfl (by decide) rfl (by decide) rfl (by decide) (fun h9 => absurd h9 (by decide)) ck1 ?_
  generalize qh2 : mf_up h x0 7 0 = h2
  replace hyp := hyp _ qh2.symm
  refine mf_aload_n (mf_dat eX6_forget 3 rfl) rfl rfl ?_
  refine mf_iconst (v := 0) (mf_dat eX6_forget 4 rfl) (by decide) ?_
  refine mf_putI (r := (RX6, TX6, 8)) (ci := 6) (k := 6) (kI := 6) (t := 0) (mf_dat eX6_forget 5 rfl) fl_X6_34 rfl rfl (by decide) rfl (by decide) rfl (by decide) (fun h9 => absurd h9 (by decide)) ck1 ?_
  generalize qh3 : mf_up h2 x0 6 0 = h3
  replace hyp := hyp _ qh3.symm
  refine mf_iconst (v := 0) (mf_dat eX6_forget 6 rfl) (by decide) ?_
  refine mf_istore_n (mf_dat eX6_forget 7 rfl) rfl (by decide) ?_
  exact mf_sub [1, 0] rfl hyp
set_option maxRecDepth 100000 in
set_option maxHeartbeats 4000000 in
theorem mX6_copyAll {C : mf_G} {l : Launch} {d n : Nat} {K : mf_Kt} {x0 x1 : Int} {g h : mf_M} (hd : 2 ≤ d) (hyp : mf_is n x0 6 ∧ mf_MT C l 1 YX6_copyFolk [(2, x0), (2, x1)] n n g h (fun r1 g2 h3 => mf_is n x1 6 ∧ mf_is n (g2 x1 5) 20 ∧ mf_is n (g2 x0 5) 20 ∧ 0 + 40 ≤ mf_len (g2 x1 5) ∧ 0 + 40 ≤ mf_len (g2 x0 5) ∧ (∀ h10 : mf_M, h10 = mf_cpy h3 (g2 x1 5) (g2 x0 5) 0 0 40 → (∀ h11 : mf_M, h11 = mf_up h10 x0 6 (h10 x1 6) → K 0 g2 h11)))) : mf_MT C l d YX6_copyAll [(2, x0), (2, x1)] n n g h K := by
  refine mf_entry (by decide) (Nat.le_of_ble_eq_true rfl) ?_
  refine mf_aload_n (mf_dat eX6_copyAll 0 rfl) rfl rfl ?_
  refine mf_aload_n (mf_dat eX6_copyAll 1 rfl) rfl rfl ?_
  obtain ⟨ck4, hyp⟩ := hyp
  refine mf_callV (Yc := YX6_copyFolk) (r := (RX6, TX6, 8)) (ci := 6) (mf_dat eX6_copyAll 2 rfl) ml_X6_37 okX6_copyFolk im_X6_copyFolk sl_X6_copyFolk rfl rfl rfl rfl (Nat.le_of_ble_eq_true rfl) (mf_rr (Nat.le_trans (by decide) hd) (Nat.le_refl _)) (Nat.le_refl _) ck4 hyp (fun r1 g2 h3 hyp => ?_)
  refine mf_aload_n (mf_dat eX6_copyAll 3 rfl) rfl rfl ?_
  obtain ⟨ck5, hyp⟩ := hyp
  refine mf_getf (r := (RX6, TX6, 8)) (ci := 6) (k := 5) (t := 2) (v := g2 x1 5) (mf_dat eX6_copyAll 4 rfl) fl_X6_27 rfl (by decide) rfl rfl ck5 ?_
  refine mf_iconst (v := 0) (mf_dat eX6_copyAll 5 rfl) (by decide) ?_
  refine mf_aload_n (mf_dat eX6_copyAll 6 rfl) rfl rfl ?_
  refine mf_getf (r := (RX6, TX6, 8)) (ci := 6) (k := 5) (t := 2) (v := g2 x0 5) (mf_dat eX6_copyAll 7 rfl) fl_X6_27 rfl (by decide) rfl rfl ck4 ?_
  refine mf_iconst (v := 0) (mf_dat eX6_copyAll 8 rfl) (by decide) ?_
  refine mf_bipush (v := 40) (mf_dat eX6_copyAll 9 rfl) (by decide) ?_
  obtain ⟨ck6, hyp⟩ := hyp
  obtain ⟨ck7, hyp⟩ := hyp
  obtain ⟨ck8, hyp⟩ := hyp
  obtain ⟨ck9, hyp⟩ := hyp
  refine mf_acopy (mf_dat eX6_copyAll 10 rfl) ml_X6_41 na_copy st_copy ii_System ck6 ck7 (by decide) (by decide) (by decide) ck8 ck9 (mf_rmf hd) (mf_rml hd (Nat.le_of_ble_eq_true rfl)) ?_
  generalize qh10 : mf_cpy h3 (g2 x1 5) (g2 x0 5) 0 0 40 = h10
  replace hyp := hyp _ qh10.symm
  refine mf_aload_n (mf_dat eX6_copyAll 11 rfl) rfl rfl ?_
  refine mf_aload_n (mf_dat eX6_copyAll 12 rfl) rfl rfl ?_
  refine mf_getf (r := (RX6, TX6, 8)) (ci := 6) (k := 6) (t := 0) (v := h10 x1 6) (mf_dat eX6_copyAll 13 rfl) fl_X6_34 rfl (by decide) rfl rfl ck5 ?_
  refine mf_putI (r := (RX6, TX6, 8)) (ci := 6) (k := 6) (kI := 6) (t := 0) (mf_dat eX6_copyAll 14 rfl) fl_X6_34 rfl rfl (by decide) rfl (by decide) rfl (by decide) (fun h9 => absurd h9 (by decide)) ck4 ?_
  generalize qh11 : mf_up h10 x0 6 (h10 x1 6) = h11
  replace hyp := hyp _ qh11.symm
  exact mf_return (mf_dat eX6_copyAll 15 rfl) rfl hyp
set_option maxRecDepth 100000 in
set_option maxHeartbeats 4000000 in
theorem mX6_copyFolk {C : mf_G} {l : Launch} {d n : Nat} {K : mf_Kt} {x0 x1 : Int} {g h : mf_M} (hd : 1 ≤ d) (hyp : mf_is n x1 6 ∧ mf_is n x0 6 ∧ (∀ h3 : mf_M, h3 = mf_up h x0 7 (h x1 7) → mf_is n (g x1 0) 20 ∧ mf_is n (g x0 0) 20 ∧ 0 + 6 ≤ mf_len (g x1 0) ∧ 0 + 6 ≤ mf_len (g x0 0) ∧ (∀ h8 : mf_M, h8 = mf_cpy h3 (g x1 0) (g x0 0) 0 0 6 → mf_is n (g x1 1) 20 ∧ mf_is n (g x0 1) 20 ∧ 0 + 8 ≤ mf_len (g x1 1) ∧ 0 + 8 ≤ mf_len (g x0 1) ∧ (∀ h13 : mf_M, h13 = mf_cpy h8 (g x1 1) (g x0 1) 0 0 8 → mf_is n (g x1 2) 20 ∧ mf_is n (g x0 2) 20 ∧ 0 + 8 ≤ mf_len (g x1 2) ∧ 0 + 8 ≤ mf_len (g x0 2) ∧ (∀ h18 : mf_M, h18 = mf_cpy h13 (g x1 2) (g x0 2) 0 0 8 → mf_is n (g x1 3) 20 ∧ mf_is n (g x0 3) 20 ∧ 0 + 8 ≤ mf_len (g x1 3) ∧ 0 + 8 ≤ mf_len (g x0 3) ∧ (∀ h23 : mf_M, h23 = mf_cpy h18 (g x1 3) (g x0 3) 0 0 8 → mf_is n (g x1 4) 20 ∧ mf_is n (g x0 4) 20 ∧ 0 + 8 ≤ mf_len (g x1 4) ∧ 0 + 8 ≤ mf_len (g x0 4) ∧ (∀ h28 : mf_M, h28 = mf_cpy h23 (g x1 4) (g x0 4) 0 0 8 → K 0 g h28))))))) : mf_MT C l d YX6_copyFolk [(2, x0), (2, x1)] n n g h K := by
  refine mf_entry (by decide) (Nat.le_of_ble_eq_true rfl) ?_
  refine mf_aload_n (mf_dat eX6_copyFolk 0 rfl) rfl rfl ?_
  refine mf_aload_n (mf_dat eX6_copyFolk 1 rfl) rfl rfl ?_
  obtain ⟨ck1, hyp⟩ := hyp
  refine mf_getf (r := (RX6, TX6, 8)) (ci := 6) (k := 7) (t := 0) (v := h x1 7) (mf_dat eX6_copyFolk 2 rfl) fl_X6_30 rfl (by decide) rfl rfl ck1 ?_
  obtain ⟨ck2, hyp⟩ := hyp
  refine mf_putI (r := (RX6, TX6, 8)) (ci := 6) (k := 7) (kI := 7) (t := 0) (mf_dat eX6_copyFolk 3 rfl) fl_X6_30 rfl rfl (by decide) rfl (by decide) rfl (by decide) (fun h9 => absurd h9 (by decide)) ck2 ?_
  generalize qh3 : mf_up h x0 7 (h x1 7) = h3
  replace hyp := hyp _ qh3.symm
  refine mf_aload_n (mf_dat eX6_copyFolk 4 rfl) rfl rfl ?_
  refine mf_getf (r := (RX6, TX6, 8)) (ci := 6) (k := 0) (t := 2) (v := g x1 0) (mf_dat eX6_copyFolk 5 rfl) fl_X6_9 rfl (by decide) rfl rfl ck1 ?_
  refine mf_iconst (v := 0) (mf_dat eX6_copyFolk 6 rfl) (by decide) ?_
  refine mf_aload_n (mf_dat eX6_copyFolk 7 rfl) rfl rfl ?_
  refine mf_getf (r := (RX6, TX6, 8)) (ci := 6) (k := 0) (t := 2) (v := g x0 0) (mf_dat eX6_copyFolk 8 rfl) fl_X6_9 rfl (by decide) rfl rfl ck2 ?_
  refine mf_iconst (v := 0) (mf_dat eX6_copyFolk 9 rfl) (by decide) ?_
  refine mf_bipush (v := 6) (mf_dat eX6_copyFolk 10 rfl) (by decide) ?_
  obtain ⟨ck4, hyp⟩ := hyp
  obtain ⟨ck5, hyp⟩ := hyp
  obtain ⟨ck6, hyp⟩ := hyp
  obtain ⟨ck7, hyp⟩ := hyp
  refine mf_acopy (mf_dat eX6_copyFolk 11 rfl) ml_X6_41 na_copy st_copy ii_System ck4 ck5 (by decide) (by decide) (by decide) ck6 ck7 (mf_rmf hd) (mf_rml hd (Nat.le_of_ble_eq_true rfl)) ?_
  generalize qh8 : mf_cpy h3 (g x1 0) (g x0 0) 0 0 6 = h8
  replace hyp := hyp _ qh8.symm
  refine mf_aload_n (mf_dat eX6_copyFolk 12 rfl) rfl rfl ?_
  refine mf_getf (r := (RX6, TX6, 8)) (ci := 6) (k := 1) (t := 2) (v := g x1 1) (mf_dat eX6_copyFolk 13 rfl) fl_X6_15 rfl (by decide) rfl rfl ck1 ?_
  refine mf_iconst (v := 0) (mf_dat eX6_copyFolk 14 rfl) (by decide) ?_
  refine mf_aload_n (mf_dat eX6_copyFolk 15 rfl) rfl rfl ?_
  refine mf_getf (r := (RX6, TX6, 8)) (ci := 6) (k := 1) (t := 2) (v := g x0 1) (mf_dat eX6_copyFolk 16 rfl) fl_X6_15 rfl (by decide) rfl rfl ck2 ?_
  refine mf_iconst (v := 0) (mf_dat eX6_copyFolk 17 rfl) (by decide) ?_
  refine mf_bipush (v := 8) (mf_dat eX6_copyFolk 18 rfl) (by decide) ?_
  obtain ⟨ck9, hyp⟩ := hyp
  obtain ⟨ck10, hyp⟩ := hyp
  obtain ⟨ck11, hyp⟩ := hyp
  obtain ⟨ck12, hyp⟩ := hyp
  refine mf_acopy (mf_dat eX6_copyFolk 19 rfl) ml_X6_41 na_copy st_copy ii_System ck9 ck10 (by decide) (by decide) (by decide) ck11 ck12 (mf_rmf hd) (mf_rml hd (Nat.le_of_ble_eq_true rfl)) ?_
  generalize qh13 : mf_cpy h8 (g x1 1) (g x0 1) 0 0 8 = h13
  replace hyp := hyp _ qh13.symm
  refine mf_aload_n (mf_dat eX6_copyFolk 20 rfl) rfl rfl ?_
  refine mf_getf (r := (RX6, TX6, 8)) (ci := 6) (k := 2) (t := 2) (v := g x1 2) (mf_dat eX6_copyFolk 21 rfl) fl_X6_18 rfl (by decide) rfl rfl ck1 ?_
  refine mf_iconst (v := 0) (mf_dat eX6_copyFolk 22 rfl) (by decide) ?_
  refine mf_aload_n (mf_dat eX6_copyFolk 23 rfl) rfl rfl ?_
  refine mf_getf (r := (RX6, TX6, 8)) (ci := 6) (k := 2) (t := 2) (v := g x0 2) (mf_dat eX6_copyFolk 24 rfl) fl_X6_18 rfl (by decide) rfl rfl ck2 ?_
  refine mf_iconst (v := 0) (mf_dat eX6_copyFolk 25 rfl) (by decide) ?_
  refine mf_bipush (v := 8) (mf_dat eX6_copyFolk 26 rfl) (by decide) ?_
  obtain ⟨ck14, hyp⟩ := hyp
  obtain ⟨ck15, hyp⟩ := hyp
  obtain ⟨ck16, hyp⟩ := hyp
  obtain ⟨ck17, hyp⟩ := hyp
  refine mf_acopy (mf_dat eX6_copyFolk 27 rfl) ml_X6_41 na_copy st_copy ii_System ck14 ck15 (by decide) (by decide) (by decide) ck16 ck17 (mf_rmf hd) (mf_rml hd (Nat.le_of_ble_eq_true rfl)) ?_
  generalize qh18 : mf_cpy h13 (g x1 2) (g x0 2) 0 0 8 = h18
  replace hyp := hyp _ qh18.symm
  refine mf_aload_n (mf_dat eX6_copyFolk 28 rfl) rfl rfl ?_
  refine mf_getf (r := (RX6, TX6, 8)) (ci := 6) (k := 3) (t := 2) (v := g x1 3) (mf_dat eX6_copyFolk 29 rfl) fl_X6_21 rfl (by decide) rfl rfl ck1 ?_
  refine mf_iconst (v := 0) (mf_dat eX6_copyFolk 30 rfl) (by decide) ?_
  refine mf_aload_n (mf_dat eX6_copyFolk 31 rfl) rfl rfl ?_
  refine mf_getf (r := (RX6, TX6, 8)) (ci := 6) (k := 3) (t := 2) (v := g x0 3) (mf_dat eX6_copyFolk 32 rfl) fl_X6_21 rfl (by decide) rfl rfl ck2 ?_
  refine mf_iconst (v := 0) (mf_dat eX6_copyFolk 33 rfl) (by decide) ?_
  refine mf_bipush (v := 8) (mf_dat eX6_copyFolk 34 rfl) (by decide) ?_
  obtain ⟨ck19, hyp⟩ := hyp
  obtain ⟨ck20, hyp⟩ := hyp
  obtain ⟨ck21, hyp⟩ := hyp
  obtain ⟨ck22, hyp⟩ := hyp
  refine mf_acopy (mf_dat eX6_copyFolk 35 rfl) ml_X6_41 na_copy st_copy ii_System ck19 ck20 (by decide) (by decide) (by decide) ck21 ck22 (mf_rmf hd) (mf_rml hd (Nat.le_of_ble_eq_true rfl)) ?_
  generalize qh23 : mf_cpy h18 (g x1 3) (g x0 3) 0 0 8 = h23
  replace hyp := hyp _ qh23.symm
  refine mf_aload_n (mf_dat eX6_copyFolk 36 rfl) rfl rfl ?_
  refine mf_getf (r := (RX6, TX6, 8)) (ci := 6) (k := 4) (t := 2) (v := g x1 4) (mf_dat eX6_copyFolk 37 rfl) fl_X6_24 rfl (by decide) rfl rfl ck1 ?_
  refine mf_iconst (v := 0) (mf_dat eX6_copyFolk 38 rfl) (by decide) ?_
  refine mf_aload_n (mf_dat eX6_copyFolk 39 rfl) rfl rfl ?_
  refine mf_getf (r := (RX6, TX6, 8)) (ci := 6) (k := 4) (t := 2) (v := g x0 4) (mf_dat eX6_copyFolk 40 rfl) fl_X6_24 rfl (by decide) rfl rfl ck2 ?_
  refine mf_iconst (v := 0) (mf_dat eX6_copyFolk 41 rfl) (by decide) ?_
  refine mf_bipush (v := 8) (mf_dat eX6_copyFolk 42 rfl) (by decide) ?_
  obtain ⟨ck24, hyp⟩ := hyp
  obtain ⟨ck25, hyp⟩ := hyp
  obtain ⟨ck26, hyp⟩ := hyp
  obtain ⟨ck27, hyp⟩ := hyp
  refine mf_acopy (mf_dat eX6_copyFolk 43 rfl) ml_X6_41 na_copy st_copy ii_System ck24 ck25 (by decide) (by decide) (by decide) ck26 ck27 (mf_rmf hd) (mf_rml hd (Nat.le_of_ble_eq_true rfl)) ?_
  generalize qh28 : mf_cpy h23 (g x1 4) (g x0 4) 0 0 8 = h28
  replace hyp := hyp _ qh28.symm
  exact mf_return (mf_dat eX6_copyFolk 44 rfl) rfl hyp
