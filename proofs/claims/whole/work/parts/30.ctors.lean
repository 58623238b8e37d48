set_option maxRecDepth 100000 in
set_option maxHeartbeats 4000000 in
theorem mX0_init {C : mf_G} {l : Launch} {d n0 n1 : Nat} {K : mf_Kt} {x0 : Int} {g h : mf_M} (hd : 2 ≤ d) (hyp : 0 ≤ x0 ∧ (mf_sh n0).1 = 3 ∧ mf_more (mf_rm d n0 n1) n0 n0 ∧ (∀ j : Nat, g n0 j = -1) ∧ (∀ j : Nat, h n0 j = 0) ∧ (∀ v6 : Int, v6 = ((n0 : Nat) : Int) → n0 + 4 ≤ n1 ∧ 0 ≤ v6 ∧ mf_MT C l 1 YX3_init [(2, v6)] (n0 + 1) (n0 + 4) g h (fun r8 g9 h10 => mf_is (n0 + 4) x0 0 ∧ (∀ g13 : mf_M, g13 = mf_up g9 x0 0 v6 → n0 + 4 = n1 ∧ K 0 g13 h10)))) : mf_MT C l d YX0_init [(2, x0)] n0 n1 g h K := by
  refine mf_entry (by decide) (Nat.le_of_ble_eq_true rfl) ?_
  refine mf_aload_n (mf_dat eX0_init 0 rfl) rfl rfl ?_
  obtain ⟨ck1, hyp⟩ := hyp
  refine mf_objInit (mf_dat eX0_init 1 rfl) ml_X0_3 im_obj co_obj (mf_rmf hd) (mf_rml hd (Nat.le_of_ble_eq_true rfl)) ck1 ?_
  refine mf_aload_n (mf_dat eX0_init 2 rfl) rfl rfl ?_
  obtain ⟨ck2, hyp⟩ := hyp
  obtain ⟨ck3, hyp⟩ := hyp
  obtain ⟨ck4, hyp⟩ := hyp
  obtain ⟨ck5, hyp⟩ := hyp
  refine mf_new (r := (RX3, TX3, 4)) (ci := 3) (mf_dat eX0_init 3 rfl) kl_X0_9 in_X3 ii_X3 rfl (by decide) ck2 ck3 ck4 ck5 ?_
  generalize qv6 : ((n0 : Nat) : Int) = v6
  replace hyp := hyp _ qv6.symm
  refine mf_dup (mf_dat eX0_init 4 rfl) (by decide) ?_
  obtain ⟨ck7, hyp⟩ := hyp
  obtain ⟨ck11, hyp⟩ := hyp
  refine mf_callIN (Yc := YX3_init) (host := "MarginFolk") (mf_dat eX0_init 5 rfl) (List.mem_of_getElem? (i := 6) rfl) okX3_init im_X3_init rfl rfl rfl rfl (Nat.le_of_ble_eq_true rfl) (mf_rr (Nat.le_trans (by decide) hd) ck7) (by omega) ck11 hyp (fun r8 g9 h10 hyp => ?_)
  obtain ⟨ck12, hyp⟩ := hyp
  refine mf_putRF (r := (RX0, TX0, 1)) (ci := 0) (k := 0) (kI := 0) (t := 2) (mf_dat eX0_init 6 rfl) fl_X0_12 rfl rfl (by decide) rfl (by decide) rfl rfl rfl (by decide) (fun h9 => absurd h9 (by decide)) ck12 ?_
  generalize qg13 : mf_up g9 x0 0 v6 = g13
  replace hyp := hyp _ qg13.symm
  obtain ⟨ck14, hyp⟩ := hyp
  exact mf_returnN (mf_dat eX0_init 7 rfl) rfl ck14 hyp
set_option maxRecDepth 100000 in
set_option maxHeartbeats 4000000 in
theorem mX1_init {C : mf_G} {l : Launch} {d n0 n1 : Nat} {K : mf_Kt} {x0 : Int} {g h : mf_M} (hd : 2 ≤ d) (hyp : 0 ≤ x0 ∧ mf_sh n0 = (20, 12) ∧ mf_more (mf_rm d n0 n1) n0 n0 ∧ (∀ j : Nat, g n0 j = -1) ∧ (∀ j : Nat, h n0 j = 0) ∧ mf_is (n0 + 1) x0 1 ∧ (∀ g7 : mf_M, g7 = mf_up g x0 0 ((n0 : Nat) : Int) → mf_sh (n0 + 1) = (20, 12) ∧ mf_more (mf_rm d n0 n1) n0 (n0 + 1) ∧ (∀ j : Nat, g7 (n0 + 1) j = -1) ∧ (∀ j : Nat, h (n0 + 1) j = 0) ∧ mf_is (n0 + 2) x0 1 ∧ (∀ g13 : mf_M, g13 = mf_up g7 x0 1 ((n0 + 1 : Nat) : Int) → mf_sh (n0 + 2) = (20, 12) ∧ mf_more (mf_rm d n0 n1) n0 (n0 + 2) ∧ (∀ j : Nat, g13 (n0 + 2) j = -1) ∧ (∀ j : Nat, h (n0 + 2) j = 0) ∧ mf_is (n0 + 3) x0 1 ∧ (∀ g19 : mf_M, g19 = mf_up g13 x0 2 ((n0 + 2 : Nat) : Int) → mf_sh (n0 + 3) = (20, 8) ∧ mf_more (mf_rm d n0 n1) n0 (n0 + 3) ∧ (∀ j : Nat, g19 (n0 + 3) j = -1) ∧ (∀ j : Nat, h (n0 + 3) j = 0) ∧ mf_is (n0 + 4) x0 1 ∧ (∀ g25 : mf_M, g25 = mf_up g19 x0 3 ((n0 + 3 : Nat) : Int) → mf_sh (n0 + 4) = (20, 8) ∧ mf_more (mf_rm d n0 n1) n0 (n0 + 4) ∧ (∀ j : Nat, g25 (n0 + 4) j = -1) ∧ (∀ j : Nat, h (n0 + 4) j = 0) ∧ mf_is (n0 + 5) x0 1 ∧ (∀ g31 : mf_M, g31 = mf_up g25 x0 4 ((n0 + 4 : Nat) : Int) → (mf_sh (n0 + 5)).1 = 4 ∧ mf_more (mf_rm d n0 n1) n0 (n0 + 5) ∧ (∀ j : Nat, g31 (n0 + 5) j = -1) ∧ (∀ j : Nat, h (n0 + 5) j = 0) ∧ (∀ v36 : Int, v36 = ((n0 + 5 : Nat) : Int) → n0 + 9 ≤ n1 ∧ 0 ≤ v36 ∧ mf_MT C l 1 YX4_init [(2, v36)] (n0 + 6) (n0 + 9) g31 h (fun r38 g39 h40 => mf_is (n0 + 9) x0 1 ∧ (∀ g43 : mf_M, g43 = mf_up g39 x0 5 v36 → (mf_sh (n0 + 9)).1 = 6 ∧ mf_more (mf_rm d n0 n1) n0 (n0 + 9) ∧ (∀ j : Nat, g43 (n0 + 9) j = -1) ∧ (∀ j : Nat, h40 (n0 + 9) j = 0) ∧ (∀ v48 : Int, v48 = ((n0 + 9 : Nat) : Int) → n0 + 16 ≤ n1 ∧ 0 ≤ v48 ∧ mf_MT C l 1 YX6_init [(2, v48)] (n0 + 10) (n0 + 16) g43 h40 (fun r50 g51 h52 => mf_is (n0 + 16) x0 1 ∧ (∀ g55 : mf_M, g55 = mf_up g51 x0 6 v48 → n0 + 16 = n1 ∧ K 0 g55 h52)))))))))))) : mf_MT C l d YX1_init [(2, x0)] n0 n1 g h K := by
  refine mf_entry (by decide) (Nat.le_of_ble_eq_true rfl) ?_
  refine mf_aload_n (mf_dat eX1_init 0 rfl) rfl rfl ?_
  obtain ⟨ck1, hyp⟩ := hyp
  refine mf_objInit (mf_dat eX1_init 1 rfl) ml_X1_3 im_obj co_obj (mf_rmf hd) (mf_rml hd (Nat.le_of_ble_eq_true rfl)) ck1 ?_
  refine mf_aload_n (mf_dat eX1_init 2 rfl) rfl rfl ?_
  refine mf_bipush (v := 12) (mf_dat eX1_init 3 rfl) (by decide) ?_
  obtain ⟨ck2, hyp⟩ := hyp
  obtain ⟨ck3, hyp⟩ := hyp
  obtain ⟨ck4, hyp⟩ := hyp
  obtain ⟨ck5, hyp⟩ := hyp
  refine mf_newa (at_ := .int) (i := 0) (mf_dat eX1_init 4 rfl) ac_20 rfl ck2 rfl (by decide) rfl rfl (by decide) (fun c h9 => FieldType.noConfusion h9) (by decide) ck3 ck4 ck5 ?_
  obtain ⟨ck6, hyp⟩ := hyp
  refine mf_putRF (r := (RX1, TX1, 14)) (ci := 1) (k := 0) (kI := 0) (t := 2) (mf_dat eX1_init 5 rfl) fl_X1_9 rfl rfl (by decide) rfl (by decide) rfl rfl rfl (by decide) (fun h9 => absurd h9 (by decide)) ck6 ?_
  generalize qg7 : mf_up g x0 0 ((n0 : Nat) : Int) = g7
  replace hyp := hyp _ qg7.symm
  refine mf_aload_n (mf_dat eX1_init 6 rfl) rfl rfl ?_
  refine mf_bipush (v := 12) (mf_dat eX1_init 7 rfl) (by decide) ?_
  obtain ⟨ck8, hyp⟩ := hyp
  obtain ⟨ck9, hyp⟩ := hyp
  obtain ⟨ck10, hyp⟩ := hyp
  obtain ⟨ck11, hyp⟩ := hyp
  refine mf_newa (at_ := .int) (i := 0) (mf_dat eX1_init 8 rfl) ac_20 rfl ck8 rfl (by decide) rfl rfl (by decide) (fun c h9 => FieldType.noConfusion h9) (by decide) ck9 ck10 ck11 ?_
  obtain ⟨ck12, hyp⟩ := hyp
  refine mf_putRF (r := (RX1, TX1, 14)) (ci := 1) (k := 1) (kI := 1) (t := 2) (mf_dat eX1_init 9 rfl) fl_X1_15 rfl rfl (by decide) rfl (by decide) rfl rfl rfl (by decide) (fun h9 => absurd h9 (by decide)) ck12 ?_
  generalize qg13 : mf_up g7 x0 1 ((n0 + 1 : Nat) : Int) = g13
  replace hyp := hyp _ qg13.symm
  refine mf_aload_n (mf_dat eX1_init 10 rfl) rfl rfl ?_
  refine mf_bipush (v := 12) (mf_dat eX1_init 11 rfl) (by decide) ?_
  obtain ⟨ck14, hyp⟩ := hyp
  obtain ⟨ck15, hyp⟩ := hyp
  obtain ⟨ck16, hyp⟩ := hyp
  obtain ⟨ck17, hyp⟩ := hyp
  refine mf_newa (at_ := .int) (i := 0) (mf_dat eX1_init 12 rfl) ac_20 rfl ck14 rfl (by decide) rfl rfl (by decide) (fun c h9 => FieldType.noConfusion h9) (by decide) ck15 ck16 ck17 ?_
  obtain ⟨ck18, hyp⟩ := hyp
  refine mf_putRF (r := (RX1, TX1, 14)) (ci := 1) (k := 2) (kI := 2) (t := 2) (mf_dat eX1_init 13 rfl) fl_X1_18 rfl rfl (by decide) rfl (by decide) rfl rfl rfl (by decide) (fun h9 => absurd h9 (by decide)) ck18 ?_
  generalize qg19 : mf_up g13 x0 2 ((n0 + 2 : Nat) : Int) = g19
  replace hyp := hyp _ qg19.symm
  refine mf_aload_n (mf_dat eX1_init 14 rfl) rfl rfl ?_
  refine mf_bipush (v := 8) (mf_dat eX1_init 15 rfl) (by decide) ?_
  obtain ⟨ck20, hyp⟩ := hyp
  obtain ⟨ck21, hyp⟩ := hyp
  obtain ⟨ck22, hyp⟩ := hyp
  obtain ⟨ck23, hyp⟩ := hyp
  refine mf_newa (at_ := .int) (i := 0) (mf_dat eX1_init 16 rfl) ac_20 rfl ck20 rfl (by decide) rfl rfl (by decide) (fun c h9 => FieldType.noConfusion h9) (by decide) ck21 ck22 ck23 ?_
  obtain ⟨ck24, hyp⟩ := hyp
  refine mf_putRF (r := (RX1, TX1, 14)) (ci := 1) (k := 3) (kI := 3) (t := 2) (mf_dat eX1_init 17 rfl) fl_X1_21 rfl rfl (by decide) rfl (by decide) rfl rfl rfl (by decide) (fun h9 => absurd h9 (by decide)) ck24 ?_
  generalize qg25 : mf_up g19 x0 3 ((n0 + 3 : Nat) : Int) = g25
  replace hyp := hyp _ qg25.symm
  refine mf_aload_n (mf_dat eX1_init 18 rfl) rfl rfl ?_
  refine mf_bipush (v := 8) (mf_dat eX1_init 19 rfl) (by decide) ?_
  obtain ⟨ck26, hyp⟩ := hyp
  obtain ⟨ck27, hyp⟩ := hyp
  obtain ⟨ck28, hyp⟩ := hyp
  obtain ⟨ck29, hyp⟩ := hyp
  refine mf_newa (at_ := .int) (i := 0) (mf_dat eX1_init 20 rfl) ac_20 rfl ck26 rfl (by decide) rfl rfl (by decide) (fun c h9 => FieldType.noConfusion h9) (by decide) ck27 ck28 ck29 ?_
  obtain ⟨ck30, hyp⟩ := hyp
  refine mf_putRF (r := (RX1, TX1, 14)) (ci := 1) (k := 4) (kI := 4) (t := 2) (mf_dat eX1_init 21 rfl) fl_X1_24 rfl rfl (by decide) rfl (by decide) rfl rfl rfl (by decide) (fun h9 => absurd h9 (by decide)) ck30 ?_
  generalize qg31 : mf_up g25 x0 4 ((n0 + 4 : Nat) : Int) = g31
  replace hyp := hyp _ qg31.symm
  refine mf_aload_n (mf_dat eX1_init 22 rfl) rfl rfl ?_
  obtain ⟨ck32, hyp⟩ := hyp
  obtain ⟨ck33, hyp⟩ := hyp
  obtain ⟨ck34, hyp⟩ := hyp
  obtain ⟨ck35, hyp⟩ := hyp
  refine mf_new (r := (RX4, TX4, 5)) (ci := 4) (mf_dat eX1_init 23 rfl) kl_X1_27 in_X4 ii_X4 rfl (by decide) ck32 ck33 ck34 ck35 ?_
  generalize qv36 : ((n0 + 5 : Nat) : Int) = v36
  replace hyp := hyp _ qv36.symm
  refine mf_dup (mf_dat eX1_init 24 rfl) (by decide) ?_
  obtain ⟨ck37, hyp⟩ := hyp
  obtain ⟨ck41, hyp⟩ := hyp
  refine mf_callIN (Yc := YX4_init) (host := "MarginFolk") (mf_dat eX1_init 25 rfl) (List.mem_of_getElem? (i := 3) rfl) okX4_init im_X4_init rfl rfl rfl rfl (Nat.le_of_ble_eq_true rfl) (mf_rr (Nat.le_trans (by decide) hd) ck37) (by omega) ck41 hyp (fun r38 g39 h40 hyp => ?_)
  obtain ⟨ck42, hyp⟩ := hyp
  refine mf_putRF (r := (RX1, TX1, 14)) (ci := 1) (k := 5) (kI := 5) (t := 2) (mf_dat eX1_init 26 rfl) fl_X1_30 rfl rfl (by decide) rfl (by decide) rfl rfl rfl (by decide) (fun h9 => absurd h9 (by decide)) ck42 ?_
  generalize qg43 : mf_up g39 x0 5 v36 = g43
  replace hyp := hyp _ qg43.symm
  refine mf_aload_n (mf_dat eX1_init 27 rfl) rfl rfl ?_
  obtain ⟨ck44, hyp⟩ := hyp
  obtain ⟨ck45, hyp⟩ := hyp
  obtain ⟨ck46, hyp⟩ := hyp
  obtain ⟨ck47, hyp⟩ := hyp
  refine mf_new (r := (RX6, TX6, 8)) (ci := 6) (mf_dat eX1_init 28 rfl) kl_X1_34 in_X6 ii_X6 rfl (by decide) ck44 ck45 ck46 ck47 ?_
  generalize qv48 : ((n0 + 9 : Nat) : Int) = v48
  replace hyp := hyp _ qv48.symm
  refine mf_dup (mf_dat eX1_init 29 rfl) (by decide) ?_
  obtain ⟨ck49, hyp⟩ := hyp
  obtain ⟨ck53, hyp⟩ := hyp
  refine mf_callIN (Yc := YX6_init) (host := "MarginFolk") (mf_dat eX1_init 30 rfl) (List.mem_of_getElem? (i := 4) rfl) okX6_init im_X6_init rfl rfl rfl rfl (Nat.le_of_ble_eq_true rfl) (mf_rr (Nat.le_trans (by decide) hd) ck49) (by omega) ck53 hyp (fun r50 g51 h52 hyp => ?_)
  obtain ⟨ck54, hyp⟩ := hyp
  refine mf_putRF (r := (RX1, TX1, 14)) (ci := 1) (k := 6) (kI := 6) (t := 2) (mf_dat eX1_init 31 rfl) fl_X1_37 rfl rfl (by decide) rfl (by decide) rfl rfl rfl (by decide) (fun h9 => absurd h9 (by decide)) ck54 ?_
  generalize qg55 : mf_up g51 x0 6 v48 = g55
  replace hyp := hyp _ qg55.symm
  obtain ⟨ck56, hyp⟩ := hyp
  exact mf_returnN (mf_dat eX1_init 32 rfl) rfl ck56 hyp
set_option maxRecDepth 100000 in
set_option maxHeartbeats 4000000 in
theorem mX2_init {C : mf_G} {l : Launch} {d n0 n1 : Nat} {K : mf_Kt} {x0 x1 x2 x3 x4 : Int} {g h : mf_M} (hd : 1 ≤ d) (hyp : 0 ≤ x0 ∧ mf_is n0 x0 2 ∧ (∀ g3 : mf_M, g3 = mf_up g x0 0 x1 → (∀ g4 : mf_M, g4 = mf_up g3 x0 1 x2 → (∀ g5 : mf_M, g5 = mf_up g4 x0 2 x3 → (∀ g6 : mf_M, g6 = mf_up g5 x0 3 x4 → n0 = n1 ∧ K 0 g6 h))))) : mf_MT C l d YX2_init [(2, x0), (2, x1), (2, x2), (2, x3), (2, x4)] n0 n1 g h K := by
  refine mf_entry (by decide) (Nat.le_of_ble_eq_true rfl) ?_
  refine mf_aload_n (mf_dat eX2_init 0 rfl) rfl rfl ?_
  obtain ⟨ck1, hyp⟩ := hyp
  refine mf_objInit (mf_dat eX2_init 1 rfl) ml_X2_3 im_obj co_obj (mf_rmf hd) (mf_rml hd (Nat.le_of_ble_eq_true rfl)) ck1 ?_
  refine mf_aload_n (mf_dat eX2_init 2 rfl) rfl rfl ?_
  refine mf_aload_n (mf_dat eX2_init 3 rfl) rfl rfl ?_
  obtain ⟨ck2, hyp⟩ := hyp
  refine mf_putRF (r := (RX2, TX2, 4)) (ci := 2) (k := 0) (kI := 0) (t := 2) (mf_dat eX2_init 4 rfl) fl_X2_9 rfl rfl (by decide) rfl (by decide) rfl rfl rfl (by decide) (fun h9 => absurd h9 (by decide)) ck2 ?_
  generalize qg3 : mf_up g x0 0 x1 = g3
  replace hyp := hyp _ qg3.symm
  refine mf_aload_n (mf_dat eX2_init 5 rfl) rfl rfl ?_
  refine mf_aload_n (mf_dat eX2_init 6 rfl) rfl rfl ?_
  refine mf_putRF (r := (RX2, TX2, 4)) (ci := 2) (k := 1) (kI := 1) (t := 2) (mf_dat eX2_init 7 rfl) fl_X2_15 rfl rfl (by decide) rfl (by decide) rfl rfl rfl (by decide) (fun h9 => absurd h9 (by decide)) ck2 ?_
  generalize qg4 : mf_up g3 x0 1 x2 = g4
  replace hyp := hyp _ qg4.symm
  refine mf_aload_n (mf_dat eX2_init 8 rfl) rfl rfl ?_
  refine mf_aload_n (mf_dat eX2_init 9 rfl) rfl rfl ?_
  refine mf_putRF (r := (RX2, TX2, 4)) (ci := 2) (k := 2) (kI := 2) (t := 2) (mf_dat eX2_init 10 rfl) fl_X2_19 rfl rfl (by decide) rfl (by decide) rfl rfl rfl (by decide) (fun h9 => absurd h9 (by decide)) ck2 ?_
  generalize qg5 : mf_up g4 x0 2 x3 = g5
  replace hyp := hyp _ qg5.symm
  refine mf_aload_n (mf_dat eX2_init 11 rfl) rfl rfl ?_
  refine mf_aload (mf_dat eX2_init 12 rfl) rfl ?_
  refine mf_putR (r := (RX2, TX2, 4)) (ci := 2) (k := 3) (kI := 3) (t := 2) (mf_dat eX2_init 13 rfl) fl_X2_23 rfl rfl (by decide) rfl (by decide) rfl (by decide) (fun h9 => absurd h9 (by decide)) ck2 ?_
  generalize qg6 : mf_up g5 x0 3 x4 = g6
  replace hyp := hyp _ qg6.symm
  obtain ⟨ck7, hyp⟩ := hyp
  exact mf_returnN (mf_dat eX2_init 14 rfl) rfl ck7 hyp
set_option maxRecDepth 100000 in
set_option maxHeartbeats 4000000 in
theorem mX3_init {C : mf_G} {l : Launch} {d n0 n1 : Nat} {K : mf_Kt} {x0 : Int} {g h : mf_M} (hd : 1 ≤ d) (hyp : 0 ≤ x0 ∧ mf_sh n0 = (20, 9) ∧ mf_more (mf_rm d n0 n1) n0 n0 ∧ (∀ j : Nat, g n0 j = -1) ∧ (∀ j : Nat, h n0 j = 0) ∧ mf_is (n0 + 1) x0 3 ∧ (∀ g7 : mf_M, g7 = mf_up g x0 0 ((n0 : Nat) : Int) → mf_sh (n0 + 1) = (22, 8) ∧ mf_more (mf_rm d n0 n1) n0 (n0 + 1) ∧ (∀ j : Nat, g7 (n0 + 1) j = -1) ∧ (∀ j : Nat, h (n0 + 1) j = 0) ∧ mf_is (n0 + 2) x0 3 ∧ (∀ g13 : mf_M, g13 = mf_up g7 x0 1 ((n0 + 1 : Nat) : Int) → mf_sh (n0 + 2) = (20, 64) ∧ mf_more (mf_rm d n0 n1) n0 (n0 + 2) ∧ (∀ j : Nat, g13 (n0 + 2) j = -1) ∧ (∀ j : Nat, h (n0 + 2) j = 0) ∧ mf_is (n0 + 3) x0 3 ∧ (∀ g19 : mf_M, g19 = mf_up g13 x0 2 ((n0 + 2 : Nat) : Int) → n0 + 3 = n1 ∧ K 0 g19 h)))) : mf_MT C l d YX3_init [(2, x0)] n0 n1 g h K := by
  refine mf_entry (by decide) (Nat.le_of_ble_eq_true rfl) ?_
  refine mf_aload_n (mf_dat eX3_init 0 rfl) rfl rfl ?_
  obtain ⟨ck1, hyp⟩ := hyp
  refine mf_objInit (mf_dat eX3_init 1 rfl) ml_X3_3 im_obj co_obj (mf_rmf hd) (mf_rml hd (Nat.le_of_ble_eq_true rfl)) ck1 ?_
  refine mf_aload_n (mf_dat eX3_init 2 rfl) rfl rfl ?_
  refine mf_bipush (v := 9) (mf_dat eX3_init 3 rfl) (by decide) ?_
  obtain ⟨ck2, hyp⟩ := hyp
  obtain ⟨ck3, hyp⟩ := hyp
  obtain ⟨ck4, hyp⟩ := hyp
  obtain ⟨ck5, hyp⟩ := hyp
  refine mf_newa (at_ := .int) (i := 0) (mf_dat eX3_init 4 rfl) ac_20 rfl ck2 rfl (by decide) rfl rfl (by decide) (fun c h9 => FieldType.noConfusion h9) (by decide) ck3 ck4 ck5 ?_
  obtain ⟨ck6, hyp⟩ := hyp
  refine mf_putRF (r := (RX3, TX3, 4)) (ci := 3) (k := 0) (kI := 0) (t := 2) (mf_dat eX3_init 5 rfl) fl_X3_11 rfl rfl (by decide) rfl (by decide) rfl rfl rfl (by decide) (fun h9 => absurd h9 (by decide)) ck6 ?_
  generalize qg7 : mf_up g x0 0 ((n0 : Nat) : Int) = g7
  replace hyp := hyp _ qg7.symm
  refine mf_aload_n (mf_dat eX3_init 6 rfl) rfl rfl ?_
  refine mf_bipush (v := 8) (mf_dat eX3_init 7 rfl) (by decide) ?_
  obtain ⟨ck8, hyp⟩ := hyp
  obtain ⟨ck9, hyp⟩ := hyp
  obtain ⟨ck10, hyp⟩ := hyp
  obtain ⟨ck11, hyp⟩ := hyp
  refine mf_newa (at_ := .boolean) (i := 2) (mf_dat eX3_init 8 rfl) ac_22 rfl ck8 rfl (by decide) rfl rfl (by decide) (fun c h9 => FieldType.noConfusion h9) (by decide) ck9 ck10 ck11 ?_
  obtain ⟨ck12, hyp⟩ := hyp
  refine mf_putRF (r := (RX3, TX3, 4)) (ci := 3) (k := 1) (kI := 1) (t := 2) (mf_dat eX3_init 9 rfl) fl_X3_17 rfl rfl (by decide) rfl (by decide) rfl rfl rfl (by decide) (fun h9 => absurd h9 (by decide)) ck12 ?_
  generalize qg13 : mf_up g7 x0 1 ((n0 + 1 : Nat) : Int) = g13
  replace hyp := hyp _ qg13.symm
  refine mf_aload_n (mf_dat eX3_init 10 rfl) rfl rfl ?_
  refine mf_bipush (v := 64) (mf_dat eX3_init 11 rfl) (by decide) ?_
  obtain ⟨ck14, hyp⟩ := hyp
  obtain ⟨ck15, hyp⟩ := hyp
  obtain ⟨ck16, hyp⟩ := hyp
  obtain ⟨ck17, hyp⟩ := hyp
  refine mf_newa (at_ := .int) (i := 0) (mf_dat eX3_init 12 rfl) ac_20 rfl ck14 rfl (by decide) rfl rfl (by decide) (fun c h9 => FieldType.noConfusion h9) (by decide) ck15 ck16 ck17 ?_
  obtain ⟨ck18, hyp⟩ := hyp
  refine mf_putRF (r := (RX3, TX3, 4)) (ci := 3) (k := 2) (kI := 2) (t := 2) (mf_dat eX3_init 13 rfl) fl_X3_21 rfl rfl (by decide) rfl (by decide) rfl rfl rfl (by decide) (fun h9 => absurd h9 (by decide)) ck18 ?_
  generalize qg19 : mf_up g13 x0 2 ((n0 + 2 : Nat) : Int) = g19
  replace hyp := hyp _ qg19.symm
  obtain ⟨ck20, hyp⟩ := hyp
  exact mf_returnN (mf_dat eX3_init 14 rfl) rfl ck20 hyp
set_option maxRecDepth 100000 in
set_option maxHeartbeats 4000000 in
theorem mX4_init {C : mf_G} {l : Launch} {d n0 n1 : Nat} {K : mf_Kt} {x0 : Int} {g h : mf_M} (hd : 1 ≤ d) (hyp : 0 ≤ x0 ∧ mf_sh n0 = (20, 1600) ∧ mf_more (mf_rm d n0 n1) n0 n0 ∧ (∀ j : Nat, g n0 j = -1) ∧ (∀ j : Nat, h n0 j = 0) ∧ mf_is (n0 + 1) x0 4 ∧ (∀ g7 : mf_M, g7 = mf_up g x0 0 ((n0 : Nat) : Int) → mf_sh (n0 + 1) = (20, 4) ∧ mf_more (mf_rm d n0 n1) n0 (n0 + 1) ∧ (∀ j : Nat, g7 (n0 + 1) j = -1) ∧ (∀ j : Nat, h (n0 + 1) j = 0) ∧ mf_is (n0 + 2) x0 4 ∧ (∀ g13 : mf_M, g13 = mf_up g7 x0 1 ((n0 + 1 : Nat) : Int) → mf_sh (n0 + 2) = (20, 4) ∧ mf_more (mf_rm d n0 n1) n0 (n0 + 2) ∧ (∀ j : Nat, g13 (n0 + 2) j = -1) ∧ (∀ j : Nat, h (n0 + 2) j = 0) ∧ mf_is (n0 + 3) x0 4 ∧ (∀ g19 : mf_M, g19 = mf_up g13 x0 2 ((n0 + 2 : Nat) : Int) → (∀ h20 : mf_M, h20 = mf_up h x0 4 (-1) → n0 + 3 = n1 ∧ K 0 g19 h20))))) : mf_MT C l d YX4_init [(2, x0)] n0 n1 g h K := by
  refine mf_entry (by decide) (Nat.le_of_ble_eq_true rfl) ?_
  refine mf_aload_n (mf_dat eX4_init 0 rfl) rfl rfl ?_
  obtain ⟨ck1, hyp⟩ := hyp
  refine mf_objInit (mf_dat eX4_init 1 rfl) ml_X4_3 im_obj co_obj (mf_rmf hd) (mf_rml hd (Nat.le_of_ble_eq_true rfl)) ck1 ?_
  refine mf_aload_n (mf_dat eX4_init 2 rfl) rfl rfl ?_
  refine mf_sipush (v := 1600) (mf_dat eX4_init 3 rfl) (by decide) ?_
  obtain ⟨ck2, hyp⟩ := hyp
  obtain ⟨ck3, hyp⟩ := hyp
  obtain ⟨ck4, hyp⟩ := hyp
  obtain ⟨ck5, hyp⟩ := hyp
  refine mf_newa (at_ := .int) (i := 0) (mf_dat eX4_init 4 rfl) ac_20 rfl ck2 rfl (by decide) rfl rfl (by decide) (fun c h9 => FieldType.noConfusion h9) (by decide) ck3 ck4 ck5 ?_
  obtain ⟨ck6, hyp⟩ := hyp
  refine mf_putRF (r := (RX4, TX4, 5)) (ci := 4) (k := 0) (kI := 0) (t := 2) (mf_dat eX4_init 5 rfl) fl_X4_9 rfl rfl (by decide) rfl (by decide) rfl rfl rfl (by decide) (fun h9 => absurd h9 (by decide)) ck6 ?_
  generalize qg7 : mf_up g x0 0 ((n0 : Nat) : Int) = g7
  replace hyp := hyp _ qg7.symm
  refine mf_aload_n (mf_dat eX4_init 6 rfl) rfl rfl ?_
  refine mf_iconst (v := 4) (mf_dat eX4_init 7 rfl) (by decide) ?_
  obtain ⟨ck8, hyp⟩ := hyp
  obtain ⟨ck9, hyp⟩ := hyp
  obtain ⟨ck10, hyp⟩ := hyp
  obtain ⟨ck11, hyp⟩ := hyp
  refine mf_newa (at_ := .int) (i := 0) (mf_dat eX4_init 8 rfl) ac_20 rfl ck8 rfl (by decide) rfl rfl (by decide) (fun c h9 => FieldType.noConfusion h9) (by decide) ck9 ck10 ck11 ?_
  obtain ⟨ck12, hyp⟩ := hyp
  refine mf_putRF (r := (RX4, TX4, 5)) (ci := 4) (k := 1) (kI := 1) (t := 2) (mf_dat eX4_init 9 rfl) fl_X4_15 rfl rfl (by decide) rfl (by decide) rfl rfl rfl (by decide) (fun h9 => absurd h9 (by decide)) ck12 ?_
  generalize qg13 : mf_up g7 x0 1 ((n0 + 1 : Nat) : Int) = g13
  replace hyp := hyp _ qg13.symm
  refine mf_aload_n (mf_dat eX4_init 10 rfl) rfl rfl ?_
  refine mf_iconst (v := 4) (mf_dat eX4_init 11 rfl) (by decide) ?_
  obtain ⟨ck14, hyp⟩ := hyp
  obtain ⟨ck15, hyp⟩ := hyp
  obtain ⟨ck16, hyp⟩ := hyp
  obtain ⟨ck17, hyp⟩ := hyp
  refine mf_newa (at_ := .int) (i := 0) (mf_dat eX4_init 12 rfl) ac_20 rfl ck14 rfl (by decide) rfl rfl (by decide) (fun c h9 => FieldType.noConfusion h9) (by decide) ck15 ck16 ck17 ?_
  obtain ⟨ck18, hyp⟩ := hyp
  refine mf_putRF (r := (RX4, TX4, 5)) (ci := 4) (k := 2) (kI := 2) (t := 2) (mf_dat eX4_init 13 rfl) fl_X4_18 rfl rfl (by decide) rfl (by decide) rfl rfl rfl (by decide) (fun h9 => absurd h9 (by decide)) ck18 ?_
  generalize qg19 : mf_up g13 x0 2 ((n0 + 2 : Nat) : Int) = g19
  replace hyp := hyp _ qg19.symm
  refine mf_aload_n (mf_dat eX4_init 14 rfl) rfl rfl ?_
  refine mf_iconst (v := (-1)) (mf_dat eX4_init 15 rfl) (by decide) ?_
  refine mf_putI (r := (RX4, TX4, 5)) (ci := 4) (k := 4) (kI := 4) (t := 0) (mf_dat eX4_init 16 rfl) fl_X4_21 rfl rfl (by decide) rfl (by decide) rfl (by decide) (fun h9 => absurd h9 (by decide)) ck18 ?_
  generalize qh20 : mf_up h x0 4 (-1) = h20
  replace hyp := hyp _ qh20.symm
  obtain ⟨ck21, hyp⟩ := hyp
  exact mf_returnN (mf_dat eX4_init 17 rfl) rfl ck21 hyp
abbrev JX5_init_84 (C : mf_G) (l : Launch) (d n0 n1 n : Nat) (K : mf_Kt) (x0 x2 : Int) (g h : mf_M) : Prop := mf_AW C l YX5_init (mf_rm d n0 n1) n0 (mf_Zm C YX5_init n0 n1 K) (fun _ _ => True) 84 [(0, (2, x0)), (2, (0, x2))] [] n g h
set_option maxRecDepth 100000 in
set_option maxHeartbeats 4000000 in
theorem bX5_init_84 {C : mf_G} {l : Launch} {d n0 n1 n : Nat} {K : mf_Kt} {x0 x2 : Int} {g h : mf_M} (hd : 2 ≤ d) (hn0 : n0 ≤ n) (hyp : mf_is n x0 5 ∧ mf_is n (g x0 1) 25 ∧ ((mf_len (g x0 1) ≤ x2 → n = n1 ∧ K 0 g h) ∧ (¬ mf_len (g x0 1) ≤ x2 → (mf_sh n).1 = 6 ∧ mf_more (mf_rm d n0 n1) n0 n ∧ (∀ j : Nat, g n j = -1) ∧ (∀ j : Nat, h n j = 0) ∧ (∀ v8 : Int, v8 = ((n : Nat) : Int) → n + 7 ≤ n1 ∧ 0 ≤ v8 ∧ mf_MT C l 1 YX6_init [(2, v8)] (n + 1) (n + 7) g h (fun r10 g11 h12 => mf_is (n + 7) (g x0 1) 25 ∧ 0 ≤ x2 ∧ x2 < mf_len (g x0 1) ∧ mf_is (n + 7) v8 6 ∧ (∀ g18 : mf_M, g18 = mf_up g11 (g x0 1) x2 v8 → (∀ v19 : Int, v19 = mf_w32 (x2 + 1) → JX5_init_84 C l d n0 n1 (n + 7) K x0 v19 g18 h12))))))) : JX5_init_84 C l d n0 n1 n K x0 x2 g h := by
  refine mf_iload_n (mf_dat eX5_init 44 rfl) rfl rfl ?_
  refine mf_aload_n (mf_dat eX5_init 45 rfl) rfl rfl ?_
  obtain ⟨ck1, hyp⟩ := hyp
  refine mf_getf (r := (RX5, TX5, 12)) (ci := 5) (k := 1) (t := 2) (v := g x0 1) (mf_dat eX5_init 46 rfl) fl_X5_11 rfl (by decide) rfl rfl ck1 ?_
  obtain ⟨ck2, hyp⟩ := hyp
  refine mf_alen (c := 25) (i := 5) (ty := .object "MarginFolk$State") (v := mf_len _) (mf_dat eX5_init 47 rfl) (by decide) rfl ck2 rfl (mf_len_small _) ?_
  refine mf_icmp_ge (tgt := 112) (mf_dat eX5_init 48 rfl) (by decide) (fun hc => ?_) (fun hc => ?_)
  · replace hyp := hyp.1 hc
    obtain ⟨ck3, hyp⟩ := hyp
    exact mf_returnN (mf_dat eX5_init 58 rfl) rfl ck3 hyp
  · replace hyp := hyp.2 hc
    refine mf_aload_n (mf_dat eX5_init 49 rfl) rfl rfl ?_
    refine mf_getf (r := (RX5, TX5, 12)) (ci := 5) (k := 1) (t := 2) (v := g x0 1) (mf_dat eX5_init 50 rfl) fl_X5_11 rfl (by decide) rfl rfl ck1 ?_
    refine mf_iload_n (mf_dat eX5_init 51 rfl) rfl rfl ?_
    obtain ⟨ck4, hyp⟩ := hyp
    obtain ⟨ck5, hyp⟩ := hyp
    obtain ⟨ck6, hyp⟩ := hyp
    obtain ⟨ck7, hyp⟩ := hyp
    refine mf_new (r := (RX6, TX6, 8)) (ci := 6) (mf_dat eX5_init 52 rfl) kl_X5_9 in_X6 ii_X6 rfl (by decide) ck4 ck5 ck6 ck7 ?_
    generalize qv8 : ((n : Nat) : Int) = v8
    replace hyp := hyp _ qv8.symm
    refine mf_dup (mf_dat eX5_init 53 rfl) (by decide) ?_
    obtain ⟨ck9, hyp⟩ := hyp
    obtain ⟨ck13, hyp⟩ := hyp
    refine mf_callIN (Yc := YX6_init) (host := "MarginFolk") (mf_dat eX5_init 54 rfl) (List.mem_of_getElem? (i := 7) rfl) okX6_init im_X6_init rfl rfl rfl rfl (Nat.le_of_ble_eq_true rfl) (mf_rr (Nat.le_trans (by decide) hd) ck9) (by omega) ck13 hyp (fun r10 g11 h12 hyp => ?_)
    obtain ⟨ck14, hyp⟩ := hyp
    obtain ⟨ck15, hyp⟩ := hyp
    obtain ⟨ck16, hyp⟩ := hyp
    obtain ⟨ck17, hyp⟩ := hyp
    refine mf_aast (mf_dat eX5_init 55 rfl) ck14 rfl ck15 ck16 ck17 ?_
    generalize qg18 : mf_up g11 (g x0 1) x2 v8 = g18
    replace hyp := hyp _ qg18.symm
    refine mf_iinc (mf_dat eX5_init 56 rfl) rfl (by decide) (by decide) ?_
    generalize qv19 : mf_w32 (x2 + 1) = v19
    replace hyp := hyp _ qv19.symm
    refine mf_goto (tgt := 84) (mf_dat eX5_init 57 rfl) (by decide) ?_
    exact mf_sub [1, 0] rfl hyp
set_option maxRecDepth 100000 in
set_option maxHeartbeats 4000000 in
theorem mX5_init {C : mf_G} {l : Launch} {d n0 n1 : Nat} {K : mf_Kt} {x0 x1 : Int} {g h : mf_M} (hd : 2 ≤ d) (hyp : 0 ≤ x0 ∧ mf_sh n0 = (25, 3) ∧ mf_more (mf_rm d n0 n1) n0 n0 ∧ (∀ j : Nat, g n0 j = -1) ∧ (∀ j : Nat, h n0 j = 0) ∧ mf_is (n0 + 1) x0 5 ∧ (∀ g7 : mf_M, g7 = mf_up g x0 1 ((n0 : Nat) : Int) → (mf_sh (n0 + 1)).1 = 6 ∧ mf_more (mf_rm d n0 n1) n0 (n0 + 1) ∧ (∀ j : Nat, g7 (n0 + 1) j = -1) ∧ (∀ j : Nat, h (n0 + 1) j = 0) ∧ (∀ v12 : Int, v12 = ((n0 + 1 : Nat) : Int) → n0 + 8 ≤ n1 ∧ 0 ≤ v12 ∧ mf_MT C l 1 YX6_init [(2, v12)] (n0 + 2) (n0 + 8) g7 h (fun r14 g15 h16 => mf_is (n0 + 8) x0 5 ∧ (∀ g19 : mf_M, g19 = mf_up g15 x0 2 v12 → mf_sh (n0 + 8) = (20, 3) ∧ mf_more (mf_rm d n0 n1) n0 (n0 + 8) ∧ (∀ j : Nat, g19 (n0 + 8) j = -1) ∧ (∀ j : Nat, h16 (n0 + 8) j = 0) ∧ mf_is (n0 + 9) x0 5 ∧ (∀ g25 : mf_M, g25 = mf_up g19 x0 3 ((n0 + 8 : Nat) : Int) → mf_sh (n0 + 9) = (20, 3) ∧ mf_more (mf_rm d n0 n1) n0 (n0 + 9) ∧ (∀ j : Nat, g25 (n0 + 9) j = -1) ∧ (∀ j : Nat, h16 (n0 + 9) j = 0) ∧ mf_is (n0 + 10) x0 5 ∧ (∀ g31 : mf_M, g31 = mf_up g25 x0 4 ((n0 + 9 : Nat) : Int) → mf_sh (n0 + 10) = (20, 6) ∧ mf_more (mf_rm d n0 n1) n0 (n0 + 10) ∧ (∀ j : Nat, g31 (n0 + 10) j = -1) ∧ (∀ j : Nat, h16 (n0 + 10) j = 0) ∧ mf_is (n0 + 11) x0 5 ∧ (∀ g37 : mf_M, g37 = mf_up g31 x0 5 ((n0 + 10 : Nat) : Int) → mf_sh (n0 + 11) = (20, 6) ∧ mf_more (mf_rm d n0 n1) n0 (n0 + 11) ∧ (∀ j : Nat, g37 (n0 + 11) j = -1) ∧ (∀ j : Nat, h16 (n0 + 11) j = 0) ∧ mf_is (n0 + 12) x0 5 ∧ (∀ g43 : mf_M, g43 = mf_up g37 x0 6 ((n0 + 11 : Nat) : Int) → mf_sh (n0 + 12) = (20, 56) ∧ mf_more (mf_rm d n0 n1) n0 (n0 + 12) ∧ (∀ j : Nat, g43 (n0 + 12) j = -1) ∧ (∀ j : Nat, h16 (n0 + 12) j = 0) ∧ mf_is (n0 + 13) x0 5 ∧ (∀ g49 : mf_M, g49 = mf_up g43 x0 7 ((n0 + 12 : Nat) : Int) → mf_sh (n0 + 13) = (20, 16) ∧ mf_more (mf_rm d n0 n1) n0 (n0 + 13) ∧ (∀ j : Nat, g49 (n0 + 13) j = -1) ∧ (∀ j : Nat, h16 (n0 + 13) j = 0) ∧ mf_is (n0 + 14) x0 5 ∧ (∀ g55 : mf_M, g55 = mf_up g49 x0 8 ((n0 + 13 : Nat) : Int) → mf_sh (n0 + 14) = (20, 16) ∧ mf_more (mf_rm d n0 n1) n0 (n0 + 14) ∧ (∀ j : Nat, g55 (n0 + 14) j = -1) ∧ (∀ j : Nat, h16 (n0 + 14) j = 0) ∧ mf_is (n0 + 15) x0 5 ∧ (∀ g61 : mf_M, g61 = mf_up g55 x0 9 ((n0 + 14 : Nat) : Int) → (∀ g62 : mf_M, g62 = mf_up g61 x0 0 x1 → JX5_init_84 C l d n0 n1 (n0 + 15) K x0 0 g62 h16))))))))))))) : mf_MT C l d YX5_init [(2, x0), (2, x1)] n0 n1 g h K := by
  refine mf_entry (by decide) (Nat.le_of_ble_eq_true rfl) ?_
  refine mf_aload_n (mf_dat eX5_init 0 rfl) rfl rfl ?_
  obtain ⟨ck1, hyp⟩ := hyp
  refine mf_objInit (mf_dat eX5_init 1 rfl) ml_X5_3 im_obj co_obj (mf_rmf hd) (mf_rml hd (Nat.le_of_ble_eq_true rfl)) ck1 ?_
  refine mf_aload_n (mf_dat eX5_init 2 rfl) rfl rfl ?_
  refine mf_iconst (v := 3) (mf_dat eX5_init 3 rfl) (by decide) ?_
  obtain ⟨ck2, hyp⟩ := hyp
  obtain ⟨ck3, hyp⟩ := hyp
  obtain ⟨ck4, hyp⟩ := hyp
  obtain ⟨ck5, hyp⟩ := hyp
  refine mf_anew (mf_dat eX5_init 4 rfl) kl_X5_9 ck2 rfl (by decide) ck3 ck4 ck5 ?_
  obtain ⟨ck6, hyp⟩ := hyp
  refine mf_putRF (r := (RX5, TX5, 12)) (ci := 5) (k := 1) (kI := 1) (t := 2) (mf_dat eX5_init 5 rfl) fl_X5_11 rfl rfl (by decide) rfl (by decide) rfl rfl rfl (by decide) (fun h9 => absurd h9 (by decide)) ck6 ?_
  generalize qg7 : mf_up g x0 1 ((n0 : Nat) : Int) = g7
  replace hyp := hyp _ qg7.symm
  refine mf_aload_n (mf_dat eX5_init 6 rfl) rfl rfl ?_
  obtain ⟨ck8, hyp⟩ := hyp
  obtain ⟨ck9, hyp⟩ := hyp
  obtain ⟨ck10, hyp⟩ := hyp
  obtain ⟨ck11, hyp⟩ := hyp
  refine mf_new (r := (RX6, TX6, 8)) (ci := 6) (mf_dat eX5_init 7 rfl) kl_X5_9 in_X6 ii_X6 rfl (by decide) ck8 ck9 ck10 ck11 ?_
  generalize qv12 : ((n0 + 1 : Nat) : Int) = v12
  replace hyp := hyp _ qv12.symm
  refine mf_dup (mf_dat eX5_init 8 rfl) (by decide) ?_
  obtain ⟨ck13, hyp⟩ := hyp
  obtain ⟨ck17, hyp⟩ := hyp
  refine mf_callIN (Yc := YX6_init) (host := "MarginFolk") (mf_dat eX5_init 9 rfl) (List.mem_of_getElem? (i := 7) rfl) okX6_init im_X6_init rfl rfl rfl rfl (Nat.le_of_ble_eq_true rfl) (mf_rr (Nat.le_trans (by decide) hd) ck13) (by omega) ck17 hyp (fun r14 g15 h16 hyp => ?_)
  obtain ⟨ck18, hyp⟩ := hyp
  refine mf_putRF (r := (RX5, TX5, 12)) (ci := 5) (k := 2) (kI := 2) (t := 2) (mf_dat eX5_init 10 rfl) fl_X5_18 rfl rfl (by decide) rfl (by decide) rfl rfl rfl (by decide) (fun h9 => absurd h9 (by decide)) ck18 ?_
  generalize qg19 : mf_up g15 x0 2 v12 = g19
  replace hyp := hyp _ qg19.symm
  refine mf_aload_n (mf_dat eX5_init 11 rfl) rfl rfl ?_
  refine mf_iconst (v := 3) (mf_dat eX5_init 12 rfl) (by decide) ?_
  obtain ⟨ck20, hyp⟩ := hyp
  obtain ⟨ck21, hyp⟩ := hyp
  obtain ⟨ck22, hyp⟩ := hyp
  obtain ⟨ck23, hyp⟩ := hyp
  refine mf_newa (at_ := .int) (i := 0) (mf_dat eX5_init 13 rfl) ac_20 rfl ck20 rfl (by decide) rfl rfl (by decide) (fun c h9 => FieldType.noConfusion h9) (by decide) ck21 ck22 ck23 ?_
  obtain ⟨ck24, hyp⟩ := hyp
  refine mf_putRF (r := (RX5, TX5, 12)) (ci := 5) (k := 3) (kI := 3) (t := 2) (mf_dat eX5_init 14 rfl) fl_X5_22 rfl rfl (by decide) rfl (by decide) rfl rfl rfl (by decide) (fun h9 => absurd h9 (by decide)) ck24 ?_
  generalize qg25 : mf_up g19 x0 3 ((n0 + 8 : Nat) : Int) = g25
  replace hyp := hyp _ qg25.symm
  refine mf_aload_n (mf_dat eX5_init 15 rfl) rfl rfl ?_
  refine mf_iconst (v := 3) (mf_dat eX5_init 16 rfl) (by decide) ?_
  obtain ⟨ck26, hyp⟩ := hyp
  obtain ⟨ck27, hyp⟩ := hyp
  obtain ⟨ck28, hyp⟩ := hyp
  obtain ⟨ck29, hyp⟩ := hyp
  refine mf_newa (at_ := .int) (i := 0) (mf_dat eX5_init 17 rfl) ac_20 rfl ck26 rfl (by decide) rfl rfl (by decide) (fun c h9 => FieldType.noConfusion h9) (by decide) ck27 ck28 ck29 ?_
  obtain ⟨ck30, hyp⟩ := hyp
  refine mf_putRF (r := (RX5, TX5, 12)) (ci := 5) (k := 4) (kI := 4) (t := 2) (mf_dat eX5_init 18 rfl) fl_X5_26 rfl rfl (by decide) rfl (by decide) rfl rfl rfl (by decide) (fun h9 => absurd h9 (by decide)) ck30 ?_
  generalize qg31 : mf_up g25 x0 4 ((n0 + 9 : Nat) : Int) = g31
  replace hyp := hyp _ qg31.symm
  refine mf_aload_n (mf_dat eX5_init 19 rfl) rfl rfl ?_
  refine mf_bipush (v := 6) (mf_dat eX5_init 20 rfl) (by decide) ?_
  obtain ⟨ck32, hyp⟩ := hyp
  obtain ⟨ck33, hyp⟩ := hyp
  obtain ⟨ck34, hyp⟩ := hyp
  obtain ⟨ck35, hyp⟩ := hyp
  refine mf_newa (at_ := .int) (i := 0) (mf_dat eX5_init 21 rfl) ac_20 rfl ck32 rfl (by decide) rfl rfl (by decide) (fun c h9 => FieldType.noConfusion h9) (by decide) ck33 ck34 ck35 ?_
  obtain ⟨ck36, hyp⟩ := hyp
  refine mf_putRF (r := (RX5, TX5, 12)) (ci := 5) (k := 5) (kI := 5) (t := 2) (mf_dat eX5_init 22 rfl) fl_X5_29 rfl rfl (by decide) rfl (by decide) rfl rfl rfl (by decide) (fun h9 => absurd h9 (by decide)) ck36 ?_
  generalize qg37 : mf_up g31 x0 5 ((n0 + 10 : Nat) : Int) = g37
  replace hyp := hyp _ qg37.symm
  refine mf_aload_n (mf_dat eX5_init 23 rfl) rfl rfl ?_
  refine mf_bipush (v := 6) (mf_dat eX5_init 24 rfl) (by decide) ?_
  obtain ⟨ck38, hyp⟩ := hyp
  obtain ⟨ck39, hyp⟩ := hyp
  obtain ⟨ck40, hyp⟩ := hyp
  obtain ⟨ck41, hyp⟩ := hyp
  refine mf_newa (at_ := .int) (i := 0) (mf_dat eX5_init 25 rfl) ac_20 rfl ck38 rfl (by decide) rfl rfl (by decide) (fun c h9 => FieldType.noConfusion h9) (by decide) ck39 ck40 ck41 ?_
  obtain ⟨ck42, hyp⟩ := hyp
  refine mf_putRF (r := (RX5, TX5, 12)) (ci := 5) (k := 6) (kI := 6) (t := 2) (mf_dat eX5_init 26 rfl) fl_X5_32 rfl rfl (by decide) rfl (by decide) rfl rfl rfl (by decide) (fun h9 => absurd h9 (by decide)) ck42 ?_
  generalize qg43 : mf_up g37 x0 6 ((n0 + 11 : Nat) : Int) = g43
  replace hyp := hyp _ qg43.symm
  refine mf_aload_n (mf_dat eX5_init 27 rfl) rfl rfl ?_
  refine mf_bipush (v := 56) (mf_dat eX5_init 28 rfl) (by decide) ?_
  obtain ⟨ck44, hyp⟩ := hyp
  obtain ⟨ck45, hyp⟩ := hyp
  obtain ⟨ck46, hyp⟩ := hyp
  obtain ⟨ck47, hyp⟩ := hyp
  refine mf_newa (at_ := .int) (i := 0) (mf_dat eX5_init 29 rfl) ac_20 rfl ck44 rfl (by decide) rfl rfl (by decide) (fun c h9 => FieldType.noConfusion h9) (by decide) ck45 ck46 ck47 ?_
  obtain ⟨ck48, hyp⟩ := hyp
  refine mf_putRF (r := (RX5, TX5, 12)) (ci := 5) (k := 7) (kI := 7) (t := 2) (mf_dat eX5_init 30 rfl) fl_X5_35 rfl rfl (by decide) rfl (by decide) rfl rfl rfl (by decide) (fun h9 => absurd h9 (by decide)) ck48 ?_
  generalize qg49 : mf_up g43 x0 7 ((n0 + 12 : Nat) : Int) = g49
  replace hyp := hyp _ qg49.symm
  refine mf_aload_n (mf_dat eX5_init 31 rfl) rfl rfl ?_
  refine mf_bipush (v := 16) (mf_dat eX5_init 32 rfl) (by decide) ?_
  obtain ⟨ck50, hyp⟩ := hyp
  obtain ⟨ck51, hyp⟩ := hyp
  obtain ⟨ck52, hyp⟩ := hyp
  obtain ⟨ck53, hyp⟩ := hyp
  refine mf_newa (at_ := .int) (i := 0) (mf_dat eX5_init 33 rfl) ac_20 rfl ck50 rfl (by decide) rfl rfl (by decide) (fun c h9 => FieldType.noConfusion h9) (by decide) ck51 ck52 ck53 ?_
  obtain ⟨ck54, hyp⟩ := hyp
  refine mf_putRF (r := (RX5, TX5, 12)) (ci := 5) (k := 8) (kI := 8) (t := 2) (mf_dat eX5_init 34 rfl) fl_X5_38 rfl rfl (by decide) rfl (by decide) rfl rfl rfl (by decide) (fun h9 => absurd h9 (by decide)) ck54 ?_
  generalize qg55 : mf_up g49 x0 8 ((n0 + 13 : Nat) : Int) = g55
  replace hyp := hyp _ qg55.symm
  refine mf_aload_n (mf_dat eX5_init 35 rfl) rfl rfl ?_
  refine mf_bipush (v := 16) (mf_dat eX5_init 36 rfl) (by decide) ?_
  obtain ⟨ck56, hyp⟩ := hyp
  obtain ⟨ck57, hyp⟩ := hyp
  obtain ⟨ck58, hyp⟩ := hyp
  obtain ⟨ck59, hyp⟩ := hyp
  refine mf_newa (at_ := .int) (i := 0) (mf_dat eX5_init 37 rfl) ac_20 rfl ck56 rfl (by decide) rfl rfl (by decide) (fun c h9 => FieldType.noConfusion h9) (by decide) ck57 ck58 ck59 ?_
  obtain ⟨ck60, hyp⟩ := hyp
  refine mf_putRF (r := (RX5, TX5, 12)) (ci := 5) (k := 9) (kI := 9) (t := 2) (mf_dat eX5_init 38 rfl) fl_X5_41 rfl rfl (by decide) rfl (by decide) rfl rfl rfl (by decide) (fun h9 => absurd h9 (by decide)) ck60 ?_
  generalize qg61 : mf_up g55 x0 9 ((n0 + 14 : Nat) : Int) = g61
  replace hyp := hyp _ qg61.symm
  refine mf_aload_n (mf_dat eX5_init 39 rfl) rfl rfl ?_
  refine mf_aload_n (mf_dat eX5_init 40 rfl) rfl rfl ?_
  refine mf_putRF (r := (RX5, TX5, 12)) (ci := 5) (k := 0) (kI := 0) (t := 2) (mf_dat eX5_init 41 rfl) fl_X5_44 rfl rfl (by decide) rfl (by decide) rfl rfl rfl (by decide) (fun h9 => absurd h9 (by decide)) ck60 ?_
  generalize qg62 : mf_up g61 x0 0 x1 = g62
  replace hyp := hyp _ qg62.symm
  refine mf_iconst (v := 0) (mf_dat eX5_init 42 rfl) (by decide) ?_
  refine mf_istore_n (mf_dat eX5_init 43 rfl) rfl (by decide) ?_
  exact mf_sub [1, 0] rfl hyp
set_option maxRecDepth 100000 in
set_option maxHeartbeats 4000000 in
theorem mX6_init {C : mf_G} {l : Launch} {d n0 n1 : Nat} {K : mf_Kt} {x0 : Int} {g h : mf_M} (hd : 1 ≤ d) (hyp : 0 ≤ x0 ∧ mf_sh n0 = (20, 6) ∧ mf_more (mf_rm d n0 n1) n0 n0 ∧ (∀ j : Nat, g n0 j = -1) ∧ (∀ j : Nat, h n0 j = 0) ∧ mf_is (n0 + 1) x0 6 ∧ (∀ g7 : mf_M, g7 = mf_up g x0 0 ((n0 : Nat) : Int) → mf_sh (n0 + 1) = (20, 8) ∧ mf_more (mf_rm d n0 n1) n0 (n0 + 1) ∧ (∀ j : Nat, g7 (n0 + 1) j = -1) ∧ (∀ j : Nat, h (n0 + 1) j = 0) ∧ mf_is (n0 + 2) x0 6 ∧ (∀ g13 : mf_M, g13 = mf_up g7 x0 1 ((n0 + 1 : Nat) : Int) → mf_sh (n0 + 2) = (20, 8) ∧ mf_more (mf_rm d n0 n1) n0 (n0 + 2) ∧ (∀ j : Nat, g13 (n0 + 2) j = -1) ∧ (∀ j : Nat, h (n0 + 2) j = 0) ∧ mf_is (n0 + 3) x0 6 ∧ (∀ g19 : mf_M, g19 = mf_up g13 x0 2 ((n0 + 2 : Nat) : Int) → mf_sh (n0 + 3) = (20, 8) ∧ mf_more (mf_rm d n0 n1) n0 (n0 + 3) ∧ (∀ j : Nat, g19 (n0 + 3) j = -1) ∧ (∀ j : Nat, h (n0 + 3) j = 0) ∧ mf_is (n0 + 4) x0 6 ∧ (∀ g25 : mf_M, g25 = mf_up g19 x0 3 ((n0 + 3 : Nat) : Int) → mf_sh (n0 + 4) = (20, 8) ∧ mf_more (mf_rm d n0 n1) n0 (n0 + 4) ∧ (∀ j : Nat, g25 (n0 + 4) j = -1) ∧ (∀ j : Nat, h (n0 + 4) j = 0) ∧ mf_is (n0 + 5) x0 6 ∧ (∀ g31 : mf_M, g31 = mf_up g25 x0 4 ((n0 + 4 : Nat) : Int) → mf_sh (n0 + 5) = (20, 40) ∧ mf_more (mf_rm d n0 n1) n0 (n0 + 5) ∧ (∀ j : Nat, g31 (n0 + 5) j = -1) ∧ (∀ j : Nat, h (n0 + 5) j = 0) ∧ mf_is (n0 + 6) x0 6 ∧ (∀ g37 : mf_M, g37 = mf_up g31 x0 5 ((n0 + 5 : Nat) : Int) → n0 + 6 = n1 ∧ K 0 g37 h))))))) : mf_MT C l d YX6_init [(2, x0)] n0 n1 g h K := by
  refine mf_entry (by decide) (Nat.le_of_ble_eq_true rfl) ?_
  refine mf_aload_n (mf_dat eX6_init 0 rfl) rfl rfl ?_
  obtain ⟨ck1, hyp⟩ := hyp
  refine mf_objInit (mf_dat eX6_init 1 rfl) ml_X6_3 im_obj co_obj (mf_rmf hd) (mf_rml hd (Nat.le_of_ble_eq_true rfl)) ck1 ?_
  refine mf_aload_n (mf_dat eX6_init 2 rfl) rfl rfl ?_
  refine mf_bipush (v := 6) (mf_dat eX6_init 3 rfl) (by decide) ?_
  obtain ⟨ck2, hyp⟩ := hyp
  obtain ⟨ck3, hyp⟩ := hyp
  obtain ⟨ck4, hyp⟩ := hyp
  obtain ⟨ck5, hyp⟩ := hyp
  refine mf_newa (at_ := .int) (i := 0) (mf_dat eX6_init 4 rfl) ac_20 rfl ck2 rfl (by decide) rfl rfl (by decide) (fun c h9 => FieldType.noConfusion h9) (by decide) ck3 ck4 ck5 ?_
  obtain ⟨ck6, hyp⟩ := hyp
  refine mf_putRF (r := (RX6, TX6, 8)) (ci := 6) (k := 0) (kI := 0) (t := 2) (mf_dat eX6_init 5 rfl) fl_X6_9 rfl rfl (by decide) rfl (by decide) rfl rfl rfl (by decide) (fun h9 => absurd h9 (by decide)) ck6 ?_
  generalize qg7 : mf_up g x0 0 ((n0 : Nat) : Int) = g7
  replace hyp := hyp _ qg7.symm
  refine mf_aload_n (mf_dat eX6_init 6 rfl) rfl rfl ?_
  refine mf_bipush (v := 8) (mf_dat eX6_init 7 rfl) (by decide) ?_
  obtain ⟨ck8, hyp⟩ := hyp
  obtain ⟨ck9, hyp⟩ := hyp
  obtain ⟨ck10, hyp⟩ := hyp
  obtain ⟨ck11, hyp⟩ := hyp
  refine mf_newa (at_ := .int) (i := 0) (mf_dat eX6_init 8 rfl) ac_20 rfl ck8 rfl (by decide) rfl rfl (by decide) (fun c h9 => FieldType.noConfusion h9) (by decide) ck9 ck10 ck11 ?_
  obtain ⟨ck12, hyp⟩ := hyp
  refine mf_putRF (r := (RX6, TX6, 8)) (ci := 6) (k := 1) (kI := 1) (t := 2) (mf_dat eX6_init 9 rfl) fl_X6_15 rfl rfl (by decide) rfl (by decide) rfl rfl rfl (by decide) (fun h9 => absurd h9 (by decide)) ck12 ?_
  generalize qg13 : mf_up g7 x0 1 ((n0 + 1 : Nat) : Int) = g13
  replace hyp := hyp _ qg13.symm
  refine mf_aload_n (mf_dat eX6_init 10 rfl) rfl rfl ?_
  refine mf_bipush (v := 8) (mf_dat eX6_init 11 rfl) (by decide) ?_
  obtain ⟨ck14, hyp⟩ := hyp
  obtain ⟨ck15, hyp⟩ := hyp
  obtain ⟨ck16, hyp⟩ := hyp
  obtain ⟨ck17, hyp⟩ := hyp
  refine mf_newa (at_ := .int) (i := 0) (mf_dat eX6_init 12 rfl) ac_20 rfl ck14 rfl (by decide) rfl rfl (by decide) (fun c h9 => FieldType.noConfusion h9) (by decide) ck15 ck16 ck17 ?_
  obtain ⟨ck18, hyp⟩ := hyp
  refine mf_putRF (r := (RX6, TX6, 8)) (ci := 6) (k := 2) (kI := 2) (t := 2) (mf_dat eX6_init 13 rfl) fl_X6_18 rfl rfl (by decide) rfl (by decide) rfl rfl rfl (by decide) (fun h9 => absurd h9 (by decide)) ck18 ?_
  generalize qg19 : mf_up g13 x0 2 ((n0 + 2 : Nat) : Int) = g19
  replace hyp := hyp _ qg19.symm
  refine mf_aload_n (mf_dat eX6_init 14 rfl) rfl rfl ?_
  refine mf_bipush (v := 8) (mf_dat eX6_init 15 rfl) (by decide) ?_
  obtain ⟨ck20, hyp⟩ := hyp
  obtain ⟨ck21, hyp⟩ := hyp
  obtain ⟨ck22, hyp⟩ := hyp
  obtain ⟨ck23, hyp⟩ := hyp
  refine mf_newa (at_ := .int) (i := 0) (mf_dat eX6_init 16 rfl) ac_20 rfl ck20 rfl (by decide) rfl rfl (by decide) (fun c h9 => FieldType.noConfusion h9) (by decide) ck21 ck22 ck23 ?_
  obtain ⟨ck24, hyp⟩ := hyp
  refine mf_putRF (r := (RX6, TX6, 8)) (ci := 6) (k := 3) (kI := 3) (t := 2) (mf_dat eX6_init 17 rfl) fl_X6_21 rfl rfl (by decide) rfl (by decide) rfl rfl rfl (by decide) (fun h9 => absurd h9 (by decide)) ck24 ?_
  generalize qg25 : mf_up g19 x0 3 ((n0 + 3 : Nat) : Int) = g25
  replace hyp := hyp _ qg25.symm
  refine mf_aload_n (mf_dat eX6_init 18 rfl) rfl rfl ?_
  refine mf_bipush (v := 8) (mf_dat eX6_init 19 rfl) (by decide) ?_
  obtain ⟨ck26, hyp⟩ := hyp
  obtain ⟨ck27, hyp⟩ := hyp
  obtain ⟨ck28, hyp⟩ := hyp
  obtain ⟨ck29, hyp⟩ := hyp
  refine mf_newa (at_ := .int) (i := 0) (mf_dat eX6_init 20 rfl) ac_20 rfl ck26 rfl (by decide) rfl rfl (by decide) (fun c h9 => FieldType.noConfusion h9) (by decide) ck27 ck28 ck29 ?_
  obtain ⟨ck30, hyp⟩ := hyp
  refine mf_putRF (r := (RX6, TX6, 8)) (ci := 6) (k := 4) (kI := 4) (t := 2) (mf_dat eX6_init 21 rfl) fl_X6_24 rfl rfl (by decide) rfl (by decide) rfl rfl rfl (by decide) (fun h9 => absurd h9 (by decide)) ck30 ?_
  generalize qg31 : mf_up g25 x0 4 ((n0 + 4 : Nat) : Int) = g31
  replace hyp := hyp _ qg31.symm
  refine mf_aload_n (mf_dat eX6_init 22 rfl) rfl rfl ?_
  refine mf_bipush (v := 40) (mf_dat eX6_init 23 rfl) (by decide) ?_
  obtain ⟨ck32, hyp⟩ := hyp
  obtain ⟨ck33, hyp⟩ := hyp
  obtain ⟨ck34, hyp⟩ := hyp
  obtain ⟨ck35, hyp⟩ := hyp
  refine mf_newa (at_ := .int) (i := 0) (mf_dat eX6_init 24 rfl) ac_20 rfl ck32 rfl (by decide) rfl rfl (by decide) (fun c h9 => FieldType.noConfusion h9) (by decide) ck33 ck34 ck35 ?_
  obtain ⟨ck36, hyp⟩ := hyp
  refine mf_putRF (r := (RX6, TX6, 8)) (ci := 6) (k := 5) (kI := 5) (t := 2) (mf_dat eX6_init 25 rfl) fl_X6_27 rfl rfl (by decide) rfl (by decide) rfl rfl rfl (by decide) (fun h9 => absurd h9 (by decide)) ck36 ?_
  generalize qg37 : mf_up g31 x0 5 ((n0 + 5 : Nat) : Int) = g37
  replace hyp := hyp _ qg37.symm
  obtain ⟨ck38, hyp⟩ := hyp
  exact mf_returnN (mf_dat eX6_init 26 rfl) rfl ck38 hyp
set_option maxRecDepth 100000 in
set_option maxHeartbeats 4000000 in
theorem mX7_init {C : mf_G} {l : Launch} {d n0 n1 : Nat} {K : mf_Kt} {x0 x1 x2 x3 : Int} {g h : mf_M} (hd : 1 ≤ d) (hyp : 0 ≤ x0 ∧ mf_is n0 x0 7 ∧ (∀ g3 : mf_M, g3 = mf_up g x0 0 x1 → (∀ g4 : mf_M, g4 = mf_up g3 x0 1 x2 → (∀ g5 : mf_M, g5 = mf_up g4 x0 2 x3 → n0 = n1 ∧ K 0 g5 h)))) : mf_MT C l d YX7_init [(2, x0), (2, x1), (2, x2), (2, x3)] n0 n1 g h K := by
  refine mf_entry (by decide) (Nat.le_of_ble_eq_true rfl) ?_
  refine mf_aload_n (mf_dat eX7_init 0 rfl) rfl rfl ?_
  obtain ⟨ck1, hyp⟩ := hyp
  refine mf_objInit (mf_dat eX7_init 1 rfl) ml_X7_7 im_obj co_obj (mf_rmf hd) (mf_rml hd (Nat.le_of_ble_eq_true rfl)) ck1 ?_
  refine mf_aload_n (mf_dat eX7_init 2 rfl) rfl rfl ?_
  refine mf_aload_n (mf_dat eX7_init 3 rfl) rfl rfl ?_
  obtain ⟨ck2, hyp⟩ := hyp
  refine mf_putRF (r := (RX7, TX7, 4)) (ci := 7) (k := 0) (kI := 0) (t := 2) (mf_dat eX7_init 4 rfl) fl_X7_13 rfl rfl (by decide) rfl (by decide) rfl rfl rfl (by decide) (fun h9 => absurd h9 (by decide)) ck2 ?_
  generalize qg3 : mf_up g x0 0 x1 = g3
  replace hyp := hyp _ qg3.symm
  refine mf_aload_n (mf_dat eX7_init 5 rfl) rfl rfl ?_
  refine mf_aload_n (mf_dat eX7_init 6 rfl) rfl rfl ?_
  refine mf_putRF (r := (RX7, TX7, 4)) (ci := 7) (k := 1) (kI := 1) (t := 2) (mf_dat eX7_init 7 rfl) fl_X7_17 rfl rfl (by decide) rfl (by decide) rfl rfl rfl (by decide) (fun h9 => absurd h9 (by decide)) ck2 ?_
  generalize qg4 : mf_up g3 x0 1 x2 = g4
  replace hyp := hyp _ qg4.symm
  refine mf_aload_n (mf_dat eX7_init 8 rfl) rfl rfl ?_
  refine mf_aload_n (mf_dat eX7_init 9 rfl) rfl rfl ?_
  refine mf_putR (r := (RX7, TX7, 4)) (ci := 7) (k := 2) (kI := 2) (t := 2) (mf_dat eX7_init 10 rfl) fl_X7_21 rfl rfl (by decide) rfl (by decide) rfl (by decide) (fun h9 => absurd h9 (by decide)) ck2 ?_
  generalize qg5 : mf_up g4 x0 2 x3 = g5
  replace hyp := hyp _ qg5.symm
  obtain ⟨ck6, hyp⟩ := hyp
  exact mf_returnN (mf_dat eX7_init 11 rfl) rfl ck6 hyp
set_option maxRecDepth 100000 in
set_option maxHeartbeats 4000000 in
theorem mX8_init {C : mf_G} {l : Launch} {d n0 n1 : Nat} {K : mf_Kt} {x0 : Int} {g h : mf_M} (hd : 1 ≤ d) (hyp : 0 ≤ x0 ∧ mf_sh n0 = (21, 1600) ∧ mf_more (mf_rm d n0 n1) n0 n0 ∧ (∀ j : Nat, g n0 j = -1) ∧ (∀ j : Nat, h n0 j = 0) ∧ mf_is (n0 + 1) x0 8 ∧ (∀ g7 : mf_M, g7 = mf_up g x0 0 ((n0 : Nat) : Int) → n0 + 1 = n1 ∧ K 0 g7 h)) : mf_MT C l d YX8_init [(2, x0)] n0 n1 g h K := by
  refine mf_entry (by decide) (Nat.le_of_ble_eq_true rfl) ?_
  refine mf_aload_n (mf_dat eX8_init 0 rfl) rfl rfl ?_
  obtain ⟨ck1, hyp⟩ := hyp
  refine mf_objInit (mf_dat eX8_init 1 rfl) ml_X8_3 im_obj co_obj (mf_rmf hd) (mf_rml hd (Nat.le_of_ble_eq_true rfl)) ck1 ?_
  refine mf_aload_n (mf_dat eX8_init 2 rfl) rfl rfl ?_
  refine mf_sipush (v := 1600) (mf_dat eX8_init 3 rfl) (by decide) ?_
  obtain ⟨ck2, hyp⟩ := hyp
  obtain ⟨ck3, hyp⟩ := hyp
  obtain ⟨ck4, hyp⟩ := hyp
  obtain ⟨ck5, hyp⟩ := hyp
  refine mf_newa (at_ := .byte) (i := 1) (mf_dat eX8_init 4 rfl) ac_21 rfl ck2 rfl (by decide) rfl rfl (by decide) (fun c h9 => FieldType.noConfusion h9) (by decide) ck3 ck4 ck5 ?_
  obtain ⟨ck6, hyp⟩ := hyp
  refine mf_putRF (r := (RX8, TX8, 2)) (ci := 8) (k := 0) (kI := 0) (t := 2) (mf_dat eX8_init 5 rfl) fl_X8_9 rfl rfl (by decide) rfl (by decide) rfl rfl rfl (by decide) (fun h9 => absurd h9 (by decide)) ck6 ?_
  generalize qg7 : mf_up g x0 0 ((n0 : Nat) : Int) = g7
  replace hyp := hyp _ qg7.symm
  obtain ⟨ck8, hyp⟩ := hyp
  exact mf_returnN (mf_dat eX8_init 6 rfl) rfl ck8 hyp
set_option maxRecDepth 100000 in
set_option maxHeartbeats 4000000 in
theorem mX9_init {C : mf_G} {l : Launch} {d n0 n1 : Nat} {K : mf_Kt} {x0 x1 x2 : Int} {g h : mf_M} (hd : 1 ≤ d) (hyp : 0 ≤ x0 ∧ mf_is n0 x0 9 ∧ (∀ g3 : mf_M, g3 = mf_up g x0 0 x1 → (∀ g4 : mf_M, g4 = mf_up g3 x0 1 x2 → n0 = n1 ∧ K 0 g4 h))) : mf_MT C l d YX9_init [(2, x0), (2, x1), (2, x2)] n0 n1 g h K := by
  refine mf_entry (by decide) (Nat.le_of_ble_eq_true rfl) ?_
  refine mf_aload_n (mf_dat eX9_init 0 rfl) rfl rfl ?_
  obtain ⟨ck1, hyp⟩ := hyp
  refine mf_objInit (mf_dat eX9_init 1 rfl) ml_X9_3 im_obj co_obj (mf_rmf hd) (mf_rml hd (Nat.le_of_ble_eq_true rfl)) ck1 ?_
  refine mf_aload_n (mf_dat eX9_init 2 rfl) rfl rfl ?_
  refine mf_aload_n (mf_dat eX9_init 3 rfl) rfl rfl ?_
  obtain ⟨ck2, hyp⟩ := hyp
  refine mf_putRF (r := (RX9, TX9, 10)) (ci := 9) (k := 0) (kI := 0) (t := 2) (mf_dat eX9_init 4 rfl) fl_X9_9 rfl rfl (by decide) rfl (by decide) rfl rfl rfl (by decide) (fun h9 => absurd h9 (by decide)) ck2 ?_
  generalize qg3 : mf_up g x0 0 x1 = g3
  replace hyp := hyp _ qg3.symm
  refine mf_aload_n (mf_dat eX9_init 5 rfl) rfl rfl ?_
  refine mf_aload_n (mf_dat eX9_init 6 rfl) rfl rfl ?_
  refine mf_putRF (r := (RX9, TX9, 10)) (ci := 9) (k := 1) (kI := 1) (t := 2) (mf_dat eX9_init 7 rfl) fl_X9_15 rfl rfl (by decide) rfl (by decide) rfl rfl rfl (by decide) (fun h9 => absurd h9 (by decide)) ck2 ?_
  generalize qg4 : mf_up g3 x0 1 x2 = g4
  replace hyp := hyp _ qg4.symm
  obtain ⟨ck5, hyp⟩ := hyp
  exact mf_returnN (mf_dat eX9_init 8 rfl) rfl ck5 hyp
abbrev JX10_init_18 (C : mf_G) (l : Launch) (d n0 n1 n : Nat) (K : mf_Kt) (x0 x1 x2 x3 : Int) (g h : mf_M) : Prop := mf_AW C l YX10_init (mf_rm d n0 n1) n0 (mf_Zm C YX10_init n0 n1 K) (fun _ _ => True) 18 [(0, (2, x0)), (1, (0, x1)), (2, (0, x2)), (3, (0, x3))] [] n g h
set_option maxRecDepth 100000 in
set_option maxHeartbeats 4000000 in
theorem bX10_init_18 {C : mf_G} {l : Launch} {d n0 n1 n : Nat} {K : mf_Kt} {x0 x1 x2 x3 : Int} {g h : mf_M} (hd : 6 ≤ d) (hn0 : n0 ≤ n) (hyp : n ≤ n1 ∧ mf_MT C l 1 YJ0_length_8abf5 [(2, (-2))] n n g h (fun r2 g3 h4 => ((r2 ≤ x3 → n = n1 ∧ K 0 g3 h4) ∧ (¬ r2 ≤ x3 → mf_MT C l 4 YJ0_charAt_5068e [(2, (-2)), (0, x3)] n n g3 h4 (fun r6 g7 h8 => ((¬ r6 = 32 → (∀ v9 : Int, v9 = mf_w32 (x3 + 1) → JX10_init_18 C l d n0 n1 n K x0 x1 x2 v9 g7 h8)) ∧ (r6 = 32 → mf_is n x0 10 ∧ mf_is n (g7 x0 0) 20 ∧ ((mf_len (g7 x0 0) ≤ x1 → (∀ v12 : Int, v12 = mf_w32 (x3 + 1) → JX10_init_18 C l d n0 n1 n K x0 x1 x2 v12 g7 h8)) ∧ (¬ mf_len (g7 x0 0) ≤ x1 → mf_MT C l 5 YX10_packListed [(0, x2), (0, x3)] n n g7 h8 (fun r13 g14 h15 => 0 ≤ x1 ∧ x1 < mf_len (g7 x0 0) ∧ (∀ h18 : mf_M, h18 = mf_up h15 (g7 x0 0) x1 r13 → (∀ v19 : Int, v19 = mf_w32 (x1 + 1) → (∀ v20 : Int, v20 = mf_w32 (x3 + 1) → (∀ v21 : Int, v21 = mf_w32 (x3 + 1) → JX10_init_18 C l d n0 n1 n K x0 v19 v20 v21 g14 h18)))))))))))))) : JX10_init_18 C l d n0 n1 n K x0 x1 x2 x3 g h := by
  refine mf_iload_n (mf_dat eX10_init 12 rfl) rfl rfl ?_
  refine mf_ldcS (mf_dat eX10_init 13 rfl) rfl ?_
  obtain ⟨ck1, hyp⟩ := hyp
  refine mf_callVT (Yc := YJ0_length_8abf5) (mf_dat eX10_init 14 rfl) ml_X10_17 okJ0_length_8abf5 im_J0_length_8abf5 sl_J0_length_8abf5 rfl rfl rfl (Nat.le_of_ble_eq_true rfl) (mf_rr (Nat.le_trans (by decide) hd) ck1) (Nat.le_refl _) hyp (fun r2 g3 h4 hyp => ?_)
  refine mf_icmp_ge (tgt := 71) (mf_dat eX10_init 15 rfl) (by decide) (fun hc => ?_) (fun hc => ?_)
  · replace hyp := hyp.1 hc
    obtain ⟨ck5, hyp⟩ := hyp
    exact mf_returnN (mf_dat eX10_init 40 rfl) rfl ck5 hyp
  · replace hyp := hyp.2 hc
    refine mf_ldcS (mf_dat eX10_init 16 rfl) rfl ?_
    refine mf_iload_n (mf_dat eX10_init 17 rfl) rfl rfl ?_
    refine mf_callVT (Yc := YJ0_charAt_5068e) (mf_dat eX10_init 18 rfl) ml_X10_23 okJ0_charAt_5068e im_J0_charAt_5068e sl_J0_charAt_5068e rfl rfl rfl (Nat.le_of_ble_eq_true rfl) (mf_rr (Nat.le_trans (by decide) hd) ck1) (Nat.le_refl _) hyp (fun r6 g7 h8 hyp => ?_)
    refine mf_bipush (v := 32) (mf_dat eX10_init 19 rfl) (by decide) ?_
    refine mf_icmp_ne (tgt := 65) (mf_dat eX10_init 20 rfl) (by decide) (fun hc => ?_) (fun hc => ?_)
    · replace hyp := hyp.1 hc
      refine mf_iinc (mf_dat eX10_init 38 rfl) rfl (by decide) (by decide) ?_
      generalize qv9 : mf_w32 (x3 + 1) = v9
      replace hyp := hyp _ qv9.symm
      refine mf_goto (tgt := 18) (mf_dat eX10_init 39 rfl) (by decide) ?_
      exact mf_sub [1, 2, 3, 0] rfl hyp
    · replace hyp := hyp.2 hc
      refine mf_iload_n (mf_dat eX10_init 21 rfl) rfl rfl ?_
      refine mf_aload_n (mf_dat eX10_init 22 rfl) rfl rfl ?_
      obtain ⟨ck10, hyp⟩ := hyp
      refine mf_getf (r := (RX10, TX10, 1)) (ci := 10) (k := 0) (t := 2) (v := g7 x0 0) (mf_dat eX10_init 23 rfl) fl_X10_11 rfl (by decide) rfl rfl ck10 ?_
      obtain ⟨ck11, hyp⟩ := hyp
      refine mf_alen (c := 20) (i := 0) (ty := .int) (v := mf_len _) (mf_dat eX10_init 24 rfl) (by decide) rfl ck11 rfl (mf_len_small _) ?_
      refine mf_icmp_ge (tgt := 65) (mf_dat eX10_init 25 rfl) (by decide) (fun hc => ?_) (fun hc => ?_)
      · replace hyp := hyp.1 hc
        refine mf_iinc (mf_dat eX10_init 38 rfl) rfl (by decide) (by decide) ?_
        generalize qv12 : mf_w32 (x3 + 1) = v12
        replace hyp := hyp _ qv12.symm
        refine mf_goto (tgt := 18) (mf_dat eX10_init 39 rfl) (by decide) ?_
        exact mf_sub [1, 2, 3, 0] rfl hyp
      · replace hyp := hyp.2 hc
        refine mf_aload_n (mf_dat eX10_init 26 rfl) rfl rfl ?_
        refine mf_getf (r := (RX10, TX10, 1)) (ci := 10) (k := 0) (t := 2) (v := g7 x0 0) (mf_dat eX10_init 27 rfl) fl_X10_11 rfl (by decide) rfl rfl ck10 ?_
        refine mf_iload_n (mf_dat eX10_init 28 rfl) rfl rfl ?_
        refine mf_iload_n (mf_dat eX10_init 29 rfl) rfl rfl ?_
        refine mf_iload_n (mf_dat eX10_init 30 rfl) rfl rfl ?_
        refine mf_callS (Yc := YX10_packListed) (mf_dat eX10_init 31 rfl) ml_X10_27 okX10_packListed sm_X10_packListed rfl rfl (Nat.le_of_ble_eq_true rfl) (mf_rr (Nat.le_trans (by decide) hd) ck1) (Nat.le_refl _) hyp (fun r13 g14 h15 hyp => ?_)
        obtain ⟨ck16, hyp⟩ := hyp
        obtain ⟨ck17, hyp⟩ := hyp
        refine mf_iast (mf_dat eX10_init 32 rfl) ck11 rfl ck16 ck17 ?_
        generalize qh18 : mf_up h15 (g7 x0 0) x1 r13 = h18
        replace hyp := hyp _ qh18.symm
        refine mf_iinc (mf_dat eX10_init 33 rfl) rfl (by decide) (by decide) ?_
        generalize qv19 : mf_w32 (x1 + 1) = v19
        replace hyp := hyp _ qv19.symm
        refine mf_iload_n (mf_dat eX10_init 34 rfl) rfl rfl ?_
        refine mf_iconst (v := 1) (mf_dat eX10_init 35 rfl) (by decide) ?_
        refine mf_iadd (mf_dat eX10_init 36 rfl) ?_
        generalize qv20 : mf_w32 (x3 + 1) = v20
        replace hyp := hyp _ qv20.symm
        refine mf_istore_n (mf_dat eX10_init 37 rfl) rfl (by decide) ?_
        refine mf_iinc (mf_dat eX10_init 38 rfl) rfl (by decide) (by decide) ?_
        generalize qv21 : mf_w32 (x3 + 1) = v21
        replace hyp := hyp _ qv21.symm
        refine mf_goto (tgt := 18) (mf_dat eX10_init 39 rfl) (by decide) ?_
        exact mf_sub [3, 2, 1, 0] rfl hyp
set_option maxRecDepth 100000 in
set_option maxHeartbeats 4000000 in
theorem mX10_init {C : mf_G} {l : Launch} {d n0 n1 : Nat} {K : mf_Kt} {x0 : Int} {g h : mf_M} (hd : 1 ≤ d) (hyp : 0 ≤ x0 ∧ mf_sh n0 = (20, 34) ∧ mf_more (mf_rm d n0 n1) n0 n0 ∧ (∀ j : Nat, g n0 j = -1) ∧ (∀ j : Nat, h n0 j = 0) ∧ mf_is (n0 + 1) x0 10 ∧ (∀ g7 : mf_M, g7 = mf_up g x0 0 ((n0 : Nat) : Int) → JX10_init_18 C l d n0 n1 (n0 + 1) K x0 0 0 0 g7 h)) : mf_MT C l d YX10_init [(2, x0)] n0 n1 g h K := by
  refine mf_entry (by decide) (Nat.le_of_ble_eq_true rfl) ?_
  refine mf_aload_n (mf_dat eX10_init 0 rfl) rfl rfl ?_
  obtain ⟨ck1, hyp⟩ := hyp
  refine mf_objInit (mf_dat eX10_init 1 rfl) ml_X10_3 im_obj co_obj (mf_rmf hd) (mf_rml hd (Nat.le_of_ble_eq_true rfl)) ck1 ?_
  refine mf_aload_n (mf_dat eX10_init 2 rfl) rfl rfl ?_
  refine mf_bipush (v := 34) (mf_dat eX10_init 3 rfl) (by decide) ?_
  obtain ⟨ck2, hyp⟩ := hyp
  obtain ⟨ck3, hyp⟩ := hyp
  obtain ⟨ck4, hyp⟩ := hyp
  obtain ⟨ck5, hyp⟩ := hyp
  refine mf_newa (at_ := .int) (i := 0) (mf_dat eX10_init 4 rfl) ac_20 rfl ck2 rfl (by decide) rfl rfl (by decide) (fun c h9 => FieldType.noConfusion h9) (by decide) ck3 ck4 ck5 ?_
  obtain ⟨ck6, hyp⟩ := hyp
  refine mf_putRF (r := (RX10, TX10, 1)) (ci := 10) (k := 0) (kI := 0) (t := 2) (mf_dat eX10_init 5 rfl) fl_X10_11 rfl rfl (by decide) rfl (by decide) rfl rfl rfl (by decide) (fun h9 => absurd h9 (by decide)) ck6 ?_
  generalize qg7 : mf_up g x0 0 ((n0 : Nat) : Int) = g7
  replace hyp := hyp _ qg7.symm
  refine mf_iconst (v := 0) (mf_dat eX10_init 6 rfl) (by decide) ?_
  refine mf_istore_n (mf_dat eX10_init 7 rfl) rfl (by decide) ?_
  refine mf_iconst (v := 0) (mf_dat eX10_init 8 rfl) (by decide) ?_
  refine mf_istore_n (mf_dat eX10_init 9 rfl) rfl (by decide) ?_
  refine mf_iconst (v := 0) (mf_dat eX10_init 10 rfl) (by decide) ?_
  refine mf_istore_n (mf_dat eX10_init 11 rfl) rfl (by decide) ?_
  exact mf_sub [3, 2, 1, 0] rfl hyp
abbrev JX10_packListed_4 (C : mf_G) (l : Launch) (d n : Nat) (K : mf_Kt) (x0 x1 x2 x3 : Int) (g h : mf_M) : Prop := mf_AW C l YX10_packListed (mf_rm d n n) n (mf_Zm C YX10_packListed n n K) (fun _ _ => True) 4 [(0, (0, x0)), (1, (0, x1)), (2, (0, x2)), (3, (0, x3))] [] n g h
set_option maxRecDepth 100000 in
set_option maxHeartbeats 4000000 in
theorem bX10_packListed_4 {C : mf_G} {l : Launch} {d n : Nat} {K : mf_Kt} {x0 x1 x2 x3 : Int} {g h : mf_M} (hd : 5 ≤ d) (hyp : ((mf_w32 (x0 + 6) ≤ x3 → K x2 g h) ∧ (¬ mf_w32 (x0 + 6) ≤ x3 → ((x1 ≤ x3 → (∀ v1 : Int, v1 = mf_w32 ((mf_w32 (x2 * 27)) + 0) → (∀ v2 : Int, v2 = mf_w32 (x3 + 1) → JX10_packListed_4 C l d n K x0 x1 v1 v2 g h))) ∧ (¬ x1 ≤ x3 → mf_MT C l 1 YJ0_length_8abf5 [(2, (-2))] n n g h (fun r3 g4 h5 => ((r3 ≤ x3 → (∀ v6 : Int, v6 = mf_w32 ((mf_w32 (x2 * 27)) + 0) → (∀ v7 : Int, v7 = mf_w32 (x3 + 1) → JX10_packListed_4 C l d n K x0 x1 v6 v7 g4 h5))) ∧ (¬ r3 ≤ x3 → mf_MT C l 4 YJ0_charAt_5068e [(2, (-2)), (0, x3)] n n g4 h5 (fun r8 g9 h10 => (∀ v11 : Int, v11 = mf_w32 ((mf_w32 (x2 * 27)) + (mf_w32 ((mf_w32 (r8 - 97)) + 1))) → (∀ v12 : Int, v12 = mf_w32 (x3 + 1) → JX10_packListed_4 C l d n K x0 x1 v11 v12 g9 h10))))))))))) : JX10_packListed_4 C l d n K x0 x1 x2 x3 g h := by
  refine mf_iload_n (mf_dat eX10_packListed 4 rfl) rfl rfl ?_
  refine mf_iload_n (mf_dat eX10_packListed 5 rfl) rfl rfl ?_
  refine mf_bipush (v := 6) (mf_dat eX10_packListed 6 rfl) (by decide) ?_
  refine mf_iadd (mf_dat eX10_packListed 7 rfl) ?_
  refine mf_icmp_ge (tgt := 53) (mf_dat eX10_packListed 8 rfl) (by decide) (fun hc => ?_) (fun hc => ?_)
  · replace hyp := hyp.1 hc
    refine mf_iload_n (mf_dat eX10_packListed 32 rfl) rfl rfl ?_
    exact mf_ireturn (mf_dat eX10_packListed 33 rfl) rfl (Or.inl rfl) hyp
  · replace hyp := hyp.2 hc
    refine mf_iload_n (mf_dat eX10_packListed 9 rfl) rfl rfl ?_
    refine mf_bipush (v := 27) (mf_dat eX10_packListed 10 rfl) (by decide) ?_
    refine mf_imul (mf_dat eX10_packListed 11 rfl) ?_
    refine mf_iload_n (mf_dat eX10_packListed 12 rfl) rfl rfl ?_
    refine mf_iload_n (mf_dat eX10_packListed 13 rfl) rfl rfl ?_
    refine mf_icmp_ge (tgt := 44) (mf_dat eX10_packListed 14 rfl) (by decide) (fun hc => ?_) (fun hc => ?_)
    · replace hyp := hyp.1 hc
      refine mf_iconst (v := 0) (mf_dat eX10_packListed 27 rfl) (by decide) ?_
      refine mf_iadd (mf_dat eX10_packListed 28 rfl) ?_
      generalize qv1 : mf_w32 ((mf_w32 (x2 * 27)) + 0) = v1
      replace hyp := hyp _ qv1.symm
      refine mf_istore_n (mf_dat eX10_packListed 29 rfl) rfl (by decide) ?_
      refine mf_iinc (mf_dat eX10_packListed 30 rfl) rfl (by decide) (by decide) ?_
      generalize qv2 : mf_w32 (x3 + 1) = v2
      replace hyp := hyp _ qv2.symm
      refine mf_goto (tgt := 4) (mf_dat eX10_packListed 31 rfl) (by decide) ?_
      exact mf_sub [2, 3, 1, 0] rfl hyp
    · replace hyp := hyp.2 hc
      refine mf_iload_n (mf_dat eX10_packListed 15 rfl) rfl rfl ?_
      refine mf_ldcS (mf_dat eX10_packListed 16 rfl) rfl ?_
      refine mf_callVT (Yc := YJ0_length_8abf5) (mf_dat eX10_packListed 17 rfl) ml_X10_17 okJ0_length_8abf5 im_J0_length_8abf5 sl_J0_length_8abf5 rfl rfl rfl (Nat.le_of_ble_eq_true rfl) (mf_rr (Nat.le_trans (by decide) hd) (Nat.le_refl _)) (Nat.le_refl _) hyp (fun r3 g4 h5 hyp => ?_)
      refine mf_icmp_ge (tgt := 44) (mf_dat eX10_packListed 18 rfl) (by decide) (fun hc => ?_) (fun hc => ?_)
      · replace hyp := hyp.1 hc
        refine mf_iconst (v := 0) (mf_dat eX10_packListed 27 rfl) (by decide) ?_
        refine mf_iadd (mf_dat eX10_packListed 28 rfl) ?_
        generalize qv6 : mf_w32 ((mf_w32 (x2 * 27)) + 0) = v6
        replace hyp := hyp _ qv6.symm
        refine mf_istore_n (mf_dat eX10_packListed 29 rfl) rfl (by decide) ?_
        refine mf_iinc (mf_dat eX10_packListed 30 rfl) rfl (by decide) (by decide) ?_
        generalize qv7 : mf_w32 (x3 + 1) = v7
        replace hyp := hyp _ qv7.symm
        refine mf_goto (tgt := 4) (mf_dat eX10_packListed 31 rfl) (by decide) ?_
        exact mf_sub [2, 3, 1, 0] rfl hyp
      · replace hyp := hyp.2 hc
        refine mf_ldcS (mf_dat eX10_packListed 19 rfl) rfl ?_
        refine mf_iload_n (mf_dat eX10_packListed 20 rfl) rfl rfl ?_
        refine mf_callVT (Yc := YJ0_charAt_5068e) (mf_dat eX10_packListed 21 rfl) ml_X10_23 okJ0_charAt_5068e im_J0_charAt_5068e sl_J0_charAt_5068e rfl rfl rfl (Nat.le_of_ble_eq_true rfl) (mf_rr (Nat.le_trans (by decide) hd) (Nat.le_refl _)) (Nat.le_refl _) hyp (fun r8 g9 h10 hyp => ?_)
        refine mf_bipush (v := 97) (mf_dat eX10_packListed 22 rfl) (by decide) ?_
        refine mf_isub (mf_dat eX10_packListed 23 rfl) ?_
        refine mf_iconst (v := 1) (mf_dat eX10_packListed 24 rfl) (by decide) ?_
        refine mf_iadd (mf_dat eX10_packListed 25 rfl) ?_
        refine mf_goto (tgt := 45) (mf_dat eX10_packListed 26 rfl) (by decide) ?_
        refine mf_iadd (mf_dat eX10_packListed 28 rfl) ?_
        generalize qv11 : mf_w32 ((mf_w32 (x2 * 27)) + (mf_w32 ((mf_w32 (r8 - 97)) + 1))) = v11
        replace hyp := hyp _ qv11.symm
        refine mf_istore_n (mf_dat eX10_packListed 29 rfl) rfl (by decide) ?_
        refine mf_iinc (mf_dat eX10_packListed 30 rfl) rfl (by decide) (by decide) ?_
        generalize qv12 : mf_w32 (x3 + 1) = v12
        replace hyp := hyp _ qv12.symm
        refine mf_goto (tgt := 4) (mf_dat eX10_packListed 31 rfl) (by decide) ?_
        exact mf_sub [2, 3, 1, 0] rfl hyp
set_option maxRecDepth 100000 in
set_option maxHeartbeats 4000000 in
theorem mX10_packListed {C : mf_G} {l : Launch} {d n : Nat} {K : mf_Kt} {x0 x1 : Int} {g h : mf_M} (hyp : JX10_packListed_4 C l d n K x0 x1 0 x0 g h) : mf_MT C l d YX10_packListed [(0, x0), (0, x1)] n n g h K := by
  refine mf_entry (by decide) (Nat.le_of_ble_eq_true rfl) ?_
  refine mf_iconst (v := 0) (mf_dat eX10_packListed 0 rfl) (by decide) ?_
  refine mf_istore_n (mf_dat eX10_packListed 1 rfl) rfl (by decide) ?_
  refine mf_iload_n (mf_dat eX10_packListed 2 rfl) rfl rfl ?_
  refine mf_istore_n (mf_dat eX10_packListed 3 rfl) rfl (by decide) ?_
  exact mf_sub [2, 3, 1, 0] rfl hyp
abbrev JX11_init_175 (C : mf_G) (l : Launch) (d n0 n1 n : Nat) (K : mf_Kt) (x0 x2 : Int) (g h : mf_M) : Prop := mf_AW C l YX11_init (mf_rm d n0 n1) n0 (mf_Zm C YX11_init n0 n1 K) (fun _ _ => True) 175 [(0, (2, x0)), (2, (0, x2))] [] n g h
set_option maxRecDepth 100000 in
set_option maxHeartbeats 4000000 in
theorem bX11_init_175 {C : mf_G} {l : Launch} {d n0 n1 n : Nat} {K : mf_Kt} {x0 x2 : Int} {g h : mf_M} (hd : 2 ≤ d) (hn0 : n0 ≤ n) (hyp : mf_is n x0 11 ∧ mf_is n (g x0 9) 25 ∧ ((mf_len (g x0 9) ≤ x2 → mf_sh n = (20, 6) ∧ mf_more (mf_rm d n0 n1) n0 n ∧ (∀ j : Nat, g n j = -1) ∧ (∀ j : Nat, h n j = 0) ∧ mf_is (n + 1) x0 11 ∧ (∀ g8 : mf_M, g8 = mf_up g x0 10 ((n : Nat) : Int) → mf_sh (n + 1) = (20, 57) ∧ mf_more (mf_rm d n0 n1) n0 (n + 1) ∧ (∀ j : Nat, g8 (n + 1) j = -1) ∧ (∀ j : Nat, h (n + 1) j = 0) ∧ mf_is (n + 2) x0 11 ∧ (∀ g14 : mf_M, g14 = mf_up g8 x0 11 ((n + 1 : Nat) : Int) → (∀ h15 : mf_M, h15 = mf_up h x0 18 (-1) → (∀ h16 : mf_M, h16 = mf_up h15 x0 19 1 → n + 2 = n1 ∧ K 0 g14 h16))))) ∧ (¬ mf_len (g x0 9) ≤ x2 → (mf_sh n).1 = 6 ∧ mf_more (mf_rm d n0 n1) n0 n ∧ (∀ j : Nat, g n j = -1) ∧ (∀ j : Nat, h n j = 0) ∧ (∀ v22 : Int, v22 = ((n : Nat) : Int) → n + 7 ≤ n1 ∧ 0 ≤ v22 ∧ mf_MT C l 1 YX6_init [(2, v22)] (n + 1) (n + 7) g h (fun r24 g25 h26 => mf_is (n + 7) (g x0 9) 25 ∧ 0 ≤ x2 ∧ x2 < mf_len (g x0 9) ∧ mf_is (n + 7) v22 6 ∧ (∀ g32 : mf_M, g32 = mf_up g25 (g x0 9) x2 v22 → (∀ v33 : Int, v33 = mf_w32 (x2 + 1) → JX11_init_175 C l d n0 n1 (n + 7) K x0 v33 g32 h26))))))) : JX11_init_175 C l d n0 n1 n K x0 x2 g h := by
  refine mf_iload_n (mf_dat eX11_init_p1 24 rfl) rfl rfl ?_
  refine mf_aload_n (mf_dat eX11_init_p1 25 rfl) rfl rfl ?_
  obtain ⟨ck1, hyp⟩ := hyp
  refine mf_getf (r := (RX11, TX11, 20)) (ci := 11) (k := 9) (t := 2) (v := g x0 9) (mf_dat eX11_init_p1 26 rfl) fl_X11_89 rfl (by decide) rfl rfl ck1 ?_
  obtain ⟨ck2, hyp⟩ := hyp
  refine mf_alen (c := 25) (i := 5) (ty := .object "MarginFolk$State") (v := mf_len _) (mf_dat eX11_init_p1 27 rfl) (by decide) rfl ck2 rfl (mf_len_small _) ?_
  refine mf_icmp_ge (tgt := 203) (mf_dat eX11_init_p1 28 rfl) (by decide) (fun hc => ?_) (fun hc => ?_)
  · replace hyp := hyp.1 hc
    refine mf_aload_n (mf_dat eX11_init_p1 38 rfl) rfl rfl ?_
    refine mf_bipush (v := 6) (mf_dat eX11_init_p1 39 rfl) (by decide) ?_
    obtain ⟨ck3, hyp⟩ := hyp
    obtain ⟨ck4, hyp⟩ := hyp
    obtain ⟨ck5, hyp⟩ := hyp
    obtain ⟨ck6, hyp⟩ := hyp
    refine mf_newa (at_ := .int) (i := 0) (mf_dat eX11_init_p1 40 rfl) ac_20 rfl ck3 rfl (by decide) rfl rfl (by decide) (fun c h9 => FieldType.noConfusion h9) (by decide) ck4 ck5 ck6 ?_
    obtain ⟨ck7, hyp⟩ := hyp
    refine mf_putRF (r := (RX11, TX11, 20)) (ci := 11) (k := 10) (kI := 10) (t := 2) (mf_dat eX11_init_p1 41 rfl) fl_X11_93 rfl rfl (by decide) rfl (by decide) rfl rfl rfl (by decide) (fun h9 => absurd h9 (by decide)) ck7 ?_
    generalize qg8 : mf_up g x0 10 ((n : Nat) : Int) = g8
    replace hyp := hyp _ qg8.symm
    refine mf_aload_n (mf_dat eX11_init_p1 42 rfl) rfl rfl ?_
    refine mf_bipush (v := 57) (mf_dat eX11_init_p1 43 rfl) (by decide) ?_
    obtain ⟨ck9, hyp⟩ := hyp
    obtain ⟨ck10, hyp⟩ := hyp
    obtain ⟨ck11, hyp⟩ := hyp
    obtain ⟨ck12, hyp⟩ := hyp
    refine mf_newa (at_ := .int) (i := 0) (mf_dat eX11_init_p1 44 rfl) ac_20 rfl ck9 rfl (by decide) rfl rfl (by decide) (fun c h9 => FieldType.noConfusion h9) (by decide) ck10 ck11 ck12 ?_
    obtain ⟨ck13, hyp⟩ := hyp
    refine mf_putRF (r := (RX11, TX11, 20)) (ci := 11) (k := 11) (kI := 11) (t := 2) (mf_dat eX11_init_p1 45 rfl) fl_X11_97 rfl rfl (by decide) rfl (by decide) rfl rfl rfl (by decide) (fun h9 => absurd h9 (by decide)) ck13 ?_
    generalize qg14 : mf_up g8 x0 11 ((n + 1 : Nat) : Int) = g14
    replace hyp := hyp _ qg14.symm
    refine mf_aload_n (mf_dat eX11_init_p1 46 rfl) rfl rfl ?_
    refine mf_iconst (v := (-1)) (mf_dat eX11_init_p1 47 rfl) (by decide) ?_
    refine mf_putI (r := (RX11, TX11, 20)) (ci := 11) (k := 18) (kI := 18) (t := 0) (mf_dat eX11_init_p1 48 rfl) fl_X11_100 rfl rfl (by decide) rfl (by decide) rfl (by decide) (fun h9 => absurd h9 (by decide)) ck13 ?_
    generalize qh15 : mf_up h x0 18 (-1) = h15
    replace hyp := hyp _ qh15.symm
    refine mf_aload_n (mf_dat eX11_init_p1 49 rfl) rfl rfl ?_
    refine mf_iconst (v := 1) (mf_dat eX11_init_p1 50 rfl) (by decide) ?_
    refine mf_putI (r := (RX11, TX11, 20)) (ci := 11) (k := 19) (kI := 19) (t := 0) (mf_dat eX11_init_p1 51 rfl) fl_X11_104 rfl rfl (by decide) rfl (by decide) rfl (by decide) (fun h9 => absurd h9 (by decide)) ck13 ?_
    generalize qh16 : mf_up h15 x0 19 1 = h16
    replace hyp := hyp _ qh16.symm
    obtain ⟨ck17, hyp⟩ := hyp
    exact mf_returnN (mf_dat eX11_init_p1 52 rfl) rfl ck17 hyp
  · replace hyp := hyp.2 hc
    refine mf_aload_n (mf_dat eX11_init_p1 29 rfl) rfl rfl ?_
    refine mf_getf (r := (RX11, TX11, 20)) (ci := 11) (k := 9) (t := 2) (v := g x0 9) (mf_dat eX11_init_p1 30 rfl) fl_X11_89 rfl (by decide) rfl rfl ck1 ?_
    refine mf_iload_n (mf_dat eX11_init_p1 31 rfl) rfl rfl ?_
    obtain ⟨ck18, hyp⟩ := hyp
    obtain ⟨ck19, hyp⟩ := hyp
    obtain ⟨ck20, hyp⟩ := hyp
    obtain ⟨ck21, hyp⟩ := hyp
    refine mf_new (r := (RX6, TX6, 8)) (ci := 6) (mf_dat eX11_init_p1 32 rfl) kl_X11_79 in_X6 ii_X6 rfl (by decide) ck18 ck19 ck20 ck21 ?_
    generalize qv22 : ((n : Nat) : Int) = v22
    replace hyp := hyp _ qv22.symm
    refine mf_dup (mf_dat eX11_init_p1 33 rfl) (by decide) ?_
    obtain ⟨ck23, hyp⟩ := hyp
    obtain ⟨ck27, hyp⟩ := hyp
    refine mf_callIN (Yc := YX6_init) (host := "MarginFolk") (mf_dat eX11_init_p1 34 rfl) (List.mem_of_getElem? (i := 8) rfl) okX6_init im_X6_init rfl rfl rfl rfl (Nat.le_of_ble_eq_true rfl) (mf_rr (Nat.le_trans (by decide) hd) ck23) (by omega) ck27 hyp (fun r24 g25 h26 hyp => ?_)
    obtain ⟨ck28, hyp⟩ := hyp
    obtain ⟨ck29, hyp⟩ := hyp
    obtain ⟨ck30, hyp⟩ := hyp
    obtain ⟨ck31, hyp⟩ := hyp
    refine mf_aast (mf_dat eX11_init_p1 35 rfl) ck28 rfl ck29 ck30 ck31 ?_
    generalize qg32 : mf_up g25 (g x0 9) x2 v22 = g32
    replace hyp := hyp _ qg32.symm
    refine mf_iinc (mf_dat eX11_init_p1 36 rfl) rfl (by decide) (by decide) ?_
    generalize qv33 : mf_w32 (x2 + 1) = v33
    replace hyp := hyp _ qv33.symm
    refine mf_goto (tgt := 175) (mf_dat eX11_init_p1 37 rfl) (by decide) ?_
    exact mf_sub [1, 0] rfl hyp
set_option maxRecDepth 100000 in
set_option maxHeartbeats 4000000 in
theorem mX11_init {C : mf_G} {l : Launch} {d n0 n1 : Nat} {K : mf_Kt} {x0 : Int} {g h : mf_M} (hd : 7 ≤ d) (hyp : 0 ≤ x0 ∧ (mf_sh n0).1 = 10 ∧ mf_more (mf_rm d n0 n1) n0 n0 ∧ (∀ j : Nat, g n0 j = -1) ∧ (∀ j : Nat, h n0 j = 0) ∧ (∀ v6 : Int, v6 = ((n0 : Nat) : Int) → n0 + 2 ≤ n1 ∧ 0 ≤ v6 ∧ mf_MT C l 6 YX10_init [(2, v6)] (n0 + 1) (n0 + 2) g h (fun r8 g9 h10 => (mf_sh (n0 + 2)).1 = 8 ∧ mf_more (mf_rm d n0 n1) n0 (n0 + 2) ∧ (∀ j : Nat, g9 (n0 + 2) j = -1) ∧ (∀ j : Nat, h10 (n0 + 2) j = 0) ∧ (∀ v16 : Int, v16 = ((n0 + 2 : Nat) : Int) → n0 + 4 ≤ n1 ∧ 0 ≤ v16 ∧ mf_MT C l 1 YX8_init [(2, v16)] (n0 + 3) (n0 + 4) g9 h10 (fun r18 g19 h20 => mf_is (n0 + 4) x0 11 ∧ (∀ g23 : mf_M, g23 = mf_up g19 x0 0 v16 → (mf_sh (n0 + 4)).1 = 9 ∧ mf_more (mf_rm d n0 n1) n0 (n0 + 4) ∧ (∀ j : Nat, g23 (n0 + 4) j = -1) ∧ (∀ j : Nat, h20 (n0 + 4) j = 0) ∧ (∀ v28 : Int, v28 = ((n0 + 4 : Nat) : Int) → mf_is (n0 + 5) x0 11 ∧ n0 + 5 ≤ n1 ∧ 0 ≤ v28 ∧ mf_MT C l 1 YX9_init [(2, v28), (2, g23 x0 0), (2, v6)] (n0 + 5) (n0 + 5) g23 h20 (fun r31 g32 h33 => (∀ g35 : mf_M, g35 = mf_up g32 x0 1 v28 → (mf_sh (n0 + 5)).1 = 4 ∧ mf_more (mf_rm d n0 n1) n0 (n0 + 5) ∧ (∀ j : Nat, g35 (n0 + 5) j = -1) ∧ (∀ j : Nat, h33 (n0 + 5) j = 0) ∧ (∀ v40 : Int, v40 = ((n0 + 5 : Nat) : Int) → n0 + 9 ≤ n1 ∧ 0 ≤ v40 ∧ mf_MT C l 1 YX4_init [(2, v40)] (n0 + 6) (n0 + 9) g35 h33 (fun r42 g43 h44 => mf_is (n0 + 9) x0 11 ∧ (∀ g47 : mf_M, g47 = mf_up g43 x0 6 v40 → (mf_sh (n0 + 9)).1 = 7 ∧ mf_more (mf_rm d n0 n1) n0 (n0 + 9) ∧ (∀ j : Nat, g47 (n0 + 9) j = -1) ∧ (∀ j : Nat, h44 (n0 + 9) j = 0) ∧ (∀ v52 : Int, v52 = ((n0 + 9 : Nat) : Int) → mf_is (n0 + 10) x0 11 ∧ n0 + 10 ≤ n1 ∧ 0 ≤ v52 ∧ mf_MT C l 1 YX7_init [(2, v52), (2, g47 x0 1), (2, v6), (2, g47 x0 6)] (n0 + 10) (n0 + 10) g47 h44 (fun r55 g56 h57 => (∀ g59 : mf_M, g59 = mf_up g56 x0 2 v52 → (mf_sh (n0 + 10)).1 = 1 ∧ mf_more (mf_rm d n0 n1) n0 (n0 + 10) ∧ (∀ j : Nat, g59 (n0 + 10) j = -1) ∧ (∀ j : Nat, h57 (n0 + 10) j = 0) ∧ (∀ v64 : Int, v64 = ((n0 + 10 : Nat) : Int) → n0 + 27 ≤ n1 ∧ 0 ≤ v64 ∧ mf_MT C l 2 YX1_init [(2, v64)] (n0 + 11) (n0 + 27) g59 h57 (fun r66 g67 h68 => mf_is (n0 + 27) x0 11 ∧ (∀ g71 : mf_M, g71 = mf_up g67 x0 12 v64 → (mf_sh (n0 + 27)).1 = 1 ∧ mf_more (mf_rm d n0 n1) n0 (n0 + 27) ∧ (∀ j : Nat, g71 (n0 + 27) j = -1) ∧ (∀ j : Nat, h68 (n0 + 27) j = 0) ∧ (∀ v76 : Int, v76 = ((n0 + 27 : Nat) : Int) → n0 + 44 ≤ n1 ∧ 0 ≤ v76 ∧ mf_MT C l 2 YX1_init [(2, v76)] (n0 + 28) (n0 + 44) g71 h68 (fun r78 g79 h80 => mf_is (n0 + 44) x0 11 ∧ (∀ g83 : mf_M, g83 = mf_up g79 x0 13 v76 → (mf_sh (n0 + 44)).1 = 2 ∧ mf_more (mf_rm d n0 n1) n0 (n0 + 44) ∧ (∀ j : Nat, g83 (n0 + 44) j = -1) ∧ (∀ j : Nat, h80 (n0 + 44) j = 0) ∧ (∀ v88 : Int, v88 = ((n0 + 44 : Nat) : Int) → mf_is (n0 + 45) x0 11 ∧ n0 + 45 ≤ n1 ∧ 0 ≤ v88 ∧ mf_MT C l 1 YX2_init [(2, v88), (2, g83 x0 1), (2, v6), (2, g83 x0 2), (2, g83 x0 13)] (n0 + 45) (n0 + 45) g83 h80 (fun r91 g92 h93 => (∀ g95 : mf_M, g95 = mf_up g92 x0 3 v88 → (mf_sh (n0 + 45)).1 = 0 ∧ mf_more (mf_rm d n0 n1) n0 (n0 + 45) ∧ (∀ j : Nat, g95 (n0 + 45) j = -1) ∧ (∀ j : Nat, h93 (n0 + 45) j = 0) ∧ (∀ v100 : Int, v100 = ((n0 + 45 : Nat) : Int) → n0 + 50 ≤ n1 ∧ 0 ≤ v100 ∧ mf_MT C l 2 YX0_init [(2, v100)] (n0 + 46) (n0 + 50) g95 h93 (fun r102 g103 h104 => mf_is (n0 + 50) x0 11 ∧ (∀ g107 : mf_M, g107 = mf_up g103 x0 4 v100 → (mf_sh (n0 + 50)).1 = 5 ∧ mf_more (mf_rm d n0 n1) n0 (n0 + 50) ∧ (∀ j : Nat, g107 (n0 + 50) j = -1) ∧ (∀ j : Nat, h104 (n0 + 50) j = 0) ∧ (∀ v112 : Int, v112 = ((n0 + 50 : Nat) : Int) → mf_is (n0 + 51) x0 11 ∧ n0 + 87 ≤ n1 ∧ 0 ≤ v112 ∧ mf_MT C l 2 YX5_init [(2, v112), (2, g107 x0 4)] (n0 + 51) (n0 + 87) g107 h104 (fun r115 g116 h117 => mf_is (n0 + 87) x0 11 ∧ (∀ g120 : mf_M, g120 = mf_up g116 x0 5 v112 → (mf_sh (n0 + 87)).1 = 6 ∧ mf_more (mf_rm d n0 n1) n0 (n0 + 87) ∧ (∀ j : Nat, g120 (n0 + 87) j = -1) ∧ (∀ j : Nat, h117 (n0 + 87) j = 0) ∧ (∀ v125 : Int, v125 = ((n0 + 87 : Nat) : Int) → n0 + 94 ≤ n1 ∧ 0 ≤ v125 ∧ mf_MT C l 1 YX6_init [(2, v125)] (n0 + 88) (n0 + 94) g120 h117 (fun r127 g128 h129 => mf_is (n0 + 94) x0 11 ∧ (∀ g132 : mf_M, g132 = mf_up g128 x0 7 v125 → (mf_sh (n0 + 94)).1 = 6 ∧ mf_more (mf_rm d n0 n1) n0 (n0 + 94) ∧ (∀ j : Nat, g132 (n0 + 94) j = -1) ∧ (∀ j : Nat, h129 (n0 + 94) j = 0) ∧ (∀ v137 : Int, v137 = ((n0 + 94 : Nat) : Int) → n0 + 101 ≤ n1 ∧ 0 ≤ v137 ∧ mf_MT C l 1 YX6_init [(2, v137)] (n0 + 95) (n0 + 101) g132 h129 (fun r139 g140 h141 => mf_is (n0 + 101) x0 11 ∧ (∀ g144 : mf_M, g144 = mf_up g140 x0 8 v137 → mf_sh (n0 + 101) = (25, 20) ∧ mf_more (mf_rm d n0 n1) n0 (n0 + 101) ∧ (∀ j : Nat, g144 (n0 + 101) j = -1) ∧ (∀ j : Nat, h141 (n0 + 101) j = 0) ∧ mf_is (n0 + 102) x0 11 ∧ (∀ g150 : mf_M, g150 = mf_up g144 x0 9 ((n0 + 101 : Nat) : Int) → JX11_init_175 C l d n0 n1 (n0 + 102) K x0 0 g150 h141))))))))))))))))))))))))))))))))))))) : mf_MT C l d YX11_init [(2, x0)] n0 n1 g h K := by
  refine mf_entry (by decide) (Nat.le_of_ble_eq_true rfl) ?_
  refine mf_aload_n (mf_dat eX11_init_p0 0 rfl) rfl rfl ?_
  obtain ⟨ck1, hyp⟩ := hyp
  refine mf_objInit (mf_dat eX11_init_p0 1 rfl) ml_X11_3 im_obj co_obj (mf_rmf hd) (mf_rml hd (Nat.le_of_ble_eq_true rfl)) ck1 ?_
  obtain ⟨ck2, hyp⟩ := hyp
  obtain ⟨ck3, hyp⟩ := hyp
  obtain ⟨ck4, hyp⟩ := hyp
  obtain ⟨ck5, hyp⟩ := hyp
  refine mf_new (r := (RX10, TX10, 1)) (ci := 10) (mf_dat eX11_init_p0 2 rfl) kl_X11_9 in_X10 ii_X10 rfl (by decide) ck2 ck3 ck4 ck5 ?_
  generalize qv6 : ((n0 : Nat) : Int) = v6
  replace hyp := hyp _ qv6.symm
  refine mf_dup (mf_dat eX11_init_p0 3 rfl) (by decide) ?_
  obtain ⟨ck7, hyp⟩ := hyp
  obtain ⟨ck11, hyp⟩ := hyp
  refine mf_callI (Yc := YX10_init) (mf_dat eX11_init_p0 4 rfl) ml_X11_11 okX10_init im_X10_init rfl rfl rfl rfl (Nat.le_of_ble_eq_true rfl) (mf_rr (Nat.le_trans (by decide) hd) ck7) (by omega) ck11 hyp (fun r8 g9 h10 hyp => ?_)
  refine mf_astore_n (mf_dat eX11_init_p0 5 rfl) rfl (by decide) ?_
  refine mf_aload_n (mf_dat eX11_init_p0 6 rfl) rfl rfl ?_
  obtain ⟨ck12, hyp⟩ := hyp
  obtain ⟨ck13, hyp⟩ := hyp
  obtain ⟨ck14, hyp⟩ := hyp
  obtain ⟨ck15, hyp⟩ := hyp
  refine mf_new (r := (RX8, TX8, 2)) (ci := 8) (mf_dat eX11_init_p0 7 rfl) kl_X11_12 in_X8 ii_X8 rfl (by decide) ck12 ck13 ck14 ck15 ?_
  generalize qv16 : ((n0 + 2 : Nat) : Int) = v16
  replace hyp := hyp _ qv16.symm
  refine mf_dup (mf_dat eX11_init_p0 8 rfl) (by decide) ?_
  obtain ⟨ck17, hyp⟩ := hyp
  obtain ⟨ck21, hyp⟩ := hyp
  refine mf_callIN (Yc := YX8_init) (host := "MarginFolk") (mf_dat eX11_init_p0 9 rfl) (List.mem_of_getElem? (i := 0) rfl) okX8_init im_X8_init rfl rfl rfl rfl (Nat.le_of_ble_eq_true rfl) (mf_rr (Nat.le_trans (by decide) hd) ck17) (by omega) ck21 hyp (fun r18 g19 h20 hyp => ?_)
  obtain ⟨ck22, hyp⟩ := hyp
  refine mf_putRF (r := (RX11, TX11, 20)) (ci := 11) (k := 0) (kI := 0) (t := 2) (mf_dat eX11_init_p0 10 rfl) fl_X11_15 rfl rfl (by decide) rfl (by decide) rfl rfl rfl (by decide) (fun h9 => absurd h9 (by decide)) ck22 ?_
  generalize qg23 : mf_up g19 x0 0 v16 = g23
  replace hyp := hyp _ qg23.symm
  refine mf_aload_n (mf_dat eX11_init_p0 11 rfl) rfl rfl ?_
  obtain ⟨ck24, hyp⟩ := hyp
  obtain ⟨ck25, hyp⟩ := hyp
  obtain ⟨ck26, hyp⟩ := hyp
  obtain ⟨ck27, hyp⟩ := hyp
  refine mf_new (r := (RX9, TX9, 10)) (ci := 9) (mf_dat eX11_init_p0 12 rfl) kl_X11_19 in_X9 ii_X9 rfl (by decide) ck24 ck25 ck26 ck27 ?_
  generalize qv28 : ((n0 + 4 : Nat) : Int) = v28
  replace hyp := hyp _ qv28.symm
  refine mf_dup (mf_dat eX11_init_p0 13 rfl) (by decide) ?_
  refine mf_aload_n (mf_dat eX11_init_p0 14 rfl) rfl rfl ?_
  obtain ⟨ck29, hyp⟩ := hyp
  refine mf_getf (r := (RX11, TX11, 20)) (ci := 11) (k := 0) (t := 2) (v := g23 x0 0) (mf_dat eX11_init_p0 15 rfl) fl_X11_15 rfl (by decide) rfl rfl ck29 ?_
  refine mf_aload_n (mf_dat eX11_init_p0 16 rfl) rfl rfl ?_
  obtain ⟨ck30, hyp⟩ := hyp
  obtain ⟨ck34, hyp⟩ := hyp
  refine mf_callI (Yc := YX9_init) (mf_dat eX11_init_p0 17 rfl) ml_X11_21 okX9_init im_X9_init rfl rfl rfl rfl (Nat.le_of_ble_eq_true rfl) (mf_rr (Nat.le_trans (by decide) hd) ck30) (Nat.le_refl _) ck34 hyp (fun r31 g32 h33 hyp => ?_)
  refine mf_putRF (r := (RX11, TX11, 20)) (ci := 11) (k := 1) (kI := 1) (t := 2) (mf_dat eX11_init_p0 18 rfl) fl_X11_24 rfl rfl (by decide) rfl (by decide) rfl rfl rfl (by decide) (fun h9 => absurd h9 (by decide)) ck29 ?_
  generalize qg35 : mf_up g32 x0 1 v28 = g35
  replace hyp := hyp _ qg35.symm
  refine mf_aload_n (mf_dat eX11_init_p0 19 rfl) rfl rfl ?_
  obtain ⟨ck36, hyp⟩ := hyp
  obtain ⟨ck37, hyp⟩ := hyp
  obtain ⟨ck38, hyp⟩ := hyp
  obtain ⟨ck39, hyp⟩ := hyp
  refine mf_new (r := (RX4, TX4, 5)) (ci := 4) (mf_dat eX11_init_p0 20 rfl) kl_X11_28 in_X4 ii_X4 rfl (by decide) ck36 ck37 ck38 ck39 ?_
  generalize qv40 : ((n0 + 5 : Nat) : Int) = v40
  replace hyp := hyp _ qv40.symm
  refine mf_dup (mf_dat eX11_init_p0 21 rfl) (by decide) ?_
  obtain ⟨ck41, hyp⟩ := hyp
  obtain ⟨ck45, hyp⟩ := hyp
  refine mf_callIN (Yc := YX4_init) (host := "MarginFolk") (mf_dat eX11_init_p0 22 rfl) (List.mem_of_getElem? (i := 1) rfl) okX4_init im_X4_init rfl rfl rfl rfl (Nat.le_of_ble_eq_true rfl) (mf_rr (Nat.le_trans (by decide) hd) ck41) (by omega) ck45 hyp (fun r42 g43 h44 hyp => ?_)
  obtain ⟨ck46, hyp⟩ := hyp
  refine mf_putRF (r := (RX11, TX11, 20)) (ci := 11) (k := 6) (kI := 6) (t := 2) (mf_dat eX11_init_p0 23 rfl) fl_X11_31 rfl rfl (by decide) rfl (by decide) rfl rfl rfl (by decide) (fun h9 => absurd h9 (by decide)) ck46 ?_
  generalize qg47 : mf_up g43 x0 6 v40 = g47
  replace hyp := hyp _ qg47.symm
  refine mf_aload_n (mf_dat eX11_init_p0 24 rfl) rfl rfl ?_
  obtain ⟨ck48, hyp⟩ := hyp
  obtain ⟨ck49, hyp⟩ := hyp
  obtain ⟨ck50, hyp⟩ := hyp
  obtain ⟨ck51, hyp⟩ := hyp
  refine mf_new (r := (RX7, TX7, 4)) (ci := 7) (mf_dat eX11_init_p0 25 rfl) kl_X11_35 in_X7 ii_X7 rfl (by decide) ck48 ck49 ck50 ck51 ?_
  generalize qv52 : ((n0 + 9 : Nat) : Int) = v52
  replace hyp := hyp _ qv52.symm
  refine mf_dup (mf_dat eX11_init_p0 26 rfl) (by decide) ?_
  refine mf_aload_n (mf_dat eX11_init_p0 27 rfl) rfl rfl ?_
  obtain ⟨ck53, hyp⟩ := hyp
  refine mf_getf (r := (RX11, TX11, 20)) (ci := 11) (k := 1) (t := 2) (v := g47 x0 1) (mf_dat eX11_init_p0 28 rfl) fl_X11_24 rfl (by decide) rfl rfl ck53 ?_
  refine mf_aload_n (mf_dat eX11_init_p0 29 rfl) rfl rfl ?_
  refine mf_aload_n (mf_dat eX11_init_p0 30 rfl) rfl rfl ?_
  refine mf_getf (r := (RX11, TX11, 20)) (ci := 11) (k := 6) (t := 2) (v := g47 x0 6) (mf_dat eX11_init_p0 31 rfl) fl_X11_31 rfl (by decide) rfl rfl ck53 ?_
  obtain ⟨ck54, hyp⟩ := hyp
  obtain ⟨ck58, hyp⟩ := hyp
  refine mf_callI (Yc := YX7_init) (mf_dat eX11_init_p0 32 rfl) ml_X11_37 okX7_init im_X7_init rfl rfl rfl rfl (Nat.le_of_ble_eq_true rfl) (mf_rr (Nat.le_trans (by decide) hd) ck54) (Nat.le_refl _) ck58 hyp (fun r55 g56 h57 hyp => ?_)
  refine mf_putRF (r := (RX11, TX11, 20)) (ci := 11) (k := 2) (kI := 2) (t := 2) (mf_dat eX11_init_p0 33 rfl) fl_X11_40 rfl rfl (by decide) rfl (by decide) rfl rfl rfl (by decide) (fun h9 => absurd h9 (by decide)) ck53 ?_
  generalize qg59 : mf_up g56 x0 2 v52 = g59
  replace hyp := hyp _ qg59.symm
  refine mf_aload_n (mf_dat eX11_init_p0 34 rfl) rfl rfl ?_
  obtain ⟨ck60, hyp⟩ := hyp
  obtain ⟨ck61, hyp⟩ := hyp
  obtain ⟨ck62, hyp⟩ := hyp
  obtain ⟨ck63, hyp⟩ := hyp
  refine mf_new (r := (RX1, TX1, 14)) (ci := 1) (mf_dat eX11_init_p0 35 rfl) kl_X11_44 in_X1 ii_X1 rfl (by decide) ck60 ck61 ck62 ck63 ?_
  generalize qv64 : ((n0 + 10 : Nat) : Int) = v64
  replace hyp := hyp _ qv64.symm
  refine mf_dup (mf_dat eX11_init_p0 36 rfl) (by decide) ?_
  obtain ⟨ck65, hyp⟩ := hyp
  obtain ⟨ck69, hyp⟩ := hyp
  refine mf_callIN (Yc := YX1_init) (host := "MarginFolk") (mf_dat eX11_init_p0 37 rfl) (List.mem_of_getElem? (i := 2) rfl) okX1_init im_X1_init rfl rfl rfl rfl (Nat.le_of_ble_eq_true rfl) (mf_rr (Nat.le_trans (by decide) hd) ck65) (by omega) ck69 hyp (fun r66 g67 h68 hyp => ?_)
  obtain ⟨ck70, hyp⟩ := hyp
  refine mf_putR (r := (RX11, TX11, 20)) (ci := 11) (k := 12) (kI := 12) (t := 2) (mf_dat eX11_init_p0 38 rfl) fl_X11_47 rfl rfl (by decide) rfl (by decide) rfl (by decide) (fun h9 => absurd h9 (by decide)) ck70 ?_
  generalize qg71 : mf_up g67 x0 12 v64 = g71
  replace hyp := hyp _ qg71.symm
  refine mf_aload_n (mf_dat eX11_init_p0 39 rfl) rfl rfl ?_
  obtain ⟨ck72, hyp⟩ := hyp
  obtain ⟨ck73, hyp⟩ := hyp
  obtain ⟨ck74, hyp⟩ := hyp
  obtain ⟨ck75, hyp⟩ := hyp
  refine mf_new (r := (RX1, TX1, 14)) (ci := 1) (mf_dat eX11_init_p0 40 rfl) kl_X11_44 in_X1 ii_X1 rfl (by decide) ck72 ck73 ck74 ck75 ?_
  generalize qv76 : ((n0 + 27 : Nat) : Int) = v76
  replace hyp := hyp _ qv76.symm
  refine mf_dup (mf_dat eX11_init_p0 41 rfl) (by decide) ?_
  obtain ⟨ck77, hyp⟩ := hyp
  obtain ⟨ck81, hyp⟩ := hyp
  refine mf_callIN (Yc := YX1_init) (host := "MarginFolk") (mf_dat eX11_init_p0 42 rfl) (List.mem_of_getElem? (i := 2) rfl) okX1_init im_X1_init rfl rfl rfl rfl (Nat.le_of_ble_eq_true rfl) (mf_rr (Nat.le_trans (by decide) hd) ck77) (by omega) ck81 hyp (fun r78 g79 h80 hyp => ?_)
  obtain ⟨ck82, hyp⟩ := hyp
  refine mf_putR (r := (RX11, TX11, 20)) (ci := 11) (k := 13) (kI := 13) (t := 2) (mf_dat eX11_init_p0 43 rfl) fl_X11_51 rfl rfl (by decide) rfl (by decide) rfl (by decide) (fun h9 => absurd h9 (by decide)) ck82 ?_
  generalize qg83 : mf_up g79 x0 13 v76 = g83
  replace hyp := hyp _ qg83.symm
  refine mf_aload_n (mf_dat eX11_init_p0 44 rfl) rfl rfl ?_
  obtain ⟨ck84, hyp⟩ := hyp
  obtain ⟨ck85, hyp⟩ := hyp
  obtain ⟨ck86, hyp⟩ := hyp
  obtain ⟨ck87, hyp⟩ := hyp
  refine mf_new (r := (RX2, TX2, 4)) (ci := 2) (mf_dat eX11_init_p0 45 rfl) kl_X11_54 in_X2 ii_X2 rfl (by decide) ck84 ck85 ck86 ck87 ?_
  generalize qv88 : ((n0 + 44 : Nat) : Int) = v88
  replace hyp := hyp _ qv88.symm
  refine mf_dup (mf_dat eX11_init_p0 46 rfl) (by decide) ?_
  refine mf_aload_n (mf_dat eX11_init_p0 47 rfl) rfl rfl ?_
  obtain ⟨ck89, hyp⟩ := hyp
  refine mf_getf (r := (RX11, TX11, 20)) (ci := 11) (k := 1) (t := 2) (v := g83 x0 1) (mf_dat eX11_init_p0 48 rfl) fl_X11_24 rfl (by decide) rfl rfl ck89 ?_
  refine mf_aload_n (mf_dat eX11_init_p0 49 rfl) rfl rfl ?_
  refine mf_aload_n (mf_dat eX11_init_p0 50 rfl) rfl rfl ?_
  refine mf_getf (r := (RX11, TX11, 20)) (ci := 11) (k := 2) (t := 2) (v := g83 x0 2) (mf_dat eX11_init_p0 51 rfl) fl_X11_40 rfl (by decide) rfl rfl ck89 ?_
  refine mf_aload_n (mf_dat eX11_init_p0 52 rfl) rfl rfl ?_
  refine mf_getf (r := (RX11, TX11, 20)) (ci := 11) (k := 13) (t := 2) (v := g83 x0 13) (mf_dat eX11_init_p0 53 rfl) fl_X11_51 rfl (by decide) rfl rfl ck89 ?_
  obtain ⟨ck90, hyp⟩ := hyp
  obtain ⟨ck94, hyp⟩ := hyp
  refine mf_callI (Yc := YX2_init) (mf_dat eX11_init_p0 54 rfl) ml_X11_56 okX2_init im_X2_init rfl rfl rfl rfl (Nat.le_of_ble_eq_true rfl) (mf_rr (Nat.le_trans (by decide) hd) ck90) (Nat.le_refl _) ck94 hyp (fun r91 g92 h93 hyp => ?_)
  refine mf_putRF (r := (RX11, TX11, 20)) (ci := 11) (k := 3) (kI := 3) (t := 2) (mf_dat eX11_init_p0 55 rfl) fl_X11_59 rfl rfl (by decide) rfl (by decide) rfl rfl rfl (by decide) (fun h9 => absurd h9 (by decide)) ck89 ?_
  generalize qg95 : mf_up g92 x0 3 v88 = g95
  replace hyp := hyp _ qg95.symm
  refine mf_aload_n (mf_dat eX11_init_p0 56 rfl) rfl rfl ?_
  obtain ⟨ck96, hyp⟩ := hyp
  obtain ⟨ck97, hyp⟩ := hyp
  obtain ⟨ck98, hyp⟩ := hyp
  obtain ⟨ck99, hyp⟩ := hyp
  refine mf_new (r := (RX0, TX0, 1)) (ci := 0) (mf_dat eX11_init_p0 57 rfl) kl_X11_63 in_X0 ii_X0 rfl (by decide) ck96 ck97 ck98 ck99 ?_
  generalize qv100 : ((n0 + 45 : Nat) : Int) = v100
  replace hyp := hyp _ qv100.symm
  refine mf_dup (mf_dat eX11_init_p0 58 rfl) (by decide) ?_
  obtain ⟨ck101, hyp⟩ := hyp
  obtain ⟨ck105, hyp⟩ := hyp
  refine mf_callIN (Yc := YX0_init) (host := "MarginFolk") (mf_dat eX11_init_p0 59 rfl) (List.mem_of_getElem? (i := 5) rfl) okX0_init im_X0_init rfl rfl rfl rfl (Nat.le_of_ble_eq_true rfl) (mf_rr (Nat.le_trans (by decide) hd) ck101) (by omega) ck105 hyp (fun r102 g103 h104 hyp => ?_)
  obtain ⟨ck106, hyp⟩ := hyp
  refine mf_putRF (r := (RX11, TX11, 20)) (ci := 11) (k := 4) (kI := 4) (t := 2) (mf_dat eX11_init_p1 0 rfl) fl_X11_66 rfl rfl (by decide) rfl (by decide) rfl rfl rfl (by decide) (fun h9 => absurd h9 (by decide)) ck106 ?_
  generalize qg107 : mf_up g103 x0 4 v100 = g107
  replace hyp := hyp _ qg107.symm
  refine mf_aload_n (mf_dat eX11_init_p1 1 rfl) rfl rfl ?_
  obtain ⟨ck108, hyp⟩ := hyp
  obtain ⟨ck109, hyp⟩ := hyp
  obtain ⟨ck110, hyp⟩ := hyp
  obtain ⟨ck111, hyp⟩ := hyp
  refine mf_new (r := (RX5, TX5, 12)) (ci := 5) (mf_dat eX11_init_p1 2 rfl) kl_X11_70 in_X5 ii_X5 rfl (by decide) ck108 ck109 ck110 ck111 ?_
  generalize qv112 : ((n0 + 50 : Nat) : Int) = v112
  replace hyp := hyp _ qv112.symm
  refine mf_dup (mf_dat eX11_init_p1 3 rfl) (by decide) ?_
  refine mf_aload_n (mf_dat eX11_init_p1 4 rfl) rfl rfl ?_
  obtain ⟨ck113, hyp⟩ := hyp
  refine mf_getf (r := (RX11, TX11, 20)) (ci := 11) (k := 4) (t := 2) (v := g107 x0 4) (mf_dat eX11_init_p1 5 rfl) fl_X11_66 rfl (by decide) rfl rfl ck113 ?_
  obtain ⟨ck114, hyp⟩ := hyp
  obtain ⟨ck118, hyp⟩ := hyp
  refine mf_callI (Yc := YX5_init) (mf_dat eX11_init_p1 6 rfl) ml_X11_72 okX5_init im_X5_init rfl rfl rfl rfl (Nat.le_of_ble_eq_true rfl) (mf_rr (Nat.le_trans (by decide) hd) ck114) (by omega) ck118 hyp (fun r115 g116 h117 hyp => ?_)
  obtain ⟨ck119, hyp⟩ := hyp
  refine mf_putRF (r := (RX11, TX11, 20)) (ci := 11) (k := 5) (kI := 5) (t := 2) (mf_dat eX11_init_p1 7 rfl) fl_X11_75 rfl rfl (by decide) rfl (by decide) rfl rfl rfl (by decide) (fun h9 => absurd h9 (by decide)) ck119 ?_
  generalize qg120 : mf_up g116 x0 5 v112 = g120
  replace hyp := hyp _ qg120.symm
  refine mf_aload_n (mf_dat eX11_init_p1 8 rfl) rfl rfl ?_
  obtain ⟨ck121, hyp⟩ := hyp
  obtain ⟨ck122, hyp⟩ := hyp
  obtain ⟨ck123, hyp⟩ := hyp
  obtain ⟨ck124, hyp⟩ := hyp
  refine mf_new (r := (RX6, TX6, 8)) (ci := 6) (mf_dat eX11_init_p1 9 rfl) kl_X11_79 in_X6 ii_X6 rfl (by decide) ck121 ck122 ck123 ck124 ?_
  generalize qv125 : ((n0 + 87 : Nat) : Int) = v125
  replace hyp := hyp _ qv125.symm
  refine mf_dup (mf_dat eX11_init_p1 10 rfl) (by decide) ?_
  obtain ⟨ck126, hyp⟩ := hyp
  obtain ⟨ck130, hyp⟩ := hyp
  refine mf_callIN (Yc := YX6_init) (host := "MarginFolk") (mf_dat eX11_init_p1 11 rfl) (List.mem_of_getElem? (i := 8) rfl) okX6_init im_X6_init rfl rfl rfl rfl (Nat.le_of_ble_eq_true rfl) (mf_rr (Nat.le_trans (by decide) hd) ck126) (by omega) ck130 hyp (fun r127 g128 h129 hyp => ?_)
  obtain ⟨ck131, hyp⟩ := hyp
  refine mf_putRF (r := (RX11, TX11, 20)) (ci := 11) (k := 7) (kI := 7) (t := 2) (mf_dat eX11_init_p1 12 rfl) fl_X11_82 rfl rfl (by decide) rfl (by decide) rfl rfl rfl (by decide) (fun h9 => absurd h9 (by decide)) ck131 ?_
  generalize qg132 : mf_up g128 x0 7 v125 = g132
  replace hyp := hyp _ qg132.symm
  refine mf_aload_n (mf_dat eX11_init_p1 13 rfl) rfl rfl ?_
  obtain ⟨ck133, hyp⟩ := hyp
  obtain ⟨ck134, hyp⟩ := hyp
  obtain ⟨ck135, hyp⟩ := hyp
  obtain ⟨ck136, hyp⟩ := hyp
  refine mf_new (r := (RX6, TX6, 8)) (ci := 6) (mf_dat eX11_init_p1 14 rfl) kl_X11_79 in_X6 ii_X6 rfl (by decide) ck133 ck134 ck135 ck136 ?_
  generalize qv137 : ((n0 + 94 : Nat) : Int) = v137
  replace hyp := hyp _ qv137.symm
  refine mf_dup (mf_dat eX11_init_p1 15 rfl) (by decide) ?_
  obtain ⟨ck138, hyp⟩ := hyp
  obtain ⟨ck142, hyp⟩ := hyp
  refine mf_callIN (Yc := YX6_init) (host := "MarginFolk") (mf_dat eX11_init_p1 16 rfl) (List.mem_of_getElem? (i := 8) rfl) okX6_init im_X6_init rfl rfl rfl rfl (Nat.le_of_ble_eq_true rfl) (mf_rr (Nat.le_trans (by decide) hd) ck138) (by omega) ck142 hyp (fun r139 g140 h141 hyp => ?_)
  obtain ⟨ck143, hyp⟩ := hyp
  refine mf_putRF (r := (RX11, TX11, 20)) (ci := 11) (k := 8) (kI := 8) (t := 2) (mf_dat eX11_init_p1 17 rfl) fl_X11_86 rfl rfl (by decide) rfl (by decide) rfl rfl rfl (by decide) (fun h9 => absurd h9 (by decide)) ck143 ?_
  generalize qg144 : mf_up g140 x0 8 v137 = g144
  replace hyp := hyp _ qg144.symm
  refine mf_aload_n (mf_dat eX11_init_p1 18 rfl) rfl rfl ?_
  refine mf_bipush (v := 20) (mf_dat eX11_init_p1 19 rfl) (by decide) ?_
  obtain ⟨ck145, hyp⟩ := hyp
  obtain ⟨ck146, hyp⟩ := hyp
  obtain ⟨ck147, hyp⟩ := hyp
  obtain ⟨ck148, hyp⟩ := hyp
  refine mf_anew (mf_dat eX11_init_p1 20 rfl) kl_X11_79 ck145 rfl (by decide) ck146 ck147 ck148 ?_
  obtain ⟨ck149, hyp⟩ := hyp
  refine mf_putRF (r := (RX11, TX11, 20)) (ci := 11) (k := 9) (kI := 9) (t := 2) (mf_dat eX11_init_p1 21 rfl) fl_X11_89 rfl rfl (by decide) rfl (by decide) rfl rfl rfl (by decide) (fun h9 => absurd h9 (by decide)) ck149 ?_
  generalize qg150 : mf_up g144 x0 9 ((n0 + 101 : Nat) : Int) = g150
  replace hyp := hyp _ qg150.symm
  refine mf_iconst (v := 0) (mf_dat eX11_init_p1 22 rfl) (by decide) ?_
  refine mf_istore_n (mf_dat eX11_init_p1 23 rfl) rfl (by decide) ?_
  exact mf_sub [2, 0] rfl hyp
set_option maxRecDepth 100000 in
set_option maxHeartbeats 4000000 in
theorem mX12_init {C : mf_G} {l : Launch} {d n0 n1 : Nat} {K : mf_Kt} {x0 : Int} {g h : mf_M} (hd : 1 ≤ d) (hyp : 0 ≤ x0 ∧ mf_sh n0 = (20, 1600) ∧ mf_more (mf_rm d n0 n1) n0 n0 ∧ (∀ j : Nat, g n0 j = -1) ∧ (∀ j : Nat, h n0 j = 0) ∧ mf_is (n0 + 1) x0 12 ∧ (∀ g7 : mf_M, g7 = mf_up g x0 0 ((n0 : Nat) : Int) → (∀ h8 : mf_M, h8 = mf_up h x0 8 (-1) → mf_sh (n0 + 1) = (20, 6) ∧ mf_more (mf_rm d n0 n1) n0 (n0 + 1) ∧ (∀ j : Nat, g7 (n0 + 1) j = -1) ∧ (∀ j : Nat, h8 (n0 + 1) j = 0) ∧ mf_is (n0 + 2) x0 12 ∧ (∀ g14 : mf_M, g14 = mf_up g7 x0 9 ((n0 + 1 : Nat) : Int) → mf_sh (n0 + 2) = (23, 5) ∧ mf_more (mf_rm d n0 n1) n0 (n0 + 2) ∧ (∀ j : Nat, g14 (n0 + 2) j = -1) ∧ (∀ j : Nat, h8 (n0 + 2) j = 0) ∧ (∀ v19 : Int, v19 = ((n0 + 2 : Nat) : Int) → mf_is (n0 + 3) v19 23 ∧ 0 < mf_len v19 ∧ (∀ h22 : mf_M, h22 = mf_up h8 v19 0 102 → 1 < mf_len v19 ∧ (∀ h24 : mf_M, h24 = mf_up h22 v19 1 111 → 2 < mf_len v19 ∧ (∀ h26 : mf_M, h26 = mf_up h24 v19 2 108 → 3 < mf_len v19 ∧ (∀ h28 : mf_M, h28 = mf_up h26 v19 3 105 → 4 < mf_len v19 ∧ (∀ h30 : mf_M, h30 = mf_up h28 v19 4 111 → mf_is (n0 + 3) x0 12 ∧ (∀ g32 : mf_M, g32 = mf_up g14 x0 11 v19 → mf_sh (n0 + 3) = (23, 5) ∧ mf_more (mf_rm d n0 n1) n0 (n0 + 3) ∧ (∀ j : Nat, g32 (n0 + 3) j = -1) ∧ (∀ j : Nat, h30 (n0 + 3) j = 0) ∧ (∀ v37 : Int, v37 = ((n0 + 3 : Nat) : Int) → mf_is (n0 + 4) v37 23 ∧ 0 < mf_len v37 ∧ (∀ h40 : mf_M, h40 = mf_up h30 v37 0 99 → 1 < mf_len v37 ∧ (∀ h42 : mf_M, h42 = mf_up h40 v37 1 101 → 2 < mf_len v37 ∧ (∀ h44 : mf_M, h44 = mf_up h42 v37 2 108 → 3 < mf_len v37 ∧ (∀ h46 : mf_M, h46 = mf_up h44 v37 3 108 → 4 < mf_len v37 ∧ (∀ h48 : mf_M, h48 = mf_up h46 v37 4 115 → mf_is (n0 + 4) x0 12 ∧ (∀ g50 : mf_M, g50 = mf_up g32 x0 12 v37 → mf_sh (n0 + 4) = (23, 5) ∧ mf_more (mf_rm d n0 n1) n0 (n0 + 4) ∧ (∀ j : Nat, g50 (n0 + 4) j = -1) ∧ (∀ j : Nat, h48 (n0 + 4) j = 0) ∧ (∀ v55 : Int, v55 = ((n0 + 4 : Nat) : Int) → mf_is (n0 + 5) v55 23 ∧ 0 < mf_len v55 ∧ (∀ h58 : mf_M, h58 = mf_up h48 v55 0 103 → 1 < mf_len v55 ∧ (∀ h60 : mf_M, h60 = mf_up h58 v55 1 108 → 2 < mf_len v55 ∧ (∀ h62 : mf_M, h62 = mf_up h60 v55 2 111 → 3 < mf_len v55 ∧ (∀ h64 : mf_M, h64 = mf_up h62 v55 3 115 → 4 < mf_len v55 ∧ (∀ h66 : mf_M, h66 = mf_up h64 v55 4 115 → mf_is (n0 + 5) x0 12 ∧ (∀ g68 : mf_M, g68 = mf_up g50 x0 13 v55 → mf_sh (n0 + 5) = (23, 4) ∧ mf_more (mf_rm d n0 n1) n0 (n0 + 5) ∧ (∀ j : Nat, g68 (n0 + 5) j = -1) ∧ (∀ j : Nat, h66 (n0 + 5) j = 0) ∧ (∀ v73 : Int, v73 = ((n0 + 5 : Nat) : Int) → mf_is (n0 + 6) v73 23 ∧ 0 < mf_len v73 ∧ (∀ h76 : mf_M, h76 = mf_up h66 v73 0 119 → 1 < mf_len v73 ∧ (∀ h78 : mf_M, h78 = mf_up h76 v73 1 111 → 2 < mf_len v73 ∧ (∀ h80 : mf_M, h80 = mf_up h78 v73 2 114 → 3 < mf_len v73 ∧ (∀ h82 : mf_M, h82 = mf_up h80 v73 3 109 → mf_is (n0 + 6) x0 12 ∧ (∀ g84 : mf_M, g84 = mf_up g68 x0 14 v73 → mf_sh (n0 + 6) = (23, 5) ∧ mf_more (mf_rm d n0 n1) n0 (n0 + 6) ∧ (∀ j : Nat, g84 (n0 + 6) j = -1) ∧ (∀ j : Nat, h82 (n0 + 6) j = 0) ∧ (∀ v89 : Int, v89 = ((n0 + 6 : Nat) : Int) → mf_is (n0 + 7) v89 23 ∧ 0 < mf_len v89 ∧ (∀ h92 : mf_M, h92 = mf_up h82 v89 0 98 → 1 < mf_len v89 ∧ (∀ h94 : mf_M, h94 = mf_up h92 v89 1 101 → 2 < mf_len v89 ∧ (∀ h96 : mf_M, h96 = mf_up h94 v89 2 105 → 3 < mf_len v89 ∧ (∀ h98 : mf_M, h98 = mf_up h96 v89 3 110 → 4 < mf_len v89 ∧ (∀ h100 : mf_M, h100 = mf_up h98 v89 4 103 → mf_is (n0 + 7) x0 12 ∧ (∀ g102 : mf_M, g102 = mf_up g84 x0 15 v89 → mf_sh (n0 + 7) = (23, 2) ∧ mf_more (mf_rm d n0 n1) n0 (n0 + 7) ∧ (∀ j : Nat, g102 (n0 + 7) j = -1) ∧ (∀ j : Nat, h100 (n0 + 7) j = 0) ∧ (∀ v107 : Int, v107 = ((n0 + 7 : Nat) : Int) → mf_is (n0 + 8) v107 23 ∧ 0 < mf_len v107 ∧ (∀ h110 : mf_M, h110 = mf_up h100 v107 0 111 → 1 < mf_len v107 ∧ (∀ h112 : mf_M, h112 = mf_up h110 v107 1 110 → mf_is (n0 + 8) x0 12 ∧ (∀ g114 : mf_M, g114 = mf_up g102 x0 16 v107 → mf_sh (n0 + 8) = (23, 2) ∧ mf_more (mf_rm d n0 n1) n0 (n0 + 8) ∧ (∀ j : Nat, g114 (n0 + 8) j = -1) ∧ (∀ j : Nat, h112 (n0 + 8) j = 0) ∧ (∀ v119 : Int, v119 = ((n0 + 8 : Nat) : Int) → mf_is (n0 + 9) v119 23 ∧ 0 < mf_len v119 ∧ (∀ h122 : mf_M, h122 = mf_up h112 v119 0 97 → 1 < mf_len v119 ∧ (∀ h124 : mf_M, h124 = mf_up h122 v119 1 116 → mf_is (n0 + 9) x0 12 ∧ (∀ g126 : mf_M, g126 = mf_up g114 x0 17 v119 → mf_sh (n0 + 9) = (23, 5) ∧ mf_more (mf_rm d n0 n1) n0 (n0 + 9) ∧ (∀ j : Nat, g126 (n0 + 9) j = -1) ∧ (∀ j : Nat, h124 (n0 + 9) j = 0) ∧ (∀ v131 : Int, v131 = ((n0 + 9 : Nat) : Int) → mf_is (n0 + 10) v131 23 ∧ 0 < mf_len v131 ∧ (∀ h134 : mf_M, h134 = mf_up h124 v131 0 116 → 1 < mf_len v131 ∧ (∀ h136 : mf_M, h136 = mf_up h134 v131 1 114 → 2 < mf_len v131 ∧ (∀ h138 : mf_M, h138 = mf_up h136 v131 2 97 → 3 < mf_len v131 ∧ (∀ h140 : mf_M, h140 = mf_up h138 v131 3 100 → 4 < mf_len v131 ∧ (∀ h142 : mf_M, h142 = mf_up h140 v131 4 101 → mf_is (n0 + 10) x0 12 ∧ (∀ g144 : mf_M, g144 = mf_up g126 x0 18 v131 → mf_sh (n0 + 10) = (23, 5) ∧ mf_more (mf_rm d n0 n1) n0 (n0 + 10) ∧ (∀ j : Nat, g144 (n0 + 10) j = -1) ∧ (∀ j : Nat, h142 (n0 + 10) j = 0) ∧ (∀ v149 : Int, v149 = ((n0 + 10 : Nat) : Int) → mf_is (n0 + 11) v149 23 ∧ 0 < mf_len v149 ∧ (∀ h152 : mf_M, h152 = mf_up h142 v149 0 111 → 1 < mf_len v149 ∧ (∀ h154 : mf_M, h154 = mf_up h152 v149 1 112 → 2 < mf_len v149 ∧ (∀ h156 : mf_M, h156 = mf_up h154 v149 2 101 → 3 < mf_len v149 ∧ (∀ h158 : mf_M, h158 = mf_up h156 v149 3 110 → 4 < mf_len v149 ∧ (∀ h160 : mf_M, h160 = mf_up h158 v149 4 115 → mf_is (n0 + 11) x0 12 ∧ (∀ g162 : mf_M, g162 = mf_up g144 x0 19 v149 → mf_sh (n0 + 11) = (23, 4) ∧ mf_more (mf_rm d n0 n1) n0 (n0 + 11) ∧ (∀ j : Nat, g162 (n0 + 11) j = -1) ∧ (∀ j : Nat, h160 (n0 + 11) j = 0) ∧ (∀ v167 : Int, v167 = ((n0 + 11 : Nat) : Int) → mf_is (n0 + 12) v167 23 ∧ 0 < mf_len v167 ∧ (∀ h170 : mf_M, h170 = mf_up h160 v167 0 99 → 1 < mf_len v167 ∧ (∀ h172 : mf_M, h172 = mf_up h170 v167 1 111 → 2 < mf_len v167 ∧ (∀ h174 : mf_M, h174 = mf_up h172 v167 2 114 → 3 < mf_len v167 ∧ (∀ h176 : mf_M, h176 = mf_up h174 v167 3 110 → mf_is (n0 + 12) x0 12 ∧ (∀ g178 : mf_M, g178 = mf_up g162 x0 20 v167 → mf_sh (n0 + 12) = (23, 4) ∧ mf_more (mf_rm d n0 n1) n0 (n0 + 12) ∧ (∀ j : Nat, g178 (n0 + 12) j = -1) ∧ (∀ j : Nat, h176 (n0 + 12) j = 0) ∧ (∀ v183 : Int, v183 = ((n0 + 12 : Nat) : Int) → mf_is (n0 + 13) v183 23 ∧ 0 < mf_len v183 ∧ (∀ h186 : mf_M, h186 = mf_up h176 v183 0 116 → 1 < mf_len v183 ∧ (∀ h188 : mf_M, h188 = mf_up h186 v183 1 111 → 2 < mf_len v183 ∧ (∀ h190 : mf_M, h190 = mf_up h188 v183 2 108 → 3 < mf_len v183 ∧ (∀ h192 : mf_M, h192 = mf_up h190 v183 3 108 → mf_is (n0 + 13) x0 12 ∧ (∀ g194 : mf_M, g194 = mf_up g178 x0 21 v183 → mf_sh (n0 + 13) = (23, 5) ∧ mf_more (mf_rm d n0 n1) n0 (n0 + 13) ∧ (∀ j : Nat, g194 (n0 + 13) j = -1) ∧ (∀ j : Nat, h192 (n0 + 13) j = 0) ∧ (∀ v199 : Int, v199 = ((n0 + 13 : Nat) : Int) → mf_is (n0 + 14) v199 23 ∧ 0 < mf_len v199 ∧ (∀ h202 : mf_M, h202 = mf_up h192 v199 0 115 → 1 < mf_len v199 ∧ (∀ h204 : mf_M, h204 = mf_up h202 v199 1 116 → 2 < mf_len v199 ∧ (∀ h206 : mf_M, h206 = mf_up h204 v199 2 101 → 3 < mf_len v199 ∧ (∀ h208 : mf_M, h208 = mf_up h206 v199 3 112 → 4 < mf_len v199 ∧ (∀ h210 : mf_M, h210 = mf_up h208 v199 4 115 → mf_is (n0 + 14) x0 12 ∧ (∀ g212 : mf_M, g212 = mf_up g194 x0 22 v199 → mf_sh (n0 + 14) = (23, 5) ∧ mf_more (mf_rm d n0 n1) n0 (n0 + 14) ∧ (∀ j : Nat, g212 (n0 + 14) j = -1) ∧ (∀ j : Nat, h210 (n0 + 14) j = 0) ∧ (∀ v217 : Int, v217 = ((n0 + 14 : Nat) : Int) → mf_is (n0 + 15) v217 23 ∧ 0 < mf_len v217 ∧ (∀ h220 : mf_M, h220 = mf_up h210 v217 0 116 → 1 < mf_len v217 ∧ (∀ h222 : mf_M, h222 = mf_up h220 v217 1 104 → 2 < mf_len v217 ∧ (∀ h224 : mf_M, h224 = mf_up h222 v217 2 117 → 3 < mf_len v217 ∧ (∀ h226 : mf_M, h226 = mf_up h224 v217 3 109 → 4 < mf_len v217 ∧ (∀ h228 : mf_M, h228 = mf_up h226 v217 4 98 → mf_is (n0 + 15) x0 12 ∧ (∀ g230 : mf_M, g230 = mf_up g212 x0 23 v217 → mf_sh (n0 + 15) = (23, 3) ∧ mf_more (mf_rm d n0 n1) n0 (n0 + 15) ∧ (∀ j : Nat, g230 (n0 + 15) j = -1) ∧ (∀ j : Nat, h228 (n0 + 15) j = 0) ∧ (∀ v235 : Int, v235 = ((n0 + 15 : Nat) : Int) → mf_is (n0 + 16) v235 23 ∧ 0 < mf_len v235 ∧ (∀ h238 : mf_M, h238 = mf_up h228 v235 0 100 → 1 < mf_len v235 ∧ (∀ h240 : mf_M, h240 = mf_up h238 v235 1 97 → 2 < mf_len v235 ∧ (∀ h242 : mf_M, h242 = mf_up h240 v235 2 121 → mf_is (n0 + 16) x0 12 ∧ (∀ g244 : mf_M, g244 = mf_up g230 x0 24 v235 → mf_sh (n0 + 16) = (23, 4) ∧ mf_more (mf_rm d n0 n1) n0 (n0 + 16) ∧ (∀ j : Nat, g244 (n0 + 16) j = -1) ∧ (∀ j : Nat, h242 (n0 + 16) j = 0) ∧ (∀ v249 : Int, v249 = ((n0 + 16 : Nat) : Int) → mf_is (n0 + 17) v249 23 ∧ 0 < mf_len v249 ∧ (∀ h252 : mf_M, h252 = mf_up h242 v249 0 108 → 1 < mf_len v249 ∧ (∀ h254 : mf_M, h254 = mf_up h252 v249 1 101 → 2 < mf_len v249 ∧ (∀ h256 : mf_M, h256 = mf_up h254 v249 2 97 → 3 < mf_len v249 ∧ (∀ h258 : mf_M, h258 = mf_up h256 v249 3 102 → mf_is (n0 + 17) x0 12 ∧ (∀ g260 : mf_M, g260 = mf_up g244 x0 25 v249 → mf_sh (n0 + 17) = (23, 4) ∧ mf_more (mf_rm d n0 n1) n0 (n0 + 17) ∧ (∀ j : Nat, g260 (n0 + 17) j = -1) ∧ (∀ j : Nat, h258 (n0 + 17) j = 0) ∧ (∀ v265 : Int, v265 = ((n0 + 17 : Nat) : Int) → mf_is (n0 + 18) v265 23 ∧ 0 < mf_len v265 ∧ (∀ h268 : mf_M, h268 = mf_up h258 v265 0 99 → 1 < mf_len v265 ∧ (∀ h270 : mf_M, h270 = mf_up h268 v265 1 101 → 2 < mf_len v265 ∧ (∀ h272 : mf_M, h272 = mf_up h270 v265 2 108 → 3 < mf_len v265 ∧ (∀ h274 : mf_M, h274 = mf_up h272 v265 3 108 → mf_is (n0 + 18) x0 12 ∧ (∀ g276 : mf_M, g276 = mf_up g260 x0 26 v265 → mf_sh (n0 + 18) = (23, 5) ∧ mf_more (mf_rm d n0 n1) n0 (n0 + 18) ∧ (∀ j : Nat, g276 (n0 + 18) j = -1) ∧ (∀ j : Nat, h274 (n0 + 18) j = 0) ∧ (∀ v281 : Int, v281 = ((n0 + 18 : Nat) : Int) → mf_is (n0 + 19) v281 23 ∧ 0 < mf_len v281 ∧ (∀ h284 : mf_M, h284 = mf_up h274 v281 0 112 → 1 < mf_len v281 ∧ (∀ h286 : mf_M, h286 = mf_up h284 v281 1 117 → 2 < mf_len v281 ∧ (∀ h288 : mf_M, h288 = mf_up h286 v281 2 114 → 3 < mf_len v281 ∧ (∀ h290 : mf_M, h290 = mf_up h288 v281 3 115 → 4 < mf_len v281 ∧ (∀ h292 : mf_M, h292 = mf_up h290 v281 4 101 → mf_is (n0 + 19) x0 12 ∧ (∀ g294 : mf_M, g294 = mf_up g276 x0 27 v281 → mf_sh (n0 + 19) = (23, 4) ∧ mf_more (mf_rm d n0 n1) n0 (n0 + 19) ∧ (∀ j : Nat, g294 (n0 + 19) j = -1) ∧ (∀ j : Nat, h292 (n0 + 19) j = 0) ∧ (∀ v299 : Int, v299 = ((n0 + 19 : Nat) : Int) → mf_is (n0 + 20) v299 23 ∧ 0 < mf_len v299 ∧ (∀ h302 : mf_M, h302 = mf_up h292 v299 0 111 → 1 < mf_len v299 ∧ (∀ h304 : mf_M, h304 = mf_up h302 v299 1 112 → 2 < mf_len v299 ∧ (∀ h306 : mf_M, h306 = mf_up h304 v299 2 101 → 3 < mf_len v299 ∧ (∀ h308 : mf_M, h308 = mf_up h306 v299 3 110 → mf_is (n0 + 20) x0 12 ∧ (∀ g310 : mf_M, g310 = mf_up g294 x0 28 v299 → mf_sh (n0 + 20) = (23, 5) ∧ mf_more (mf_rm d n0 n1) n0 (n0 + 20) ∧ (∀ j : Nat, g310 (n0 + 20) j = -1) ∧ (∀ j : Nat, h308 (n0 + 20) j = 0) ∧ (∀ v315 : Int, v315 = ((n0 + 20 : Nat) : Int) → mf_is (n0 + 21) v315 23 ∧ 0 < mf_len v315 ∧ (∀ h318 : mf_M, h318 = mf_up h308 v315 0 111 → 1 < mf_len v315 ∧ (∀ h320 : mf_M, h320 = mf_up h318 v315 1 116 → 2 < mf_len v315 ∧ (∀ h322 : mf_M, h322 = mf_up h320 v315 2 104 → 3 < mf_len v315 ∧ (∀ h324 : mf_M, h324 = mf_up h322 v315 3 101 → 4 < mf_len v315 ∧ (∀ h326 : mf_M, h326 = mf_up h324 v315 4 114 → mf_is (n0 + 21) x0 12 ∧ (∀ g328 : mf_M, g328 = mf_up g310 x0 29 v315 → mf_sh (n0 + 21) = (23, 6) ∧ mf_more (mf_rm d n0 n1) n0 (n0 + 21) ∧ (∀ j : Nat, g328 (n0 + 21) j = -1) ∧ (∀ j : Nat, h326 (n0 + 21) j = 0) ∧ (∀ v333 : Int, v333 = ((n0 + 21 : Nat) : Int) → mf_is (n0 + 22) v333 23 ∧ 0 < mf_len v333 ∧ (∀ h336 : mf_M, h336 = mf_up h326 v333 0 110 → 1 < mf_len v333 ∧ (∀ h338 : mf_M, h338 = mf_up h336 v333 1 117 → 2 < mf_len v333 ∧ (∀ h340 : mf_M, h340 = mf_up h338 v333 2 109 → 3 < mf_len v333 ∧ (∀ h342 : mf_M, h342 = mf_up h340 v333 3 98 → 4 < mf_len v333 ∧ (∀ h344 : mf_M, h344 = mf_up h342 v333 4 101 → 5 < mf_len v333 ∧ (∀ h346 : mf_M, h346 = mf_up h344 v333 5 114 → mf_is (n0 + 22) x0 12 ∧ (∀ g348 : mf_M, g348 = mf_up g328 x0 30 v333 → mf_sh (n0 + 22) = (23, 3) ∧ mf_more (mf_rm d n0 n1) n0 (n0 + 22) ∧ (∀ j : Nat, g348 (n0 + 22) j = -1) ∧ (∀ j : Nat, h346 (n0 + 22) j = 0) ∧ (∀ v353 : Int, v353 = ((n0 + 22 : Nat) : Int) → mf_is (n0 + 23) v353 23 ∧ 0 < mf_len v353 ∧ (∀ h356 : mf_M, h356 = mf_up h346 v353 0 109 → 1 < mf_len v353 ∧ (∀ h358 : mf_M, h358 = mf_up h356 v353 1 101 → 2 < mf_len v353 ∧ (∀ h360 : mf_M, h360 = mf_up h358 v353 2 116 → mf_is (n0 + 23) x0 12 ∧ (∀ g362 : mf_M, g362 = mf_up g348 x0 31 v353 → mf_sh (n0 + 23) = (23, 5) ∧ mf_more (mf_rm d n0 n1) n0 (n0 + 23) ∧ (∀ j : Nat, g362 (n0 + 23) j = -1) ∧ (∀ j : Nat, h360 (n0 + 23) j = 0) ∧ (∀ v367 : Int, v367 = ((n0 + 23 : Nat) : Int) → mf_is (n0 + 24) v367 23 ∧ 0 < mf_len v367 ∧ (∀ h370 : mf_M, h370 = mf_up h360 v367 0 109 → 1 < mf_len v367 ∧ (∀ h372 : mf_M, h372 = mf_up h370 v367 1 101 → 2 < mf_len v367 ∧ (∀ h374 : mf_M, h374 = mf_up h372 v367 2 101 → 3 < mf_len v367 ∧ (∀ h376 : mf_M, h376 = mf_up h374 v367 3 116 → 4 < mf_len v367 ∧ (∀ h378 : mf_M, h378 = mf_up h376 v367 4 115 → mf_is (n0 + 24) x0 12 ∧ (∀ g380 : mf_M, g380 = mf_up g362 x0 32 v367 → mf_sh (n0 + 24) = (23, 2) ∧ mf_more (mf_rm d n0 n1) n0 (n0 + 24) ∧ (∀ j : Nat, g380 (n0 + 24) j = -1) ∧ (∀ j : Nat, h378 (n0 + 24) j = 0) ∧ (∀ v385 : Int, v385 = ((n0 + 24 : Nat) : Int) → mf_is (n0 + 25) v385 23 ∧ 0 < mf_len v385 ∧ (∀ h388 : mf_M, h388 = mf_up h378 v385 0 111 → 1 < mf_len v385 ∧ (∀ h390 : mf_M, h390 = mf_up h388 v385 1 114 → mf_is (n0 + 25) x0 12 ∧ (∀ g392 : mf_M, g392 = mf_up g380 x0 33 v385 → mf_sh (n0 + 25) = (23, 3) ∧ mf_more (mf_rm d n0 n1) n0 (n0 + 25) ∧ (∀ j : Nat, g392 (n0 + 25) j = -1) ∧ (∀ j : Nat, h390 (n0 + 25) j = 0) ∧ (∀ v397 : Int, v397 = ((n0 + 25 : Nat) : Int) → mf_is (n0 + 26) v397 23 ∧ 0 < mf_len v397 ∧ (∀ h400 : mf_M, h400 = mf_up h390 v397 0 97 → 1 < mf_len v397 ∧ (∀ h402 : mf_M, h402 = mf_up h400 v397 1 110 → 2 < mf_len v397 ∧ (∀ h404 : mf_M, h404 = mf_up h402 v397 2 100 → mf_is (n0 + 26) x0 12 ∧ (∀ g406 : mf_M, g406 = mf_up g392 x0 34 v397 → mf_sh (n0 + 26) = (23, 3) ∧ mf_more (mf_rm d n0 n1) n0 (n0 + 26) ∧ (∀ j : Nat, g406 (n0 + 26) j = -1) ∧ (∀ j : Nat, h404 (n0 + 26) j = 0) ∧ (∀ v411 : Int, v411 = ((n0 + 26 : Nat) : Int) → mf_is (n0 + 27) v411 23 ∧ 0 < mf_len v411 ∧ (∀ h414 : mf_M, h414 = mf_up h404 v411 0 110 → 1 < mf_len v411 ∧ (∀ h416 : mf_M, h416 = mf_up h414 v411 1 111 → 2 < mf_len v411 ∧ (∀ h418 : mf_M, h418 = mf_up h416 v411 2 116 → mf_is (n0 + 27) x0 12 ∧ (∀ g420 : mf_M, g420 = mf_up g406 x0 35 v411 → mf_sh (n0 + 27) = (23, 3) ∧ mf_more (mf_rm d n0 n1) n0 (n0 + 27) ∧ (∀ j : Nat, g420 (n0 + 27) j = -1) ∧ (∀ j : Nat, h418 (n0 + 27) j = 0) ∧ (∀ v425 : Int, v425 = ((n0 + 27 : Nat) : Int) → mf_is (n0 + 28) v425 23 ∧ 0 < mf_len v425 ∧ (∀ h428 : mf_M, h428 = mf_up h418 v425 0 97 → 1 < mf_len v425 ∧ (∀ h430 : mf_M, h430 = mf_up h428 v425 1 108 → 2 < mf_len v425 ∧ (∀ h432 : mf_M, h432 = mf_up h430 v425 2 108 → mf_is (n0 + 28) x0 12 ∧ (∀ g434 : mf_M, g434 = mf_up g420 x0 36 v425 → mf_sh (n0 + 28) = (23, 3) ∧ mf_more (mf_rm d n0 n1) n0 (n0 + 28) ∧ (∀ j : Nat, g434 (n0 + 28) j = -1) ∧ (∀ j : Nat, h432 (n0 + 28) j = 0) ∧ (∀ v439 : Int, v439 = ((n0 + 28 : Nat) : Int) → mf_is (n0 + 29) v439 23 ∧ 0 < mf_len v439 ∧ (∀ h442 : mf_M, h442 = mf_up h432 v439 0 109 → 1 < mf_len v439 ∧ (∀ h444 : mf_M, h444 = mf_up h442 v439 1 105 → 2 < mf_len v439 ∧ (∀ h446 : mf_M, h446 = mf_up h444 v439 2 110 → mf_is (n0 + 29) x0 12 ∧ (∀ g448 : mf_M, g448 = mf_up g434 x0 37 v439 → mf_sh (n0 + 29) = (23, 3) ∧ mf_more (mf_rm d n0 n1) n0 (n0 + 29) ∧ (∀ j : Nat, g448 (n0 + 29) j = -1) ∧ (∀ j : Nat, h446 (n0 + 29) j = 0) ∧ (∀ v453 : Int, v453 = ((n0 + 29 : Nat) : Int) → mf_is (n0 + 30) v453 23 ∧ 0 < mf_len v453 ∧ (∀ h456 : mf_M, h456 = mf_up h446 v453 0 109 → 1 < mf_len v453 ∧ (∀ h458 : mf_M, h458 = mf_up h456 v453 1 97 → 2 < mf_len v453 ∧ (∀ h460 : mf_M, h460 = mf_up h458 v453 2 120 → mf_is (n0 + 30) x0 12 ∧ (∀ g462 : mf_M, g462 = mf_up g448 x0 38 v453 → mf_sh (n0 + 30) = (20, 4) ∧ mf_more (mf_rm d n0 n1) n0 (n0 + 30) ∧ (∀ j : Nat, g462 (n0 + 30) j = -1) ∧ (∀ j : Nat, h460 (n0 + 30) j = 0) ∧ mf_is (n0 + 31) x0 12 ∧ (∀ g468 : mf_M, g468 = mf_up g462 x0 40 ((n0 + 30 : Nat) : Int) → mf_sh (n0 + 31) = (20, 6) ∧ mf_more (mf_rm d n0 n1) n0 (n0 + 31) ∧ (∀ j : Nat, g468 (n0 + 31) j = -1) ∧ (∀ j : Nat, h460 (n0 + 31) j = 0) ∧ mf_is (n0 + 32) x0 12 ∧ (∀ g474 : mf_M, g474 = mf_up g468 x0 41 ((n0 + 31 : Nat) : Int) → mf_sh (n0 + 32) = (24, 16) ∧ mf_more (mf_rm d n0 n1) n0 (n0 + 32) ∧ (∀ j : Nat, g474 (n0 + 32) j = -1) ∧ (∀ j : Nat, h460 (n0 + 32) j = 0) ∧ mf_is (n0 + 33) x0 12 ∧ (∀ g480 : mf_M, g480 = mf_up g474 x0 42 ((n0 + 32 : Nat) : Int) → mf_sh (n0 + 33) = (20, 6) ∧ mf_more (mf_rm d n0 n1) n0 (n0 + 33) ∧ (∀ j : Nat, g480 (n0 + 33) j = -1) ∧ (∀ j : Nat, h460 (n0 + 33) j = 0) ∧ mf_is (n0 + 34) x0 12 ∧ (∀ g486 : mf_M, g486 = mf_up g480 x0 43 ((n0 + 33 : Nat) : Int) → mf_sh (n0 + 34) = (20, 72) ∧ mf_more (mf_rm d n0 n1) n0 (n0 + 34) ∧ (∀ j : Nat, g486 (n0 + 34) j = -1) ∧ (∀ j : Nat, h460 (n0 + 34) j = 0) ∧ mf_is (n0 + 35) x0 12 ∧ (∀ g492 : mf_M, g492 = mf_up g486 x0 44 ((n0 + 34 : Nat) : Int) → mf_sh (n0 + 35) = (20, 16) ∧ mf_more (mf_rm d n0 n1) n0 (n0 + 35) ∧ (∀ j : Nat, g492 (n0 + 35) j = -1) ∧ (∀ j : Nat, h460 (n0 + 35) j = 0) ∧ mf_is (n0 + 36) x0 12 ∧ (∀ g498 : mf_M, g498 = mf_up g492 x0 45 ((n0 + 35 : Nat) : Int) → mf_sh (n0 + 36) = (20, 16) ∧ mf_more (mf_rm d n0 n1) n0 (n0 + 36) ∧ (∀ j : Nat, g498 (n0 + 36) j = -1) ∧ (∀ j : Nat, h460 (n0 + 36) j = 0) ∧ mf_is (n0 + 37) x0 12 ∧ (∀ g504 : mf_M, g504 = mf_up g498 x0 46 ((n0 + 36 : Nat) : Int) → mf_sh (n0 + 37) = (20, 8) ∧ mf_more (mf_rm d n0 n1) n0 (n0 + 37) ∧ (∀ j : Nat, g504 (n0 + 37) j = -1) ∧ (∀ j : Nat, h460 (n0 + 37) j = 0) ∧ (∀ v509 : Int, v509 = ((n0 + 37 : Nat) : Int) → mf_is (n0 + 38) v509 20 ∧ 0 < mf_len v509 ∧ (∀ h512 : mf_M, h512 = mf_up h460 v509 0 (-1) → 1 < mf_len v509 ∧ (∀ h514 : mf_M, h514 = mf_up h512 v509 1 (-1) → 2 < mf_len v509 ∧ (∀ h516 : mf_M, h516 = mf_up h514 v509 2 (-1) → 3 < mf_len v509 ∧ (∀ h518 : mf_M, h518 = mf_up h516 v509 3 (-1) → 4 < mf_len v509 ∧ (∀ h520 : mf_M, h520 = mf_up h518 v509 4 (-1) → 5 < mf_len v509 ∧ (∀ h522 : mf_M, h522 = mf_up h520 v509 5 (-1) → 6 < mf_len v509 ∧ (∀ h524 : mf_M, h524 = mf_up h522 v509 6 (-1) → 7 < mf_len v509 ∧ (∀ h526 : mf_M, h526 = mf_up h524 v509 7 (-1) → mf_is (n0 + 38) x0 12 ∧ (∀ g528 : mf_M, g528 = mf_up g504 x0 49 v509 → mf_sh (n0 + 38) = (20, 8) ∧ mf_more (mf_rm d n0 n1) n0 (n0 + 38) ∧ (∀ j : Nat, g528 (n0 + 38) j = -1) ∧ (∀ j : Nat, h526 (n0 + 38) j = 0) ∧ mf_is (n0 + 39) x0 12 ∧ (∀ g534 : mf_M, g534 = mf_up g528 x0 50 ((n0 + 38 : Nat) : Int) → mf_sh (n0 + 39) = (20, 3200) ∧ mf_more (mf_rm d n0 n1) n0 (n0 + 39) ∧ (∀ j : Nat, g534 (n0 + 39) j = -1) ∧ (∀ j : Nat, h526 (n0 + 39) j = 0) ∧ mf_is (n0 + 40) x0 12 ∧ (∀ g540 : mf_M, g540 = mf_up g534 x0 51 ((n0 + 39 : Nat) : Int) → mf_sh (n0 + 40) = (20, 160) ∧ mf_more (mf_rm d n0 n1) n0 (n0 + 40) ∧ (∀ j : Nat, g540 (n0 + 40) j = -1) ∧ (∀ j : Nat, h526 (n0 + 40) j = 0) ∧ mf_is (n0 + 41) x0 12 ∧ (∀ g546 : mf_M, g546 = mf_up g540 x0 56 ((n0 + 40 : Nat) : Int) → mf_sh (n0 + 41) = (20, 39) ∧ mf_more (mf_rm d n0 n1) n0 (n0 + 41) ∧ (∀ j : Nat, g546 (n0 + 41) j = -1) ∧ (∀ j : Nat, h526 (n0 + 41) j = 0) ∧ mf_is (n0 + 42) x0 12 ∧ (∀ g552 : mf_M, g552 = mf_up g546 x0 57 ((n0 + 41 : Nat) : Int) → mf_sh (n0 + 42) = (20, 8) ∧ mf_more (mf_rm d n0 n1) n0 (n0 + 42) ∧ (∀ j : Nat, g552 (n0 + 42) j = -1) ∧ (∀ j : Nat, h526 (n0 + 42) j = 0) ∧ mf_is (n0 + 43) x0 12 ∧ (∀ g558 : mf_M, g558 = mf_up g552 x0 63 ((n0 + 42 : Nat) : Int) → mf_sh (n0 + 43) = (22, 96) ∧ mf_more (mf_rm d n0 n1) n0 (n0 + 43) ∧ (∀ j : Nat, g558 (n0 + 43) j = -1) ∧ (∀ j : Nat, h526 (n0 + 43) j = 0) ∧ mf_is (n0 + 44) x0 12 ∧ (∀ g564 : mf_M, g564 = mf_up g558 x0 64 ((n0 + 43 : Nat) : Int) → mf_sh (n0 + 44) = (20, 32) ∧ mf_more (mf_rm d n0 n1) n0 (n0 + 44) ∧ (∀ j : Nat, g564 (n0 + 44) j = -1) ∧ (∀ j : Nat, h526 (n0 + 44) j = 0) ∧ mf_is (n0 + 45) x0 12 ∧ (∀ g570 : mf_M, g570 = mf_up g564 x0 66 ((n0 + 44 : Nat) : Int) → mf_sh (n0 + 45) = (20, 56) ∧ mf_more (mf_rm d n0 n1) n0 (n0 + 45) ∧ (∀ j : Nat, g570 (n0 + 45) j = -1) ∧ (∀ j : Nat, h526 (n0 + 45) j = 0) ∧ mf_is (n0 + 46) x0 12 ∧ (∀ g576 : mf_M, g576 = mf_up g570 x0 67 ((n0 + 45 : Nat) : Int) → mf_sh (n0 + 46) = (20, 3200) ∧ mf_more (mf_rm d n0 n1) n0 (n0 + 46) ∧ (∀ j : Nat, g576 (n0 + 46) j = -1) ∧ (∀ j : Nat, h526 (n0 + 46) j = 0) ∧ mf_is (n0 + 47) x0 12 ∧ (∀ g582 : mf_M, g582 = mf_up g576 x0 68 ((n0 + 46 : Nat) : Int) → (∀ h583 : mf_M, h583 = mf_up h526 x0 71 1 → mf_sh (n0 + 47) = (23, 5) ∧ mf_more (mf_rm d n0 n1) n0 (n0 + 47) ∧ (∀ j : Nat, g582 (n0 + 47) j = -1) ∧ (∀ j : Nat, h583 (n0 + 47) j = 0) ∧ (∀ v588 : Int, v588 = ((n0 + 47 : Nat) : Int) → mf_is (n0 + 48) v588 23 ∧ 0 < mf_len v588 ∧ (∀ h591 : mf_M, h591 = mf_up h583 v588 0 102 → 1 < mf_len v588 ∧ (∀ h593 : mf_M, h593 = mf_up h591 v588 1 105 → 2 < mf_len v588 ∧ (∀ h595 : mf_M, h595 = mf_up h593 v588 2 114 → 3 < mf_len v588 ∧ (∀ h597 : mf_M, h597 = mf_up h595 v588 3 115 → 4 < mf_len v588 ∧ (∀ h599 : mf_M, h599 = mf_up h597 v588 4 116 → mf_is (n0 + 48) x0 12 ∧ (∀ g601 : mf_M, g601 = mf_up g582 x0 72 v588 → mf_sh (n0 + 48) = (23, 4) ∧ mf_more (mf_rm d n0 n1) n0 (n0 + 48) ∧ (∀ j : Nat, g601 (n0 + 48) j = -1) ∧ (∀ j : Nat, h599 (n0 + 48) j = 0) ∧ (∀ v606 : Int, v606 = ((n0 + 48 : Nat) : Int) → mf_is (n0 + 49) v606 23 ∧ 0 < mf_len v606 ∧ (∀ h609 : mf_M, h609 = mf_up h599 v606 0 108 → 1 < mf_len v606 ∧ (∀ h611 : mf_M, h611 = mf_up h609 v606 1 97 → 2 < mf_len v606 ∧ (∀ h613 : mf_M, h613 = mf_up h611 v606 2 115 → 3 < mf_len v606 ∧ (∀ h615 : mf_M, h615 = mf_up h613 v606 3 116 → mf_is (n0 + 49) x0 12 ∧ (∀ g617 : mf_M, g617 = mf_up g601 x0 73 v606 → mf_sh (n0 + 49) = (23, 5) ∧ mf_more (mf_rm d n0 n1) n0 (n0 + 49) ∧ (∀ j : Nat, g617 (n0 + 49) j = -1) ∧ (∀ j : Nat, h615 (n0 + 49) j = 0) ∧ (∀ v622 : Int, v622 = ((n0 + 49 : Nat) : Int) → mf_is (n0 + 50) v622 23 ∧ 0 < mf_len v622 ∧ (∀ h625 : mf_M, h625 = mf_up h615 v622 0 111 → 1 < mf_len v622 ∧ (∀ h627 : mf_M, h627 = mf_up h625 v622 1 102 → 2 < mf_len v622 ∧ (∀ h629 : mf_M, h629 = mf_up h627 v622 2 116 → 3 < mf_len v622 ∧ (∀ h631 : mf_M, h631 = mf_up h629 v622 3 101 → 4 < mf_len v622 ∧ (∀ h633 : mf_M, h633 = mf_up h631 v622 4 110 → mf_is (n0 + 50) x0 12 ∧ (∀ g635 : mf_M, g635 = mf_up g617 x0 74 v622 → mf_sh (n0 + 50) = (23, 5) ∧ mf_more (mf_rm d n0 n1) n0 (n0 + 50) ∧ (∀ j : Nat, g635 (n0 + 50) j = -1) ∧ (∀ j : Nat, h633 (n0 + 50) j = 0) ∧ (∀ v640 : Int, v640 = ((n0 + 50 : Nat) : Int) → mf_is (n0 + 51) v640 23 ∧ 0 < mf_len v640 ∧ (∀ h643 : mf_M, h643 = mf_up h633 v640 0 116 → 1 < mf_len v640 ∧ (∀ h645 : mf_M, h645 = mf_up h643 v640 1 111 → 2 < mf_len v640 ∧ (∀ h647 : mf_M, h647 = mf_up h645 v640 2 116 → 3 < mf_len v640 ∧ (∀ h649 : mf_M, h649 = mf_up h647 v640 3 97 → 4 < mf_len v640 ∧ (∀ h651 : mf_M, h651 = mf_up h649 v640 4 108 → mf_is (n0 + 51) x0 12 ∧ (∀ g653 : mf_M, g653 = mf_up g635 x0 75 v640 → mf_sh (n0 + 51) = (23, 4) ∧ mf_more (mf_rm d n0 n1) n0 (n0 + 51) ∧ (∀ j : Nat, g653 (n0 + 51) j = -1) ∧ (∀ j : Nat, h651 (n0 + 51) j = 0) ∧ (∀ v658 : Int, v658 = ((n0 + 51 : Nat) : Int) → mf_is (n0 + 52) v658 23 ∧ 0 < mf_len v658 ∧ (∀ h661 : mf_M, h661 = mf_up h651 v658 0 109 → 1 < mf_len v658 ∧ (∀ h663 : mf_M, h663 = mf_up h661 v658 1 111 → 2 < mf_len v658 ∧ (∀ h665 : mf_M, h665 = mf_up h663 v658 2 115 → 3 < mf_len v658 ∧ (∀ h667 : mf_M, h667 = mf_up h665 v658 3 116 → mf_is (n0 + 52) x0 12 ∧ (∀ g669 : mf_M, g669 = mf_up g653 x0 76 v658 → mf_sh (n0 + 52) = (23, 5) ∧ mf_more (mf_rm d n0 n1) n0 (n0 + 52) ∧ (∀ j : Nat, g669 (n0 + 52) j = -1) ∧ (∀ j : Nat, h667 (n0 + 52) j = 0) ∧ (∀ v674 : Int, v674 = ((n0 + 52 : Nat) : Int) → mf_is (n0 + 53) v674 23 ∧ 0 < mf_len v674 ∧ (∀ h677 : mf_M, h677 = mf_up h667 v674 0 108 → 1 < mf_len v674 ∧ (∀ h679 : mf_M, h679 = mf_up h677 v674 1 101 → 2 < mf_len v674 ∧ (∀ h681 : mf_M, h681 = mf_up h679 v674 2 97 → 3 < mf_len v674 ∧ (∀ h683 : mf_M, h683 = mf_up h681 v674 3 115 → 4 < mf_len v674 ∧ (∀ h685 : mf_M, h685 = mf_up h683 v674 4 116 → mf_is (n0 + 53) x0 12 ∧ (∀ g687 : mf_M, g687 = mf_up g669 x0 77 v674 → mf_sh (n0 + 53) = (23, 3) ∧ mf_more (mf_rm d n0 n1) n0 (n0 + 53) ∧ (∀ j : Nat, g687 (n0 + 53) j = -1) ∧ (∀ j : Nat, h685 (n0 + 53) j = 0) ∧ (∀ v692 : Int, v692 = ((n0 + 53 : Nat) : Int) → mf_is (n0 + 54) v692 23 ∧ 0 < mf_len v692 ∧ (∀ h695 : mf_M, h695 = mf_up h685 v692 0 110 → 1 < mf_len v692 ∧ (∀ h697 : mf_M, h697 = mf_up h695 v692 1 111 → 2 < mf_len v692 ∧ (∀ h699 : mf_M, h699 = mf_up h697 v692 2 116 → mf_is (n0 + 54) x0 12 ∧ (∀ g701 : mf_M, g701 = mf_up g687 x0 78 v692 → mf_sh (n0 + 54) = (23, 3) ∧ mf_more (mf_rm d n0 n1) n0 (n0 + 54) ∧ (∀ j : Nat, g701 (n0 + 54) j = -1) ∧ (∀ j : Nat, h699 (n0 + 54) j = 0) ∧ (∀ v706 : Int, v706 = ((n0 + 54 : Nat) : Int) → mf_is (n0 + 55) v706 23 ∧ 0 < mf_len v706 ∧ (∀ h709 : mf_M, h709 = mf_up h699 v706 0 97 → 1 < mf_len v706 ∧ (∀ h711 : mf_M, h711 = mf_up h709 v706 1 110 → 2 < mf_len v706 ∧ (∀ h713 : mf_M, h713 = mf_up h711 v706 2 100 → mf_is (n0 + 55) x0 12 ∧ (∀ g715 : mf_M, g715 = mf_up g701 x0 79 v706 → mf_sh (n0 + 55) = (23, 2) ∧ mf_more (mf_rm d n0 n1) n0 (n0 + 55) ∧ (∀ j : Nat, g715 (n0 + 55) j = -1) ∧ (∀ j : Nat, h713 (n0 + 55) j = 0) ∧ (∀ v720 : Int, v720 = ((n0 + 55 : Nat) : Int) → mf_is (n0 + 56) v720 23 ∧ 0 < mf_len v720 ∧ (∀ h723 : mf_M, h723 = mf_up h713 v720 0 111 → 1 < mf_len v720 ∧ (∀ h725 : mf_M, h725 = mf_up h723 v720 1 114 → mf_is (n0 + 56) x0 12 ∧ (∀ g727 : mf_M, g727 = mf_up g715 x0 80 v720 → mf_sh (n0 + 56) = (23, 3) ∧ mf_more (mf_rm d n0 n1) n0 (n0 + 56) ∧ (∀ j : Nat, g727 (n0 + 56) j = -1) ∧ (∀ j : Nat, h725 (n0 + 56) j = 0) ∧ (∀ v732 : Int, v732 = ((n0 + 56 : Nat) : Int) → mf_is (n0 + 57) v732 23 ∧ 0 < mf_len v732 ∧ (∀ h735 : mf_M, h735 = mf_up h725 v732 0 97 → 1 < mf_len v732 ∧ (∀ h737 : mf_M, h737 = mf_up h735 v732 1 108 → 2 < mf_len v732 ∧ (∀ h739 : mf_M, h739 = mf_up h737 v732 2 108 → mf_is (n0 + 57) x0 12 ∧ (∀ g741 : mf_M, g741 = mf_up g727 x0 81 v732 → mf_sh (n0 + 57) = (23, 3) ∧ mf_more (mf_rm d n0 n1) n0 (n0 + 57) ∧ (∀ j : Nat, g741 (n0 + 57) j = -1) ∧ (∀ j : Nat, h739 (n0 + 57) j = 0) ∧ (∀ v746 : Int, v746 = ((n0 + 57 : Nat) : Int) → mf_is (n0 + 58) v746 23 ∧ 0 < mf_len v746 ∧ (∀ h749 : mf_M, h749 = mf_up h739 v746 0 109 → 1 < mf_len v746 ∧ (∀ h751 : mf_M, h751 = mf_up h749 v746 1 105 → 2 < mf_len v746 ∧ (∀ h753 : mf_M, h753 = mf_up h751 v746 2 110 → mf_is (n0 + 58) x0 12 ∧ (∀ g755 : mf_M, g755 = mf_up g741 x0 82 v746 → mf_sh (n0 + 58) = (23, 3) ∧ mf_more (mf_rm d n0 n1) n0 (n0 + 58) ∧ (∀ j : Nat, g755 (n0 + 58) j = -1) ∧ (∀ j : Nat, h753 (n0 + 58) j = 0) ∧ (∀ v760 : Int, v760 = ((n0 + 58 : Nat) : Int) → mf_is (n0 + 59) v760 23 ∧ 0 < mf_len v760 ∧ (∀ h763 : mf_M, h763 = mf_up h753 v760 0 109 → 1 < mf_len v760 ∧ (∀ h765 : mf_M, h765 = mf_up h763 v760 1 97 → 2 < mf_len v760 ∧ (∀ h767 : mf_M, h767 = mf_up h765 v760 2 120 → mf_is (n0 + 59) x0 12 ∧ (∀ g769 : mf_M, g769 = mf_up g755 x0 83 v760 → mf_sh (n0 + 59) = (23, 3) ∧ mf_more (mf_rm d n0 n1) n0 (n0 + 59) ∧ (∀ j : Nat, g769 (n0 + 59) j = -1) ∧ (∀ j : Nat, h767 (n0 + 59) j = 0) ∧ (∀ v774 : Int, v774 = ((n0 + 59 : Nat) : Int) → mf_is (n0 + 60) v774 23 ∧ 0 < mf_len v774 ∧ (∀ h777 : mf_M, h777 = mf_up h767 v774 0 100 → 1 < mf_len v774 ∧ (∀ h779 : mf_M, h779 = mf_up h777 v774 1 97 → 2 < mf_len v774 ∧ (∀ h781 : mf_M, h781 = mf_up h779 v774 2 121 → mf_is (n0 + 60) x0 12 ∧ (∀ g783 : mf_M, g783 = mf_up g769 x0 84 v774 → mf_sh (n0 + 60) = (23, 4) ∧ mf_more (mf_rm d n0 n1) n0 (n0 + 60) ∧ (∀ j : Nat, g783 (n0 + 60) j = -1) ∧ (∀ j : Nat, h781 (n0 + 60) j = 0) ∧ (∀ v788 : Int, v788 = ((n0 + 60 : Nat) : Int) → mf_is (n0 + 61) v788 23 ∧ 0 < mf_len v788 ∧ (∀ h791 : mf_M, h791 = mf_up h781 v788 0 108 → 1 < mf_len v788 ∧ (∀ h793 : mf_M, h793 = mf_up h791 v788 1 101 → 2 < mf_len v788 ∧ (∀ h795 : mf_M, h795 = mf_up h793 v788 2 97 → 3 < mf_len v788 ∧ (∀ h797 : mf_M, h797 = mf_up h795 v788 3 102 → mf_is (n0 + 61) x0 12 ∧ (∀ g799 : mf_M, g799 = mf_up g783 x0 85 v788 → mf_sh (n0 + 61) = (23, 4) ∧ mf_more (mf_rm d n0 n1) n0 (n0 + 61) ∧ (∀ j : Nat, g799 (n0 + 61) j = -1) ∧ (∀ j : Nat, h797 (n0 + 61) j = 0) ∧ (∀ v804 : Int, v804 = ((n0 + 61 : Nat) : Int) → mf_is (n0 + 62) v804 23 ∧ 0 < mf_len v804 ∧ (∀ h807 : mf_M, h807 = mf_up h797 v804 0 99 → 1 < mf_len v804 ∧ (∀ h809 : mf_M, h809 = mf_up h807 v804 1 101 → 2 < mf_len v804 ∧ (∀ h811 : mf_M, h811 = mf_up h809 v804 2 108 → 3 < mf_len v804 ∧ (∀ h813 : mf_M, h813 = mf_up h811 v804 3 108 → mf_is (n0 + 62) x0 12 ∧ (∀ g815 : mf_M, g815 = mf_up g799 x0 86 v804 → mf_sh (n0 + 62) = (23, 5) ∧ mf_more (mf_rm d n0 n1) n0 (n0 + 62) ∧ (∀ j : Nat, g815 (n0 + 62) j = -1) ∧ (∀ j : Nat, h813 (n0 + 62) j = 0) ∧ (∀ v820 : Int, v820 = ((n0 + 62 : Nat) : Int) → mf_is (n0 + 63) v820 23 ∧ 0 < mf_len v820 ∧ (∀ h823 : mf_M, h823 = mf_up h813 v820 0 116 → 1 < mf_len v820 ∧ (∀ h825 : mf_M, h825 = mf_up h823 v820 1 114 → 2 < mf_len v820 ∧ (∀ h827 : mf_M, h827 = mf_up h825 v820 2 97 → 3 < mf_len v820 ∧ (∀ h829 : mf_M, h829 = mf_up h827 v820 3 100 → 4 < mf_len v820 ∧ (∀ h831 : mf_M, h831 = mf_up h829 v820 4 101 → mf_is (n0 + 63) x0 12 ∧ (∀ g833 : mf_M, g833 = mf_up g815 x0 87 v820 → mf_sh (n0 + 63) = (23, 5) ∧ mf_more (mf_rm d n0 n1) n0 (n0 + 63) ∧ (∀ j : Nat, g833 (n0 + 63) j = -1) ∧ (∀ j : Nat, h831 (n0 + 63) j = 0) ∧ (∀ v838 : Int, v838 = ((n0 + 63 : Nat) : Int) → mf_is (n0 + 64) v838 23 ∧ 0 < mf_len v838 ∧ (∀ h841 : mf_M, h841 = mf_up h831 v838 0 112 → 1 < mf_len v838 ∧ (∀ h843 : mf_M, h843 = mf_up h841 v838 1 117 → 2 < mf_len v838 ∧ (∀ h845 : mf_M, h845 = mf_up h843 v838 2 114 → 3 < mf_len v838 ∧ (∀ h847 : mf_M, h847 = mf_up h845 v838 3 115 → 4 < mf_len v838 ∧ (∀ h849 : mf_M, h849 = mf_up h847 v838 4 101 → mf_is (n0 + 64) x0 12 ∧ (∀ g851 : mf_M, g851 = mf_up g833 x0 88 v838 → mf_sh (n0 + 64) = (23, 4) ∧ mf_more (mf_rm d n0 n1) n0 (n0 + 64) ∧ (∀ j : Nat, g851 (n0 + 64) j = -1) ∧ (∀ j : Nat, h849 (n0 + 64) j = 0) ∧ (∀ v856 : Int, v856 = ((n0 + 64 : Nat) : Int) → mf_is (n0 + 65) v856 23 ∧ 0 < mf_len v856 ∧ (∀ h859 : mf_M, h859 = mf_up h849 v856 0 111 → 1 < mf_len v856 ∧ (∀ h861 : mf_M, h861 = mf_up h859 v856 1 112 → 2 < mf_len v856 ∧ (∀ h863 : mf_M, h863 = mf_up h861 v856 2 101 → 3 < mf_len v856 ∧ (∀ h865 : mf_M, h865 = mf_up h863 v856 3 110 → mf_is (n0 + 65) x0 12 ∧ (∀ g867 : mf_M, g867 = mf_up g851 x0 89 v856 → mf_sh (n0 + 65) = (23, 5) ∧ mf_more (mf_rm d n0 n1) n0 (n0 + 65) ∧ (∀ j : Nat, g867 (n0 + 65) j = -1) ∧ (∀ j : Nat, h865 (n0 + 65) j = 0) ∧ (∀ v872 : Int, v872 = ((n0 + 65 : Nat) : Int) → mf_is (n0 + 66) v872 23 ∧ 0 < mf_len v872 ∧ (∀ h875 : mf_M, h875 = mf_up h865 v872 0 111 → 1 < mf_len v872 ∧ (∀ h877 : mf_M, h877 = mf_up h875 v872 1 116 → 2 < mf_len v872 ∧ (∀ h879 : mf_M, h879 = mf_up h877 v872 2 104 → 3 < mf_len v872 ∧ (∀ h881 : mf_M, h881 = mf_up h879 v872 3 101 → 4 < mf_len v872 ∧ (∀ h883 : mf_M, h883 = mf_up h881 v872 4 114 → mf_is (n0 + 66) x0 12 ∧ (∀ g885 : mf_M, g885 = mf_up g867 x0 90 v872 → mf_sh (n0 + 66) = (23, 6) ∧ mf_more (mf_rm d n0 n1) n0 (n0 + 66) ∧ (∀ j : Nat, g885 (n0 + 66) j = -1) ∧ (∀ j : Nat, h883 (n0 + 66) j = 0) ∧ (∀ v890 : Int, v890 = ((n0 + 66 : Nat) : Int) → mf_is (n0 + 67) v890 23 ∧ 0 < mf_len v890 ∧ (∀ h893 : mf_M, h893 = mf_up h883 v890 0 110 → 1 < mf_len v890 ∧ (∀ h895 : mf_M, h895 = mf_up h893 v890 1 117 → 2 < mf_len v890 ∧ (∀ h897 : mf_M, h897 = mf_up h895 v890 2 109 → 3 < mf_len v890 ∧ (∀ h899 : mf_M, h899 = mf_up h897 v890 3 98 → 4 < mf_len v890 ∧ (∀ h901 : mf_M, h901 = mf_up h899 v890 4 101 → 5 < mf_len v890 ∧ (∀ h903 : mf_M, h903 = mf_up h901 v890 5 114 → mf_is (n0 + 67) x0 12 ∧ (∀ g905 : mf_M, g905 = mf_up g885 x0 91 v890 → mf_sh (n0 + 67) = (23, 3) ∧ mf_more (mf_rm d n0 n1) n0 (n0 + 67) ∧ (∀ j : Nat, g905 (n0 + 67) j = -1) ∧ (∀ j : Nat, h903 (n0 + 67) j = 0) ∧ (∀ v910 : Int, v910 = ((n0 + 67 : Nat) : Int) → mf_is (n0 + 68) v910 23 ∧ 0 < mf_len v910 ∧ (∀ h913 : mf_M, h913 = mf_up h903 v910 0 109 → 1 < mf_len v910 ∧ (∀ h915 : mf_M, h915 = mf_up h913 v910 1 101 → 2 < mf_len v910 ∧ (∀ h917 : mf_M, h917 = mf_up h915 v910 2 116 → mf_is (n0 + 68) x0 12 ∧ (∀ g919 : mf_M, g919 = mf_up g905 x0 92 v910 → mf_sh (n0 + 68) = (23, 5) ∧ mf_more (mf_rm d n0 n1) n0 (n0 + 68) ∧ (∀ j : Nat, g919 (n0 + 68) j = -1) ∧ (∀ j : Nat, h917 (n0 + 68) j = 0) ∧ (∀ v924 : Int, v924 = ((n0 + 68 : Nat) : Int) → mf_is (n0 + 69) v924 23 ∧ 0 < mf_len v924 ∧ (∀ h927 : mf_M, h927 = mf_up h917 v924 0 109 → 1 < mf_len v924 ∧ (∀ h929 : mf_M, h929 = mf_up h927 v924 1 101 → 2 < mf_len v924 ∧ (∀ h931 : mf_M, h931 = mf_up h929 v924 2 101 → 3 < mf_len v924 ∧ (∀ h933 : mf_M, h933 = mf_up h931 v924 3 116 → 4 < mf_len v924 ∧ (∀ h935 : mf_M, h935 = mf_up h933 v924 4 115 → mf_is (n0 + 69) x0 12 ∧ (∀ g937 : mf_M, g937 = mf_up g919 x0 93 v924 → mf_sh (n0 + 69) = (20, 1700) ∧ mf_more (mf_rm d n0 n1) n0 (n0 + 69) ∧ (∀ j : Nat, g937 (n0 + 69) j = -1) ∧ (∀ j : Nat, h935 (n0 + 69) j = 0) ∧ mf_is (n0 + 70) x0 12 ∧ (∀ g943 : mf_M, g943 = mf_up g937 x0 94 ((n0 + 69 : Nat) : Int) → mf_sh (n0 + 70) = (20, 1700) ∧ mf_more (mf_rm d n0 n1) n0 (n0 + 70) ∧ (∀ j : Nat, g943 (n0 + 70) j = -1) ∧ (∀ j : Nat, h935 (n0 + 70) j = 0) ∧ mf_is (n0 + 71) x0 12 ∧ (∀ g949 : mf_M, g949 = mf_up g943 x0 96 ((n0 + 70 : Nat) : Int) → mf_sh (n0 + 71) = (24, 1700) ∧ mf_more (mf_rm d n0 n1) n0 (n0 + 71) ∧ (∀ j : Nat, g949 (n0 + 71) j = -1) ∧ (∀ j : Nat, h935 (n0 + 71) j = 0) ∧ mf_is (n0 + 72) x0 12 ∧ (∀ g955 : mf_M, g955 = mf_up g949 x0 100 ((n0 + 71 : Nat) : Int) → mf_sh (n0 + 72) = (20, 57) ∧ mf_more (mf_rm d n0 n1) n0 (n0 + 72) ∧ (∀ j : Nat, g955 (n0 + 72) j = -1) ∧ (∀ j : Nat, h935 (n0 + 72) j = 0) ∧ mf_is (n0 + 73) x0 12 ∧ (∀ g961 : mf_M, g961 = mf_up g955 x0 104 ((n0 + 72 : Nat) : Int) → n0 + 73 = n1 ∧ K 0 g961 h935)))))))))))))))))))))))))))))))))))))))))))))))))))))))))))))))))))))))))))))))))))))))))))))))))))))))))))))))))))))))))))))))))))))))))))))))))))))))))))))))))))))))))))))))))))))))))))))))))))))))))))))))))))))))))))))))))))))))))))))))))))))))))))))))))))))))))))))))))))))))))))))))))))))))))))))))))))))))))))))))))))))))))))))))) : mf_MT C l d YX12_init [(2, x0)] n0 n1 g h K := by
  refine mf_entry (by decide) (Nat.le_of_ble_eq_true rfl) ?_
  refine mf_aload_n (mf_dat eX12_init_p0 0 rfl) rfl rfl ?_
  obtain ⟨ck1, hyp⟩ := hyp
  refine mf_objInit (mf_dat eX12_init_p0 1 rfl) ml_X12_1 im_obj co_obj (mf_rmf hd) (mf_rml hd (Nat.le_of_ble_eq_true rfl)) ck1 ?_
  refine mf_aload_n (mf_dat eX12_init_p0 2 rfl) rfl rfl ?_
  refine mf_sipush (v := 1600) (mf_dat eX12_init_p0 3 rfl) (by decide) ?_
  obtain ⟨ck2, hyp⟩ := hyp
  obtain ⟨ck3, hyp⟩ := hyp
  obtain ⟨ck4, hyp⟩ := hyp
  obtain ⟨ck5, hyp⟩ := hyp
  refine mf_newa (at_ := .int) (i := 0) (mf_dat eX12_init_p0 4 rfl) ac_20 rfl ck2 rfl (by decide) rfl rfl (by decide) (fun c h9 => FieldType.noConfusion h9) (by decide) ck3 ck4 ck5 ?_
  obtain ⟨ck6, hyp⟩ := hyp
  refine mf_putRF (r := (RX12, TX12, 106)) (ci := 12) (k := 0) (kI := 0) (t := 2) (mf_dat eX12_init_p0 5 rfl) fl_X12_7 rfl rfl (by decide) rfl (by decide) rfl rfl rfl (by decide) (fun h9 => absurd h9 (by decide)) ck6 ?_
  generalize qg7 : mf_up g x0 0 ((n0 : Nat) : Int) = g7
  replace hyp := hyp _ qg7.symm
  refine mf_aload_n (mf_dat eX12_init_p0 6 rfl) rfl rfl ?_
  refine mf_iconst (v := (-1)) (mf_dat eX12_init_p0 7 rfl) (by decide) ?_
  refine mf_putI (r := (RX12, TX12, 106)) (ci := 12) (k := 8) (kI := 8) (t := 0) (mf_dat eX12_init_p0 8 rfl) fl_X12_13 rfl rfl (by decide) rfl (by decide) rfl (by decide) (fun h9 => absurd h9 (by decide)) ck6 ?_
  generalize qh8 : mf_up h x0 8 (-1) = h8
  replace hyp := hyp _ qh8.symm
  refine mf_aload_n (mf_dat eX12_init_p0 9 rfl) rfl rfl ?_
  refine mf_bipush (v := 6) (mf_dat eX12_init_p0 10 rfl) (by decide) ?_
  obtain ⟨ck9, hyp⟩ := hyp
  obtain ⟨ck10, hyp⟩ := hyp
  obtain ⟨ck11, hyp⟩ := hyp
  obtain ⟨ck12, hyp⟩ := hyp
  refine mf_newa (at_ := .int) (i := 0) (mf_dat eX12_init_p0 11 rfl) ac_20 rfl ck9 rfl (by decide) rfl rfl (by decide) (fun c h9 => FieldType.noConfusion h9) (by decide) ck10 ck11 ck12 ?_
  obtain ⟨ck13, hyp⟩ := hyp
  refine mf_putRF (r := (RX12, TX12, 106)) (ci := 12) (k := 9) (kI := 9) (t := 2) (mf_dat eX12_init_p0 12 rfl) fl_X12_17 rfl rfl (by decide) rfl (by decide) rfl rfl rfl (by decide) (fun h9 => absurd h9 (by decide)) ck13 ?_
  generalize qg14 : mf_up g7 x0 9 ((n0 + 1 : Nat) : Int) = g14
  replace hyp := hyp _ qg14.symm
  refine mf_aload_n (mf_dat eX12_init_p0 13 rfl) rfl rfl ?_
  refine mf_iconst (v := 5) (mf_dat eX12_init_p0 14 rfl) (by decide) ?_
  obtain ⟨ck15, hyp⟩ := hyp
  obtain ⟨ck16, hyp⟩ := hyp
  obtain ⟨ck17, hyp⟩ := hyp
  obtain ⟨ck18, hyp⟩ := hyp
  refine mf_newa (at_ := .char) (i := 3) (mf_dat eX12_init_p0 15 rfl) ac_23 rfl ck15 rfl (by decide) rfl rfl (by decide) (fun c h9 => FieldType.noConfusion h9) (by decide) ck16 ck17 ck18 ?_
  generalize qv19 : ((n0 + 2 : Nat) : Int) = v19
  replace hyp := hyp _ qv19.symm
  refine mf_dup (mf_dat eX12_init_p0 16 rfl) (by decide) ?_
  refine mf_iconst (v := 0) (mf_dat eX12_init_p0 17 rfl) (by decide) ?_
  refine mf_bipush (v := 102) (mf_dat eX12_init_p0 18 rfl) (by decide) ?_
  obtain ⟨ck20, hyp⟩ := hyp
  obtain ⟨ck21, hyp⟩ := hyp
  refine mf_cast (mf_dat eX12_init_p0 19 rfl) ck20 rfl (by decide) ck21 (by decide) ?_
  generalize qh22 : mf_up h8 v19 0 102 = h22
  replace hyp := hyp _ qh22.symm
  refine mf_dup (mf_dat eX12_init_p0 20 rfl) (by decide) ?_
  refine mf_iconst (v := 1) (mf_dat eX12_init_p0 21 rfl) (by decide) ?_
  refine mf_bipush (v := 111) (mf_dat eX12_init_p0 22 rfl) (by decide) ?_
  obtain ⟨ck23, hyp⟩ := hyp
  refine mf_cast (mf_dat eX12_init_p0 23 rfl) ck20 rfl (by decide) ck23 (by decide) ?_
  generalize qh24 : mf_up h22 v19 1 111 = h24
  replace hyp := hyp _ qh24.symm
  refine mf_dup (mf_dat eX12_init_p0 24 rfl) (by decide) ?_
  refine mf_iconst (v := 2) (mf_dat eX12_init_p0 25 rfl) (by decide) ?_
  refine mf_bipush (v := 108) (mf_dat eX12_init_p0 26 rfl) (by decide) ?_
  obtain ⟨ck25, hyp⟩ := hyp
  refine mf_cast (mf_dat eX12_init_p0 27 rfl) ck20 rfl (by decide) ck25 (by decide) ?_
  generalize qh26 : mf_up h24 v19 2 108 = h26
  replace hyp := hyp _ qh26.symm
  refine mf_dup (mf_dat eX12_init_p0 28 rfl) (by decide) ?_
  refine mf_iconst (v := 3) (mf_dat eX12_init_p0 29 rfl) (by decide) ?_
  refine mf_bipush (v := 105) (mf_dat eX12_init_p0 30 rfl) (by decide) ?_
  obtain ⟨ck27, hyp⟩ := hyp
  refine mf_cast (mf_dat eX12_init_p0 31 rfl) ck20 rfl (by decide) ck27 (by decide) ?_
  generalize qh28 : mf_up h26 v19 3 105 = h28
  replace hyp := hyp _ qh28.symm
  refine mf_dup (mf_dat eX12_init_p0 32 rfl) (by decide) ?_
  refine mf_iconst (v := 4) (mf_dat eX12_init_p0 33 rfl) (by decide) ?_
  refine mf_bipush (v := 111) (mf_dat eX12_init_p0 34 rfl) (by decide) ?_
  obtain ⟨ck29, hyp⟩ := hyp
  refine mf_cast (mf_dat eX12_init_p0 35 rfl) ck20 rfl (by decide) ck29 (by decide) ?_
  generalize qh30 : mf_up h28 v19 4 111 = h30
  replace hyp := hyp _ qh30.symm
  obtain ⟨ck31, hyp⟩ := hyp
  refine mf_putRF (r := (RX12, TX12, 106)) (ci := 12) (k := 11) (kI := 11) (t := 2) (mf_dat eX12_init_p0 36 rfl) fl_X12_20 rfl rfl (by decide) rfl (by decide) rfl rfl rfl (by decide) (fun h9 => absurd h9 (by decide)) ck31 ?_
  generalize qg32 : mf_up g14 x0 11 v19 = g32
  replace hyp := hyp _ qg32.symm
  refine mf_aload_n (mf_dat eX12_init_p0 37 rfl) rfl rfl ?_
  refine mf_iconst (v := 5) (mf_dat eX12_init_p0 38 rfl) (by decide) ?_
  obtain ⟨ck33, hyp⟩ := hyp
  obtain ⟨ck34, hyp⟩ := hyp
  obtain ⟨ck35, hyp⟩ := hyp
  obtain ⟨ck36, hyp⟩ := hyp
  refine mf_newa (at_ := .char) (i := 3) (mf_dat eX12_init_p0 39 rfl) ac_23 rfl ck33 rfl (by decide) rfl rfl (by decide) (fun c h9 => FieldType.noConfusion h9) (by decide) ck34 ck35 ck36 ?_
  generalize qv37 : ((n0 + 3 : Nat) : Int) = v37
  replace hyp := hyp _ qv37.symm
  refine mf_dup (mf_dat eX12_init_p0 40 rfl) (by decide) ?_
  refine mf_iconst (v := 0) (mf_dat eX12_init_p0 41 rfl) (by decide) ?_
  refine mf_bipush (v := 99) (mf_dat eX12_init_p0 42 rfl) (by decide) ?_
  obtain ⟨ck38, hyp⟩ := hyp
  obtain ⟨ck39, hyp⟩ := hyp
  refine mf_cast (mf_dat eX12_init_p0 43 rfl) ck38 rfl (by decide) ck39 (by decide) ?_
  generalize qh40 : mf_up h30 v37 0 99 = h40
  replace hyp := hyp _ qh40.symm
  refine mf_dup (mf_dat eX12_init_p0 44 rfl) (by decide) ?_
  refine mf_iconst (v := 1) (mf_dat eX12_init_p0 45 rfl) (by decide) ?_
  refine mf_bipush (v := 101) (mf_dat eX12_init_p0 46 rfl) (by decide) ?_
  obtain ⟨ck41, hyp⟩ := hyp
  refine mf_cast (mf_dat eX12_init_p0 47 rfl) ck38 rfl (by decide) ck41 (by decide) ?_
  generalize qh42 : mf_up h40 v37 1 101 = h42
  replace hyp := hyp _ qh42.symm
  refine mf_dup (mf_dat eX12_init_p0 48 rfl) (by decide) ?_
  refine mf_iconst (v := 2) (mf_dat eX12_init_p0 49 rfl) (by decide) ?_
  refine mf_bipush (v := 108) (mf_dat eX12_init_p0 50 rfl) (by decide) ?_
  obtain ⟨ck43, hyp⟩ := hyp
  refine mf_cast (mf_dat eX12_init_p0 51 rfl) ck38 rfl (by decide) ck43 (by decide) ?_
  generalize qh44 : mf_up h42 v37 2 108 = h44
  replace hyp := hyp _ qh44.symm
  refine mf_dup (mf_dat eX12_init_p0 52 rfl) (by decide) ?_
  refine mf_iconst (v := 3) (mf_dat eX12_init_p0 53 rfl) (by decide) ?_
  refine mf_bipush (v := 108) (mf_dat eX12_init_p0 54 rfl) (by decide) ?_
  obtain ⟨ck45, hyp⟩ := hyp
  refine mf_cast (mf_dat eX12_init_p0 55 rfl) ck38 rfl (by decide) ck45 (by decide) ?_
  generalize qh46 : mf_up h44 v37 3 108 = h46
  replace hyp := hyp _ qh46.symm
  refine mf_dup (mf_dat eX12_init_p0 56 rfl) (by decide) ?_
  refine mf_iconst (v := 4) (mf_dat eX12_init_p0 57 rfl) (by decide) ?_
  refine mf_bipush (v := 115) (mf_dat eX12_init_p0 58 rfl) (by decide) ?_
  obtain ⟨ck47, hyp⟩ := hyp
  refine mf_cast (mf_dat eX12_init_p0 59 rfl) ck38 rfl (by decide) ck47 (by decide) ?_
  generalize qh48 : mf_up h46 v37 4 115 = h48
  replace hyp := hyp _ qh48.symm
  obtain ⟨ck49, hyp⟩ := hyp
  refine mf_putRF (r := (RX12, TX12, 106)) (ci := 12) (k := 12) (kI := 12) (t := 2) (mf_dat eX12_init_p1 0 rfl) fl_X12_24 rfl rfl (by decide) rfl (by decide) rfl rfl rfl (by decide) (fun h9 => absurd h9 (by decide)) ck49 ?_
  generalize qg50 : mf_up g32 x0 12 v37 = g50
  replace hyp := hyp _ qg50.symm
  refine mf_aload_n (mf_dat eX12_init_p1 1 rfl) rfl rfl ?_
  refine mf_iconst (v := 5) (mf_dat eX12_init_p1 2 rfl) (by decide) ?_
  obtain ⟨ck51, hyp⟩ := hyp
  obtain ⟨ck52, hyp⟩ := hyp
  obtain ⟨ck53, hyp⟩ := hyp
  obtain ⟨ck54, hyp⟩ := hyp
  refine mf_newa (at_ := .char) (i := 3) (mf_dat eX12_init_p1 3 rfl) ac_23 rfl ck51 rfl (by decide) rfl rfl (by decide) (fun c h9 => FieldType.noConfusion h9) (by decide) ck52 ck53 ck54 ?_
  generalize qv55 : ((n0 + 4 : Nat) : Int) = v55
  replace hyp := hyp _ qv55.symm
  refine mf_dup (mf_dat eX12_init_p1 4 rfl) (by decide) ?_
  refine mf_iconst (v := 0) (mf_dat eX12_init_p1 5 rfl) (by decide) ?_
  refine mf_bipush (v := 103) (mf_dat eX12_init_p1 6 rfl) (by decide) ?_
  obtain ⟨ck56, hyp⟩ := hyp
  obtain ⟨ck57, hyp⟩ := hyp
  refine mf_cast (mf_dat eX12_init_p1 7 rfl) ck56 rfl (by decide) ck57 (by decide) ?_
  generalize qh58 : mf_up h48 v55 0 103 = h58
  replace hyp := hyp _ qh58.symm
  refine mf_dup (mf_dat eX12_init_p1 8 rfl) (by decide) ?_
  refine mf_iconst (v := 1) (mf_dat eX12_init_p1 9 rfl) (by decide) ?_
  refine mf_bipush (v := 108) (mf_dat eX12_init_p1 10 rfl) (by decide) ?_
  obtain ⟨ck59, hyp⟩ := hyp
  refine mf_cast (mf_dat eX12_init_p1 11 rfl) ck56 rfl (by decide) ck59 (by decide) ?_
  generalize qh60 : mf_up h58 v55 1 108 = h60
  replace hyp := hyp _ qh60.symm
  refine mf_dup (mf_dat eX12_init_p1 12 rfl) (by decide) ?_
  refine mf_iconst (v := 2) (mf_dat eX12_init_p1 13 rfl) (by decide) ?_
  refine mf_bipush (v := 111) (mf_dat eX12_init_p1 14 rfl) (by decide) ?_
  obtain ⟨ck61, hyp⟩ := hyp
  refine mf_cast (mf_dat eX12_init_p1 15 rfl) ck56 rfl (by decide) ck61 (by decide) ?_
  generalize qh62 : mf_up h60 v55 2 111 = h62
  replace hyp := hyp _ qh62.symm
  refine mf_dup (mf_dat eX12_init_p1 16 rfl) (by decide) ?_
  refine mf_iconst (v := 3) (mf_dat eX12_init_p1 17 rfl) (by decide) ?_
  refine mf_bipush (v := 115) (mf_dat eX12_init_p1 18 rfl) (by decide) ?_
  obtain ⟨ck63, hyp⟩ := hyp
  refine mf_cast (mf_dat eX12_init_p1 19 rfl) ck56 rfl (by decide) ck63 (by decide) ?_
  generalize qh64 : mf_up h62 v55 3 115 = h64
  replace hyp := hyp _ qh64.symm
  refine mf_dup (mf_dat eX12_init_p1 20 rfl) (by decide) ?_
  refine mf_iconst (v := 4) (mf_dat eX12_init_p1 21 rfl) (by decide) ?_
  refine mf_bipush (v := 115) (mf_dat eX12_init_p1 22 rfl) (by decide) ?_
  obtain ⟨ck65, hyp⟩ := hyp
  refine mf_cast (mf_dat eX12_init_p1 23 rfl) ck56 rfl (by decide) ck65 (by decide) ?_
  generalize qh66 : mf_up h64 v55 4 115 = h66
  replace hyp := hyp _ qh66.symm
  obtain ⟨ck67, hyp⟩ := hyp
  refine mf_putRF (r := (RX12, TX12, 106)) (ci := 12) (k := 13) (kI := 13) (t := 2) (mf_dat eX12_init_p1 24 rfl) fl_X12_27 rfl rfl (by decide) rfl (by decide) rfl rfl rfl (by decide) (fun h9 => absurd h9 (by decide)) ck67 ?_
  generalize qg68 : mf_up g50 x0 13 v55 = g68
  replace hyp := hyp _ qg68.symm
  refine mf_aload_n (mf_dat eX12_init_p1 25 rfl) rfl rfl ?_
  refine mf_iconst (v := 4) (mf_dat eX12_init_p1 26 rfl) (by decide) ?_
  obtain ⟨ck69, hyp⟩ := hyp
  obtain ⟨ck70, hyp⟩ := hyp
  obtain ⟨ck71, hyp⟩ := hyp
  obtain ⟨ck72, hyp⟩ := hyp
  refine mf_newa (at_ := .char) (i := 3) (mf_dat eX12_init_p1 27 rfl) ac_23 rfl ck69 rfl (by decide) rfl rfl (by decide) (fun c h9 => FieldType.noConfusion h9) (by decide) ck70 ck71 ck72 ?_
  generalize qv73 : ((n0 + 5 : Nat) : Int) = v73
  replace hyp := hyp _ qv73.symm
  refine mf_dup (mf_dat eX12_init_p1 28 rfl) (by decide) ?_
  refine mf_iconst (v := 0) (mf_dat eX12_init_p1 29 rfl) (by decide) ?_
  refine mf_bipush (v := 119) (mf_dat eX12_init_p1 30 rfl) (by decide) ?_
  obtain ⟨ck74, hyp⟩ := hyp
  obtain ⟨ck75, hyp⟩ := hyp
  refine mf_cast (mf_dat eX12_init_p1 31 rfl) ck74 rfl (by decide) ck75 (by decide) ?_
  generalize qh76 : mf_up h66 v73 0 119 = h76
  replace hyp := hyp _ qh76.symm
  refine mf_dup (mf_dat eX12_init_p1 32 rfl) (by decide) ?_
  refine mf_iconst (v := 1) (mf_dat eX12_init_p1 33 rfl) (by decide) ?_
  refine mf_bipush (v := 111) (mf_dat eX12_init_p1 34 rfl) (by decide) ?_
  obtain ⟨ck77, hyp⟩ := hyp
  refine mf_cast (mf_dat eX12_init_p1 35 rfl) ck74 rfl (by decide) ck77 (by decide) ?_
  generalize qh78 : mf_up h76 v73 1 111 = h78
  replace hyp := hyp _ qh78.symm
  refine mf_dup (mf_dat eX12_init_p1 36 rfl) (by decide) ?_
  refine mf_iconst (v := 2) (mf_dat eX12_init_p1 37 rfl) (by decide) ?_
  refine mf_bipush (v := 114) (mf_dat eX12_init_p1 38 rfl) (by decide) ?_
  obtain ⟨ck79, hyp⟩ := hyp
  refine mf_cast (mf_dat eX12_init_p1 39 rfl) ck74 rfl (by decide) ck79 (by decide) ?_
  generalize qh80 : mf_up h78 v73 2 114 = h80
  replace hyp := hyp _ qh80.symm
  refine mf_dup (mf_dat eX12_init_p1 40 rfl) (by decide) ?_
  refine mf_iconst (v := 3) (mf_dat eX12_init_p1 41 rfl) (by decide) ?_
  refine mf_bipush (v := 109) (mf_dat eX12_init_p1 42 rfl) (by decide) ?_
  obtain ⟨ck81, hyp⟩ := hyp
  refine mf_cast (mf_dat eX12_init_p1 43 rfl) ck74 rfl (by decide) ck81 (by decide) ?_
  generalize qh82 : mf_up h80 v73 3 109 = h82
  replace hyp := hyp _ qh82.symm
  obtain ⟨ck83, hyp⟩ := hyp
  refine mf_putRF (r := (RX12, TX12, 106)) (ci := 12) (k := 14) (kI := 14) (t := 2) (mf_dat eX12_init_p1 44 rfl) fl_X12_30 rfl rfl (by decide) rfl (by decide) rfl rfl rfl (by decide) (fun h9 => absurd h9 (by decide)) ck83 ?_
  generalize qg84 : mf_up g68 x0 14 v73 = g84
  replace hyp := hyp _ qg84.symm
  refine mf_aload_n (mf_dat eX12_init_p1 45 rfl) rfl rfl ?_
  refine mf_iconst (v := 5) (mf_dat eX12_init_p1 46 rfl) (by decide) ?_
  obtain ⟨ck85, hyp⟩ := hyp
  obtain ⟨ck86, hyp⟩ := hyp
  obtain ⟨ck87, hyp⟩ := hyp
  obtain ⟨ck88, hyp⟩ := hyp
  refine mf_newa (at_ := .char) (i := 3) (mf_dat eX12_init_p1 47 rfl) ac_23 rfl ck85 rfl (by decide) rfl rfl (by decide) (fun c h9 => FieldType.noConfusion h9) (by decide) ck86 ck87 ck88 ?_
  generalize qv89 : ((n0 + 6 : Nat) : Int) = v89
  replace hyp := hyp _ qv89.symm
  refine mf_dup (mf_dat eX12_init_p1 48 rfl) (by decide) ?_
  refine mf_iconst (v := 0) (mf_dat eX12_init_p1 49 rfl) (by decide) ?_
  refine mf_bipush (v := 98) (mf_dat eX12_init_p1 50 rfl) (by decide) ?_
  obtain ⟨ck90, hyp⟩ := hyp
  obtain ⟨ck91, hyp⟩ := hyp
  refine mf_cast (mf_dat eX12_init_p1 51 rfl) ck90 rfl (by decide) ck91 (by decide) ?_
  generalize qh92 : mf_up h82 v89 0 98 = h92
  replace hyp := hyp _ qh92.symm
  refine mf_dup (mf_dat eX12_init_p1 52 rfl) (by decide) ?_
  refine mf_iconst (v := 1) (mf_dat eX12_init_p1 53 rfl) (by decide) ?_
  refine mf_bipush (v := 101) (mf_dat eX12_init_p1 54 rfl) (by decide) ?_
  obtain ⟨ck93, hyp⟩ := hyp
  refine mf_cast (mf_dat eX12_init_p1 55 rfl) ck90 rfl (by decide) ck93 (by decide) ?_
  generalize qh94 : mf_up h92 v89 1 101 = h94
  replace hyp := hyp _ qh94.symm
  refine mf_dup (mf_dat eX12_init_p1 56 rfl) (by decide) ?_
  refine mf_iconst (v := 2) (mf_dat eX12_init_p1 57 rfl) (by decide) ?_
  refine mf_bipush (v := 105) (mf_dat eX12_init_p1 58 rfl) (by decide) ?_
  obtain ⟨ck95, hyp⟩ := hyp
  refine mf_cast (mf_dat eX12_init_p1 59 rfl) ck90 rfl (by decide) ck95 (by decide) ?_
  generalize qh96 : mf_up h94 v89 2 105 = h96
  replace hyp := hyp _ qh96.symm
  refine mf_dup (mf_dat eX12_init_p2 0 rfl) (by decide) ?_
  refine mf_iconst (v := 3) (mf_dat eX12_init_p2 1 rfl) (by decide) ?_
  refine mf_bipush (v := 110) (mf_dat eX12_init_p2 2 rfl) (by decide) ?_
  obtain ⟨ck97, hyp⟩ := hyp
  refine mf_cast (mf_dat eX12_init_p2 3 rfl) ck90 rfl (by decide) ck97 (by decide) ?_
  generalize qh98 : mf_up h96 v89 3 110 = h98
  replace hyp := hyp _ qh98.symm
  refine mf_dup (mf_dat eX12_init_p2 4 rfl) (by decide) ?_
  refine mf_iconst (v := 4) (mf_dat eX12_init_p2 5 rfl) (by decide) ?_
  refine mf_bipush (v := 103) (mf_dat eX12_init_p2 6 rfl) (by decide) ?_
  obtain ⟨ck99, hyp⟩ := hyp
  refine mf_cast (mf_dat eX12_init_p2 7 rfl) ck90 rfl (by decide) ck99 (by decide) ?_
  generalize qh100 : mf_up h98 v89 4 103 = h100
  replace hyp := hyp _ qh100.symm
  obtain ⟨ck101, hyp⟩ := hyp
  refine mf_putRF (r := (RX12, TX12, 106)) (ci := 12) (k := 15) (kI := 15) (t := 2) (mf_dat eX12_init_p2 8 rfl) fl_X12_33 rfl rfl (by decide) rfl (by decide) rfl rfl rfl (by decide) (fun h9 => absurd h9 (by decide)) ck101 ?_
  generalize qg102 : mf_up g84 x0 15 v89 = g102
  replace hyp := hyp _ qg102.symm
  refine mf_aload_n (mf_dat eX12_init_p2 9 rfl) rfl rfl ?_
  refine mf_iconst (v := 2) (mf_dat eX12_init_p2 10 rfl) (by decide) ?_
  obtain ⟨ck103, hyp⟩ := hyp
  obtain ⟨ck104, hyp⟩ := hyp
  obtain ⟨ck105, hyp⟩ := hyp
  obtain ⟨ck106, hyp⟩ := hyp
  refine mf_newa (at_ := .char) (i := 3) (mf_dat eX12_init_p2 11 rfl) ac_23 rfl ck103 rfl (by decide) rfl rfl (by decide) (fun c h9 => FieldType.noConfusion h9) (by decide) ck104 ck105 ck106 ?_
  generalize qv107 : ((n0 + 7 : Nat) : Int) = v107
  replace hyp := hyp _ qv107.symm
  refine mf_dup (mf_dat eX12_init_p2 12 rfl) (by decide) ?_
  refine mf_iconst (v := 0) (mf_dat eX12_init_p2 13 rfl) (by decide) ?_
  refine mf_bipush (v := 111) (mf_dat eX12_init_p2 14 rfl) (by decide) ?_
  obtain ⟨ck108, hyp⟩ := hyp
  obtain ⟨ck109, hyp⟩ := hyp
  refine mf_cast (mf_dat eX12_init_p2 15 rfl) ck108 rfl (by decide) ck109 (by decide) ?_
  generalize qh110 : mf_up h100 v107 0 111 = h110
  replace hyp := hyp _ qh110.symm
  refine mf_dup (mf_dat eX12_init_p2 16 rfl) (by decide) ?_
  refine mf_iconst (v := 1) (mf_dat eX12_init_p2 17 rfl) (by decide) ?_
  refine mf_bipush (v := 110) (mf_dat eX12_init_p2 18 rfl) (by decide) ?_
  obtain ⟨ck111, hyp⟩ := hyp
  refine mf_cast (mf_dat eX12_init_p2 19 rfl) ck108 rfl (by decide) ck111 (by decide) ?_
  generalize qh112 : mf_up h110 v107 1 110 = h112
  replace hyp := hyp _ qh112.symm
  obtain ⟨ck113, hyp⟩ := hyp
  refine mf_putRF (r := (RX12, TX12, 106)) (ci := 12) (k := 16) (kI := 16) (t := 2) (mf_dat eX12_init_p2 20 rfl) fl_X12_36 rfl rfl (by decide) rfl (by decide) rfl rfl rfl (by decide) (fun h9 => absurd h9 (by decide)) ck113 ?_
  generalize qg114 : mf_up g102 x0 16 v107 = g114
  replace hyp := hyp _ qg114.symm
  refine mf_aload_n (mf_dat eX12_init_p2 21 rfl) rfl rfl ?_
  refine mf_iconst (v := 2) (mf_dat eX12_init_p2 22 rfl) (by decide) ?_
  obtain ⟨ck115, hyp⟩ := hyp
  obtain ⟨ck116, hyp⟩ := hyp
  obtain ⟨ck117, hyp⟩ := hyp
  obtain ⟨ck118, hyp⟩ := hyp
  refine mf_newa (at_ := .char) (i := 3) (mf_dat eX12_init_p2 23 rfl) ac_23 rfl ck115 rfl (by decide) rfl rfl (by decide) (fun c h9 => FieldType.noConfusion h9) (by decide) ck116 ck117 ck118 ?_
  generalize qv119 : ((n0 + 8 : Nat) : Int) = v119
  replace hyp := hyp _ qv119.symm
  refine mf_dup (mf_dat eX12_init_p2 24 rfl) (by decide) ?_
  refine mf_iconst (v := 0) (mf_dat eX12_init_p2 25 rfl) (by decide) ?_
  refine mf_bipush (v := 97) (mf_dat eX12_init_p2 26 rfl) (by decide) ?_
  obtain ⟨ck120, hyp⟩ := hyp
  obtain ⟨ck121, hyp⟩ := hyp
  refine mf_cast (mf_dat eX12_init_p2 27 rfl) ck120 rfl (by decide) ck121 (by decide) ?_
  generalize qh122 : mf_up h112 v119 0 97 = h122
  replace hyp := hyp _ qh122.symm
  refine mf_dup (mf_dat eX12_init_p2 28 rfl) (by decide) ?_
  refine mf_iconst (v := 1) (mf_dat eX12_init_p2 29 rfl) (by decide) ?_
  refine mf_bipush (v := 116) (mf_dat eX12_init_p2 30 rfl) (by decide) ?_
  obtain ⟨ck123, hyp⟩ := hyp
  refine mf_cast (mf_dat eX12_init_p2 31 rfl) ck120 rfl (by decide) ck123 (by decide) ?_
  generalize qh124 : mf_up h122 v119 1 116 = h124
  replace hyp := hyp _ qh124.symm
  obtain ⟨ck125, hyp⟩ := hyp
  refine mf_putRF (r := (RX12, TX12, 106)) (ci := 12) (k := 17) (kI := 17) (t := 2) (mf_dat eX12_init_p2 32 rfl) fl_X12_39 rfl rfl (by decide) rfl (by decide) rfl rfl rfl (by decide) (fun h9 => absurd h9 (by decide)) ck125 ?_
  generalize qg126 : mf_up g114 x0 17 v119 = g126
  replace hyp := hyp _ qg126.symm
  refine mf_aload_n (mf_dat eX12_init_p2 33 rfl) rfl rfl ?_
  refine mf_iconst (v := 5) (mf_dat eX12_init_p2 34 rfl) (by decide) ?_
  obtain ⟨ck127, hyp⟩ := hyp
  obtain ⟨ck128, hyp⟩ := hyp
  obtain ⟨ck129, hyp⟩ := hyp
  obtain ⟨ck130, hyp⟩ := hyp
  refine mf_newa (at_ := .char) (i := 3) (mf_dat eX12_init_p2 35 rfl) ac_23 rfl ck127 rfl (by decide) rfl rfl (by decide) (fun c h9 => FieldType.noConfusion h9) (by decide) ck128 ck129 ck130 ?_
  generalize qv131 : ((n0 + 9 : Nat) : Int) = v131
  replace hyp := hyp _ qv131.symm
  refine mf_dup (mf_dat eX12_init_p2 36 rfl) (by decide) ?_
  refine mf_iconst (v := 0) (mf_dat eX12_init_p2 37 rfl) (by decide) ?_
  refine mf_bipush (v := 116) (mf_dat eX12_init_p2 38 rfl) (by decide) ?_
  obtain ⟨ck132, hyp⟩ := hyp
  obtain ⟨ck133, hyp⟩ := hyp
  refine mf_cast (mf_dat eX12_init_p2 39 rfl) ck132 rfl (by decide) ck133 (by decide) ?_
  generalize qh134 : mf_up h124 v131 0 116 = h134
  replace hyp := hyp _ qh134.symm
  refine mf_dup (mf_dat eX12_init_p2 40 rfl) (by decide) ?_
  refine mf_iconst (v := 1) (mf_dat eX12_init_p2 41 rfl) (by decide) ?_
  refine mf_bipush (v := 114) (mf_dat eX12_init_p2 42 rfl) (by decide) ?_
  obtain ⟨ck135, hyp⟩ := hyp
  refine mf_cast (mf_dat eX12_init_p2 43 rfl) ck132 rfl (by decide) ck135 (by decide) ?_
  generalize qh136 : mf_up h134 v131 1 114 = h136
  replace hyp := hyp _ qh136.symm
  refine mf_dup (mf_dat eX12_init_p2 44 rfl) (by decide) ?_
  refine mf_iconst (v := 2) (mf_dat eX12_init_p2 45 rfl) (by decide) ?_
  refine mf_bipush (v := 97) (mf_dat eX12_init_p2 46 rfl) (by decide) ?_
  obtain ⟨ck137, hyp⟩ := hyp
  refine mf_cast (mf_dat eX12_init_p2 47 rfl) ck132 rfl (by decide) ck137 (by decide) ?_
  generalize qh138 : mf_up h136 v131 2 97 = h138
  replace hyp := hyp _ qh138.symm
  refine mf_dup (mf_dat eX12_init_p2 48 rfl) (by decide) ?_
  refine mf_iconst (v := 3) (mf_dat eX12_init_p2 49 rfl) (by decide) ?_
  refine mf_bipush (v := 100) (mf_dat eX12_init_p2 50 rfl) (by decide) ?_
  obtain ⟨ck139, hyp⟩ := hyp
  refine mf_cast (mf_dat eX12_init_p2 51 rfl) ck132 rfl (by decide) ck139 (by decide) ?_
  generalize qh140 : mf_up h138 v131 3 100 = h140
  replace hyp := hyp _ qh140.symm
  refine mf_dup (mf_dat eX12_init_p2 52 rfl) (by decide) ?_
  refine mf_iconst (v := 4) (mf_dat eX12_init_p2 53 rfl) (by decide) ?_
  refine mf_bipush (v := 101) (mf_dat eX12_init_p2 54 rfl) (by decide) ?_
  obtain ⟨ck141, hyp⟩ := hyp
  refine mf_cast (mf_dat eX12_init_p2 55 rfl) ck132 rfl (by decide) ck141 (by decide) ?_
  generalize qh142 : mf_up h140 v131 4 101 = h142
  replace hyp := hyp _ qh142.symm
  obtain ⟨ck143, hyp⟩ := hyp
  refine mf_putRF (r := (RX12, TX12, 106)) (ci := 12) (k := 18) (kI := 18) (t := 2) (mf_dat eX12_init_p2 56 rfl) fl_X12_42 rfl rfl (by decide) rfl (by decide) rfl rfl rfl (by decide) (fun h9 => absurd h9 (by decide)) ck143 ?_
  generalize qg144 : mf_up g126 x0 18 v131 = g144
  replace hyp := hyp _ qg144.symm
  refine mf_aload_n (mf_dat eX12_init_p2 57 rfl) rfl rfl ?_
  refine mf_iconst (v := 5) (mf_dat eX12_init_p2 58 rfl) (by decide) ?_
  obtain ⟨ck145, hyp⟩ := hyp
  obtain ⟨ck146, hyp⟩ := hyp
  obtain ⟨ck147, hyp⟩ := hyp
  obtain ⟨ck148, hyp⟩ := hyp
  refine mf_newa (at_ := .char) (i := 3) (mf_dat eX12_init_p2 59 rfl) ac_23 rfl ck145 rfl (by decide) rfl rfl (by decide) (fun c h9 => FieldType.noConfusion h9) (by decide) ck146 ck147 ck148 ?_
  generalize qv149 : ((n0 + 10 : Nat) : Int) = v149
  replace hyp := hyp _ qv149.symm
  refine mf_dup (mf_dat eX12_init_p3 0 rfl) (by decide) ?_
  refine mf_iconst (v := 0) (mf_dat eX12_init_p3 1 rfl) (by decide) ?_
  refine mf_bipush (v := 111) (mf_dat eX12_init_p3 2 rfl) (by decide) ?_
  obtain ⟨ck150, hyp⟩ := hyp
  obtain ⟨ck151, hyp⟩ := hyp
  refine mf_cast (mf_dat eX12_init_p3 3 rfl) ck150 rfl (by decide) ck151 (by decide) ?_
  generalize qh152 : mf_up h142 v149 0 111 = h152
  replace hyp := hyp _ qh152.symm
  refine mf_dup (mf_dat eX12_init_p3 4 rfl) (by decide) ?_
  refine mf_iconst (v := 1) (mf_dat eX12_init_p3 5 rfl) (by decide) ?_
  refine mf_bipush (v := 112) (mf_dat eX12_init_p3 6 rfl) (by decide) ?_
  obtain ⟨ck153, hyp⟩ := hyp
  refine mf_cast (mf_dat eX12_init_p3 7 rfl) ck150 rfl (by decide) ck153 (by decide) ?_
  generalize qh154 : mf_up h152 v149 1 112 = h154
  replace hyp := hyp _ qh154.symm
  refine mf_dup (mf_dat eX12_init_p3 8 rfl) (by decide) ?_
  refine mf_iconst (v := 2) (mf_dat eX12_init_p3 9 rfl) (by decide) ?_
  refine mf_bipush (v := 101) (mf_dat eX12_init_p3 10 rfl) (by decide) ?_
  obtain ⟨ck155, hyp⟩ := hyp
  refine mf_cast (mf_dat eX12_init_p3 11 rfl) ck150 rfl (by decide) ck155 (by decide) ?_
  generalize qh156 : mf_up h154 v149 2 101 = h156
  replace hyp := hyp _ qh156.symm
  refine mf_dup (mf_dat eX12_init_p3 12 rfl) (by decide) ?_
  refine mf_iconst (v := 3) (mf_dat eX12_init_p3 13 rfl) (by decide) ?_
  refine mf_bipush (v := 110) (mf_dat eX12_init_p3 14 rfl) (by decide) ?_
  obtain ⟨ck157, hyp⟩ := hyp
  refine mf_cast (mf_dat eX12_init_p3 15 rfl) ck150 rfl (by decide) ck157 (by decide) ?_
  generalize qh158 : mf_up h156 v149 3 110 = h158
  replace hyp := hyp _ qh158.symm
  refine mf_dup (mf_dat eX12_init_p3 16 rfl) (by decide) ?_
  refine mf_iconst (v := 4) (mf_dat eX12_init_p3 17 rfl) (by decide) ?_
  refine mf_bipush (v := 115) (mf_dat eX12_init_p3 18 rfl) (by decide) ?_
  obtain ⟨ck159, hyp⟩ := hyp
  refine mf_cast (mf_dat eX12_init_p3 19 rfl) ck150 rfl (by decide) ck159 (by decide) ?_
  generalize qh160 : mf_up h158 v149 4 115 = h160
  replace hyp := hyp _ qh160.symm
  obtain ⟨ck161, hyp⟩ := hyp
  refine mf_putRF (r := (RX12, TX12, 106)) (ci := 12) (k := 19) (kI := 19) (t := 2) (mf_dat eX12_init_p3 20 rfl) fl_X12_45 rfl rfl (by decide) rfl (by decide) rfl rfl rfl (by decide) (fun h9 => absurd h9 (by decide)) ck161 ?_
  generalize qg162 : mf_up g144 x0 19 v149 = g162
  replace hyp := hyp _ qg162.symm
  refine mf_aload_n (mf_dat eX12_init_p3 21 rfl) rfl rfl ?_
  refine mf_iconst (v := 4) (mf_dat eX12_init_p3 22 rfl) (by decide) ?_
  obtain ⟨ck163, hyp⟩ := hyp
  obtain ⟨ck164, hyp⟩ := hyp
  obtain ⟨ck165, hyp⟩ := hyp
  obtain ⟨ck166, hyp⟩ := hyp
  refine mf_newa (at_ := .char) (i := 3) (mf_dat eX12_init_p3 23 rfl) ac_23 rfl ck163 rfl (by decide) rfl rfl (by decide) (fun c h9 => FieldType.noConfusion h9) (by decide) ck164 ck165 ck166 ?_
  generalize qv167 : ((n0 + 11 : Nat) : Int) = v167
  replace hyp := hyp _ qv167.symm
  refine mf_dup (mf_dat eX12_init_p3 24 rfl) (by decide) ?_
  refine mf_iconst (v := 0) (mf_dat eX12_init_p3 25 rfl) (by decide) ?_
  refine mf_bipush (v := 99) (mf_dat eX12_init_p3 26 rfl) (by decide) ?_
  obtain ⟨ck168, hyp⟩ := hyp
  obtain ⟨ck169, hyp⟩ := hyp
  refine mf_cast (mf_dat eX12_init_p3 27 rfl) ck168 rfl (by decide) ck169 (by decide) ?_
  generalize qh170 : mf_up h160 v167 0 99 = h170
  replace hyp := hyp _ qh170.symm
  refine mf_dup (mf_dat eX12_init_p3 28 rfl) (by decide) ?_
  refine mf_iconst (v := 1) (mf_dat eX12_init_p3 29 rfl) (by decide) ?_
  refine mf_bipush (v := 111) (mf_dat eX12_init_p3 30 rfl) (by decide) ?_
  obtain ⟨ck171, hyp⟩ := hyp
  refine mf_cast (mf_dat eX12_init_p3 31 rfl) ck168 rfl (by decide) ck171 (by decide) ?_
  generalize qh172 : mf_up h170 v167 1 111 = h172
  replace hyp := hyp _ qh172.symm
  refine mf_dup (mf_dat eX12_init_p3 32 rfl) (by decide) ?_
  refine mf_iconst (v := 2) (mf_dat eX12_init_p3 33 rfl) (by decide) ?_
  refine mf_bipush (v := 114) (mf_dat eX12_init_p3 34 rfl) (by decide) ?_
  obtain ⟨ck173, hyp⟩ := hyp
  refine mf_cast (mf_dat eX12_init_p3 35 rfl) ck168 rfl (by decide) ck173 (by decide) ?_
  generalize qh174 : mf_up h172 v167 2 114 = h174
  replace hyp := hyp _ qh174.symm
  refine mf_dup (mf_dat eX12_init_p3 36 rfl) (by decide) ?_
  refine mf_iconst (v := 3) (mf_dat eX12_init_p3 37 rfl) (by decide) ?_
  refine mf_bipush (v := 110) (mf_dat eX12_init_p3 38 rfl) (by decide) ?_
  obtain ⟨ck175, hyp⟩ := hyp
  refine mf_cast (mf_dat eX12_init_p3 39 rfl) ck168 rfl (by decide) ck175 (by decide) ?_
  generalize qh176 : mf_up h174 v167 3 110 = h176
  replace hyp := hyp _ qh176.symm
  obtain ⟨ck177, hyp⟩ := hyp
  refine mf_putRF (r := (RX12, TX12, 106)) (ci := 12) (k := 20) (kI := 20) (t := 2) (mf_dat eX12_init_p3 40 rfl) fl_X12_48 rfl rfl (by decide) rfl (by decide) rfl rfl rfl (by decide) (fun h9 => absurd h9 (by decide)) ck177 ?_
  generalize qg178 : mf_up g162 x0 20 v167 = g178
  replace hyp := hyp _ qg178.symm
  refine mf_aload_n (mf_dat eX12_init_p3 41 rfl) rfl rfl ?_
  refine mf_iconst (v := 4) (mf_dat eX12_init_p3 42 rfl) (by decide) ?_
  obtain ⟨ck179, hyp⟩ := hyp
  obtain ⟨ck180, hyp⟩ := hyp
  obtain ⟨ck181, hyp⟩ := hyp
  obtain ⟨ck182, hyp⟩ := hyp
  refine mf_newa (at_ := .char) (i := 3) (mf_dat eX12_init_p3 43 rfl) ac_23 rfl ck179 rfl (by decide) rfl rfl (by decide) (fun c h9 => FieldType.noConfusion h9) (by decide) ck180 ck181 ck182 ?_
  generalize qv183 : ((n0 + 12 : Nat) : Int) = v183
  replace hyp := hyp _ qv183.symm
  refine mf_dup (mf_dat eX12_init_p3 44 rfl) (by decide) ?_
  refine mf_iconst (v := 0) (mf_dat eX12_init_p3 45 rfl) (by decide) ?_
  refine mf_bipush (v := 116) (mf_dat eX12_init_p3 46 rfl) (by decide) ?_
  obtain ⟨ck184, hyp⟩ := hyp
  obtain ⟨ck185, hyp⟩ := hyp
  refine mf_cast (mf_dat eX12_init_p3 47 rfl) ck184 rfl (by decide) ck185 (by decide) ?_
  generalize qh186 : mf_up h176 v183 0 116 = h186
  replace hyp := hyp _ qh186.symm
  refine mf_dup (mf_dat eX12_init_p3 48 rfl) (by decide) ?_
  refine mf_iconst (v := 1) (mf_dat eX12_init_p3 49 rfl) (by decide) ?_
  refine mf_bipush (v := 111) (mf_dat eX12_init_p3 50 rfl) (by decide) ?_
  obtain ⟨ck187, hyp⟩ := hyp
  refine mf_cast (mf_dat eX12_init_p3 51 rfl) ck184 rfl (by decide) ck187 (by decide) ?_
  generalize qh188 : mf_up h186 v183 1 111 = h188
  replace hyp := hyp _ qh188.symm
  refine mf_dup (mf_dat eX12_init_p3 52 rfl) (by decide) ?_
  refine mf_iconst (v := 2) (mf_dat eX12_init_p3 53 rfl) (by decide) ?_
  refine mf_bipush (v := 108) (mf_dat eX12_init_p3 54 rfl) (by decide) ?_
  obtain ⟨ck189, hyp⟩ := hyp
  refine mf_cast (mf_dat eX12_init_p3 55 rfl) ck184 rfl (by decide) ck189 (by decide) ?_
  generalize qh190 : mf_up h188 v183 2 108 = h190
  replace hyp := hyp _ qh190.symm
  refine mf_dup (mf_dat eX12_init_p3 56 rfl) (by decide) ?_
  refine mf_iconst (v := 3) (mf_dat eX12_init_p3 57 rfl) (by decide) ?_
  refine mf_bipush (v := 108) (mf_dat eX12_init_p3 58 rfl) (by decide) ?_
  obtain ⟨ck191, hyp⟩ := hyp
  refine mf_cast (mf_dat eX12_init_p3 59 rfl) ck184 rfl (by decide) ck191 (by decide) ?_
  generalize qh192 : mf_up h190 v183 3 108 = h192
  replace hyp := hyp _ qh192.symm
  obtain ⟨ck193, hyp⟩ := hyp
  refine mf_putRF (r := (RX12, TX12, 106)) (ci := 12) (k := 21) (kI := 21) (t := 2) (mf_dat eX12_init_p4 0 rfl) fl_X12_51 rfl rfl (by decide) rfl (by decide) rfl rfl rfl (by decide) (fun h9 => absurd h9 (by decide)) ck193 ?_
  generalize qg194 : mf_up g178 x0 21 v183 = g194
  replace hyp := hyp _ qg194.symm
  refine mf_aload_n (mf_dat eX12_init_p4 1 rfl) rfl rfl ?_
  refine mf_iconst (v := 5) (mf_dat eX12_init_p4 2 rfl) (by decide) ?_
  obtain ⟨ck195, hyp⟩ := hyp
  obtain ⟨ck196, hyp⟩ := hyp
  obtain ⟨ck197, hyp⟩ := hyp
  obtain ⟨ck198, hyp⟩ := hyp
  refine mf_newa (at_ := .char) (i := 3) (mf_dat eX12_init_p4 3 rfl) ac_23 rfl ck195 rfl (by decide) rfl rfl (by decide) (fun c h9 => FieldType.noConfusion h9) (by decide) ck196 ck197 ck198 ?_
  generalize qv199 : ((n0 + 13 : Nat) : Int) = v199
  replace hyp := hyp _ qv199.symm
  refine mf_dup (mf_dat eX12_init_p4 4 rfl) (by decide) ?_
  refine mf_iconst (v := 0) (mf_dat eX12_init_p4 5 rfl) (by decide) ?_
  refine mf_bipush (v := 115) (mf_dat eX12_init_p4 6 rfl) (by decide) ?_
  obtain ⟨ck200, hyp⟩ := hyp
  obtain ⟨ck201, hyp⟩ := hyp
  refine mf_cast (mf_dat eX12_init_p4 7 rfl) ck200 rfl (by decide) ck201 (by decide) ?_
  generalize qh202 : mf_up h192 v199 0 115 = h202
  replace hyp := hyp _ qh202.symm
  refine mf_dup (mf_dat eX12_init_p4 8 rfl) (by decide) ?_
  refine mf_iconst (v := 1) (mf_dat eX12_init_p4 9 rfl) (by decide) ?_
  refine mf_bipush (v := 116) (mf_dat eX12_init_p4 10 rfl) (by decide) ?_
  obtain ⟨ck203, hyp⟩ := hyp
  refine mf_cast (mf_dat eX12_init_p4 11 rfl) ck200 rfl (by decide) ck203 (by decide) ?_
  generalize qh204 : mf_up h202 v199 1 116 = h204
  replace hyp := hyp _ qh204.symm
  refine mf_dup (mf_dat eX12_init_p4 12 rfl) (by decide) ?_
  refine mf_iconst (v := 2) (mf_dat eX12_init_p4 13 rfl) (by decide) ?_
  refine mf_bipush (v := 101) (mf_dat eX12_init_p4 14 rfl) (by decide) ?_
  obtain ⟨ck205, hyp⟩ := hyp
  refine mf_cast (mf_dat eX12_init_p4 15 rfl) ck200 rfl (by decide) ck205 (by decide) ?_
  generalize qh206 : mf_up h204 v199 2 101 = h206
  replace hyp := hyp _ qh206.symm
  refine mf_dup (mf_dat eX12_init_p4 16 rfl) (by decide) ?_
  refine mf_iconst (v := 3) (mf_dat eX12_init_p4 17 rfl) (by decide) ?_
  refine mf_bipush (v := 112) (mf_dat eX12_init_p4 18 rfl) (by decide) ?_
  obtain ⟨ck207, hyp⟩ := hyp
  refine mf_cast (mf_dat eX12_init_p4 19 rfl) ck200 rfl (by decide) ck207 (by decide) ?_
  generalize qh208 : mf_up h206 v199 3 112 = h208
  replace hyp := hyp _ qh208.symm
  refine mf_dup (mf_dat eX12_init_p4 20 rfl) (by decide) ?_
  refine mf_iconst (v := 4) (mf_dat eX12_init_p4 21 rfl) (by decide) ?_
  refine mf_bipush (v := 115) (mf_dat eX12_init_p4 22 rfl) (by decide) ?_
  obtain ⟨ck209, hyp⟩ := hyp
  refine mf_cast (mf_dat eX12_init_p4 23 rfl) ck200 rfl (by decide) ck209 (by decide) ?_
  generalize qh210 : mf_up h208 v199 4 115 = h210
  replace hyp := hyp _ qh210.symm
  obtain ⟨ck211, hyp⟩ := hyp
  refine mf_putRF (r := (RX12, TX12, 106)) (ci := 12) (k := 22) (kI := 22) (t := 2) (mf_dat eX12_init_p4 24 rfl) fl_X12_54 rfl rfl (by decide) rfl (by decide) rfl rfl rfl (by decide) (fun h9 => absurd h9 (by decide)) ck211 ?_
  generalize qg212 : mf_up g194 x0 22 v199 = g212
  replace hyp := hyp _ qg212.symm
  refine mf_aload_n (mf_dat eX12_init_p4 25 rfl) rfl rfl ?_
  refine mf_iconst (v := 5) (mf_dat eX12_init_p4 26 rfl) (by decide) ?_
  obtain ⟨ck213, hyp⟩ := hyp
  obtain ⟨ck214, hyp⟩ := hyp
  obtain ⟨ck215, hyp⟩ := hyp
  obtain ⟨ck216, hyp⟩ := hyp
  refine mf_newa (at_ := .char) (i := 3) (mf_dat eX12_init_p4 27 rfl) ac_23 rfl ck213 rfl (by decide) rfl rfl (by decide) (fun c h9 => FieldType.noConfusion h9) (by decide) ck214 ck215 ck216 ?_
  generalize qv217 : ((n0 + 14 : Nat) : Int) = v217
  replace hyp := hyp _ qv217.symm
  refine mf_dup (mf_dat eX12_init_p4 28 rfl) (by decide) ?_
  refine mf_iconst (v := 0) (mf_dat eX12_init_p4 29 rfl) (by decide) ?_
  refine mf_bipush (v := 116) (mf_dat eX12_init_p4 30 rfl) (by decide) ?_
  obtain ⟨ck218, hyp⟩ := hyp
  obtain ⟨ck219, hyp⟩ := hyp
  refine mf_cast (mf_dat eX12_init_p4 31 rfl) ck218 rfl (by decide) ck219 (by decide) ?_
  generalize qh220 : mf_up h210 v217 0 116 = h220
  replace hyp := hyp _ qh220.symm
  refine mf_dup (mf_dat eX12_init_p4 32 rfl) (by decide) ?_
  refine mf_iconst (v := 1) (mf_dat eX12_init_p4 33 rfl) (by decide) ?_
  refine mf_bipush (v := 104) (mf_dat eX12_init_p4 34 rfl) (by decide) ?_
  obtain ⟨ck221, hyp⟩ := hyp
  refine mf_cast (mf_dat eX12_init_p4 35 rfl) ck218 rfl (by decide) ck221 (by decide) ?_
  generalize qh222 : mf_up h220 v217 1 104 = h222
  replace hyp := hyp _ qh222.symm
  refine mf_dup (mf_dat eX12_init_p4 36 rfl) (by decide) ?_
  refine mf_iconst (v := 2) (mf_dat eX12_init_p4 37 rfl) (by decide) ?_
  refine mf_bipush (v := 117) (mf_dat eX12_init_p4 38 rfl) (by decide) ?_
  obtain ⟨ck223, hyp⟩ := hyp
  refine mf_cast (mf_dat eX12_init_p4 39 rfl) ck218 rfl (by decide) ck223 (by decide) ?_
  generalize qh224 : mf_up h222 v217 2 117 = h224
  replace hyp := hyp _ qh224.symm
  refine mf_dup (mf_dat eX12_init_p4 40 rfl) (by decide) ?_
  refine mf_iconst (v := 3) (mf_dat eX12_init_p4 41 rfl) (by decide) ?_
  refine mf_bipush (v := 109) (mf_dat eX12_init_p4 42 rfl) (by decide) ?_
  obtain ⟨ck225, hyp⟩ := hyp
  refine mf_cast (mf_dat eX12_init_p4 43 rfl) ck218 rfl (by decide) ck225 (by decide) ?_
  generalize qh226 : mf_up h224 v217 3 109 = h226
  replace hyp := hyp _ qh226.symm
  refine mf_dup (mf_dat eX12_init_p4 44 rfl) (by decide) ?_
  refine mf_iconst (v := 4) (mf_dat eX12_init_p4 45 rfl) (by decide) ?_
  refine mf_bipush (v := 98) (mf_dat eX12_init_p4 46 rfl) (by decide) ?_
  obtain ⟨ck227, hyp⟩ := hyp
  refine mf_cast (mf_dat eX12_init_p4 47 rfl) ck218 rfl (by decide) ck227 (by decide) ?_
  generalize qh228 : mf_up h226 v217 4 98 = h228
  replace hyp := hyp _ qh228.symm
  obtain ⟨ck229, hyp⟩ := hyp
  refine mf_putRF (r := (RX12, TX12, 106)) (ci := 12) (k := 23) (kI := 23) (t := 2) (mf_dat eX12_init_p4 48 rfl) fl_X12_57 rfl rfl (by decide) rfl (by decide) rfl rfl rfl (by decide) (fun h9 => absurd h9 (by decide)) ck229 ?_
  generalize qg230 : mf_up g212 x0 23 v217 = g230
  replace hyp := hyp _ qg230.symm
  refine mf_aload_n (mf_dat eX12_init_p4 49 rfl) rfl rfl ?_
  refine mf_iconst (v := 3) (mf_dat eX12_init_p4 50 rfl) (by decide) ?_
  obtain ⟨ck231, hyp⟩ := hyp
  obtain ⟨ck232, hyp⟩ := hyp
  obtain ⟨ck233, hyp⟩ := hyp
  obtain ⟨ck234, hyp⟩ := hyp
  refine mf_newa (at_ := .char) (i := 3) (mf_dat eX12_init_p4 51 rfl) ac_23 rfl ck231 rfl (by decide) rfl rfl (by decide) (fun c h9 => FieldType.noConfusion h9) (by decide) ck232 ck233 ck234 ?_
  generalize qv235 : ((n0 + 15 : Nat) : Int) = v235
  replace hyp := hyp _ qv235.symm
  refine mf_dup (mf_dat eX12_init_p4 52 rfl) (by decide) ?_
  refine mf_iconst (v := 0) (mf_dat eX12_init_p4 53 rfl) (by decide) ?_
  refine mf_bipush (v := 100) (mf_dat eX12_init_p4 54 rfl) (by decide) ?_
  obtain ⟨ck236, hyp⟩ := hyp
  obtain ⟨ck237, hyp⟩ := hyp
  refine mf_cast (mf_dat eX12_init_p4 55 rfl) ck236 rfl (by decide) ck237 (by decide) ?_
  generalize qh238 : mf_up h228 v235 0 100 = h238
  replace hyp := hyp _ qh238.symm
  refine mf_dup (mf_dat eX12_init_p4 56 rfl) (by decide) ?_
  refine mf_iconst (v := 1) (mf_dat eX12_init_p4 57 rfl) (by decide) ?_
  refine mf_bipush (v := 97) (mf_dat eX12_init_p4 58 rfl) (by decide) ?_
  obtain ⟨ck239, hyp⟩ := hyp
  refine mf_cast (mf_dat eX12_init_p4 59 rfl) ck236 rfl (by decide) ck239 (by decide) ?_
  generalize qh240 : mf_up h238 v235 1 97 = h240
  replace hyp := hyp _ qh240.symm
  refine mf_dup (mf_dat eX12_init_p5 0 rfl) (by decide) ?_
  refine mf_iconst (v := 2) (mf_dat eX12_init_p5 1 rfl) (by decide) ?_
  refine mf_bipush (v := 121) (mf_dat eX12_init_p5 2 rfl) (by decide) ?_
  obtain ⟨ck241, hyp⟩ := hyp
  refine mf_cast (mf_dat eX12_init_p5 3 rfl) ck236 rfl (by decide) ck241 (by decide) ?_
  generalize qh242 : mf_up h240 v235 2 121 = h242
  replace hyp := hyp _ qh242.symm
  obtain ⟨ck243, hyp⟩ := hyp
  refine mf_putRF (r := (RX12, TX12, 106)) (ci := 12) (k := 24) (kI := 24) (t := 2) (mf_dat eX12_init_p5 4 rfl) fl_X12_60 rfl rfl (by decide) rfl (by decide) rfl rfl rfl (by decide) (fun h9 => absurd h9 (by decide)) ck243 ?_
  generalize qg244 : mf_up g230 x0 24 v235 = g244
  replace hyp := hyp _ qg244.symm
  refine mf_aload_n (mf_dat eX12_init_p5 5 rfl) rfl rfl ?_
  refine mf_iconst (v := 4) (mf_dat eX12_init_p5 6 rfl) (by decide) ?_
  obtain ⟨ck245, hyp⟩ := hyp
  obtain ⟨ck246, hyp⟩ := hyp
  obtain ⟨ck247, hyp⟩ := hyp
  obtain ⟨ck248, hyp⟩ := hyp
  refine mf_newa (at_ := .char) (i := 3) (mf_dat eX12_init_p5 7 rfl) ac_23 rfl ck245 rfl (by decide) rfl rfl (by decide) (fun c h9 => FieldType.noConfusion h9) (by decide) ck246 ck247 ck248 ?_
  generalize qv249 : ((n0 + 16 : Nat) : Int) = v249
  replace hyp := hyp _ qv249.symm
  refine mf_dup (mf_dat eX12_init_p5 8 rfl) (by decide) ?_
  refine mf_iconst (v := 0) (mf_dat eX12_init_p5 9 rfl) (by decide) ?_
  refine mf_bipush (v := 108) (mf_dat eX12_init_p5 10 rfl) (by decide) ?_
  obtain ⟨ck250, hyp⟩ := hyp
  obtain ⟨ck251, hyp⟩ := hyp
  refine mf_cast (mf_dat eX12_init_p5 11 rfl) ck250 rfl (by decide) ck251 (by decide) ?_
  generalize qh252 : mf_up h242 v249 0 108 = h252
  replace hyp := hyp _ qh252.symm
  refine mf_dup (mf_dat eX12_init_p5 12 rfl) (by decide) ?_
  refine mf_iconst (v := 1) (mf_dat eX12_init_p5 13 rfl) (by decide) ?_
  refine mf_bipush (v := 101) (mf_dat eX12_init_p5 14 rfl) (by decide) ?_
  obtain ⟨ck253, hyp⟩ := hyp
  refine mf_cast (mf_dat eX12_init_p5 15 rfl) ck250 rfl (by decide) ck253 (by decide) ?_
  generalize qh254 : mf_up h252 v249 1 101 = h254
  replace hyp := hyp _ qh254.symm
  refine mf_dup (mf_dat eX12_init_p5 16 rfl) (by decide) ?_
  refine mf_iconst (v := 2) (mf_dat eX12_init_p5 17 rfl) (by decide) ?_
  refine mf_bipush (v := 97) (mf_dat eX12_init_p5 18 rfl) (by decide) ?_
  obtain ⟨ck255, hyp⟩ := hyp
  refine mf_cast (mf_dat eX12_init_p5 19 rfl) ck250 rfl (by decide) ck255 (by decide) ?_
  generalize qh256 : mf_up h254 v249 2 97 = h256
  replace hyp := hyp _ qh256.symm
  refine mf_dup (mf_dat eX12_init_p5 20 rfl) (by decide) ?_
  refine mf_iconst (v := 3) (mf_dat eX12_init_p5 21 rfl) (by decide) ?_
  refine mf_bipush (v := 102) (mf_dat eX12_init_p5 22 rfl) (by decide) ?_
  obtain ⟨ck257, hyp⟩ := hyp
  refine mf_cast (mf_dat eX12_init_p5 23 rfl) ck250 rfl (by decide) ck257 (by decide) ?_
  generalize qh258 : mf_up h256 v249 3 102 = h258
  replace hyp := hyp _ qh258.symm
  obtain ⟨ck259, hyp⟩ := hyp
  refine mf_putRF (r := (RX12, TX12, 106)) (ci := 12) (k := 25) (kI := 25) (t := 2) (mf_dat eX12_init_p5 24 rfl) fl_X12_63 rfl rfl (by decide) rfl (by decide) rfl rfl rfl (by decide) (fun h9 => absurd h9 (by decide)) ck259 ?_
  generalize qg260 : mf_up g244 x0 25 v249 = g260
  replace hyp := hyp _ qg260.symm
  refine mf_aload_n (mf_dat eX12_init_p5 25 rfl) rfl rfl ?_
  refine mf_iconst (v := 4) (mf_dat eX12_init_p5 26 rfl) (by decide) ?_
  obtain ⟨ck261, hyp⟩ := hyp
  obtain ⟨ck262, hyp⟩ := hyp
  obtain ⟨ck263, hyp⟩ := hyp
  obtain ⟨ck264, hyp⟩ := hyp
  refine mf_newa (at_ := .char) (i := 3) (mf_dat eX12_init_p5 27 rfl) ac_23 rfl ck261 rfl (by decide) rfl rfl (by decide) (fun c h9 => FieldType.noConfusion h9) (by decide) ck262 ck263 ck264 ?_
  generalize qv265 : ((n0 + 17 : Nat) : Int) = v265
  replace hyp := hyp _ qv265.symm
  refine mf_dup (mf_dat eX12_init_p5 28 rfl) (by decide) ?_
  refine mf_iconst (v := 0) (mf_dat eX12_init_p5 29 rfl) (by decide) ?_
  refine mf_bipush (v := 99) (mf_dat eX12_init_p5 30 rfl) (by decide) ?_
  obtain ⟨ck266, hyp⟩ := hyp
  obtain ⟨ck267, hyp⟩ := hyp
  refine mf_cast (mf_dat eX12_init_p5 31 rfl) ck266 rfl (by decide) ck267 (by decide) ?_
  generalize qh268 : mf_up h258 v265 0 99 = h268
  replace hyp := hyp _ qh268.symm
  refine mf_dup (mf_dat eX12_init_p5 32 rfl) (by decide) ?_
  refine mf_iconst (v := 1) (mf_dat eX12_init_p5 33 rfl) (by decide) ?_
  refine mf_bipush (v := 101) (mf_dat eX12_init_p5 34 rfl) (by decide) ?_
  obtain ⟨ck269, hyp⟩ := hyp
  refine mf_cast (mf_dat eX12_init_p5 35 rfl) ck266 rfl (by decide) ck269 (by decide) ?_
  generalize qh270 : mf_up h268 v265 1 101 = h270
  replace hyp := hyp _ qh270.symm
  refine mf_dup (mf_dat eX12_init_p5 36 rfl) (by decide) ?_
  refine mf_iconst (v := 2) (mf_dat eX12_init_p5 37 rfl) (by decide) ?_
  refine mf_bipush (v := 108) (mf_dat eX12_init_p5 38 rfl) (by decide) ?_
  obtain ⟨ck271, hyp⟩ := hyp
  refine mf_cast (mf_dat eX12_init_p5 39 rfl) ck266 rfl (by decide) ck271 (by decide) ?_
  generalize qh272 : mf_up h270 v265 2 108 = h272
  replace hyp := hyp _ qh272.symm
  refine mf_dup (mf_dat eX12_init_p5 40 rfl) (by decide) ?_
  refine mf_iconst (v := 3) (mf_dat eX12_init_p5 41 rfl) (by decide) ?_
  refine mf_bipush (v := 108) (mf_dat eX12_init_p5 42 rfl) (by decide) ?_
  obtain ⟨ck273, hyp⟩ := hyp
  refine mf_cast (mf_dat eX12_init_p5 43 rfl) ck266 rfl (by decide) ck273 (by decide) ?_
  generalize qh274 : mf_up h272 v265 3 108 = h274
  replace hyp := hyp _ qh274.symm
  obtain ⟨ck275, hyp⟩ := hyp
  refine mf_putRF (r := (RX12, TX12, 106)) (ci := 12) (k := 26) (kI := 26) (t := 2) (mf_dat eX12_init_p5 44 rfl) fl_X12_66 rfl rfl (by decide) rfl (by decide) rfl rfl rfl (by decide) (fun h9 => absurd h9 (by decide)) ck275 ?_
  generalize qg276 : mf_up g260 x0 26 v265 = g276
  replace hyp := hyp _ qg276.symm
  refine mf_aload_n (mf_dat eX12_init_p5 45 rfl) rfl rfl ?_
  refine mf_iconst (v := 5) (mf_dat eX12_init_p5 46 rfl) (by decide) ?_
  obtain ⟨ck277, hyp⟩ := hyp
  obtain ⟨ck278, hyp⟩ := hyp
  obtain ⟨ck279, hyp⟩ := hyp
  obtain ⟨ck280, hyp⟩ := hyp
  refine mf_newa (at_ := .char) (i := 3) (mf_dat eX12_init_p5 47 rfl) ac_23 rfl ck277 rfl (by decide) rfl rfl (by decide) (fun c h9 => FieldType.noConfusion h9) (by decide) ck278 ck279 ck280 ?_
  generalize qv281 : ((n0 + 18 : Nat) : Int) = v281
  replace hyp := hyp _ qv281.symm
  refine mf_dup (mf_dat eX12_init_p5 48 rfl) (by decide) ?_
  refine mf_iconst (v := 0) (mf_dat eX12_init_p5 49 rfl) (by decide) ?_
  refine mf_bipush (v := 112) (mf_dat eX12_init_p5 50 rfl) (by decide) ?_
  obtain ⟨ck282, hyp⟩ := hyp
  obtain ⟨ck283, hyp⟩ := hyp
  refine mf_cast (mf_dat eX12_init_p5 51 rfl) ck282 rfl (by decide) ck283 (by decide) ?_
  generalize qh284 : mf_up h274 v281 0 112 = h284
  replace hyp := hyp _ qh284.symm
  refine mf_dup (mf_dat eX12_init_p5 52 rfl) (by decide) ?_
  refine mf_iconst (v := 1) (mf_dat eX12_init_p5 53 rfl) (by decide) ?_
  refine mf_bipush (v := 117) (mf_dat eX12_init_p5 54 rfl) (by decide) ?_
  obtain ⟨ck285, hyp⟩ := hyp
  refine mf_cast (mf_dat eX12_init_p5 55 rfl) ck282 rfl (by decide) ck285 (by decide) ?_
  generalize qh286 : mf_up h284 v281 1 117 = h286
  replace hyp := hyp _ qh286.symm
  refine mf_dup (mf_dat eX12_init_p5 56 rfl) (by decide) ?_
  refine mf_iconst (v := 2) (mf_dat eX12_init_p5 57 rfl) (by decide) ?_
  refine mf_bipush (v := 114) (mf_dat eX12_init_p5 58 rfl) (by decide) ?_
  obtain ⟨ck287, hyp⟩ := hyp
  refine mf_cast (mf_dat eX12_init_p5 59 rfl) ck282 rfl (by decide) ck287 (by decide) ?_
  generalize qh288 : mf_up h286 v281 2 114 = h288
  replace hyp := hyp _ qh288.symm
  refine mf_dup (mf_dat eX12_init_p6 0 rfl) (by decide) ?_
  refine mf_iconst (v := 3) (mf_dat eX12_init_p6 1 rfl) (by decide) ?_
  refine mf_bipush (v := 115) (mf_dat eX12_init_p6 2 rfl) (by decide) ?_
  obtain ⟨ck289, hyp⟩ := hyp
  refine mf_cast (mf_dat eX12_init_p6 3 rfl) ck282 rfl (by decide) ck289 (by decide) ?_
  generalize qh290 : mf_up h288 v281 3 115 = h290
  replace hyp := hyp _ qh290.symm
  refine mf_dup (mf_dat eX12_init_p6 4 rfl) (by decide) ?_
  refine mf_iconst (v := 4) (mf_dat eX12_init_p6 5 rfl) (by decide) ?_
  refine mf_bipush (v := 101) (mf_dat eX12_init_p6 6 rfl) (by decide) ?_
  obtain ⟨ck291, hyp⟩ := hyp
  refine mf_cast (mf_dat eX12_init_p6 7 rfl) ck282 rfl (by decide) ck291 (by decide) ?_
  generalize qh292 : mf_up h290 v281 4 101 = h292
  replace hyp := hyp _ qh292.symm
  obtain ⟨ck293, hyp⟩ := hyp
  refine mf_putRF (r := (RX12, TX12, 106)) (ci := 12) (k := 27) (kI := 27) (t := 2) (mf_dat eX12_init_p6 8 rfl) fl_X12_69 rfl rfl (by decide) rfl (by decide) rfl rfl rfl (by decide) (fun h9 => absurd h9 (by decide)) ck293 ?_
  generalize qg294 : mf_up g276 x0 27 v281 = g294
  replace hyp := hyp _ qg294.symm
  refine mf_aload_n (mf_dat eX12_init_p6 9 rfl) rfl rfl ?_
  refine mf_iconst (v := 4) (mf_dat eX12_init_p6 10 rfl) (by decide) ?_
  obtain ⟨ck295, hyp⟩ := hyp
  obtain ⟨ck296, hyp⟩ := hyp
  obtain ⟨ck297, hyp⟩ := hyp
  obtain ⟨ck298, hyp⟩ := hyp
  refine mf_newa (at_ := .char) (i := 3) (mf_dat eX12_init_p6 11 rfl) ac_23 rfl ck295 rfl (by decide) rfl rfl (by decide) (fun c h9 => FieldType.noConfusion h9) (by decide) ck296 ck297 ck298 ?_
  generalize qv299 : ((n0 + 19 : Nat) : Int) = v299
  replace hyp := hyp _ qv299.symm
  refine mf_dup (mf_dat eX12_init_p6 12 rfl) (by decide) ?_
  refine mf_iconst (v := 0) (mf_dat eX12_init_p6 13 rfl) (by decide) ?_
  refine mf_bipush (v := 111) (mf_dat eX12_init_p6 14 rfl) (by decide) ?_
  obtain ⟨ck300, hyp⟩ := hyp
  obtain ⟨ck301, hyp⟩ := hyp
  refine mf_cast (mf_dat eX12_init_p6 15 rfl) ck300 rfl (by decide) ck301 (by decide) ?_
  generalize qh302 : mf_up h292 v299 0 111 = h302
  replace hyp := hyp _ qh302.symm
  refine mf_dup (mf_dat eX12_init_p6 16 rfl) (by decide) ?_
  refine mf_iconst (v := 1) (mf_dat eX12_init_p6 17 rfl) (by decide) ?_
  refine mf_bipush (v := 112) (mf_dat eX12_init_p6 18 rfl) (by decide) ?_
  obtain ⟨ck303, hyp⟩ := hyp
  refine mf_cast (mf_dat eX12_init_p6 19 rfl) ck300 rfl (by decide) ck303 (by decide) ?_
  generalize qh304 : mf_up h302 v299 1 112 = h304
  replace hyp := hyp _ qh304.symm
  refine mf_dup (mf_dat eX12_init_p6 20 rfl) (by decide) ?_
  refine mf_iconst (v := 2) (mf_dat eX12_init_p6 21 rfl) (by decide) ?_
  refine mf_bipush (v := 101) (mf_dat eX12_init_p6 22 rfl) (by decide) ?_
  obtain ⟨ck305, hyp⟩ := hyp
  refine mf_cast (mf_dat eX12_init_p6 23 rfl) ck300 rfl (by decide) ck305 (by decide) ?_
  generalize qh306 : mf_up h304 v299 2 101 = h306
  replace hyp := hyp _ qh306.symm
  refine mf_dup (mf_dat eX12_init_p6 24 rfl) (by decide) ?_
  refine mf_iconst (v := 3) (mf_dat eX12_init_p6 25 rfl) (by decide) ?_
  refine mf_bipush (v := 110) (mf_dat eX12_init_p6 26 rfl) (by decide) ?_
  obtain ⟨ck307, hyp⟩ := hyp
  refine mf_cast (mf_dat eX12_init_p6 27 rfl) ck300 rfl (by decide) ck307 (by decide) ?_
  generalize qh308 : mf_up h306 v299 3 110 = h308
  replace hyp := hyp _ qh308.symm
  obtain ⟨ck309, hyp⟩ := hyp
  refine mf_putRF (r := (RX12, TX12, 106)) (ci := 12) (k := 28) (kI := 28) (t := 2) (mf_dat eX12_init_p6 28 rfl) fl_X12_72 rfl rfl (by decide) rfl (by decide) rfl rfl rfl (by decide) (fun h9 => absurd h9 (by decide)) ck309 ?_
  generalize qg310 : mf_up g294 x0 28 v299 = g310
  replace hyp := hyp _ qg310.symm
  refine mf_aload_n (mf_dat eX12_init_p6 29 rfl) rfl rfl ?_
  refine mf_iconst (v := 5) (mf_dat eX12_init_p6 30 rfl) (by decide) ?_
  obtain ⟨ck311, hyp⟩ := hyp
  obtain ⟨ck312, hyp⟩ := hyp
  obtain ⟨ck313, hyp⟩ := hyp
  obtain ⟨ck314, hyp⟩ := hyp
  refine mf_newa (at_ := .char) (i := 3) (mf_dat eX12_init_p6 31 rfl) ac_23 rfl ck311 rfl (by decide) rfl rfl (by decide) (fun c h9 => FieldType.noConfusion h9) (by decide) ck312 ck313 ck314 ?_
  generalize qv315 : ((n0 + 20 : Nat) : Int) = v315
  replace hyp := hyp _ qv315.symm
  refine mf_dup (mf_dat eX12_init_p6 32 rfl) (by decide) ?_
  refine mf_iconst (v := 0) (mf_dat eX12_init_p6 33 rfl) (by decide) ?_
  refine mf_bipush (v := 111) (mf_dat eX12_init_p6 34 rfl) (by decide) ?_
  obtain ⟨ck316, hyp⟩ := hyp
  obtain ⟨ck317, hyp⟩ := hyp
  refine mf_cast (mf_dat eX12_init_p6 35 rfl) ck316 rfl (by decide) ck317 (by decide) ?_
  generalize qh318 : mf_up h308 v315 0 111 = h318
  replace hyp := hyp _ qh318.symm
  refine mf_dup (mf_dat eX12_init_p6 36 rfl) (by decide) ?_
  refine mf_iconst (v := 1) (mf_dat eX12_init_p6 37 rfl) (by decide) ?_
  refine mf_bipush (v := 116) (mf_dat eX12_init_p6 38 rfl) (by decide) ?_
  obtain ⟨ck319, hyp⟩ := hyp
  refine mf_cast (mf_dat eX12_init_p6 39 rfl) ck316 rfl (by decide) ck319 (by decide) ?_
  generalize qh320 : mf_up h318 v315 1 116 = h320
  replace hyp := hyp _ qh320.symm
  refine mf_dup (mf_dat eX12_init_p6 40 rfl) (by decide) ?_
  refine mf_iconst (v := 2) (mf_dat eX12_init_p6 41 rfl) (by decide) ?_
  refine mf_bipush (v := 104) (mf_dat eX12_init_p6 42 rfl) (by decide) ?_
  obtain ⟨ck321, hyp⟩ := hyp
  refine mf_cast (mf_dat eX12_init_p6 43 rfl) ck316 rfl (by decide) ck321 (by decide) ?_
  generalize qh322 : mf_up h320 v315 2 104 = h322
  replace hyp := hyp _ qh322.symm
  refine mf_dup (mf_dat eX12_init_p6 44 rfl) (by decide) ?_
  refine mf_iconst (v := 3) (mf_dat eX12_init_p6 45 rfl) (by decide) ?_
  refine mf_bipush (v := 101) (mf_dat eX12_init_p6 46 rfl) (by decide) ?_
  obtain ⟨ck323, hyp⟩ := hyp
  refine mf_cast (mf_dat eX12_init_p6 47 rfl) ck316 rfl (by decide) ck323 (by decide) ?_
  generalize qh324 : mf_up h322 v315 3 101 = h324
  replace hyp := hyp _ qh324.symm
  refine mf_dup (mf_dat eX12_init_p6 48 rfl) (by decide) ?_
  refine mf_iconst (v := 4) (mf_dat eX12_init_p6 49 rfl) (by decide) ?_
  refine mf_bipush (v := 114) (mf_dat eX12_init_p6 50 rfl) (by decide) ?_
  obtain ⟨ck325, hyp⟩ := hyp
  refine mf_cast (mf_dat eX12_init_p6 51 rfl) ck316 rfl (by decide) ck325 (by decide) ?_
  generalize qh326 : mf_up h324 v315 4 114 = h326
  replace hyp := hyp _ qh326.symm
  obtain ⟨ck327, hyp⟩ := hyp
  refine mf_putRF (r := (RX12, TX12, 106)) (ci := 12) (k := 29) (kI := 29) (t := 2) (mf_dat eX12_init_p6 52 rfl) fl_X12_75 rfl rfl (by decide) rfl (by decide) rfl rfl rfl (by decide) (fun h9 => absurd h9 (by decide)) ck327 ?_
  generalize qg328 : mf_up g310 x0 29 v315 = g328
  replace hyp := hyp _ qg328.symm
  refine mf_aload_n (mf_dat eX12_init_p6 53 rfl) rfl rfl ?_
  refine mf_bipush (v := 6) (mf_dat eX12_init_p6 54 rfl) (by decide) ?_
  obtain ⟨ck329, hyp⟩ := hyp
  obtain ⟨ck330, hyp⟩ := hyp
  obtain ⟨ck331, hyp⟩ := hyp
  obtain ⟨ck332, hyp⟩ := hyp
  refine mf_newa (at_ := .char) (i := 3) (mf_dat eX12_init_p6 55 rfl) ac_23 rfl ck329 rfl (by decide) rfl rfl (by decide) (fun c h9 => FieldType.noConfusion h9) (by decide) ck330 ck331 ck332 ?_
  generalize qv333 : ((n0 + 21 : Nat) : Int) = v333
  replace hyp := hyp _ qv333.symm
  refine mf_dup (mf_dat eX12_init_p6 56 rfl) (by decide) ?_
  refine mf_iconst (v := 0) (mf_dat eX12_init_p6 57 rfl) (by decide) ?_
  refine mf_bipush (v := 110) (mf_dat eX12_init_p6 58 rfl) (by decide) ?_
  obtain ⟨ck334, hyp⟩ := hyp
  obtain ⟨ck335, hyp⟩ := hyp
  refine mf_cast (mf_dat eX12_init_p6 59 rfl) ck334 rfl (by decide) ck335 (by decide) ?_
  generalize qh336 : mf_up h326 v333 0 110 = h336
  replace hyp := hyp _ qh336.symm
  refine mf_dup (mf_dat eX12_init_p7 0 rfl) (by decide) ?_
  refine mf_iconst (v := 1) (mf_dat eX12_init_p7 1 rfl) (by decide) ?_
  refine mf_bipush (v := 117) (mf_dat eX12_init_p7 2 rfl) (by decide) ?_
  obtain ⟨ck337, hyp⟩ := hyp
  refine mf_cast (mf_dat eX12_init_p7 3 rfl) ck334 rfl (by decide) ck337 (by decide) ?_
  generalize qh338 : mf_up h336 v333 1 117 = h338
  replace hyp := hyp _ qh338.symm
  refine mf_dup (mf_dat eX12_init_p7 4 rfl) (by decide) ?_
  refine mf_iconst (v := 2) (mf_dat eX12_init_p7 5 rfl) (by decide) ?_
  refine mf_bipush (v := 109) (mf_dat eX12_init_p7 6 rfl) (by decide) ?_
  obtain ⟨ck339, hyp⟩ := hyp
  refine mf_cast (mf_dat eX12_init_p7 7 rfl) ck334 rfl (by decide) ck339 (by decide) ?_
  generalize qh340 : mf_up h338 v333 2 109 = h340
  replace hyp := hyp _ qh340.symm
  refine mf_dup (mf_dat eX12_init_p7 8 rfl) (by decide) ?_
  refine mf_iconst (v := 3) (mf_dat eX12_init_p7 9 rfl) (by decide) ?_
  refine mf_bipush (v := 98) (mf_dat eX12_init_p7 10 rfl) (by decide) ?_
  obtain ⟨ck341, hyp⟩ := hyp
  refine mf_cast (mf_dat eX12_init_p7 11 rfl) ck334 rfl (by decide) ck341 (by decide) ?_
  generalize qh342 : mf_up h340 v333 3 98 = h342
  replace hyp := hyp _ qh342.symm
  refine mf_dup (mf_dat eX12_init_p7 12 rfl) (by decide) ?_
  refine mf_iconst (v := 4) (mf_dat eX12_init_p7 13 rfl) (by decide) ?_
  refine mf_bipush (v := 101) (mf_dat eX12_init_p7 14 rfl) (by decide) ?_
  obtain ⟨ck343, hyp⟩ := hyp
  refine mf_cast (mf_dat eX12_init_p7 15 rfl) ck334 rfl (by decide) ck343 (by decide) ?_
  generalize qh344 : mf_up h342 v333 4 101 = h344
  replace hyp := hyp _ qh344.symm
  refine mf_dup (mf_dat eX12_init_p7 16 rfl) (by decide) ?_
  refine mf_iconst (v := 5) (mf_dat eX12_init_p7 17 rfl) (by decide) ?_
  refine mf_bipush (v := 114) (mf_dat eX12_init_p7 18 rfl) (by decide) ?_
  obtain ⟨ck345, hyp⟩ := hyp
  refine mf_cast (mf_dat eX12_init_p7 19 rfl) ck334 rfl (by decide) ck345 (by decide) ?_
  generalize qh346 : mf_up h344 v333 5 114 = h346
  replace hyp := hyp _ qh346.symm
  obtain ⟨ck347, hyp⟩ := hyp
  refine mf_putRF (r := (RX12, TX12, 106)) (ci := 12) (k := 30) (kI := 30) (t := 2) (mf_dat eX12_init_p7 20 rfl) fl_X12_78 rfl rfl (by decide) rfl (by decide) rfl rfl rfl (by decide) (fun h9 => absurd h9 (by decide)) ck347 ?_
  generalize qg348 : mf_up g328 x0 30 v333 = g348
  replace hyp := hyp _ qg348.symm
  refine mf_aload_n (mf_dat eX12_init_p7 21 rfl) rfl rfl ?_
  refine mf_iconst (v := 3) (mf_dat eX12_init_p7 22 rfl) (by decide) ?_
  obtain ⟨ck349, hyp⟩ := hyp
  obtain ⟨ck350, hyp⟩ := hyp
  obtain ⟨ck351, hyp⟩ := hyp
  obtain ⟨ck352, hyp⟩ := hyp
  refine mf_newa (at_ := .char) (i := 3) (mf_dat eX12_init_p7 23 rfl) ac_23 rfl ck349 rfl (by decide) rfl rfl (by decide) (fun c h9 => FieldType.noConfusion h9) (by decide) ck350 ck351 ck352 ?_
  generalize qv353 : ((n0 + 22 : Nat) : Int) = v353
  replace hyp := hyp _ qv353.symm
  refine mf_dup (mf_dat eX12_init_p7 24 rfl) (by decide) ?_
  refine mf_iconst (v := 0) (mf_dat eX12_init_p7 25 rfl) (by decide) ?_
  refine mf_bipush (v := 109) (mf_dat eX12_init_p7 26 rfl) (by decide) ?_
  obtain ⟨ck354, hyp⟩ := hyp
  obtain ⟨ck355, hyp⟩ := hyp
  refine mf_cast (mf_dat eX12_init_p7 27 rfl) ck354 rfl (by decide) ck355 (by decide) ?_
  generalize qh356 : mf_up h346 v353 0 109 = h356
  replace hyp := hyp _ qh356.symm
  refine mf_dup (mf_dat eX12_init_p7 28 rfl) (by decide) ?_
  refine mf_iconst (v := 1) (mf_dat eX12_init_p7 29 rfl) (by decide) ?_
  refine mf_bipush (v := 101) (mf_dat eX12_init_p7 30 rfl) (by decide) ?_
  obtain ⟨ck357, hyp⟩ := hyp
  refine mf_cast (mf_dat eX12_init_p7 31 rfl) ck354 rfl (by decide) ck357 (by decide) ?_
  generalize qh358 : mf_up h356 v353 1 101 = h358
  replace hyp := hyp _ qh358.symm
  refine mf_dup (mf_dat eX12_init_p7 32 rfl) (by decide) ?_
  refine mf_iconst (v := 2) (mf_dat eX12_init_p7 33 rfl) (by decide) ?_
  refine mf_bipush (v := 116) (mf_dat eX12_init_p7 34 rfl) (by decide) ?_
  obtain ⟨ck359, hyp⟩ := hyp
  refine mf_cast (mf_dat eX12_init_p7 35 rfl) ck354 rfl (by decide) ck359 (by decide) ?_
  generalize qh360 : mf_up h358 v353 2 116 = h360
  replace hyp := hyp _ qh360.symm
  obtain ⟨ck361, hyp⟩ := hyp
  refine mf_putRF (r := (RX12, TX12, 106)) (ci := 12) (k := 31) (kI := 31) (t := 2) (mf_dat eX12_init_p7 36 rfl) fl_X12_81 rfl rfl (by decide) rfl (by decide) rfl rfl rfl (by decide) (fun h9 => absurd h9 (by decide)) ck361 ?_
  generalize qg362 : mf_up g348 x0 31 v353 = g362
  replace hyp := hyp _ qg362.symm
  refine mf_aload_n (mf_dat eX12_init_p7 37 rfl) rfl rfl ?_
  refine mf_iconst (v := 5) (mf_dat eX12_init_p7 38 rfl) (by decide) ?_
  obtain ⟨ck363, hyp⟩ := hyp
  obtain ⟨ck364, hyp⟩ := hyp
  obtain ⟨ck365, hyp⟩ := hyp
  obtain ⟨ck366, hyp⟩ := hyp
  refine mf_newa (at_ := .char) (i := 3) (mf_dat eX12_init_p7 39 rfl) ac_23 rfl ck363 rfl (by decide) rfl rfl (by decide) (fun c h9 => FieldType.noConfusion h9) (by decide) ck364 ck365 ck366 ?_
  generalize qv367 : ((n0 + 23 : Nat) : Int) = v367
  replace hyp := hyp _ qv367.symm
  refine mf_dup (mf_dat eX12_init_p7 40 rfl) (by decide) ?_
  refine mf_iconst (v := 0) (mf_dat eX12_init_p7 41 rfl) (by decide) ?_
  refine mf_bipush (v := 109) (mf_dat eX12_init_p7 42 rfl) (by decide) ?_
  obtain ⟨ck368, hyp⟩ := hyp
  obtain ⟨ck369, hyp⟩ := hyp
  refine mf_cast (mf_dat eX12_init_p7 43 rfl) ck368 rfl (by decide) ck369 (by decide) ?_
  generalize qh370 : mf_up h360 v367 0 109 = h370
  replace hyp := hyp _ qh370.symm
  refine mf_dup (mf_dat eX12_init_p7 44 rfl) (by decide) ?_
  refine mf_iconst (v := 1) (mf_dat eX12_init_p7 45 rfl) (by decide) ?_
  refine mf_bipush (v := 101) (mf_dat eX12_init_p7 46 rfl) (by decide) ?_
  obtain ⟨ck371, hyp⟩ := hyp
  refine mf_cast (mf_dat eX12_init_p7 47 rfl) ck368 rfl (by decide) ck371 (by decide) ?_
  generalize qh372 : mf_up h370 v367 1 101 = h372
  replace hyp := hyp _ qh372.symm
  refine mf_dup (mf_dat eX12_init_p7 48 rfl) (by decide) ?_
  refine mf_iconst (v := 2) (mf_dat eX12_init_p7 49 rfl) (by decide) ?_
  refine mf_bipush (v := 101) (mf_dat eX12_init_p7 50 rfl) (by decide) ?_
  obtain ⟨ck373, hyp⟩ := hyp
  refine mf_cast (mf_dat eX12_init_p7 51 rfl) ck368 rfl (by decide) ck373 (by decide) ?_
  generalize qh374 : mf_up h372 v367 2 101 = h374
  replace hyp := hyp _ qh374.symm
  refine mf_dup (mf_dat eX12_init_p7 52 rfl) (by decide) ?_
  refine mf_iconst (v := 3) (mf_dat eX12_init_p7 53 rfl) (by decide) ?_
  refine mf_bipush (v := 116) (mf_dat eX12_init_p7 54 rfl) (by decide) ?_
  obtain ⟨ck375, hyp⟩ := hyp
  refine mf_cast (mf_dat eX12_init_p7 55 rfl) ck368 rfl (by decide) ck375 (by decide) ?_
  generalize qh376 : mf_up h374 v367 3 116 = h376
  replace hyp := hyp _ qh376.symm
  refine mf_dup (mf_dat eX12_init_p7 56 rfl) (by decide) ?_
  refine mf_iconst (v := 4) (mf_dat eX12_init_p7 57 rfl) (by decide) ?_
  refine mf_bipush (v := 115) (mf_dat eX12_init_p7 58 rfl) (by decide) ?_
  obtain ⟨ck377, hyp⟩ := hyp
  refine mf_cast (mf_dat eX12_init_p7 59 rfl) ck368 rfl (by decide) ck377 (by decide) ?_
  generalize qh378 : mf_up h376 v367 4 115 = h378
  replace hyp := hyp _ qh378.symm
  obtain ⟨ck379, hyp⟩ := hyp
  refine mf_putRF (r := (RX12, TX12, 106)) (ci := 12) (k := 32) (kI := 32) (t := 2) (mf_dat eX12_init_p8 0 rfl) fl_X12_84 rfl rfl (by decide) rfl (by decide) rfl rfl rfl (by decide) (fun h9 => absurd h9 (by decide)) ck379 ?_
  generalize qg380 : mf_up g362 x0 32 v367 = g380
  replace hyp := hyp _ qg380.symm
  refine mf_aload_n (mf_dat eX12_init_p8 1 rfl) rfl rfl ?_
  refine mf_iconst (v := 2) (mf_dat eX12_init_p8 2 rfl) (by decide) ?_
  obtain ⟨ck381, hyp⟩ := hyp
  obtain ⟨ck382, hyp⟩ := hyp
  obtain ⟨ck383, hyp⟩ := hyp
  obtain ⟨ck384, hyp⟩ := hyp
  refine mf_newa (at_ := .char) (i := 3) (mf_dat eX12_init_p8 3 rfl) ac_23 rfl ck381 rfl (by decide) rfl rfl (by decide) (fun c h9 => FieldType.noConfusion h9) (by decide) ck382 ck383 ck384 ?_
  generalize qv385 : ((n0 + 24 : Nat) : Int) = v385
  replace hyp := hyp _ qv385.symm
  refine mf_dup (mf_dat eX12_init_p8 4 rfl) (by decide) ?_
  refine mf_iconst (v := 0) (mf_dat eX12_init_p8 5 rfl) (by decide) ?_
  refine mf_bipush (v := 111) (mf_dat eX12_init_p8 6 rfl) (by decide) ?_
  obtain ⟨ck386, hyp⟩ := hyp
  obtain ⟨ck387, hyp⟩ := hyp
  refine mf_cast (mf_dat eX12_init_p8 7 rfl) ck386 rfl (by decide) ck387 (by decide) ?_
  generalize qh388 : mf_up h378 v385 0 111 = h388
  replace hyp := hyp _ qh388.symm
  refine mf_dup (mf_dat eX12_init_p8 8 rfl) (by decide) ?_
  refine mf_iconst (v := 1) (mf_dat eX12_init_p8 9 rfl) (by decide) ?_
  refine mf_bipush (v := 114) (mf_dat eX12_init_p8 10 rfl) (by decide) ?_
  obtain ⟨ck389, hyp⟩ := hyp
  refine mf_cast (mf_dat eX12_init_p8 11 rfl) ck386 rfl (by decide) ck389 (by decide) ?_
  generalize qh390 : mf_up h388 v385 1 114 = h390
  replace hyp := hyp _ qh390.symm
  obtain ⟨ck391, hyp⟩ := hyp
  refine mf_putRF (r := (RX12, TX12, 106)) (ci := 12) (k := 33) (kI := 33) (t := 2) (mf_dat eX12_init_p8 12 rfl) fl_X12_87 rfl rfl (by decide) rfl (by decide) rfl rfl rfl (by decide) (fun h9 => absurd h9 (by decide)) ck391 ?_
  generalize qg392 : mf_up g380 x0 33 v385 = g392
  replace hyp := hyp _ qg392.symm
  refine mf_aload_n (mf_dat eX12_init_p8 13 rfl) rfl rfl ?_
  refine mf_iconst (v := 3) (mf_dat eX12_init_p8 14 rfl) (by decide) ?_
  obtain ⟨ck393, hyp⟩ := hyp
  obtain ⟨ck394, hyp⟩ := hyp
  obtain ⟨ck395, hyp⟩ := hyp
  obtain ⟨ck396, hyp⟩ := hyp
  refine mf_newa (at_ := .char) (i := 3) (mf_dat eX12_init_p8 15 rfl) ac_23 rfl ck393 rfl (by decide) rfl rfl (by decide) (fun c h9 => FieldType.noConfusion h9) (by decide) ck394 ck395 ck396 ?_
  generalize qv397 : ((n0 + 25 : Nat) : Int) = v397
  replace hyp := hyp _ qv397.symm
  refine mf_dup (mf_dat eX12_init_p8 16 rfl) (by decide) ?_
  refine mf_iconst (v := 0) (mf_dat eX12_init_p8 17 rfl) (by decide) ?_
  refine mf_bipush (v := 97) (mf_dat eX12_init_p8 18 rfl) (by decide) ?_
  obtain ⟨ck398, hyp⟩ := hyp
  obtain ⟨ck399, hyp⟩ := hyp
  refine mf_cast (mf_dat eX12_init_p8 19 rfl) ck398 rfl (by decide) ck399 (by decide) ?_
  generalize qh400 : mf_up h390 v397 0 97 = h400
  replace hyp := hyp _ qh400.symm
  refine mf_dup (mf_dat eX12_init_p8 20 rfl) (by decide) ?_
  refine mf_iconst (v := 1) (mf_dat eX12_init_p8 21 rfl) (by decide) ?_
  refine mf_bipush (v := 110) (mf_dat eX12_init_p8 22 rfl) (by decide) ?_
  obtain ⟨ck401, hyp⟩ := hyp
  refine mf_cast (mf_dat eX12_init_p8 23 rfl) ck398 rfl (by decide) ck401 (by decide) ?_
  generalize qh402 : mf_up h400 v397 1 110 = h402
  replace hyp := hyp _ qh402.symm
  refine mf_dup (mf_dat eX12_init_p8 24 rfl) (by decide) ?_
  refine mf_iconst (v := 2) (mf_dat eX12_init_p8 25 rfl) (by decide) ?_
  refine mf_bipush (v := 100) (mf_dat eX12_init_p8 26 rfl) (by decide) ?_
  obtain ⟨ck403, hyp⟩ := hyp
  refine mf_cast (mf_dat eX12_init_p8 27 rfl) ck398 rfl (by decide) ck403 (by decide) ?_
  generalize qh404 : mf_up h402 v397 2 100 = h404
  replace hyp := hyp _ qh404.symm
  obtain ⟨ck405, hyp⟩ := hyp
  refine mf_putRF (r := (RX12, TX12, 106)) (ci := 12) (k := 34) (kI := 34) (t := 2) (mf_dat eX12_init_p8 28 rfl) fl_X12_90 rfl rfl (by decide) rfl (by decide) rfl rfl rfl (by decide) (fun h9 => absurd h9 (by decide)) ck405 ?_
  generalize qg406 : mf_up g392 x0 34 v397 = g406
  replace hyp := hyp _ qg406.symm
  refine mf_aload_n (mf_dat eX12_init_p8 29 rfl) rfl rfl ?_
  refine mf_iconst (v := 3) (mf_dat eX12_init_p8 30 rfl) (by decide) ?_
  obtain ⟨ck407, hyp⟩ := hyp
  obtain ⟨ck408, hyp⟩ := hyp
  obtain ⟨ck409, hyp⟩ := hyp
  obtain ⟨ck410, hyp⟩ := hyp
  refine mf_newa (at_ := .char) (i := 3) (mf_dat eX12_init_p8 31 rfl) ac_23 rfl ck407 rfl (by decide) rfl rfl (by decide) (fun c h9 => FieldType.noConfusion h9) (by decide) ck408 ck409 ck410 ?_
  generalize qv411 : ((n0 + 26 : Nat) : Int) = v411
  replace hyp := hyp _ qv411.symm
  refine mf_dup (mf_dat eX12_init_p8 32 rfl) (by decide) ?_
  refine mf_iconst (v := 0) (mf_dat eX12_init_p8 33 rfl) (by decide) ?_
  refine mf_bipush (v := 110) (mf_dat eX12_init_p8 34 rfl) (by decide) ?_
  obtain ⟨ck412, hyp⟩ := hyp
  obtain ⟨ck413, hyp⟩ := hyp
  refine mf_cast (mf_dat eX12_init_p8 35 rfl) ck412 rfl (by decide) ck413 (by decide) ?_
  generalize qh414 : mf_up h404 v411 0 110 = h414
  replace hyp := hyp _ qh414.symm
  refine mf_dup (mf_dat eX12_init_p8 36 rfl) (by decide) ?_
  refine mf_iconst (v := 1) (mf_dat eX12_init_p8 37 rfl) (by decide) ?_
  refine mf_bipush (v := 111) (mf_dat eX12_init_p8 38 rfl) (by decide) ?_
  obtain ⟨ck415, hyp⟩ := hyp
  refine mf_cast (mf_dat eX12_init_p8 39 rfl) ck412 rfl (by decide) ck415 (by decide) ?_
  generalize qh416 : mf_up h414 v411 1 111 = h416
  replace hyp := hyp _ qh416.symm
  refine mf_dup (mf_dat eX12_init_p8 40 rfl) (by decide) ?_
  refine mf_iconst (v := 2) (mf_dat eX12_init_p8 41 rfl) (by decide) ?_
  refine mf_bipush (v := 116) (mf_dat eX12_init_p8 42 rfl) (by decide) ?_
  obtain ⟨ck417, hyp⟩ := hyp
  refine mf_cast (mf_dat eX12_init_p8 43 rfl) ck412 rfl (by decide) ck417 (by decide) ?_
  generalize qh418 : mf_up h416 v411 2 116 = h418
  replace hyp := hyp _ qh418.symm
  obtain ⟨ck419, hyp⟩ := hyp
  refine mf_putRF (r := (RX12, TX12, 106)) (ci := 12) (k := 35) (kI := 35) (t := 2) (mf_dat eX12_init_p8 44 rfl) fl_X12_93 rfl rfl (by decide) rfl (by decide) rfl rfl rfl (by decide) (fun h9 => absurd h9 (by decide)) ck419 ?_
  generalize qg420 : mf_up g406 x0 35 v411 = g420
  replace hyp := hyp _ qg420.symm
  refine mf_aload_n (mf_dat eX12_init_p8 45 rfl) rfl rfl ?_
  refine mf_iconst (v := 3) (mf_dat eX12_init_p8 46 rfl) (by decide) ?_
  obtain ⟨ck421, hyp⟩ := hyp
  obtain ⟨ck422, hyp⟩ := hyp
  obtain ⟨ck423, hyp⟩ := hyp
  obtain ⟨ck424, hyp⟩ := hyp
  refine mf_newa (at_ := .char) (i := 3) (mf_dat eX12_init_p8 47 rfl) ac_23 rfl ck421 rfl (by decide) rfl rfl (by decide) (fun c h9 => FieldType.noConfusion h9) (by decide) ck422 ck423 ck424 ?_
  generalize qv425 : ((n0 + 27 : Nat) : Int) = v425
  replace hyp := hyp _ qv425.symm
  refine mf_dup (mf_dat eX12_init_p8 48 rfl) (by decide) ?_
  refine mf_iconst (v := 0) (mf_dat eX12_init_p8 49 rfl) (by decide) ?_
  refine mf_bipush (v := 97) (mf_dat eX12_init_p8 50 rfl) (by decide) ?_
  obtain ⟨ck426, hyp⟩ := hyp
  obtain ⟨ck427, hyp⟩ := hyp
  refine mf_cast (mf_dat eX12_init_p8 51 rfl) ck426 rfl (by decide) ck427 (by decide) ?_
  generalize qh428 : mf_up h418 v425 0 97 = h428
  replace hyp := hyp _ qh428.symm
  refine mf_dup (mf_dat eX12_init_p8 52 rfl) (by decide) ?_
  refine mf_iconst (v := 1) (mf_dat eX12_init_p8 53 rfl) (by decide) ?_
  refine mf_bipush (v := 108) (mf_dat eX12_init_p8 54 rfl) (by decide) ?_
  obtain ⟨ck429, hyp⟩ := hyp
  refine mf_cast (mf_dat eX12_init_p8 55 rfl) ck426 rfl (by decide) ck429 (by decide) ?_
  generalize qh430 : mf_up h428 v425 1 108 = h430
  replace hyp := hyp _ qh430.symm
  refine mf_dup (mf_dat eX12_init_p8 56 rfl) (by decide) ?_
  refine mf_iconst (v := 2) (mf_dat eX12_init_p8 57 rfl) (by decide) ?_
  refine mf_bipush (v := 108) (mf_dat eX12_init_p8 58 rfl) (by decide) ?_
  obtain ⟨ck431, hyp⟩ := hyp
  refine mf_cast (mf_dat eX12_init_p8 59 rfl) ck426 rfl (by decide) ck431 (by decide) ?_
  generalize qh432 : mf_up h430 v425 2 108 = h432
  replace hyp := hyp _ qh432.symm
  obtain ⟨ck433, hyp⟩ := hyp
  refine mf_putRF (r := (RX12, TX12, 106)) (ci := 12) (k := 36) (kI := 36) (t := 2) (mf_dat eX12_init_p9 0 rfl) fl_X12_96 rfl rfl (by decide) rfl (by decide) rfl rfl rfl (by decide) (fun h9 => absurd h9 (by decide)) ck433 ?_
  generalize qg434 : mf_up g420 x0 36 v425 = g434
  replace hyp := hyp _ qg434.symm
  refine mf_aload_n (mf_dat eX12_init_p9 1 rfl) rfl rfl ?_
  refine mf_iconst (v := 3) (mf_dat eX12_init_p9 2 rfl) (by decide) ?_
  obtain ⟨ck435, hyp⟩ := hyp
  obtain ⟨ck436, hyp⟩ := hyp
  obtain ⟨ck437, hyp⟩ := hyp
  obtain ⟨ck438, hyp⟩ := hyp
  refine mf_newa (at_ := .char) (i := 3) (mf_dat eX12_init_p9 3 rfl) ac_23 rfl ck435 rfl (by decide) rfl rfl (by decide) (fun c h9 => FieldType.noConfusion h9) (by decide) ck436 ck437 ck438 ?_
  generalize qv439 : ((n0 + 28 : Nat) : Int) = v439
  replace hyp := hyp _ qv439.symm
  refine mf_dup (mf_dat eX12_init_p9 4 rfl) (by decide) ?_
  refine mf_iconst (v := 0) (mf_dat eX12_init_p9 5 rfl) (by decide) ?_
  refine mf_bipush (v := 109) (mf_dat eX12_init_p9 6 rfl) (by decide) ?_
  obtain ⟨ck440, hyp⟩ := hyp
  obtain ⟨ck441, hyp⟩ := hyp
  refine mf_cast (mf_dat eX12_init_p9 7 rfl) ck440 rfl (by decide) ck441 (by decide) ?_
  generalize qh442 : mf_up h432 v439 0 109 = h442
  replace hyp := hyp _ qh442.symm
  refine mf_dup (mf_dat eX12_init_p9 8 rfl) (by decide) ?_
  refine mf_iconst (v := 1) (mf_dat eX12_init_p9 9 rfl) (by decide) ?_
  refine mf_bipush (v := 105) (mf_dat eX12_init_p9 10 rfl) (by decide) ?_
  obtain ⟨ck443, hyp⟩ := hyp
  refine mf_cast (mf_dat eX12_init_p9 11 rfl) ck440 rfl (by decide) ck443 (by decide) ?_
  generalize qh444 : mf_up h442 v439 1 105 = h444
  replace hyp := hyp _ qh444.symm
  refine mf_dup (mf_dat eX12_init_p9 12 rfl) (by decide) ?_
  refine mf_iconst (v := 2) (mf_dat eX12_init_p9 13 rfl) (by decide) ?_
  refine mf_bipush (v := 110) (mf_dat eX12_init_p9 14 rfl) (by decide) ?_
  obtain ⟨ck445, hyp⟩ := hyp
  refine mf_cast (mf_dat eX12_init_p9 15 rfl) ck440 rfl (by decide) ck445 (by decide) ?_
  generalize qh446 : mf_up h444 v439 2 110 = h446
  replace hyp := hyp _ qh446.symm
  obtain ⟨ck447, hyp⟩ := hyp
  refine mf_putRF (r := (RX12, TX12, 106)) (ci := 12) (k := 37) (kI := 37) (t := 2) (mf_dat eX12_init_p9 16 rfl) fl_X12_99 rfl rfl (by decide) rfl (by decide) rfl rfl rfl (by decide) (fun h9 => absurd h9 (by decide)) ck447 ?_
  generalize qg448 : mf_up g434 x0 37 v439 = g448
  replace hyp := hyp _ qg448.symm
  refine mf_aload_n (mf_dat eX12_init_p9 17 rfl) rfl rfl ?_
  refine mf_iconst (v := 3) (mf_dat eX12_init_p9 18 rfl) (by decide) ?_
  obtain ⟨ck449, hyp⟩ := hyp
  obtain ⟨ck450, hyp⟩ := hyp
  obtain ⟨ck451, hyp⟩ := hyp
  obtain ⟨ck452, hyp⟩ := hyp
  refine mf_newa (at_ := .char) (i := 3) (mf_dat eX12_init_p9 19 rfl) ac_23 rfl ck449 rfl (by decide) rfl rfl (by decide) (fun c h9 => FieldType.noConfusion h9) (by decide) ck450 ck451 ck452 ?_
  generalize qv453 : ((n0 + 29 : Nat) : Int) = v453
  replace hyp := hyp _ qv453.symm
  refine mf_dup (mf_dat eX12_init_p9 20 rfl) (by decide) ?_
  refine mf_iconst (v := 0) (mf_dat eX12_init_p9 21 rfl) (by decide) ?_
  refine mf_bipush (v := 109) (mf_dat eX12_init_p9 22 rfl) (by decide) ?_
  obtain ⟨ck454, hyp⟩ := hyp
  obtain ⟨ck455, hyp⟩ := hyp
  refine mf_cast (mf_dat eX12_init_p9 23 rfl) ck454 rfl (by decide) ck455 (by decide) ?_
  generalize qh456 : mf_up h446 v453 0 109 = h456
  replace hyp := hyp _ qh456.symm
  refine mf_dup (mf_dat eX12_init_p9 24 rfl) (by decide) ?_
  refine mf_iconst (v := 1) (mf_dat eX12_init_p9 25 rfl) (by decide) ?_
  refine mf_bipush (v := 97) (mf_dat eX12_init_p9 26 rfl) (by decide) ?_
  obtain ⟨ck457, hyp⟩ := hyp
  refine mf_cast (mf_dat eX12_init_p9 27 rfl) ck454 rfl (by decide) ck457 (by decide) ?_
  generalize qh458 : mf_up h456 v453 1 97 = h458
  replace hyp := hyp _ qh458.symm
  refine mf_dup (mf_dat eX12_init_p9 28 rfl) (by decide) ?_
  refine mf_iconst (v := 2) (mf_dat eX12_init_p9 29 rfl) (by decide) ?_
  refine mf_bipush (v := 120) (mf_dat eX12_init_p9 30 rfl) (by decide) ?_
  obtain ⟨ck459, hyp⟩ := hyp
  refine mf_cast (mf_dat eX12_init_p9 31 rfl) ck454 rfl (by decide) ck459 (by decide) ?_
  generalize qh460 : mf_up h458 v453 2 120 = h460
  replace hyp := hyp _ qh460.symm
  obtain ⟨ck461, hyp⟩ := hyp
  refine mf_putRF (r := (RX12, TX12, 106)) (ci := 12) (k := 38) (kI := 38) (t := 2) (mf_dat eX12_init_p9 32 rfl) fl_X12_102 rfl rfl (by decide) rfl (by decide) rfl rfl rfl (by decide) (fun h9 => absurd h9 (by decide)) ck461 ?_
  generalize qg462 : mf_up g448 x0 38 v453 = g462
  replace hyp := hyp _ qg462.symm
  refine mf_aload_n (mf_dat eX12_init_p9 33 rfl) rfl rfl ?_
  refine mf_iconst (v := 4) (mf_dat eX12_init_p9 34 rfl) (by decide) ?_
  obtain ⟨ck463, hyp⟩ := hyp
  obtain ⟨ck464, hyp⟩ := hyp
  obtain ⟨ck465, hyp⟩ := hyp
  obtain ⟨ck466, hyp⟩ := hyp
  refine mf_newa (at_ := .int) (i := 0) (mf_dat eX12_init_p9 35 rfl) ac_20 rfl ck463 rfl (by decide) rfl rfl (by decide) (fun c h9 => FieldType.noConfusion h9) (by decide) ck464 ck465 ck466 ?_
  obtain ⟨ck467, hyp⟩ := hyp
  refine mf_putRF (r := (RX12, TX12, 106)) (ci := 12) (k := 40) (kI := 40) (t := 2) (mf_dat eX12_init_p9 36 rfl) fl_X12_105 rfl rfl (by decide) rfl (by decide) rfl rfl rfl (by decide) (fun h9 => absurd h9 (by decide)) ck467 ?_
  generalize qg468 : mf_up g462 x0 40 ((n0 + 30 : Nat) : Int) = g468
  replace hyp := hyp _ qg468.symm
  refine mf_aload_n (mf_dat eX12_init_p9 37 rfl) rfl rfl ?_
  refine mf_bipush (v := 6) (mf_dat eX12_init_p9 38 rfl) (by decide) ?_
  obtain ⟨ck469, hyp⟩ := hyp
  obtain ⟨ck470, hyp⟩ := hyp
  obtain ⟨ck471, hyp⟩ := hyp
  obtain ⟨ck472, hyp⟩ := hyp
  refine mf_newa (at_ := .int) (i := 0) (mf_dat eX12_init_p9 39 rfl) ac_20 rfl ck469 rfl (by decide) rfl rfl (by decide) (fun c h9 => FieldType.noConfusion h9) (by decide) ck470 ck471 ck472 ?_
  obtain ⟨ck473, hyp⟩ := hyp
  refine mf_putRF (r := (RX12, TX12, 106)) (ci := 12) (k := 41) (kI := 41) (t := 2) (mf_dat eX12_init_p9 40 rfl) fl_X12_108 rfl rfl (by decide) rfl (by decide) rfl rfl rfl (by decide) (fun h9 => absurd h9 (by decide)) ck473 ?_
  generalize qg474 : mf_up g468 x0 41 ((n0 + 31 : Nat) : Int) = g474
  replace hyp := hyp _ qg474.symm
  refine mf_aload_n (mf_dat eX12_init_p9 41 rfl) rfl rfl ?_
  refine mf_bipush (v := 16) (mf_dat eX12_init_p9 42 rfl) (by decide) ?_
  obtain ⟨ck475, hyp⟩ := hyp
  obtain ⟨ck476, hyp⟩ := hyp
  obtain ⟨ck477, hyp⟩ := hyp
  obtain ⟨ck478, hyp⟩ := hyp
  refine mf_newa (at_ := .long) (i := 4) (mf_dat eX12_init_p9 43 rfl) ac_24 rfl ck475 rfl (by decide) rfl rfl (by decide) (fun c h9 => FieldType.noConfusion h9) (by decide) ck476 ck477 ck478 ?_
  obtain ⟨ck479, hyp⟩ := hyp
  refine mf_putRF (r := (RX12, TX12, 106)) (ci := 12) (k := 42) (kI := 42) (t := 2) (mf_dat eX12_init_p9 44 rfl) fl_X12_111 rfl rfl (by decide) rfl (by decide) rfl rfl rfl (by decide) (fun h9 => absurd h9 (by decide)) ck479 ?_
  generalize qg480 : mf_up g474 x0 42 ((n0 + 32 : Nat) : Int) = g480
  replace hyp := hyp _ qg480.symm
  refine mf_aload_n (mf_dat eX12_init_p9 45 rfl) rfl rfl ?_
  refine mf_bipush (v := 6) (mf_dat eX12_init_p9 46 rfl) (by decide) ?_
  obtain ⟨ck481, hyp⟩ := hyp
  obtain ⟨ck482, hyp⟩ := hyp
  obtain ⟨ck483, hyp⟩ := hyp
  obtain ⟨ck484, hyp⟩ := hyp
  refine mf_newa (at_ := .int) (i := 0) (mf_dat eX12_init_p9 47 rfl) ac_20 rfl ck481 rfl (by decide) rfl rfl (by decide) (fun c h9 => FieldType.noConfusion h9) (by decide) ck482 ck483 ck484 ?_
  obtain ⟨ck485, hyp⟩ := hyp
  refine mf_putRF (r := (RX12, TX12, 106)) (ci := 12) (k := 43) (kI := 43) (t := 2) (mf_dat eX12_init_p9 48 rfl) fl_X12_115 rfl rfl (by decide) rfl (by decide) rfl rfl rfl (by decide) (fun h9 => absurd h9 (by decide)) ck485 ?_
  generalize qg486 : mf_up g480 x0 43 ((n0 + 33 : Nat) : Int) = g486
  replace hyp := hyp _ qg486.symm
  refine mf_aload_n (mf_dat eX12_init_p9 49 rfl) rfl rfl ?_
  refine mf_bipush (v := 72) (mf_dat eX12_init_p9 50 rfl) (by decide) ?_
  obtain ⟨ck487, hyp⟩ := hyp
  obtain ⟨ck488, hyp⟩ := hyp
  obtain ⟨ck489, hyp⟩ := hyp
  obtain ⟨ck490, hyp⟩ := hyp
  refine mf_newa (at_ := .int) (i := 0) (mf_dat eX12_init_p9 51 rfl) ac_20 rfl ck487 rfl (by decide) rfl rfl (by decide) (fun c h9 => FieldType.noConfusion h9) (by decide) ck488 ck489 ck490 ?_
  obtain ⟨ck491, hyp⟩ := hyp
  refine mf_putRF (r := (RX12, TX12, 106)) (ci := 12) (k := 44) (kI := 44) (t := 2) (mf_dat eX12_init_p9 52 rfl) fl_X12_118 rfl rfl (by decide) rfl (by decide) rfl rfl rfl (by decide) (fun h9 => absurd h9 (by decide)) ck491 ?_
  generalize qg492 : mf_up g486 x0 44 ((n0 + 34 : Nat) : Int) = g492
  replace hyp := hyp _ qg492.symm
  refine mf_aload_n (mf_dat eX12_init_p9 53 rfl) rfl rfl ?_
  refine mf_bipush (v := 16) (mf_dat eX12_init_p9 54 rfl) (by decide) ?_
  obtain ⟨ck493, hyp⟩ := hyp
  obtain ⟨ck494, hyp⟩ := hyp
  obtain ⟨ck495, hyp⟩ := hyp
  obtain ⟨ck496, hyp⟩ := hyp
  refine mf_newa (at_ := .int) (i := 0) (mf_dat eX12_init_p9 55 rfl) ac_20 rfl ck493 rfl (by decide) rfl rfl (by decide) (fun c h9 => FieldType.noConfusion h9) (by decide) ck494 ck495 ck496 ?_
  obtain ⟨ck497, hyp⟩ := hyp
  refine mf_putRF (r := (RX12, TX12, 106)) (ci := 12) (k := 45) (kI := 45) (t := 2) (mf_dat eX12_init_p9 56 rfl) fl_X12_121 rfl rfl (by decide) rfl (by decide) rfl rfl rfl (by decide) (fun h9 => absurd h9 (by decide)) ck497 ?_
  generalize qg498 : mf_up g492 x0 45 ((n0 + 35 : Nat) : Int) = g498
  replace hyp := hyp _ qg498.symm
  refine mf_aload_n (mf_dat eX12_init_p9 57 rfl) rfl rfl ?_
  refine mf_bipush (v := 16) (mf_dat eX12_init_p9 58 rfl) (by decide) ?_
  obtain ⟨ck499, hyp⟩ := hyp
  obtain ⟨ck500, hyp⟩ := hyp
  obtain ⟨ck501, hyp⟩ := hyp
  obtain ⟨ck502, hyp⟩ := hyp
  refine mf_newa (at_ := .int) (i := 0) (mf_dat eX12_init_p9 59 rfl) ac_20 rfl ck499 rfl (by decide) rfl rfl (by decide) (fun c h9 => FieldType.noConfusion h9) (by decide) ck500 ck501 ck502 ?_
  obtain ⟨ck503, hyp⟩ := hyp
  refine mf_putRF (r := (RX12, TX12, 106)) (ci := 12) (k := 46) (kI := 46) (t := 2) (mf_dat eX12_init_p10 0 rfl) fl_X12_124 rfl rfl (by decide) rfl (by decide) rfl rfl rfl (by decide) (fun h9 => absurd h9 (by decide)) ck503 ?_
  generalize qg504 : mf_up g498 x0 46 ((n0 + 36 : Nat) : Int) = g504
  replace hyp := hyp _ qg504.symm
  refine mf_aload_n (mf_dat eX12_init_p10 1 rfl) rfl rfl ?_
  refine mf_bipush (v := 8) (mf_dat eX12_init_p10 2 rfl) (by decide) ?_
  obtain ⟨ck505, hyp⟩ := hyp
  obtain ⟨ck506, hyp⟩ := hyp
  obtain ⟨ck507, hyp⟩ := hyp
  obtain ⟨ck508, hyp⟩ := hyp
  refine mf_newa (at_ := .int) (i := 0) (mf_dat eX12_init_p10 3 rfl) ac_20 rfl ck505 rfl (by decide) rfl rfl (by decide) (fun c h9 => FieldType.noConfusion h9) (by decide) ck506 ck507 ck508 ?_
  generalize qv509 : ((n0 + 37 : Nat) : Int) = v509
  replace hyp := hyp _ qv509.symm
  refine mf_dup (mf_dat eX12_init_p10 4 rfl) (by decide) ?_
  refine mf_iconst (v := 0) (mf_dat eX12_init_p10 5 rfl) (by decide) ?_
  refine mf_iconst (v := (-1)) (mf_dat eX12_init_p10 6 rfl) (by decide) ?_
  obtain ⟨ck510, hyp⟩ := hyp
  obtain ⟨ck511, hyp⟩ := hyp
  refine mf_iast (mf_dat eX12_init_p10 7 rfl) ck510 rfl (by decide) ck511 ?_
  generalize qh512 : mf_up h460 v509 0 (-1) = h512
  replace hyp := hyp _ qh512.symm
  refine mf_dup (mf_dat eX12_init_p10 8 rfl) (by decide) ?_
  refine mf_iconst (v := 1) (mf_dat eX12_init_p10 9 rfl) (by decide) ?_
  refine mf_iconst (v := (-1)) (mf_dat eX12_init_p10 10 rfl) (by decide) ?_
  obtain ⟨ck513, hyp⟩ := hyp
  refine mf_iast (mf_dat eX12_init_p10 11 rfl) ck510 rfl (by decide) ck513 ?_
  generalize qh514 : mf_up h512 v509 1 (-1) = h514
  replace hyp := hyp _ qh514.symm
  refine mf_dup (mf_dat eX12_init_p10 12 rfl) (by decide) ?_
  refine mf_iconst (v := 2) (mf_dat eX12_init_p10 13 rfl) (by decide) ?_
  refine mf_iconst (v := (-1)) (mf_dat eX12_init_p10 14 rfl) (by decide) ?_
  obtain ⟨ck515, hyp⟩ := hyp
  refine mf_iast (mf_dat eX12_init_p10 15 rfl) ck510 rfl (by decide) ck515 ?_
  generalize qh516 : mf_up h514 v509 2 (-1) = h516
  replace hyp := hyp _ qh516.symm
  refine mf_dup (mf_dat eX12_init_p10 16 rfl) (by decide) ?_
  refine mf_iconst (v := 3) (mf_dat eX12_init_p10 17 rfl) (by decide) ?_
  refine mf_iconst (v := (-1)) (mf_dat eX12_init_p10 18 rfl) (by decide) ?_
  obtain ⟨ck517, hyp⟩ := hyp
  refine mf_iast (mf_dat eX12_init_p10 19 rfl) ck510 rfl (by decide) ck517 ?_
  generalize qh518 : mf_up h516 v509 3 (-1) = h518
  replace hyp := hyp _ qh518.symm
  refine mf_dup (mf_dat eX12_init_p10 20 rfl) (by decide) ?_
  refine mf_iconst (v := 4) (mf_dat eX12_init_p10 21 rfl) (by decide) ?_
  refine mf_iconst (v := (-1)) (mf_dat eX12_init_p10 22 rfl) (by decide) ?_
  obtain ⟨ck519, hyp⟩ := hyp
  refine mf_iast (mf_dat eX12_init_p10 23 rfl) ck510 rfl (by decide) ck519 ?_
  generalize qh520 : mf_up h518 v509 4 (-1) = h520
  replace hyp := hyp _ qh520.symm
  refine mf_dup (mf_dat eX12_init_p10 24 rfl) (by decide) ?_
  refine mf_iconst (v := 5) (mf_dat eX12_init_p10 25 rfl) (by decide) ?_
  refine mf_iconst (v := (-1)) (mf_dat eX12_init_p10 26 rfl) (by decide) ?_
  obtain ⟨ck521, hyp⟩ := hyp
  refine mf_iast (mf_dat eX12_init_p10 27 rfl) ck510 rfl (by decide) ck521 ?_
  generalize qh522 : mf_up h520 v509 5 (-1) = h522
  replace hyp := hyp _ qh522.symm
  refine mf_dup (mf_dat eX12_init_p10 28 rfl) (by decide) ?_
  refine mf_bipush (v := 6) (mf_dat eX12_init_p10 29 rfl) (by decide) ?_
  refine mf_iconst (v := (-1)) (mf_dat eX12_init_p10 30 rfl) (by decide) ?_
  obtain ⟨ck523, hyp⟩ := hyp
  refine mf_iast (mf_dat eX12_init_p10 31 rfl) ck510 rfl (by decide) ck523 ?_
  generalize qh524 : mf_up h522 v509 6 (-1) = h524
  replace hyp := hyp _ qh524.symm
  refine mf_dup (mf_dat eX12_init_p10 32 rfl) (by decide) ?_
  refine mf_bipush (v := 7) (mf_dat eX12_init_p10 33 rfl) (by decide) ?_
  refine mf_iconst (v := (-1)) (mf_dat eX12_init_p10 34 rfl) (by decide) ?_
  obtain ⟨ck525, hyp⟩ := hyp
  refine mf_iast (mf_dat eX12_init_p10 35 rfl) ck510 rfl (by decide) ck525 ?_
  generalize qh526 : mf_up h524 v509 7 (-1) = h526
  replace hyp := hyp _ qh526.symm
  obtain ⟨ck527, hyp⟩ := hyp
  refine mf_putRF (r := (RX12, TX12, 106)) (ci := 12) (k := 49) (kI := 49) (t := 2) (mf_dat eX12_init_p10 36 rfl) fl_X12_127 rfl rfl (by decide) rfl (by decide) rfl rfl rfl (by decide) (fun h9 => absurd h9 (by decide)) ck527 ?_
  generalize qg528 : mf_up g504 x0 49 v509 = g528
  replace hyp := hyp _ qg528.symm
  refine mf_aload_n (mf_dat eX12_init_p10 37 rfl) rfl rfl ?_
  refine mf_bipush (v := 8) (mf_dat eX12_init_p10 38 rfl) (by decide) ?_
  obtain ⟨ck529, hyp⟩ := hyp
  obtain ⟨ck530, hyp⟩ := hyp
  obtain ⟨ck531, hyp⟩ := hyp
  obtain ⟨ck532, hyp⟩ := hyp
  refine mf_newa (at_ := .int) (i := 0) (mf_dat eX12_init_p10 39 rfl) ac_20 rfl ck529 rfl (by decide) rfl rfl (by decide) (fun c h9 => FieldType.noConfusion h9) (by decide) ck530 ck531 ck532 ?_
  obtain ⟨ck533, hyp⟩ := hyp
  refine mf_putRF (r := (RX12, TX12, 106)) (ci := 12) (k := 50) (kI := 50) (t := 2) (mf_dat eX12_init_p10 40 rfl) fl_X12_130 rfl rfl (by decide) rfl (by decide) rfl rfl rfl (by decide) (fun h9 => absurd h9 (by decide)) ck533 ?_
  generalize qg534 : mf_up g528 x0 50 ((n0 + 38 : Nat) : Int) = g534
  replace hyp := hyp _ qg534.symm
  refine mf_aload_n (mf_dat eX12_init_p10 41 rfl) rfl rfl ?_
  refine mf_sipush (v := 3200) (mf_dat eX12_init_p10 42 rfl) (by decide) ?_
  obtain ⟨ck535, hyp⟩ := hyp
  obtain ⟨ck536, hyp⟩ := hyp
  obtain ⟨ck537, hyp⟩ := hyp
  obtain ⟨ck538, hyp⟩ := hyp
  refine mf_newa (at_ := .int) (i := 0) (mf_dat eX12_init_p10 43 rfl) ac_20 rfl ck535 rfl (by decide) rfl rfl (by decide) (fun c h9 => FieldType.noConfusion h9) (by decide) ck536 ck537 ck538 ?_
  obtain ⟨ck539, hyp⟩ := hyp
  refine mf_putRF (r := (RX12, TX12, 106)) (ci := 12) (k := 51) (kI := 51) (t := 2) (mf_dat eX12_init_p10 44 rfl) fl_X12_133 rfl rfl (by decide) rfl (by decide) rfl rfl rfl (by decide) (fun h9 => absurd h9 (by decide)) ck539 ?_
  generalize qg540 : mf_up g534 x0 51 ((n0 + 39 : Nat) : Int) = g540
  replace hyp := hyp _ qg540.symm
  refine mf_aload_n (mf_dat eX12_init_p10 45 rfl) rfl rfl ?_
  refine mf_sipush (v := 160) (mf_dat eX12_init_p10 46 rfl) (by decide) ?_
  obtain ⟨ck541, hyp⟩ := hyp
  obtain ⟨ck542, hyp⟩ := hyp
  obtain ⟨ck543, hyp⟩ := hyp
  obtain ⟨ck544, hyp⟩ := hyp
  refine mf_newa (at_ := .int) (i := 0) (mf_dat eX12_init_p10 47 rfl) ac_20 rfl ck541 rfl (by decide) rfl rfl (by decide) (fun c h9 => FieldType.noConfusion h9) (by decide) ck542 ck543 ck544 ?_
  obtain ⟨ck545, hyp⟩ := hyp
  refine mf_putRF (r := (RX12, TX12, 106)) (ci := 12) (k := 56) (kI := 56) (t := 2) (mf_dat eX12_init_p10 48 rfl) fl_X12_136 rfl rfl (by decide) rfl (by decide) rfl rfl rfl (by decide) (fun h9 => absurd h9 (by decide)) ck545 ?_
  generalize qg546 : mf_up g540 x0 56 ((n0 + 40 : Nat) : Int) = g546
  replace hyp := hyp _ qg546.symm
  refine mf_aload_n (mf_dat eX12_init_p10 49 rfl) rfl rfl ?_
  refine mf_bipush (v := 39) (mf_dat eX12_init_p10 50 rfl) (by decide) ?_
  obtain ⟨ck547, hyp⟩ := hyp
  obtain ⟨ck548, hyp⟩ := hyp
  obtain ⟨ck549, hyp⟩ := hyp
  obtain ⟨ck550, hyp⟩ := hyp
  refine mf_newa (at_ := .int) (i := 0) (mf_dat eX12_init_p10 51 rfl) ac_20 rfl ck547 rfl (by decide) rfl rfl (by decide) (fun c h9 => FieldType.noConfusion h9) (by decide) ck548 ck549 ck550 ?_
  obtain ⟨ck551, hyp⟩ := hyp
  refine mf_putRF (r := (RX12, TX12, 106)) (ci := 12) (k := 57) (kI := 57) (t := 2) (mf_dat eX12_init_p10 52 rfl) fl_X12_139 rfl rfl (by decide) rfl (by decide) rfl rfl rfl (by decide) (fun h9 => absurd h9 (by decide)) ck551 ?_
  generalize qg552 : mf_up g546 x0 57 ((n0 + 41 : Nat) : Int) = g552
  replace hyp := hyp _ qg552.symm
  refine mf_aload_n (mf_dat eX12_init_p10 53 rfl) rfl rfl ?_
  refine mf_bipush (v := 8) (mf_dat eX12_init_p10 54 rfl) (by decide) ?_
  obtain ⟨ck553, hyp⟩ := hyp
  obtain ⟨ck554, hyp⟩ := hyp
  obtain ⟨ck555, hyp⟩ := hyp
  obtain ⟨ck556, hyp⟩ := hyp
  refine mf_newa (at_ := .int) (i := 0) (mf_dat eX12_init_p10 55 rfl) ac_20 rfl ck553 rfl (by decide) rfl rfl (by decide) (fun c h9 => FieldType.noConfusion h9) (by decide) ck554 ck555 ck556 ?_
  obtain ⟨ck557, hyp⟩ := hyp
  refine mf_putRF (r := (RX12, TX12, 106)) (ci := 12) (k := 63) (kI := 63) (t := 2) (mf_dat eX12_init_p10 56 rfl) fl_X12_142 rfl rfl (by decide) rfl (by decide) rfl rfl rfl (by decide) (fun h9 => absurd h9 (by decide)) ck557 ?_
  generalize qg558 : mf_up g552 x0 63 ((n0 + 42 : Nat) : Int) = g558
  replace hyp := hyp _ qg558.symm
  refine mf_aload_n (mf_dat eX12_init_p10 57 rfl) rfl rfl ?_
  refine mf_bipush (v := 96) (mf_dat eX12_init_p10 58 rfl) (by decide) ?_
  obtain ⟨ck559, hyp⟩ := hyp
  obtain ⟨ck560, hyp⟩ := hyp
  obtain ⟨ck561, hyp⟩ := hyp
  obtain ⟨ck562, hyp⟩ := hyp
  refine mf_newa (at_ := .boolean) (i := 2) (mf_dat eX12_init_p10 59 rfl) ac_22 rfl ck559 rfl (by decide) rfl rfl (by decide) (fun c h9 => FieldType.noConfusion h9) (by decide) ck560 ck561 ck562 ?_
  obtain ⟨ck563, hyp⟩ := hyp
  refine mf_putRF (r := (RX12, TX12, 106)) (ci := 12) (k := 64) (kI := 64) (t := 2) (mf_dat eX12_init_p11 0 rfl) fl_X12_145 rfl rfl (by decide) rfl (by decide) rfl rfl rfl (by decide) (fun h9 => absurd h9 (by decide)) ck563 ?_
  generalize qg564 : mf_up g558 x0 64 ((n0 + 43 : Nat) : Int) = g564
  replace hyp := hyp _ qg564.symm
  refine mf_aload_n (mf_dat eX12_init_p11 1 rfl) rfl rfl ?_
  refine mf_bipush (v := 32) (mf_dat eX12_init_p11 2 rfl) (by decide) ?_
  obtain ⟨ck565, hyp⟩ := hyp
  obtain ⟨ck566, hyp⟩ := hyp
  obtain ⟨ck567, hyp⟩ := hyp
  obtain ⟨ck568, hyp⟩ := hyp
  refine mf_newa (at_ := .int) (i := 0) (mf_dat eX12_init_p11 3 rfl) ac_20 rfl ck565 rfl (by decide) rfl rfl (by decide) (fun c h9 => FieldType.noConfusion h9) (by decide) ck566 ck567 ck568 ?_
  obtain ⟨ck569, hyp⟩ := hyp
  refine mf_putRF (r := (RX12, TX12, 106)) (ci := 12) (k := 66) (kI := 66) (t := 2) (mf_dat eX12_init_p11 4 rfl) fl_X12_149 rfl rfl (by decide) rfl (by decide) rfl rfl rfl (by decide) (fun h9 => absurd h9 (by decide)) ck569 ?_
  generalize qg570 : mf_up g564 x0 66 ((n0 + 44 : Nat) : Int) = g570
  replace hyp := hyp _ qg570.symm
  refine mf_aload_n (mf_dat eX12_init_p11 5 rfl) rfl rfl ?_
  refine mf_bipush (v := 56) (mf_dat eX12_init_p11 6 rfl) (by decide) ?_
  obtain ⟨ck571, hyp⟩ := hyp
  obtain ⟨ck572, hyp⟩ := hyp
  obtain ⟨ck573, hyp⟩ := hyp
  obtain ⟨ck574, hyp⟩ := hyp
  refine mf_newa (at_ := .int) (i := 0) (mf_dat eX12_init_p11 7 rfl) ac_20 rfl ck571 rfl (by decide) rfl rfl (by decide) (fun c h9 => FieldType.noConfusion h9) (by decide) ck572 ck573 ck574 ?_
  obtain ⟨ck575, hyp⟩ := hyp
  refine mf_putRF (r := (RX12, TX12, 106)) (ci := 12) (k := 67) (kI := 67) (t := 2) (mf_dat eX12_init_p11 8 rfl) fl_X12_152 rfl rfl (by decide) rfl (by decide) rfl rfl rfl (by decide) (fun h9 => absurd h9 (by decide)) ck575 ?_
  generalize qg576 : mf_up g570 x0 67 ((n0 + 45 : Nat) : Int) = g576
  replace hyp := hyp _ qg576.symm
  refine mf_aload_n (mf_dat eX12_init_p11 9 rfl) rfl rfl ?_
  refine mf_sipush (v := 3200) (mf_dat eX12_init_p11 10 rfl) (by decide) ?_
  obtain ⟨ck577, hyp⟩ := hyp
  obtain ⟨ck578, hyp⟩ := hyp
  obtain ⟨ck579, hyp⟩ := hyp
  obtain ⟨ck580, hyp⟩ := hyp
  refine mf_newa (at_ := .int) (i := 0) (mf_dat eX12_init_p11 11 rfl) ac_20 rfl ck577 rfl (by decide) rfl rfl (by decide) (fun c h9 => FieldType.noConfusion h9) (by decide) ck578 ck579 ck580 ?_
  obtain ⟨ck581, hyp⟩ := hyp
  refine mf_putRF (r := (RX12, TX12, 106)) (ci := 12) (k := 68) (kI := 68) (t := 2) (mf_dat eX12_init_p11 12 rfl) fl_X12_155 rfl rfl (by decide) rfl (by decide) rfl rfl rfl (by decide) (fun h9 => absurd h9 (by decide)) ck581 ?_
  generalize qg582 : mf_up g576 x0 68 ((n0 + 46 : Nat) : Int) = g582
  replace hyp := hyp _ qg582.symm
  refine mf_aload_n (mf_dat eX12_init_p11 13 rfl) rfl rfl ?_
  refine mf_lconst (v := 1) (mf_dat eX12_init_p11 14 rfl) (by decide) ?_
  refine mf_putI (r := (RX12, TX12, 106)) (ci := 12) (k := 71) (kI := 71) (t := 1) (mf_dat eX12_init_p11 15 rfl) fl_X12_158 rfl rfl (by decide) rfl (by decide) rfl (by decide) (fun h9 => absurd h9 (by decide)) ck581 ?_
  generalize qh583 : mf_up h526 x0 71 1 = h583
  replace hyp := hyp _ qh583.symm
  refine mf_aload_n (mf_dat eX12_init_p11 16 rfl) rfl rfl ?_
  refine mf_iconst (v := 5) (mf_dat eX12_init_p11 17 rfl) (by decide) ?_
  obtain ⟨ck584, hyp⟩ := hyp
  obtain ⟨ck585, hyp⟩ := hyp
  obtain ⟨ck586, hyp⟩ := hyp
  obtain ⟨ck587, hyp⟩ := hyp
  refine mf_newa (at_ := .char) (i := 3) (mf_dat eX12_init_p11 18 rfl) ac_23 rfl ck584 rfl (by decide) rfl rfl (by decide) (fun c h9 => FieldType.noConfusion h9) (by decide) ck585 ck586 ck587 ?_
  generalize qv588 : ((n0 + 47 : Nat) : Int) = v588
  replace hyp := hyp _ qv588.symm
  refine mf_dup (mf_dat eX12_init_p11 19 rfl) (by decide) ?_
  refine mf_iconst (v := 0) (mf_dat eX12_init_p11 20 rfl) (by decide) ?_
  refine mf_bipush (v := 102) (mf_dat eX12_init_p11 21 rfl) (by decide) ?_
  obtain ⟨ck589, hyp⟩ := hyp
  obtain ⟨ck590, hyp⟩ := hyp
  refine mf_cast (mf_dat eX12_init_p11 22 rfl) ck589 rfl (by decide) ck590 (by decide) ?_
  generalize qh591 : mf_up h583 v588 0 102 = h591
  replace hyp := hyp _ qh591.symm
  refine mf_dup (mf_dat eX12_init_p11 23 rfl) (by decide) ?_
  refine mf_iconst (v := 1) (mf_dat eX12_init_p11 24 rfl) (by decide) ?_
  refine mf_bipush (v := 105) (mf_dat eX12_init_p11 25 rfl) (by decide) ?_
  obtain ⟨ck592, hyp⟩ := hyp
  refine mf_cast (mf_dat eX12_init_p11 26 rfl) ck589 rfl (by decide) ck592 (by decide) ?_
  generalize qh593 : mf_up h591 v588 1 105 = h593
  replace hyp := hyp _ qh593.symm
  refine mf_dup (mf_dat eX12_init_p11 27 rfl) (by decide) ?_
  refine mf_iconst (v := 2) (mf_dat eX12_init_p11 28 rfl) (by decide) ?_
  refine mf_bipush (v := 114) (mf_dat eX12_init_p11 29 rfl) (by decide) ?_
  obtain ⟨ck594, hyp⟩ := hyp
  refine mf_cast (mf_dat eX12_init_p11 30 rfl) ck589 rfl (by decide) ck594 (by decide) ?_
  generalize qh595 : mf_up h593 v588 2 114 = h595
  replace hyp := hyp _ qh595.symm
  refine mf_dup (mf_dat eX12_init_p11 31 rfl) (by decide) ?_
  refine mf_iconst (v := 3) (mf_dat eX12_init_p11 32 rfl) (by decide) ?_
  refine mf_bipush (v := 115) (mf_dat eX12_init_p11 33 rfl) (by decide) ?_
  obtain ⟨ck596, hyp⟩ := hyp
  refine mf_cast (mf_dat eX12_init_p11 34 rfl) ck589 rfl (by decide) ck596 (by decide) ?_
  generalize qh597 : mf_up h595 v588 3 115 = h597
  replace hyp := hyp _ qh597.symm
  refine mf_dup (mf_dat eX12_init_p11 35 rfl) (by decide) ?_
  refine mf_iconst (v := 4) (mf_dat eX12_init_p11 36 rfl) (by decide) ?_
  refine mf_bipush (v := 116) (mf_dat eX12_init_p11 37 rfl) (by decide) ?_
  obtain ⟨ck598, hyp⟩ := hyp
  refine mf_cast (mf_dat eX12_init_p11 38 rfl) ck589 rfl (by decide) ck598 (by decide) ?_
  generalize qh599 : mf_up h597 v588 4 116 = h599
  replace hyp := hyp _ qh599.symm
  obtain ⟨ck600, hyp⟩ := hyp
  refine mf_putRF (r := (RX12, TX12, 106)) (ci := 12) (k := 72) (kI := 72) (t := 2) (mf_dat eX12_init_p11 39 rfl) fl_X12_162 rfl rfl (by decide) rfl (by decide) rfl rfl rfl (by decide) (fun h9 => absurd h9 (by decide)) ck600 ?_
  generalize qg601 : mf_up g582 x0 72 v588 = g601
  replace hyp := hyp _ qg601.symm
  refine mf_aload_n (mf_dat eX12_init_p11 40 rfl) rfl rfl ?_
  refine mf_iconst (v := 4) (mf_dat eX12_init_p11 41 rfl) (by decide) ?_
  obtain ⟨ck602, hyp⟩ := hyp
  obtain ⟨ck603, hyp⟩ := hyp
  obtain ⟨ck604, hyp⟩ := hyp
  obtain ⟨ck605, hyp⟩ := hyp
  refine mf_newa (at_ := .char) (i := 3) (mf_dat eX12_init_p11 42 rfl) ac_23 rfl ck602 rfl (by decide) rfl rfl (by decide) (fun c h9 => FieldType.noConfusion h9) (by decide) ck603 ck604 ck605 ?_
  generalize qv606 : ((n0 + 48 : Nat) : Int) = v606
  replace hyp := hyp _ qv606.symm
  refine mf_dup (mf_dat eX12_init_p11 43 rfl) (by decide) ?_
  refine mf_iconst (v := 0) (mf_dat eX12_init_p11 44 rfl) (by decide) ?_
  refine mf_bipush (v := 108) (mf_dat eX12_init_p11 45 rfl) (by decide) ?_
  obtain ⟨ck607, hyp⟩ := hyp
  obtain ⟨ck608, hyp⟩ := hyp
  refine mf_cast (mf_dat eX12_init_p11 46 rfl) ck607 rfl (by decide) ck608 (by decide) ?_
  generalize qh609 : mf_up h599 v606 0 108 = h609
  replace hyp := hyp _ qh609.symm
  refine mf_dup (mf_dat eX12_init_p11 47 rfl) (by decide) ?_
  refine mf_iconst (v := 1) (mf_dat eX12_init_p11 48 rfl) (by decide) ?_
  refine mf_bipush (v := 97) (mf_dat eX12_init_p11 49 rfl) (by decide) ?_
  obtain ⟨ck610, hyp⟩ := hyp
  refine mf_cast (mf_dat eX12_init_p11 50 rfl) ck607 rfl (by decide) ck610 (by decide) ?_
  generalize qh611 : mf_up h609 v606 1 97 = h611
  replace hyp := hyp _ qh611.symm
  refine mf_dup (mf_dat eX12_init_p11 51 rfl) (by decide) ?_
  refine mf_iconst (v := 2) (mf_dat eX12_init_p11 52 rfl) (by decide) ?_
  refine mf_bipush (v := 115) (mf_dat eX12_init_p11 53 rfl) (by decide) ?_
  obtain ⟨ck612, hyp⟩ := hyp
  refine mf_cast (mf_dat eX12_init_p11 54 rfl) ck607 rfl (by decide) ck612 (by decide) ?_
  generalize qh613 : mf_up h611 v606 2 115 = h613
  replace hyp := hyp _ qh613.symm
  refine mf_dup (mf_dat eX12_init_p11 55 rfl) (by decide) ?_
  refine mf_iconst (v := 3) (mf_dat eX12_init_p11 56 rfl) (by decide) ?_
  refine mf_bipush (v := 116) (mf_dat eX12_init_p11 57 rfl) (by decide) ?_
  obtain ⟨ck614, hyp⟩ := hyp
  refine mf_cast (mf_dat eX12_init_p11 58 rfl) ck607 rfl (by decide) ck614 (by decide) ?_
  generalize qh615 : mf_up h613 v606 3 116 = h615
  replace hyp := hyp _ qh615.symm
  obtain ⟨ck616, hyp⟩ := hyp
  refine mf_putRF (r := (RX12, TX12, 106)) (ci := 12) (k := 73) (kI := 73) (t := 2) (mf_dat eX12_init_p11 59 rfl) fl_X12_165 rfl rfl (by decide) rfl (by decide) rfl rfl rfl (by decide) (fun h9 => absurd h9 (by decide)) ck616 ?_
  generalize qg617 : mf_up g601 x0 73 v606 = g617
  replace hyp := hyp _ qg617.symm
  refine mf_aload_n (mf_dat eX12_init_p12 0 rfl) rfl rfl ?_
  refine mf_iconst (v := 5) (mf_dat eX12_init_p12 1 rfl) (by decide) ?_
  obtain ⟨ck618, hyp⟩ := hyp
  obtain ⟨ck619, hyp⟩ := hyp
  obtain ⟨ck620, hyp⟩ := hyp
  obtain ⟨ck621, hyp⟩ := hyp
  refine mf_newa (at_ := .char) (i := 3) (mf_dat eX12_init_p12 2 rfl) ac_23 rfl ck618 rfl (by decide) rfl rfl (by decide) (fun c h9 => FieldType.noConfusion h9) (by decide) ck619 ck620 ck621 ?_
  generalize qv622 : ((n0 + 49 : Nat) : Int) = v622
  replace hyp := hyp _ qv622.symm
  refine mf_dup (mf_dat eX12_init_p12 3 rfl) (by decide) ?_
  refine mf_iconst (v := 0) (mf_dat eX12_init_p12 4 rfl) (by decide) ?_
  refine mf_bipush (v := 111) (mf_dat eX12_init_p12 5 rfl) (by decide) ?_
  obtain ⟨ck623, hyp⟩ := hyp
  obtain ⟨ck624, hyp⟩ := hyp
  refine mf_cast (mf_dat eX12_init_p12 6 rfl) ck623 rfl (by decide) ck624 (by decide) ?_
  generalize qh625 : mf_up h615 v622 0 111 = h625
  replace hyp := hyp _ qh625.symm
  refine mf_dup (mf_dat eX12_init_p12 7 rfl) (by decide) ?_
  refine mf_iconst (v := 1) (mf_dat eX12_init_p12 8 rfl) (by decide) ?_
  refine mf_bipush (v := 102) (mf_dat eX12_init_p12 9 rfl) (by decide) ?_
  obtain ⟨ck626, hyp⟩ := hyp
  refine mf_cast (mf_dat eX12_init_p12 10 rfl) ck623 rfl (by decide) ck626 (by decide) ?_
  generalize qh627 : mf_up h625 v622 1 102 = h627
  replace hyp := hyp _ qh627.symm
  refine mf_dup (mf_dat eX12_init_p12 11 rfl) (by decide) ?_
  refine mf_iconst (v := 2) (mf_dat eX12_init_p12 12 rfl) (by decide) ?_
  refine mf_bipush (v := 116) (mf_dat eX12_init_p12 13 rfl) (by decide) ?_
  obtain ⟨ck628, hyp⟩ := hyp
  refine mf_cast (mf_dat eX12_init_p12 14 rfl) ck623 rfl (by decide) ck628 (by decide) ?_
  generalize qh629 : mf_up h627 v622 2 116 = h629
  replace hyp := hyp _ qh629.symm
  refine mf_dup (mf_dat eX12_init_p12 15 rfl) (by decide) ?_
  refine mf_iconst (v := 3) (mf_dat eX12_init_p12 16 rfl) (by decide) ?_
  refine mf_bipush (v := 101) (mf_dat eX12_init_p12 17 rfl) (by decide) ?_
  obtain ⟨ck630, hyp⟩ := hyp
  refine mf_cast (mf_dat eX12_init_p12 18 rfl) ck623 rfl (by decide) ck630 (by decide) ?_
  generalize qh631 : mf_up h629 v622 3 101 = h631
  replace hyp := hyp _ qh631.symm
  refine mf_dup (mf_dat eX12_init_p12 19 rfl) (by decide) ?_
  refine mf_iconst (v := 4) (mf_dat eX12_init_p12 20 rfl) (by decide) ?_
  refine mf_bipush (v := 110) (mf_dat eX12_init_p12 21 rfl) (by decide) ?_
  obtain ⟨ck632, hyp⟩ := hyp
  refine mf_cast (mf_dat eX12_init_p12 22 rfl) ck623 rfl (by decide) ck632 (by decide) ?_
  generalize qh633 : mf_up h631 v622 4 110 = h633
  replace hyp := hyp _ qh633.symm
  obtain ⟨ck634, hyp⟩ := hyp
  refine mf_putRF (r := (RX12, TX12, 106)) (ci := 12) (k := 74) (kI := 74) (t := 2) (mf_dat eX12_init_p12 23 rfl) fl_X12_168 rfl rfl (by decide) rfl (by decide) rfl rfl rfl (by decide) (fun h9 => absurd h9 (by decide)) ck634 ?_
  generalize qg635 : mf_up g617 x0 74 v622 = g635
  replace hyp := hyp _ qg635.symm
  refine mf_aload_n (mf_dat eX12_init_p12 24 rfl) rfl rfl ?_
  refine mf_iconst (v := 5) (mf_dat eX12_init_p12 25 rfl) (by decide) ?_
  obtain ⟨ck636, hyp⟩ := hyp
  obtain ⟨ck637, hyp⟩ := hyp
  obtain ⟨ck638, hyp⟩ := hyp
  obtain ⟨ck639, hyp⟩ := hyp
  refine mf_newa (at_ := .char) (i := 3) (mf_dat eX12_init_p12 26 rfl) ac_23 rfl ck636 rfl (by decide) rfl rfl (by decide) (fun c h9 => FieldType.noConfusion h9) (by decide) ck637 ck638 ck639 ?_
  generalize qv640 : ((n0 + 50 : Nat) : Int) = v640
  replace hyp := hyp _ qv640.symm
  refine mf_dup (mf_dat eX12_init_p12 27 rfl) (by decide) ?_
  refine mf_iconst (v := 0) (mf_dat eX12_init_p12 28 rfl) (by decide) ?_
  refine mf_bipush (v := 116) (mf_dat eX12_init_p12 29 rfl) (by decide) ?_
  obtain ⟨ck641, hyp⟩ := hyp
  obtain ⟨ck642, hyp⟩ := hyp
  refine mf_cast (mf_dat eX12_init_p12 30 rfl) ck641 rfl (by decide) ck642 (by decide) ?_
  generalize qh643 : mf_up h633 v640 0 116 = h643
  replace hyp := hyp _ qh643.symm
  refine mf_dup (mf_dat eX12_init_p12 31 rfl) (by decide) ?_
  refine mf_iconst (v := 1) (mf_dat eX12_init_p12 32 rfl) (by decide) ?_
  refine mf_bipush (v := 111) (mf_dat eX12_init_p12 33 rfl) (by decide) ?_
  obtain ⟨ck644, hyp⟩ := hyp
  refine mf_cast (mf_dat eX12_init_p12 34 rfl) ck641 rfl (by decide) ck644 (by decide) ?_
  generalize qh645 : mf_up h643 v640 1 111 = h645
  replace hyp := hyp _ qh645.symm
  refine mf_dup (mf_dat eX12_init_p12 35 rfl) (by decide) ?_
  refine mf_iconst (v := 2) (mf_dat eX12_init_p12 36 rfl) (by decide) ?_
  refine mf_bipush (v := 116) (mf_dat eX12_init_p12 37 rfl) (by decide) ?_
  obtain ⟨ck646, hyp⟩ := hyp
  refine mf_cast (mf_dat eX12_init_p12 38 rfl) ck641 rfl (by decide) ck646 (by decide) ?_
  generalize qh647 : mf_up h645 v640 2 116 = h647
  replace hyp := hyp _ qh647.symm
  refine mf_dup (mf_dat eX12_init_p12 39 rfl) (by decide) ?_
  refine mf_iconst (v := 3) (mf_dat eX12_init_p12 40 rfl) (by decide) ?_
  refine mf_bipush (v := 97) (mf_dat eX12_init_p12 41 rfl) (by decide) ?_
  obtain ⟨ck648, hyp⟩ := hyp
  refine mf_cast (mf_dat eX12_init_p12 42 rfl) ck641 rfl (by decide) ck648 (by decide) ?_
  generalize qh649 : mf_up h647 v640 3 97 = h649
  replace hyp := hyp _ qh649.symm
  refine mf_dup (mf_dat eX12_init_p12 43 rfl) (by decide) ?_
  refine mf_iconst (v := 4) (mf_dat eX12_init_p12 44 rfl) (by decide) ?_
  refine mf_bipush (v := 108) (mf_dat eX12_init_p12 45 rfl) (by decide) ?_
  obtain ⟨ck650, hyp⟩ := hyp
  refine mf_cast (mf_dat eX12_init_p12 46 rfl) ck641 rfl (by decide) ck650 (by decide) ?_
  generalize qh651 : mf_up h649 v640 4 108 = h651
  replace hyp := hyp _ qh651.symm
  obtain ⟨ck652, hyp⟩ := hyp
  refine mf_putRF (r := (RX12, TX12, 106)) (ci := 12) (k := 75) (kI := 75) (t := 2) (mf_dat eX12_init_p12 47 rfl) fl_X12_171 rfl rfl (by decide) rfl (by decide) rfl rfl rfl (by decide) (fun h9 => absurd h9 (by decide)) ck652 ?_
  generalize qg653 : mf_up g635 x0 75 v640 = g653
  replace hyp := hyp _ qg653.symm
  refine mf_aload_n (mf_dat eX12_init_p12 48 rfl) rfl rfl ?_
  refine mf_iconst (v := 4) (mf_dat eX12_init_p12 49 rfl) (by decide) ?_
  obtain ⟨ck654, hyp⟩ := hyp
  obtain ⟨ck655, hyp⟩ := hyp
  obtain ⟨ck656, hyp⟩ := hyp
  obtain ⟨ck657, hyp⟩ := hyp
  refine mf_newa (at_ := .char) (i := 3) (mf_dat eX12_init_p12 50 rfl) ac_23 rfl ck654 rfl (by decide) rfl rfl (by decide) (fun c h9 => FieldType.noConfusion h9) (by decide) ck655 ck656 ck657 ?_
  generalize qv658 : ((n0 + 51 : Nat) : Int) = v658
  replace hyp := hyp _ qv658.symm
  refine mf_dup (mf_dat eX12_init_p12 51 rfl) (by decide) ?_
  refine mf_iconst (v := 0) (mf_dat eX12_init_p12 52 rfl) (by decide) ?_
  refine mf_bipush (v := 109) (mf_dat eX12_init_p12 53 rfl) (by decide) ?_
  obtain ⟨ck659, hyp⟩ := hyp
  obtain ⟨ck660, hyp⟩ := hyp
  refine mf_cast (mf_dat eX12_init_p12 54 rfl) ck659 rfl (by decide) ck660 (by decide) ?_
  generalize qh661 : mf_up h651 v658 0 109 = h661
  replace hyp := hyp _ qh661.symm
  refine mf_dup (mf_dat eX12_init_p12 55 rfl) (by decide) ?_
  refine mf_iconst (v := 1) (mf_dat eX12_init_p12 56 rfl) (by decide) ?_
  refine mf_bipush (v := 111) (mf_dat eX12_init_p12 57 rfl) (by decide) ?_
  obtain ⟨ck662, hyp⟩ := hyp
  refine mf_cast (mf_dat eX12_init_p12 58 rfl) ck659 rfl (by decide) ck662 (by decide) ?_
  generalize qh663 : mf_up h661 v658 1 111 = h663
  replace hyp := hyp _ qh663.symm
  refine mf_dup (mf_dat eX12_init_p12 59 rfl) (by decide) ?_
  refine mf_iconst (v := 2) (mf_dat eX12_init_p13 0 rfl) (by decide) ?_
  refine mf_bipush (v := 115) (mf_dat eX12_init_p13 1 rfl) (by decide) ?_
  obtain ⟨ck664, hyp⟩ := hyp
  refine mf_cast (mf_dat eX12_init_p13 2 rfl) ck659 rfl (by decide) ck664 (by decide) ?_
  generalize qh665 : mf_up h663 v658 2 115 = h665
  replace hyp := hyp _ qh665.symm
  refine mf_dup (mf_dat eX12_init_p13 3 rfl) (by decide) ?_
  refine mf_iconst (v := 3) (mf_dat eX12_init_p13 4 rfl) (by decide) ?_
  refine mf_bipush (v := 116) (mf_dat eX12_init_p13 5 rfl) (by decide) ?_
  obtain ⟨ck666, hyp⟩ := hyp
  refine mf_cast (mf_dat eX12_init_p13 6 rfl) ck659 rfl (by decide) ck666 (by decide) ?_
  generalize qh667 : mf_up h665 v658 3 116 = h667
  replace hyp := hyp _ qh667.symm
  obtain ⟨ck668, hyp⟩ := hyp
  refine mf_putRF (r := (RX12, TX12, 106)) (ci := 12) (k := 76) (kI := 76) (t := 2) (mf_dat eX12_init_p13 7 rfl) fl_X12_174 rfl rfl (by decide) rfl (by decide) rfl rfl rfl (by decide) (fun h9 => absurd h9 (by decide)) ck668 ?_
  generalize qg669 : mf_up g653 x0 76 v658 = g669
  replace hyp := hyp _ qg669.symm
  refine mf_aload_n (mf_dat eX12_init_p13 8 rfl) rfl rfl ?_
  refine mf_iconst (v := 5) (mf_dat eX12_init_p13 9 rfl) (by decide) ?_
  obtain ⟨ck670, hyp⟩ := hyp
  obtain ⟨ck671, hyp⟩ := hyp
  obtain ⟨ck672, hyp⟩ := hyp
  obtain ⟨ck673, hyp⟩ := hyp
  refine mf_newa (at_ := .char) (i := 3) (mf_dat eX12_init_p13 10 rfl) ac_23 rfl ck670 rfl (by decide) rfl rfl (by decide) (fun c h9 => FieldType.noConfusion h9) (by decide) ck671 ck672 ck673 ?_
  generalize qv674 : ((n0 + 52 : Nat) : Int) = v674
  replace hyp := hyp _ qv674.symm
  refine mf_dup (mf_dat eX12_init_p13 11 rfl) (by decide) ?_
  refine mf_iconst (v := 0) (mf_dat eX12_init_p13 12 rfl) (by decide) ?_
  refine mf_bipush (v := 108) (mf_dat eX12_init_p13 13 rfl) (by decide) ?_
  obtain ⟨ck675, hyp⟩ := hyp
  obtain ⟨ck676, hyp⟩ := hyp
  refine mf_cast (mf_dat eX12_init_p13 14 rfl) ck675 rfl (by decide) ck676 (by decide) ?_
  generalize qh677 : mf_up h667 v674 0 108 = h677
  replace hyp := hyp _ qh677.symm
  refine mf_dup (mf_dat eX12_init_p13 15 rfl) (by decide) ?_
  refine mf_iconst (v := 1) (mf_dat eX12_init_p13 16 rfl) (by decide) ?_
  refine mf_bipush (v := 101) (mf_dat eX12_init_p13 17 rfl) (by decide) ?_
  obtain ⟨ck678, hyp⟩ := hyp
  refine mf_cast (mf_dat eX12_init_p13 18 rfl) ck675 rfl (by decide) ck678 (by decide) ?_
  generalize qh679 : mf_up h677 v674 1 101 = h679
  replace hyp := hyp _ qh679.symm
  refine mf_dup (mf_dat eX12_init_p13 19 rfl) (by decide) ?_
  refine mf_iconst (v := 2) (mf_dat eX12_init_p13 20 rfl) (by decide) ?_
  refine mf_bipush (v := 97) (mf_dat eX12_init_p13 21 rfl) (by decide) ?_
  obtain ⟨ck680, hyp⟩ := hyp
  refine mf_cast (mf_dat eX12_init_p13 22 rfl) ck675 rfl (by decide) ck680 (by decide) ?_
  generalize qh681 : mf_up h679 v674 2 97 = h681
  replace hyp := hyp _ qh681.symm
  refine mf_dup (mf_dat eX12_init_p13 23 rfl) (by decide) ?_
  refine mf_iconst (v := 3) (mf_dat eX12_init_p13 24 rfl) (by decide) ?_
  refine mf_bipush (v := 115) (mf_dat eX12_init_p13 25 rfl) (by decide) ?_
  obtain ⟨ck682, hyp⟩ := hyp
  refine mf_cast (mf_dat eX12_init_p13 26 rfl) ck675 rfl (by decide) ck682 (by decide) ?_
  generalize qh683 : mf_up h681 v674 3 115 = h683
  replace hyp := hyp _ qh683.symm
  refine mf_dup (mf_dat eX12_init_p13 27 rfl) (by decide) ?_
  refine mf_iconst (v := 4) (mf_dat eX12_init_p13 28 rfl) (by decide) ?_
  refine mf_bipush (v := 116) (mf_dat eX12_init_p13 29 rfl) (by decide) ?_
  obtain ⟨ck684, hyp⟩ := hyp
  refine mf_cast (mf_dat eX12_init_p13 30 rfl) ck675 rfl (by decide) ck684 (by decide) ?_
  generalize qh685 : mf_up h683 v674 4 116 = h685
  replace hyp := hyp _ qh685.symm
  obtain ⟨ck686, hyp⟩ := hyp
  refine mf_putRF (r := (RX12, TX12, 106)) (ci := 12) (k := 77) (kI := 77) (t := 2) (mf_dat eX12_init_p13 31 rfl) fl_X12_177 rfl rfl (by decide) rfl (by decide) rfl rfl rfl (by decide) (fun h9 => absurd h9 (by decide)) ck686 ?_
  generalize qg687 : mf_up g669 x0 77 v674 = g687
  replace hyp := hyp _ qg687.symm
  refine mf_aload_n (mf_dat eX12_init_p13 32 rfl) rfl rfl ?_
  refine mf_iconst (v := 3) (mf_dat eX12_init_p13 33 rfl) (by decide) ?_
  obtain ⟨ck688, hyp⟩ := hyp
  obtain ⟨ck689, hyp⟩ := hyp
  obtain ⟨ck690, hyp⟩ := hyp
  obtain ⟨ck691, hyp⟩ := hyp
  refine mf_newa (at_ := .char) (i := 3) (mf_dat eX12_init_p13 34 rfl) ac_23 rfl ck688 rfl (by decide) rfl rfl (by decide) (fun c h9 => FieldType.noConfusion h9) (by decide) ck689 ck690 ck691 ?_
  generalize qv692 : ((n0 + 53 : Nat) : Int) = v692
  replace hyp := hyp _ qv692.symm
  refine mf_dup (mf_dat eX12_init_p13 35 rfl) (by decide) ?_
  refine mf_iconst (v := 0) (mf_dat eX12_init_p13 36 rfl) (by decide) ?_
  refine mf_bipush (v := 110) (mf_dat eX12_init_p13 37 rfl) (by decide) ?_
  obtain ⟨ck693, hyp⟩ := hyp
  obtain ⟨ck694, hyp⟩ := hyp
  refine mf_cast (mf_dat eX12_init_p13 38 rfl) ck693 rfl (by decide) ck694 (by decide) ?_
  generalize qh695 : mf_up h685 v692 0 110 = h695
  replace hyp := hyp _ qh695.symm
  refine mf_dup (mf_dat eX12_init_p13 39 rfl) (by decide) ?_
  refine mf_iconst (v := 1) (mf_dat eX12_init_p13 40 rfl) (by decide) ?_
  refine mf_bipush (v := 111) (mf_dat eX12_init_p13 41 rfl) (by decide) ?_
  obtain ⟨ck696, hyp⟩ := hyp
  refine mf_cast (mf_dat eX12_init_p13 42 rfl) ck693 rfl (by decide) ck696 (by decide) ?_
  generalize qh697 : mf_up h695 v692 1 111 = h697
  replace hyp := hyp _ qh697.symm
  refine mf_dup (mf_dat eX12_init_p13 43 rfl) (by decide) ?_
  refine mf_iconst (v := 2) (mf_dat eX12_init_p13 44 rfl) (by decide) ?_
  refine mf_bipush (v := 116) (mf_dat eX12_init_p13 45 rfl) (by decide) ?_
  obtain ⟨ck698, hyp⟩ := hyp
  refine mf_cast (mf_dat eX12_init_p13 46 rfl) ck693 rfl (by decide) ck698 (by decide) ?_
  generalize qh699 : mf_up h697 v692 2 116 = h699
  replace hyp := hyp _ qh699.symm
  obtain ⟨ck700, hyp⟩ := hyp
  refine mf_putRF (r := (RX12, TX12, 106)) (ci := 12) (k := 78) (kI := 78) (t := 2) (mf_dat eX12_init_p13 47 rfl) fl_X12_180 rfl rfl (by decide) rfl (by decide) rfl rfl rfl (by decide) (fun h9 => absurd h9 (by decide)) ck700 ?_
  generalize qg701 : mf_up g687 x0 78 v692 = g701
  replace hyp := hyp _ qg701.symm
  refine mf_aload_n (mf_dat eX12_init_p13 48 rfl) rfl rfl ?_
  refine mf_iconst (v := 3) (mf_dat eX12_init_p13 49 rfl) (by decide) ?_
  obtain ⟨ck702, hyp⟩ := hyp
  obtain ⟨ck703, hyp⟩ := hyp
  obtain ⟨ck704, hyp⟩ := hyp
  obtain ⟨ck705, hyp⟩ := hyp
  refine mf_newa (at_ := .char) (i := 3) (mf_dat eX12_init_p13 50 rfl) ac_23 rfl ck702 rfl (by decide) rfl rfl (by decide) (fun c h9 => FieldType.noConfusion h9) (by decide) ck703 ck704 ck705 ?_
  generalize qv706 : ((n0 + 54 : Nat) : Int) = v706
  replace hyp := hyp _ qv706.symm
  refine mf_dup (mf_dat eX12_init_p13 51 rfl) (by decide) ?_
  refine mf_iconst (v := 0) (mf_dat eX12_init_p13 52 rfl) (by decide) ?_
  refine mf_bipush (v := 97) (mf_dat eX12_init_p13 53 rfl) (by decide) ?_
  obtain ⟨ck707, hyp⟩ := hyp
  obtain ⟨ck708, hyp⟩ := hyp
  refine mf_cast (mf_dat eX12_init_p13 54 rfl) ck707 rfl (by decide) ck708 (by decide) ?_
  generalize qh709 : mf_up h699 v706 0 97 = h709
  replace hyp := hyp _ qh709.symm
  refine mf_dup (mf_dat eX12_init_p13 55 rfl) (by decide) ?_
  refine mf_iconst (v := 1) (mf_dat eX12_init_p13 56 rfl) (by decide) ?_
  refine mf_bipush (v := 110) (mf_dat eX12_init_p13 57 rfl) (by decide) ?_
  obtain ⟨ck710, hyp⟩ := hyp
  refine mf_cast (mf_dat eX12_init_p13 58 rfl) ck707 rfl (by decide) ck710 (by decide) ?_
  generalize qh711 : mf_up h709 v706 1 110 = h711
  replace hyp := hyp _ qh711.symm
  refine mf_dup (mf_dat eX12_init_p13 59 rfl) (by decide) ?_
  refine mf_iconst (v := 2) (mf_dat eX12_init_p14 0 rfl) (by decide) ?_
  refine mf_bipush (v := 100) (mf_dat eX12_init_p14 1 rfl) (by decide) ?_
  obtain ⟨ck712, hyp⟩ := hyp
  refine mf_cast (mf_dat eX12_init_p14 2 rfl) ck707 rfl (by decide) ck712 (by decide) ?_
  generalize qh713 : mf_up h711 v706 2 100 = h713
  replace hyp := hyp _ qh713.symm
  obtain ⟨ck714, hyp⟩ := hyp
  refine mf_putRF (r := (RX12, TX12, 106)) (ci := 12) (k := 79) (kI := 79) (t := 2) (mf_dat eX12_init_p14 3 rfl) fl_X12_183 rfl rfl (by decide) rfl (by decide) rfl rfl rfl (by decide) (fun h9 => absurd h9 (by decide)) ck714 ?_
  generalize qg715 : mf_up g701 x0 79 v706 = g715
  replace hyp := hyp _ qg715.symm
  refine mf_aload_n (mf_dat eX12_init_p14 4 rfl) rfl rfl ?_
  refine mf_iconst (v := 2) (mf_dat eX12_init_p14 5 rfl) (by decide) ?_
  obtain ⟨ck716, hyp⟩ := hyp
  obtain ⟨ck717, hyp⟩ := hyp
  obtain ⟨ck718, hyp⟩ := hyp
  obtain ⟨ck719, hyp⟩ := hyp
  refine mf_newa (at_ := .char) (i := 3) (mf_dat eX12_init_p14 6 rfl) ac_23 rfl ck716 rfl (by decide) rfl rfl (by decide) (fun c h9 => FieldType.noConfusion h9) (by decide) ck717 ck718 ck719 ?_
  generalize qv720 : ((n0 + 55 : Nat) : Int) = v720
  replace hyp := hyp _ qv720.symm
  refine mf_dup (mf_dat eX12_init_p14 7 rfl) (by decide) ?_
  refine mf_iconst (v := 0) (mf_dat eX12_init_p14 8 rfl) (by decide) ?_
  refine mf_bipush (v := 111) (mf_dat eX12_init_p14 9 rfl) (by decide) ?_
  obtain ⟨ck721, hyp⟩ := hyp
  obtain ⟨ck722, hyp⟩ := hyp
  refine mf_cast (mf_dat eX12_init_p14 10 rfl) ck721 rfl (by decide) ck722 (by decide) ?_
  generalize qh723 : mf_up h713 v720 0 111 = h723
  replace hyp := hyp _ qh723.symm
  refine mf_dup (mf_dat eX12_init_p14 11 rfl) (by decide) ?_
  refine mf_iconst (v := 1) (mf_dat eX12_init_p14 12 rfl) (by decide) ?_
  refine mf_bipush (v := 114) (mf_dat eX12_init_p14 13 rfl) (by decide) ?_
  obtain ⟨ck724, hyp⟩ := hyp
  refine mf_cast (mf_dat eX12_init_p14 14 rfl) ck721 rfl (by decide) ck724 (by decide) ?_
  generalize qh725 : mf_up h723 v720 1 114 = h725
  replace hyp := hyp _ qh725.symm
  obtain ⟨ck726, hyp⟩ := hyp
  refine mf_putRF (r := (RX12, TX12, 106)) (ci := 12) (k := 80) (kI := 80) (t := 2) (mf_dat eX12_init_p14 15 rfl) fl_X12_186 rfl rfl (by decide) rfl (by decide) rfl rfl rfl (by decide) (fun h9 => absurd h9 (by decide)) ck726 ?_
  generalize qg727 : mf_up g715 x0 80 v720 = g727
  replace hyp := hyp _ qg727.symm
  refine mf_aload_n (mf_dat eX12_init_p14 16 rfl) rfl rfl ?_
  refine mf_iconst (v := 3) (mf_dat eX12_init_p14 17 rfl) (by decide) ?_
  obtain ⟨ck728, hyp⟩ := hyp
  obtain ⟨ck729, hyp⟩ := hyp
  obtain ⟨ck730, hyp⟩ := hyp
  obtain ⟨ck731, hyp⟩ := hyp
  refine mf_newa (at_ := .char) (i := 3) (mf_dat eX12_init_p14 18 rfl) ac_23 rfl ck728 rfl (by decide) rfl rfl (by decide) (fun c h9 => FieldType.noConfusion h9) (by decide) ck729 ck730 ck731 ?_
  generalize qv732 : ((n0 + 56 : Nat) : Int) = v732
  replace hyp := hyp _ qv732.symm
  refine mf_dup (mf_dat eX12_init_p14 19 rfl) (by decide) ?_
  refine mf_iconst (v := 0) (mf_dat eX12_init_p14 20 rfl) (by decide) ?_
  refine mf_bipush (v := 97) (mf_dat eX12_init_p14 21 rfl) (by decide) ?_
  obtain ⟨ck733, hyp⟩ := hyp
  obtain ⟨ck734, hyp⟩ := hyp
  refine mf_cast (mf_dat eX12_init_p14 22 rfl) ck733 rfl (by decide) ck734 (by decide) ?_
  generalize qh735 : mf_up h725 v732 0 97 = h735
  replace hyp := hyp _ qh735.symm
  refine mf_dup (mf_dat eX12_init_p14 23 rfl) (by decide) ?_
  refine mf_iconst (v := 1) (mf_dat eX12_init_p14 24 rfl) (by decide) ?_
  refine mf_bipush (v := 108) (mf_dat eX12_init_p14 25 rfl) (by decide) ?_
  obtain ⟨ck736, hyp⟩ := hyp
  refine mf_cast (mf_dat eX12_init_p14 26 rfl) ck733 rfl (by decide) ck736 (by decide) ?_
  generalize qh737 : mf_up h735 v732 1 108 = h737
  replace hyp := hyp _ qh737.symm
  refine mf_dup (mf_dat eX12_init_p14 27 rfl) (by decide) ?_
  refine mf_iconst (v := 2) (mf_dat eX12_init_p14 28 rfl) (by decide) ?_
  refine mf_bipush (v := 108) (mf_dat eX12_init_p14 29 rfl) (by decide) ?_
  obtain ⟨ck738, hyp⟩ := hyp
  refine mf_cast (mf_dat eX12_init_p14 30 rfl) ck733 rfl (by decide) ck738 (by decide) ?_
  generalize qh739 : mf_up h737 v732 2 108 = h739
  replace hyp := hyp _ qh739.symm
  obtain ⟨ck740, hyp⟩ := hyp
  refine mf_putRF (r := (RX12, TX12, 106)) (ci := 12) (k := 81) (kI := 81) (t := 2) (mf_dat eX12_init_p14 31 rfl) fl_X12_189 rfl rfl (by decide) rfl (by decide) rfl rfl rfl (by decide) (fun h9 => absurd h9 (by decide)) ck740 ?_
  generalize qg741 : mf_up g727 x0 81 v732 = g741
  replace hyp := hyp _ qg741.symm
  refine mf_aload_n (mf_dat eX12_init_p14 32 rfl) rfl rfl ?_
  refine mf_iconst (v := 3) (mf_dat eX12_init_p14 33 rfl) (by decide) ?_
  obtain ⟨ck742, hyp⟩ := hyp
  obtain ⟨ck743, hyp⟩ := hyp
  obtain ⟨ck744, hyp⟩ := hyp
  obtain ⟨ck745, hyp⟩ := hyp
  refine mf_newa (at_ := .char) (i := 3) (mf_dat eX12_init_p14 34 rfl) ac_23 rfl ck742 rfl (by decide) rfl rfl (by decide) (fun c h9 => FieldType.noConfusion h9) (by decide) ck743 ck744 ck745 ?_
  generalize qv746 : ((n0 + 57 : Nat) : Int) = v746
  replace hyp := hyp _ qv746.symm
  refine mf_dup (mf_dat eX12_init_p14 35 rfl) (by decide) ?_
  refine mf_iconst (v := 0) (mf_dat eX12_init_p14 36 rfl) (by decide) ?_
  refine mf_bipush (v := 109) (mf_dat eX12_init_p14 37 rfl) (by decide) ?_
  obtain ⟨ck747, hyp⟩ := hyp
  obtain ⟨ck748, hyp⟩ := hyp
  refine mf_cast (mf_dat eX12_init_p14 38 rfl) ck747 rfl (by decide) ck748 (by decide) ?_
  generalize qh749 : mf_up h739 v746 0 109 = h749
  replace hyp := hyp _ qh749.symm
  refine mf_dup (mf_dat eX12_init_p14 39 rfl) (by decide) ?_
  refine mf_iconst (v := 1) (mf_dat eX12_init_p14 40 rfl) (by decide) ?_
  refine mf_bipush (v := 105) (mf_dat eX12_init_p14 41 rfl) (by decide) ?_
  obtain ⟨ck750, hyp⟩ := hyp
  refine mf_cast (mf_dat eX12_init_p14 42 rfl) ck747 rfl (by decide) ck750 (by decide) ?_
  generalize qh751 : mf_up h749 v746 1 105 = h751
  replace hyp := hyp _ qh751.symm
  refine mf_dup (mf_dat eX12_init_p14 43 rfl) (by decide) ?_
  refine mf_iconst (v := 2) (mf_dat eX12_init_p14 44 rfl) (by decide) ?_
  refine mf_bipush (v := 110) (mf_dat eX12_init_p14 45 rfl) (by decide) ?_
  obtain ⟨ck752, hyp⟩ := hyp
  refine mf_cast (mf_dat eX12_init_p14 46 rfl) ck747 rfl (by decide) ck752 (by decide) ?_
  generalize qh753 : mf_up h751 v746 2 110 = h753
  replace hyp := hyp _ qh753.symm
  obtain ⟨ck754, hyp⟩ := hyp
  refine mf_putRF (r := (RX12, TX12, 106)) (ci := 12) (k := 82) (kI := 82) (t := 2) (mf_dat eX12_init_p14 47 rfl) fl_X12_192 rfl rfl (by decide) rfl (by decide) rfl rfl rfl (by decide) (fun h9 => absurd h9 (by decide)) ck754 ?_
  generalize qg755 : mf_up g741 x0 82 v746 = g755
  replace hyp := hyp _ qg755.symm
  refine mf_aload_n (mf_dat eX12_init_p14 48 rfl) rfl rfl ?_
  refine mf_iconst (v := 3) (mf_dat eX12_init_p14 49 rfl) (by decide) ?_
  obtain ⟨ck756, hyp⟩ := hyp
  obtain ⟨ck757, hyp⟩ := hyp
  obtain ⟨ck758, hyp⟩ := hyp
  obtain ⟨ck759, hyp⟩ := hyp
  refine mf_newa (at_ := .char) (i := 3) (mf_dat eX12_init_p14 50 rfl) ac_23 rfl ck756 rfl (by decide) rfl rfl (by decide) (fun c h9 => FieldType.noConfusion h9) (by decide) ck757 ck758 ck759 ?_
  generalize qv760 : ((n0 + 58 : Nat) : Int) = v760
  replace hyp := hyp _ qv760.symm
  refine mf_dup (mf_dat eX12_init_p14 51 rfl) (by decide) ?_
  refine mf_iconst (v := 0) (mf_dat eX12_init_p14 52 rfl) (by decide) ?_
  refine mf_bipush (v := 109) (mf_dat eX12_init_p14 53 rfl) (by decide) ?_
  obtain ⟨ck761, hyp⟩ := hyp
  obtain ⟨ck762, hyp⟩ := hyp
  refine mf_cast (mf_dat eX12_init_p14 54 rfl) ck761 rfl (by decide) ck762 (by decide) ?_
  generalize qh763 : mf_up h753 v760 0 109 = h763
  replace hyp := hyp _ qh763.symm
  refine mf_dup (mf_dat eX12_init_p14 55 rfl) (by decide) ?_
  refine mf_iconst (v := 1) (mf_dat eX12_init_p14 56 rfl) (by decide) ?_
  refine mf_bipush (v := 97) (mf_dat eX12_init_p14 57 rfl) (by decide) ?_
  obtain ⟨ck764, hyp⟩ := hyp
  refine mf_cast (mf_dat eX12_init_p14 58 rfl) ck761 rfl (by decide) ck764 (by decide) ?_
  generalize qh765 : mf_up h763 v760 1 97 = h765
  replace hyp := hyp _ qh765.symm
  refine mf_dup (mf_dat eX12_init_p14 59 rfl) (by decide) ?_
  refine mf_iconst (v := 2) (mf_dat eX12_init_p15 0 rfl) (by decide) ?_
  refine mf_bipush (v := 120) (mf_dat eX12_init_p15 1 rfl) (by decide) ?_
  obtain ⟨ck766, hyp⟩ := hyp
  refine mf_cast (mf_dat eX12_init_p15 2 rfl) ck761 rfl (by decide) ck766 (by decide) ?_
  generalize qh767 : mf_up h765 v760 2 120 = h767
  replace hyp := hyp _ qh767.symm
  obtain ⟨ck768, hyp⟩ := hyp
  refine mf_putRF (r := (RX12, TX12, 106)) (ci := 12) (k := 83) (kI := 83) (t := 2) (mf_dat eX12_init_p15 3 rfl) fl_X12_195 rfl rfl (by decide) rfl (by decide) rfl rfl rfl (by decide) (fun h9 => absurd h9 (by decide)) ck768 ?_
  generalize qg769 : mf_up g755 x0 83 v760 = g769
  replace hyp := hyp _ qg769.symm
  refine mf_aload_n (mf_dat eX12_init_p15 4 rfl) rfl rfl ?_
  refine mf_iconst (v := 3) (mf_dat eX12_init_p15 5 rfl) (by decide) ?_
  obtain ⟨ck770, hyp⟩ := hyp
  obtain ⟨ck771, hyp⟩ := hyp
  obtain ⟨ck772, hyp⟩ := hyp
  obtain ⟨ck773, hyp⟩ := hyp
  refine mf_newa (at_ := .char) (i := 3) (mf_dat eX12_init_p15 6 rfl) ac_23 rfl ck770 rfl (by decide) rfl rfl (by decide) (fun c h9 => FieldType.noConfusion h9) (by decide) ck771 ck772 ck773 ?_
  generalize qv774 : ((n0 + 59 : Nat) : Int) = v774
  replace hyp := hyp _ qv774.symm
  refine mf_dup (mf_dat eX12_init_p15 7 rfl) (by decide) ?_
  refine mf_iconst (v := 0) (mf_dat eX12_init_p15 8 rfl) (by decide) ?_
  refine mf_bipush (v := 100) (mf_dat eX12_init_p15 9 rfl) (by decide) ?_
  obtain ⟨ck775, hyp⟩ := hyp
  obtain ⟨ck776, hyp⟩ := hyp
  refine mf_cast (mf_dat eX12_init_p15 10 rfl) ck775 rfl (by decide) ck776 (by decide) ?_
  generalize qh777 : mf_up h767 v774 0 100 = h777
  replace hyp := hyp _ qh777.symm
  refine mf_dup (mf_dat eX12_init_p15 11 rfl) (by decide) ?_
  refine mf_iconst (v := 1) (mf_dat eX12_init_p15 12 rfl) (by decide) ?_
  refine mf_bipush (v := 97) (mf_dat eX12_init_p15 13 rfl) (by decide) ?_
  obtain ⟨ck778, hyp⟩ := hyp
  refine mf_cast (mf_dat eX12_init_p15 14 rfl) ck775 rfl (by decide) ck778 (by decide) ?_
  generalize qh779 : mf_up h777 v774 1 97 = h779
  replace hyp := hyp _ qh779.symm
  refine mf_dup (mf_dat eX12_init_p15 15 rfl) (by decide) ?_
  refine mf_iconst (v := 2) (mf_dat eX12_init_p15 16 rfl) (by decide) ?_
  refine mf_bipush (v := 121) (mf_dat eX12_init_p15 17 rfl) (by decide) ?_
  obtain ⟨ck780, hyp⟩ := hyp
  refine mf_cast (mf_dat eX12_init_p15 18 rfl) ck775 rfl (by decide) ck780 (by decide) ?_
  generalize qh781 : mf_up h779 v774 2 121 = h781
  replace hyp := hyp _ qh781.symm
  obtain ⟨ck782, hyp⟩ := hyp
  refine mf_putRF (r := (RX12, TX12, 106)) (ci := 12) (k := 84) (kI := 84) (t := 2) (mf_dat eX12_init_p15 19 rfl) fl_X12_198 rfl rfl (by decide) rfl (by decide) rfl rfl rfl (by decide) (fun h9 => absurd h9 (by decide)) ck782 ?_
  generalize qg783 : mf_up g769 x0 84 v774 = g783
  replace hyp := hyp _ qg783.symm
  refine mf_aload_n (mf_dat eX12_init_p15 20 rfl) rfl rfl ?_
  refine mf_iconst (v := 4) (mf_dat eX12_init_p15 21 rfl) (by decide) ?_
  obtain ⟨ck784, hyp⟩ := hyp
  obtain ⟨ck785, hyp⟩ := hyp
  obtain ⟨ck786, hyp⟩ := hyp
  obtain ⟨ck787, hyp⟩ := hyp
  refine mf_newa (at_ := .char) (i := 3) (mf_dat eX12_init_p15 22 rfl) ac_23 rfl ck784 rfl (by decide) rfl rfl (by decide) (fun c h9 => FieldType.noConfusion h9) (by decide) ck785 ck786 ck787 ?_
  generalize qv788 : ((n0 + 60 : Nat) : Int) = v788
  replace hyp := hyp _ qv788.symm
  refine mf_dup (mf_dat eX12_init_p15 23 rfl) (by decide) ?_
  refine mf_iconst (v := 0) (mf_dat eX12_init_p15 24 rfl) (by decide) ?_
  refine mf_bipush (v := 108) (mf_dat eX12_init_p15 25 rfl) (by decide) ?_
  obtain ⟨ck789, hyp⟩ := hyp
  obtain ⟨ck790, hyp⟩ := hyp
  refine mf_cast (mf_dat eX12_init_p15 26 rfl) ck789 rfl (by decide) ck790 (by decide) ?_
  generalize qh791 : mf_up h781 v788 0 108 = h791
  replace hyp := hyp _ qh791.symm
  refine mf_dup (mf_dat eX12_init_p15 27 rfl) (by decide) ?_
  refine mf_iconst (v := 1) (mf_dat eX12_init_p15 28 rfl) (by decide) ?_
  refine mf_bipush (v := 101) (mf_dat eX12_init_p15 29 rfl) (by decide) ?_
  obtain ⟨ck792, hyp⟩ := hyp
  refine mf_cast (mf_dat eX12_init_p15 30 rfl) ck789 rfl (by decide) ck792 (by decide) ?_
  generalize qh793 : mf_up h791 v788 1 101 = h793
  replace hyp := hyp _ qh793.symm
  refine mf_dup (mf_dat eX12_init_p15 31 rfl) (by decide) ?_
  refine mf_iconst (v := 2) (mf_dat eX12_init_p15 32 rfl) (by decide) ?_
  refine mf_bipush (v := 97) (mf_dat eX12_init_p15 33 rfl) (by decide) ?_
  obtain ⟨ck794, hyp⟩ := hyp
  refine mf_cast (mf_dat eX12_init_p15 34 rfl) ck789 rfl (by decide) ck794 (by decide) ?_
  generalize qh795 : mf_up h793 v788 2 97 = h795
  replace hyp := hyp _ qh795.symm
  refine mf_dup (mf_dat eX12_init_p15 35 rfl) (by decide) ?_
  refine mf_iconst (v := 3) (mf_dat eX12_init_p15 36 rfl) (by decide) ?_
  refine mf_bipush (v := 102) (mf_dat eX12_init_p15 37 rfl) (by decide) ?_
  obtain ⟨ck796, hyp⟩ := hyp
  refine mf_cast (mf_dat eX12_init_p15 38 rfl) ck789 rfl (by decide) ck796 (by decide) ?_
  generalize qh797 : mf_up h795 v788 3 102 = h797
  replace hyp := hyp _ qh797.symm
  obtain ⟨ck798, hyp⟩ := hyp
  refine mf_putRF (r := (RX12, TX12, 106)) (ci := 12) (k := 85) (kI := 85) (t := 2) (mf_dat eX12_init_p15 39 rfl) fl_X12_201 rfl rfl (by decide) rfl (by decide) rfl rfl rfl (by decide) (fun h9 => absurd h9 (by decide)) ck798 ?_
  generalize qg799 : mf_up g783 x0 85 v788 = g799
  replace hyp := hyp _ qg799.symm
  refine mf_aload_n (mf_dat eX12_init_p15 40 rfl) rfl rfl ?_
  refine mf_iconst (v := 4) (mf_dat eX12_init_p15 41 rfl) (by decide) ?_
  obtain ⟨ck800, hyp⟩ := hyp
  obtain ⟨ck801, hyp⟩ := hyp
  obtain ⟨ck802, hyp⟩ := hyp
  obtain ⟨ck803, hyp⟩ := hyp
  refine mf_newa (at_ := .char) (i := 3) (mf_dat eX12_init_p15 42 rfl) ac_23 rfl ck800 rfl (by decide) rfl rfl (by decide) (fun c h9 => FieldType.noConfusion h9) (by decide) ck801 ck802 ck803 ?_
  generalize qv804 : ((n0 + 61 : Nat) : Int) = v804
  replace hyp := hyp _ qv804.symm
  refine mf_dup (mf_dat eX12_init_p15 43 rfl) (by decide) ?_
  refine mf_iconst (v := 0) (mf_dat eX12_init_p15 44 rfl) (by decide) ?_
  refine mf_bipush (v := 99) (mf_dat eX12_init_p15 45 rfl) (by decide) ?_
  obtain ⟨ck805, hyp⟩ := hyp
  obtain ⟨ck806, hyp⟩ := hyp
  refine mf_cast (mf_dat eX12_init_p15 46 rfl) ck805 rfl (by decide) ck806 (by decide) ?_
  generalize qh807 : mf_up h797 v804 0 99 = h807
  replace hyp := hyp _ qh807.symm
  refine mf_dup (mf_dat eX12_init_p15 47 rfl) (by decide) ?_
  refine mf_iconst (v := 1) (mf_dat eX12_init_p15 48 rfl) (by decide) ?_
  refine mf_bipush (v := 101) (mf_dat eX12_init_p15 49 rfl) (by decide) ?_
  obtain ⟨ck808, hyp⟩ := hyp
  refine mf_cast (mf_dat eX12_init_p15 50 rfl) ck805 rfl (by decide) ck808 (by decide) ?_
  generalize qh809 : mf_up h807 v804 1 101 = h809
  replace hyp := hyp _ qh809.symm
  refine mf_dup (mf_dat eX12_init_p15 51 rfl) (by decide) ?_
  refine mf_iconst (v := 2) (mf_dat eX12_init_p15 52 rfl) (by decide) ?_
  refine mf_bipush (v := 108) (mf_dat eX12_init_p15 53 rfl) (by decide) ?_
  obtain ⟨ck810, hyp⟩ := hyp
  refine mf_cast (mf_dat eX12_init_p15 54 rfl) ck805 rfl (by decide) ck810 (by decide) ?_
  generalize qh811 : mf_up h809 v804 2 108 = h811
  replace hyp := hyp _ qh811.symm
  refine mf_dup (mf_dat eX12_init_p15 55 rfl) (by decide) ?_
  refine mf_iconst (v := 3) (mf_dat eX12_init_p15 56 rfl) (by decide) ?_
  refine mf_bipush (v := 108) (mf_dat eX12_init_p15 57 rfl) (by decide) ?_
  obtain ⟨ck812, hyp⟩ := hyp
  refine mf_cast (mf_dat eX12_init_p15 58 rfl) ck805 rfl (by decide) ck812 (by decide) ?_
  generalize qh813 : mf_up h811 v804 3 108 = h813
  replace hyp := hyp _ qh813.symm
  obtain ⟨ck814, hyp⟩ := hyp
  refine mf_putRF (r := (RX12, TX12, 106)) (ci := 12) (k := 86) (kI := 86) (t := 2) (mf_dat eX12_init_p15 59 rfl) fl_X12_204 rfl rfl (by decide) rfl (by decide) rfl rfl rfl (by decide) (fun h9 => absurd h9 (by decide)) ck814 ?_
  generalize qg815 : mf_up g799 x0 86 v804 = g815
  replace hyp := hyp _ qg815.symm
  refine mf_aload_n (mf_dat eX12_init_p16 0 rfl) rfl rfl ?_
  refine mf_iconst (v := 5) (mf_dat eX12_init_p16 1 rfl) (by decide) ?_
  obtain ⟨ck816, hyp⟩ := hyp
  obtain ⟨ck817, hyp⟩ := hyp
  obtain ⟨ck818, hyp⟩ := hyp
  obtain ⟨ck819, hyp⟩ := hyp
  refine mf_newa (at_ := .char) (i := 3) (mf_dat eX12_init_p16 2 rfl) ac_23 rfl ck816 rfl (by decide) rfl rfl (by decide) (fun c h9 => FieldType.noConfusion h9) (by decide) ck817 ck818 ck819 ?_
  generalize qv820 : ((n0 + 62 : Nat) : Int) = v820
  replace hyp := hyp _ qv820.symm
  refine mf_dup (mf_dat eX12_init_p16 3 rfl) (by decide) ?_
  refine mf_iconst (v := 0) (mf_dat eX12_init_p16 4 rfl) (by decide) ?_
  refine mf_bipush (v := 116) (mf_dat eX12_init_p16 5 rfl) (by decide) ?_
  obtain ⟨ck821, hyp⟩ := hyp
  obtain ⟨ck822, hyp⟩ := hyp
  refine mf_cast (mf_dat eX12_init_p16 6 rfl) ck821 rfl (by decide) ck822 (by decide) ?_
  generalize qh823 : mf_up h813 v820 0 116 = h823
  replace hyp := hyp _ qh823.symm
  refine mf_dup (mf_dat eX12_init_p16 7 rfl) (by decide) ?_
  refine mf_iconst (v := 1) (mf_dat eX12_init_p16 8 rfl) (by decide) ?_
  refine mf_bipush (v := 114) (mf_dat eX12_init_p16 9 rfl) (by decide) ?_
  obtain ⟨ck824, hyp⟩ := hyp
  refine mf_cast (mf_dat eX12_init_p16 10 rfl) ck821 rfl (by decide) ck824 (by decide) ?_
  generalize qh825 : mf_up h823 v820 1 114 = h825
  replace hyp := hyp _ qh825.symm
  refine mf_dup (mf_dat eX12_init_p16 11 rfl) (by decide) ?_
  refine mf_iconst (v := 2) (mf_dat eX12_init_p16 12 rfl) (by decide) ?_
  refine mf_bipush (v := 97) (mf_dat eX12_init_p16 13 rfl) (by decide) ?_
  obtain ⟨ck826, hyp⟩ := hyp
  refine mf_cast (mf_dat eX12_init_p16 14 rfl) ck821 rfl (by decide) ck826 (by decide) ?_
  generalize qh827 : mf_up h825 v820 2 97 = h827
  replace hyp := hyp _ qh827.symm
  refine mf_dup (mf_dat eX12_init_p16 15 rfl) (by decide) ?_
  refine mf_iconst (v := 3) (mf_dat eX12_init_p16 16 rfl) (by decide) ?_
  refine mf_bipush (v := 100) (mf_dat eX12_init_p16 17 rfl) (by decide) ?_
  obtain ⟨ck828, hyp⟩ := hyp
  refine mf_cast (mf_dat eX12_init_p16 18 rfl) ck821 rfl (by decide) ck828 (by decide) ?_
  generalize qh829 : mf_up h827 v820 3 100 = h829
  replace hyp := hyp _ qh829.symm
  refine mf_dup (mf_dat eX12_init_p16 19 rfl) (by decide) ?_
  refine mf_iconst (v := 4) (mf_dat eX12_init_p16 20 rfl) (by decide) ?_
  refine mf_bipush (v := 101) (mf_dat eX12_init_p16 21 rfl) (by decide) ?_
  obtain ⟨ck830, hyp⟩ := hyp
  refine mf_cast (mf_dat eX12_init_p16 22 rfl) ck821 rfl (by decide) ck830 (by decide) ?_
  generalize qh831 : mf_up h829 v820 4 101 = h831
  replace hyp := hyp _ qh831.symm
  obtain ⟨ck832, hyp⟩ := hyp
  refine mf_putRF (r := (RX12, TX12, 106)) (ci := 12) (k := 87) (kI := 87) (t := 2) (mf_dat eX12_init_p16 23 rfl) fl_X12_207 rfl rfl (by decide) rfl (by decide) rfl rfl rfl (by decide) (fun h9 => absurd h9 (by decide)) ck832 ?_
  generalize qg833 : mf_up g815 x0 87 v820 = g833
  replace hyp := hyp _ qg833.symm
  refine mf_aload_n (mf_dat eX12_init_p16 24 rfl) rfl rfl ?_
  refine mf_iconst (v := 5) (mf_dat eX12_init_p16 25 rfl) (by decide) ?_
  obtain ⟨ck834, hyp⟩ := hyp
  obtain ⟨ck835, hyp⟩ := hyp
  obtain ⟨ck836, hyp⟩ := hyp
  obtain ⟨ck837, hyp⟩ := hyp
  refine mf_newa (at_ := .char) (i := 3) (mf_dat eX12_init_p16 26 rfl) ac_23 rfl ck834 rfl (by decide) rfl rfl (by decide) (fun c h9 => FieldType.noConfusion h9) (by decide) ck835 ck836 ck837 ?_
  generalize qv838 : ((n0 + 63 : Nat) : Int) = v838
  replace hyp := hyp _ qv838.symm
  refine mf_dup (mf_dat eX12_init_p16 27 rfl) (by decide) ?_
  refine mf_iconst (v := 0) (mf_dat eX12_init_p16 28 rfl) (by decide) ?_
  refine mf_bipush (v := 112) (mf_dat eX12_init_p16 29 rfl) (by decide) ?_
  obtain ⟨ck839, hyp⟩ := hyp
  obtain ⟨ck840, hyp⟩ := hyp
  refine mf_cast (mf_dat eX12_init_p16 30 rfl) ck839 rfl (by decide) ck840 (by decide) ?_
  generalize qh841 : mf_up h831 v838 0 112 = h841
  replace hyp := hyp _ qh841.symm
  refine mf_dup (mf_dat eX12_init_p16 31 rfl) (by decide) ?_
  refine mf_iconst (v := 1) (mf_dat eX12_init_p16 32 rfl) (by decide) ?_
  refine mf_bipush (v := 117) (mf_dat eX12_init_p16 33 rfl) (by decide) ?_
  obtain ⟨ck842, hyp⟩ := hyp
  refine mf_cast (mf_dat eX12_init_p16 34 rfl) ck839 rfl (by decide) ck842 (by decide) ?_
  generalize qh843 : mf_up h841 v838 1 117 = h843
  replace hyp := hyp _ qh843.symm
  refine mf_dup (mf_dat eX12_init_p16 35 rfl) (by decide) ?_
  refine mf_iconst (v := 2) (mf_dat eX12_init_p16 36 rfl) (by decide) ?_
  refine mf_bipush (v := 114) (mf_dat eX12_init_p16 37 rfl) (by decide) ?_
  obtain ⟨ck844, hyp⟩ := hyp
  refine mf_cast (mf_dat eX12_init_p16 38 rfl) ck839 rfl (by decide) ck844 (by decide) ?_
  generalize qh845 : mf_up h843 v838 2 114 = h845
  replace hyp := hyp _ qh845.symm
  refine mf_dup (mf_dat eX12_init_p16 39 rfl) (by decide) ?_
  refine mf_iconst (v := 3) (mf_dat eX12_init_p16 40 rfl) (by decide) ?_
  refine mf_bipush (v := 115) (mf_dat eX12_init_p16 41 rfl) (by decide) ?_
  obtain ⟨ck846, hyp⟩ := hyp
  refine mf_cast (mf_dat eX12_init_p16 42 rfl) ck839 rfl (by decide) ck846 (by decide) ?_
  generalize qh847 : mf_up h845 v838 3 115 = h847
  replace hyp := hyp _ qh847.symm
  refine mf_dup (mf_dat eX12_init_p16 43 rfl) (by decide) ?_
  refine mf_iconst (v := 4) (mf_dat eX12_init_p16 44 rfl) (by decide) ?_
  refine mf_bipush (v := 101) (mf_dat eX12_init_p16 45 rfl) (by decide) ?_
  obtain ⟨ck848, hyp⟩ := hyp
  refine mf_cast (mf_dat eX12_init_p16 46 rfl) ck839 rfl (by decide) ck848 (by decide) ?_
  generalize qh849 : mf_up h847 v838 4 101 = h849
  replace hyp := hyp _ qh849.symm
  obtain ⟨ck850, hyp⟩ := hyp
  refine mf_putRF (r := (RX12, TX12, 106)) (ci := 12) (k := 88) (kI := 88) (t := 2) (mf_dat eX12_init_p16 47 rfl) fl_X12_210 rfl rfl (by decide) rfl (by decide) rfl rfl rfl (by decide) (fun h9 => absurd h9 (by decide)) ck850 ?_
  generalize qg851 : mf_up g833 x0 88 v838 = g851
  replace hyp := hyp _ qg851.symm
  refine mf_aload_n (mf_dat eX12_init_p16 48 rfl) rfl rfl ?_
  refine mf_iconst (v := 4) (mf_dat eX12_init_p16 49 rfl) (by decide) ?_
  obtain ⟨ck852, hyp⟩ := hyp
  obtain ⟨ck853, hyp⟩ := hyp
  obtain ⟨ck854, hyp⟩ := hyp
  obtain ⟨ck855, hyp⟩ := hyp
  refine mf_newa (at_ := .char) (i := 3) (mf_dat eX12_init_p16 50 rfl) ac_23 rfl ck852 rfl (by decide) rfl rfl (by decide) (fun c h9 => FieldType.noConfusion h9) (by decide) ck853 ck854 ck855 ?_
  generalize qv856 : ((n0 + 64 : Nat) : Int) = v856
  replace hyp := hyp _ qv856.symm
  refine mf_dup (mf_dat eX12_init_p16 51 rfl) (by decide) ?_
  refine mf_iconst (v := 0) (mf_dat eX12_init_p16 52 rfl) (by decide) ?_
  refine mf_bipush (v := 111) (mf_dat eX12_init_p16 53 rfl) (by decide) ?_
  obtain ⟨ck857, hyp⟩ := hyp
  obtain ⟨ck858, hyp⟩ := hyp
  refine mf_cast (mf_dat eX12_init_p16 54 rfl) ck857 rfl (by decide) ck858 (by decide) ?_
  generalize qh859 : mf_up h849 v856 0 111 = h859
  replace hyp := hyp _ qh859.symm
  refine mf_dup (mf_dat eX12_init_p16 55 rfl) (by decide) ?_
  refine mf_iconst (v := 1) (mf_dat eX12_init_p16 56 rfl) (by decide) ?_
  refine mf_bipush (v := 112) (mf_dat eX12_init_p16 57 rfl) (by decide) ?_
  obtain ⟨ck860, hyp⟩ := hyp
  refine mf_cast (mf_dat eX12_init_p16 58 rfl) ck857 rfl (by decide) ck860 (by decide) ?_
  generalize qh861 : mf_up h859 v856 1 112 = h861
  replace hyp := hyp _ qh861.symm
  refine mf_dup (mf_dat eX12_init_p16 59 rfl) (by decide) ?_
  refine mf_iconst (v := 2) (mf_dat eX12_init_p17 0 rfl) (by decide) ?_
  refine mf_bipush (v := 101) (mf_dat eX12_init_p17 1 rfl) (by decide) ?_
  obtain ⟨ck862, hyp⟩ := hyp
  refine mf_cast (mf_dat eX12_init_p17 2 rfl) ck857 rfl (by decide) ck862 (by decide) ?_
  generalize qh863 : mf_up h861 v856 2 101 = h863
  replace hyp := hyp _ qh863.symm
  refine mf_dup (mf_dat eX12_init_p17 3 rfl) (by decide) ?_
  refine mf_iconst (v := 3) (mf_dat eX12_init_p17 4 rfl) (by decide) ?_
  refine mf_bipush (v := 110) (mf_dat eX12_init_p17 5 rfl) (by decide) ?_
  obtain ⟨ck864, hyp⟩ := hyp
  refine mf_cast (mf_dat eX12_init_p17 6 rfl) ck857 rfl (by decide) ck864 (by decide) ?_
  generalize qh865 : mf_up h863 v856 3 110 = h865
  replace hyp := hyp _ qh865.symm
  obtain ⟨ck866, hyp⟩ := hyp
  refine mf_putRF (r := (RX12, TX12, 106)) (ci := 12) (k := 89) (kI := 89) (t := 2) (mf_dat eX12_init_p17 7 rfl) fl_X12_213 rfl rfl (by decide) rfl (by decide) rfl rfl rfl (by decide) (fun h9 => absurd h9 (by decide)) ck866 ?_
  generalize qg867 : mf_up g851 x0 89 v856 = g867
  replace hyp := hyp _ qg867.symm
  refine mf_aload_n (mf_dat eX12_init_p17 8 rfl) rfl rfl ?_
  refine mf_iconst (v := 5) (mf_dat eX12_init_p17 9 rfl) (by decide) ?_
  obtain ⟨ck868, hyp⟩ := hyp
  obtain ⟨ck869, hyp⟩ := hyp
  obtain ⟨ck870, hyp⟩ := hyp
  obtain ⟨ck871, hyp⟩ := hyp
  refine mf_newa (at_ := .char) (i := 3) (mf_dat eX12_init_p17 10 rfl) ac_23 rfl ck868 rfl (by decide) rfl rfl (by decide) (fun c h9 => FieldType.noConfusion h9) (by decide) ck869 ck870 ck871 ?_
  generalize qv872 : ((n0 + 65 : Nat) : Int) = v872
  replace hyp := hyp _ qv872.symm
  refine mf_dup (mf_dat eX12_init_p17 11 rfl) (by decide) ?_
  refine mf_iconst (v := 0) (mf_dat eX12_init_p17 12 rfl) (by decide) ?_
  refine mf_bipush (v := 111) (mf_dat eX12_init_p17 13 rfl) (by decide) ?_
  obtain ⟨ck873, hyp⟩ := hyp
  obtain ⟨ck874, hyp⟩ := hyp
  refine mf_cast (mf_dat eX12_init_p17 14 rfl) ck873 rfl (by decide) ck874 (by decide) ?_
  generalize qh875 : mf_up h865 v872 0 111 = h875
  replace hyp := hyp _ qh875.symm
  refine mf_dup (mf_dat eX12_init_p17 15 rfl) (by decide) ?_
  refine mf_iconst (v := 1) (mf_dat eX12_init_p17 16 rfl) (by decide) ?_
  refine mf_bipush (v := 116) (mf_dat eX12_init_p17 17 rfl) (by decide) ?_
  obtain ⟨ck876, hyp⟩ := hyp
  refine mf_cast (mf_dat eX12_init_p17 18 rfl) ck873 rfl (by decide) ck876 (by decide) ?_
  generalize qh877 : mf_up h875 v872 1 116 = h877
  replace hyp := hyp _ qh877.symm
  refine mf_dup (mf_dat eX12_init_p17 19 rfl) (by decide) ?_
  refine mf_iconst (v := 2) (mf_dat eX12_init_p17 20 rfl) (by decide) ?_
  refine mf_bipush (v := 104) (mf_dat eX12_init_p17 21 rfl) (by decide) ?_
  obtain ⟨ck878, hyp⟩ := hyp
  refine mf_cast (mf_dat eX12_init_p17 22 rfl) ck873 rfl (by decide) ck878 (by decide) ?_
  generalize qh879 : mf_up h877 v872 2 104 = h879
  replace hyp := hyp _ qh879.symm
  refine mf_dup (mf_dat eX12_init_p17 23 rfl) (by decide) ?_
  refine mf_iconst (v := 3) (mf_dat eX12_init_p17 24 rfl) (by decide) ?_
  refine mf_bipush (v := 101) (mf_dat eX12_init_p17 25 rfl) (by decide) ?_
  obtain ⟨ck880, hyp⟩ := hyp
  refine mf_cast (mf_dat eX12_init_p17 26 rfl) ck873 rfl (by decide) ck880 (by decide) ?_
  generalize qh881 : mf_up h879 v872 3 101 = h881
  replace hyp := hyp _ qh881.symm
  refine mf_dup (mf_dat eX12_init_p17 27 rfl) (by decide) ?_
  refine mf_iconst (v := 4) (mf_dat eX12_init_p17 28 rfl) (by decide) ?_
  refine mf_bipush (v := 114) (mf_dat eX12_init_p17 29 rfl) (by decide) ?_
  obtain ⟨ck882, hyp⟩ := hyp
  refine mf_cast (mf_dat eX12_init_p17 30 rfl) ck873 rfl (by decide) ck882 (by decide) ?_
  generalize qh883 : mf_up h881 v872 4 114 = h883
  replace hyp := hyp _ qh883.symm
  obtain ⟨ck884, hyp⟩ := hyp
  refine mf_putRF (r := (RX12, TX12, 106)) (ci := 12) (k := 90) (kI := 90) (t := 2) (mf_dat eX12_init_p17 31 rfl) fl_X12_216 rfl rfl (by decide) rfl (by decide) rfl rfl rfl (by decide) (fun h9 => absurd h9 (by decide)) ck884 ?_
  generalize qg885 : mf_up g867 x0 90 v872 = g885
  replace hyp := hyp _ qg885.symm
  refine mf_aload_n (mf_dat eX12_init_p17 32 rfl) rfl rfl ?_
  refine mf_bipush (v := 6) (mf_dat eX12_init_p17 33 rfl) (by decide) ?_
  obtain ⟨ck886, hyp⟩ := hyp
  obtain ⟨ck887, hyp⟩ := hyp
  obtain ⟨ck888, hyp⟩ := hyp
  obtain ⟨ck889, hyp⟩ := hyp
  refine mf_newa (at_ := .char) (i := 3) (mf_dat eX12_init_p17 34 rfl) ac_23 rfl ck886 rfl (by decide) rfl rfl (by decide) (fun c h9 => FieldType.noConfusion h9) (by decide) ck887 ck888 ck889 ?_
  generalize qv890 : ((n0 + 66 : Nat) : Int) = v890
  replace hyp := hyp _ qv890.symm
  refine mf_dup (mf_dat eX12_init_p17 35 rfl) (by decide) ?_
  refine mf_iconst (v := 0) (mf_dat eX12_init_p17 36 rfl) (by decide) ?_
  refine mf_bipush (v := 110) (mf_dat eX12_init_p17 37 rfl) (by decide) ?_
  obtain ⟨ck891, hyp⟩ := hyp
  obtain ⟨ck892, hyp⟩ := hyp
  refine mf_cast (mf_dat eX12_init_p17 38 rfl) ck891 rfl (by decide) ck892 (by decide) ?_
  generalize qh893 : mf_up h883 v890 0 110 = h893
  replace hyp := hyp _ qh893.symm
  refine mf_dup (mf_dat eX12_init_p17 39 rfl) (by decide) ?_
  refine mf_iconst (v := 1) (mf_dat eX12_init_p17 40 rfl) (by decide) ?_
  refine mf_bipush (v := 117) (mf_dat eX12_init_p17 41 rfl) (by decide) ?_
  obtain ⟨ck894, hyp⟩ := hyp
  refine mf_cast (mf_dat eX12_init_p17 42 rfl) ck891 rfl (by decide) ck894 (by decide) ?_
  generalize qh895 : mf_up h893 v890 1 117 = h895
  replace hyp := hyp _ qh895.symm
  refine mf_dup (mf_dat eX12_init_p17 43 rfl) (by decide) ?_
  refine mf_iconst (v := 2) (mf_dat eX12_init_p17 44 rfl) (by decide) ?_
  refine mf_bipush (v := 109) (mf_dat eX12_init_p17 45 rfl) (by decide) ?_
  obtain ⟨ck896, hyp⟩ := hyp
  refine mf_cast (mf_dat eX12_init_p17 46 rfl) ck891 rfl (by decide) ck896 (by decide) ?_
  generalize qh897 : mf_up h895 v890 2 109 = h897
  replace hyp := hyp _ qh897.symm
  refine mf_dup (mf_dat eX12_init_p17 47 rfl) (by decide) ?_
  refine mf_iconst (v := 3) (mf_dat eX12_init_p17 48 rfl) (by decide) ?_
  refine mf_bipush (v := 98) (mf_dat eX12_init_p17 49 rfl) (by decide) ?_
  obtain ⟨ck898, hyp⟩ := hyp
  refine mf_cast (mf_dat eX12_init_p17 50 rfl) ck891 rfl (by decide) ck898 (by decide) ?_
  generalize qh899 : mf_up h897 v890 3 98 = h899
  replace hyp := hyp _ qh899.symm
  refine mf_dup (mf_dat eX12_init_p17 51 rfl) (by decide) ?_
  refine mf_iconst (v := 4) (mf_dat eX12_init_p17 52 rfl) (by decide) ?_
  refine mf_bipush (v := 101) (mf_dat eX12_init_p17 53 rfl) (by decide) ?_
  obtain ⟨ck900, hyp⟩ := hyp
  refine mf_cast (mf_dat eX12_init_p17 54 rfl) ck891 rfl (by decide) ck900 (by decide) ?_
  generalize qh901 : mf_up h899 v890 4 101 = h901
  replace hyp := hyp _ qh901.symm
  refine mf_dup (mf_dat eX12_init_p17 55 rfl) (by decide) ?_
  refine mf_iconst (v := 5) (mf_dat eX12_init_p17 56 rfl) (by decide) ?_
  refine mf_bipush (v := 114) (mf_dat eX12_init_p17 57 rfl) (by decide) ?_
  obtain ⟨ck902, hyp⟩ := hyp
  refine mf_cast (mf_dat eX12_init_p17 58 rfl) ck891 rfl (by decide) ck902 (by decide) ?_
  generalize qh903 : mf_up h901 v890 5 114 = h903
  replace hyp := hyp _ qh903.symm
  obtain ⟨ck904, hyp⟩ := hyp
  refine mf_putRF (r := (RX12, TX12, 106)) (ci := 12) (k := 91) (kI := 91) (t := 2) (mf_dat eX12_init_p17 59 rfl) fl_X12_219 rfl rfl (by decide) rfl (by decide) rfl rfl rfl (by decide) (fun h9 => absurd h9 (by decide)) ck904 ?_
  generalize qg905 : mf_up g885 x0 91 v890 = g905
  replace hyp := hyp _ qg905.symm
  refine mf_aload_n (mf_dat eX12_init_p18 0 rfl) rfl rfl ?_
  refine mf_iconst (v := 3) (mf_dat eX12_init_p18 1 rfl) (by decide) ?_
  obtain ⟨ck906, hyp⟩ := hyp
  obtain ⟨ck907, hyp⟩ := hyp
  obtain ⟨ck908, hyp⟩ := hyp
  obtain ⟨ck909, hyp⟩ := hyp
  refine mf_newa (at_ := .char) (i := 3) (mf_dat eX12_init_p18 2 rfl) ac_23 rfl ck906 rfl (by decide) rfl rfl (by decide) (fun c h9 => FieldType.noConfusion h9) (by decide) ck907 ck908 ck909 ?_
  generalize qv910 : ((n0 + 67 : Nat) : Int) = v910
  replace hyp := hyp _ qv910.symm
  refine mf_dup (mf_dat eX12_init_p18 3 rfl) (by decide) ?_
  refine mf_iconst (v := 0) (mf_dat eX12_init_p18 4 rfl) (by decide) ?_
  refine mf_bipush (v := 109) (mf_dat eX12_init_p18 5 rfl) (by decide) ?_
  obtain ⟨ck911, hyp⟩ := hyp
  obtain ⟨ck912, hyp⟩ := hyp
  refine mf_cast (mf_dat eX12_init_p18 6 rfl) ck911 rfl (by decide) ck912 (by decide) ?_
  generalize qh913 : mf_up h903 v910 0 109 = h913
  replace hyp := hyp _ qh913.symm
  refine mf_dup (mf_dat eX12_init_p18 7 rfl) (by decide) ?_
  refine mf_iconst (v := 1) (mf_dat eX12_init_p18 8 rfl) (by decide) ?_
  refine mf_bipush (v := 101) (mf_dat eX12_init_p18 9 rfl) (by decide) ?_
  obtain ⟨ck914, hyp⟩ := hyp
  refine mf_cast (mf_dat eX12_init_p18 10 rfl) ck911 rfl (by decide) ck914 (by decide) ?_
  generalize qh915 : mf_up h913 v910 1 101 = h915
  replace hyp := hyp _ qh915.symm
  refine mf_dup (mf_dat eX12_init_p18 11 rfl) (by decide) ?_
  refine mf_iconst (v := 2) (mf_dat eX12_init_p18 12 rfl) (by decide) ?_
  refine mf_bipush (v := 116) (mf_dat eX12_init_p18 13 rfl) (by decide) ?_
  obtain ⟨ck916, hyp⟩ := hyp
  refine mf_cast (mf_dat eX12_init_p18 14 rfl) ck911 rfl (by decide) ck916 (by decide) ?_
  generalize qh917 : mf_up h915 v910 2 116 = h917
  replace hyp := hyp _ qh917.symm
  obtain ⟨ck918, hyp⟩ := hyp
  refine mf_putRF (r := (RX12, TX12, 106)) (ci := 12) (k := 92) (kI := 92) (t := 2) (mf_dat eX12_init_p18 15 rfl) fl_X12_222 rfl rfl (by decide) rfl (by decide) rfl rfl rfl (by decide) (fun h9 => absurd h9 (by decide)) ck918 ?_
  generalize qg919 : mf_up g905 x0 92 v910 = g919
  replace hyp := hyp _ qg919.symm
  refine mf_aload_n (mf_dat eX12_init_p18 16 rfl) rfl rfl ?_
  refine mf_iconst (v := 5) (mf_dat eX12_init_p18 17 rfl) (by decide) ?_
  obtain ⟨ck920, hyp⟩ := hyp
  obtain ⟨ck921, hyp⟩ := hyp
  obtain ⟨ck922, hyp⟩ := hyp
  obtain ⟨ck923, hyp⟩ := hyp
  refine mf_newa (at_ := .char) (i := 3) (mf_dat eX12_init_p18 18 rfl) ac_23 rfl ck920 rfl (by decide) rfl rfl (by decide) (fun c h9 => FieldType.noConfusion h9) (by decide) ck921 ck922 ck923 ?_
  generalize qv924 : ((n0 + 68 : Nat) : Int) = v924
  replace hyp := hyp _ qv924.symm
  refine mf_dup (mf_dat eX12_init_p18 19 rfl) (by decide) ?_
  refine mf_iconst (v := 0) (mf_dat eX12_init_p18 20 rfl) (by decide) ?_
  refine mf_bipush (v := 109) (mf_dat eX12_init_p18 21 rfl) (by decide) ?_
  obtain ⟨ck925, hyp⟩ := hyp
  obtain ⟨ck926, hyp⟩ := hyp
  refine mf_cast (mf_dat eX12_init_p18 22 rfl) ck925 rfl (by decide) ck926 (by decide) ?_
  generalize qh927 : mf_up h917 v924 0 109 = h927
  replace hyp := hyp _ qh927.symm
  refine mf_dup (mf_dat eX12_init_p18 23 rfl) (by decide) ?_
  refine mf_iconst (v := 1) (mf_dat eX12_init_p18 24 rfl) (by decide) ?_
  refine mf_bipush (v := 101) (mf_dat eX12_init_p18 25 rfl) (by decide) ?_
  obtain ⟨ck928, hyp⟩ := hyp
  refine mf_cast (mf_dat eX12_init_p18 26 rfl) ck925 rfl (by decide) ck928 (by decide) ?_
  generalize qh929 : mf_up h927 v924 1 101 = h929
  replace hyp := hyp _ qh929.symm
  refine mf_dup (mf_dat eX12_init_p18 27 rfl) (by decide) ?_
  refine mf_iconst (v := 2) (mf_dat eX12_init_p18 28 rfl) (by decide) ?_
  refine mf_bipush (v := 101) (mf_dat eX12_init_p18 29 rfl) (by decide) ?_
  obtain ⟨ck930, hyp⟩ := hyp
  refine mf_cast (mf_dat eX12_init_p18 30 rfl) ck925 rfl (by decide) ck930 (by decide) ?_
  generalize qh931 : mf_up h929 v924 2 101 = h931
  replace hyp := hyp _ qh931.symm
  refine mf_dup (mf_dat eX12_init_p18 31 rfl) (by decide) ?_
  refine mf_iconst (v := 3) (mf_dat eX12_init_p18 32 rfl) (by decide) ?_
  refine mf_bipush (v := 116) (mf_dat eX12_init_p18 33 rfl) (by decide) ?_
  obtain ⟨ck932, hyp⟩ := hyp
  refine mf_cast (mf_dat eX12_init_p18 34 rfl) ck925 rfl (by decide) ck932 (by decide) ?_
  generalize qh933 : mf_up h931 v924 3 116 = h933
  replace hyp := hyp _ qh933.symm
  refine mf_dup (mf_dat eX12_init_p18 35 rfl) (by decide) ?_
  refine mf_iconst (v := 4) (mf_dat eX12_init_p18 36 rfl) (by decide) ?_
  refine mf_bipush (v := 115) (mf_dat eX12_init_p18 37 rfl) (by decide) ?_
  obtain ⟨ck934, hyp⟩ := hyp
  refine mf_cast (mf_dat eX12_init_p18 38 rfl) ck925 rfl (by decide) ck934 (by decide) ?_
  generalize qh935 : mf_up h933 v924 4 115 = h935
  replace hyp := hyp _ qh935.symm
  obtain ⟨ck936, hyp⟩ := hyp
  refine mf_putRF (r := (RX12, TX12, 106)) (ci := 12) (k := 93) (kI := 93) (t := 2) (mf_dat eX12_init_p18 39 rfl) fl_X12_225 rfl rfl (by decide) rfl (by decide) rfl rfl rfl (by decide) (fun h9 => absurd h9 (by decide)) ck936 ?_
  generalize qg937 : mf_up g919 x0 93 v924 = g937
  replace hyp := hyp _ qg937.symm
  refine mf_aload_n (mf_dat eX12_init_p18 40 rfl) rfl rfl ?_
  refine mf_sipush (v := 1700) (mf_dat eX12_init_p18 41 rfl) (by decide) ?_
  obtain ⟨ck938, hyp⟩ := hyp
  obtain ⟨ck939, hyp⟩ := hyp
  obtain ⟨ck940, hyp⟩ := hyp
  obtain ⟨ck941, hyp⟩ := hyp
  refine mf_newa (at_ := .int) (i := 0) (mf_dat eX12_init_p18 42 rfl) ac_20 rfl ck938 rfl (by decide) rfl rfl (by decide) (fun c h9 => FieldType.noConfusion h9) (by decide) ck939 ck940 ck941 ?_
  obtain ⟨ck942, hyp⟩ := hyp
  refine mf_putRF (r := (RX12, TX12, 106)) (ci := 12) (k := 94) (kI := 94) (t := 2) (mf_dat eX12_init_p18 43 rfl) fl_X12_228 rfl rfl (by decide) rfl (by decide) rfl rfl rfl (by decide) (fun h9 => absurd h9 (by decide)) ck942 ?_
  generalize qg943 : mf_up g937 x0 94 ((n0 + 69 : Nat) : Int) = g943
  replace hyp := hyp _ qg943.symm
  refine mf_aload_n (mf_dat eX12_init_p18 44 rfl) rfl rfl ?_
  refine mf_sipush (v := 1700) (mf_dat eX12_init_p18 45 rfl) (by decide) ?_
  obtain ⟨ck944, hyp⟩ := hyp
  obtain ⟨ck945, hyp⟩ := hyp
  obtain ⟨ck946, hyp⟩ := hyp
  obtain ⟨ck947, hyp⟩ := hyp
  refine mf_newa (at_ := .int) (i := 0) (mf_dat eX12_init_p18 46 rfl) ac_20 rfl ck944 rfl (by decide) rfl rfl (by decide) (fun c h9 => FieldType.noConfusion h9) (by decide) ck945 ck946 ck947 ?_
  obtain ⟨ck948, hyp⟩ := hyp
  refine mf_putRF (r := (RX12, TX12, 106)) (ci := 12) (k := 96) (kI := 96) (t := 2) (mf_dat eX12_init_p18 47 rfl) fl_X12_231 rfl rfl (by decide) rfl (by decide) rfl rfl rfl (by decide) (fun h9 => absurd h9 (by decide)) ck948 ?_
  generalize qg949 : mf_up g943 x0 96 ((n0 + 70 : Nat) : Int) = g949
  replace hyp := hyp _ qg949.symm
  refine mf_aload_n (mf_dat eX12_init_p18 48 rfl) rfl rfl ?_
  refine mf_sipush (v := 1700) (mf_dat eX12_init_p18 49 rfl) (by decide) ?_
  obtain ⟨ck950, hyp⟩ := hyp
  obtain ⟨ck951, hyp⟩ := hyp
  obtain ⟨ck952, hyp⟩ := hyp
  obtain ⟨ck953, hyp⟩ := hyp
  refine mf_newa (at_ := .long) (i := 4) (mf_dat eX12_init_p18 50 rfl) ac_24 rfl ck950 rfl (by decide) rfl rfl (by decide) (fun c h9 => FieldType.noConfusion h9) (by decide) ck951 ck952 ck953 ?_
  obtain ⟨ck954, hyp⟩ := hyp
  refine mf_putRF (r := (RX12, TX12, 106)) (ci := 12) (k := 100) (kI := 100) (t := 2) (mf_dat eX12_init_p18 51 rfl) fl_X12_234 rfl rfl (by decide) rfl (by decide) rfl rfl rfl (by decide) (fun h9 => absurd h9 (by decide)) ck954 ?_
  generalize qg955 : mf_up g949 x0 100 ((n0 + 71 : Nat) : Int) = g955
  replace hyp := hyp _ qg955.symm
  refine mf_aload_n (mf_dat eX12_init_p18 52 rfl) rfl rfl ?_
  refine mf_bipush (v := 57) (mf_dat eX12_init_p18 53 rfl) (by decide) ?_
  obtain ⟨ck956, hyp⟩ := hyp
  obtain ⟨ck957, hyp⟩ := hyp
  obtain ⟨ck958, hyp⟩ := hyp
  obtain ⟨ck959, hyp⟩ := hyp
  refine mf_newa (at_ := .int) (i := 0) (mf_dat eX12_init_p18 54 rfl) ac_20 rfl ck956 rfl (by decide) rfl rfl (by decide) (fun c h9 => FieldType.noConfusion h9) (by decide) ck957 ck958 ck959 ?_
  obtain ⟨ck960, hyp⟩ := hyp
  refine mf_putRF (r := (RX12, TX12, 106)) (ci := 12) (k := 104) (kI := 104) (t := 2) (mf_dat eX12_init_p18 55 rfl) fl_X12_237 rfl rfl (by decide) rfl (by decide) rfl rfl rfl (by decide) (fun h9 => absurd h9 (by decide)) ck960 ?_
  generalize qg961 : mf_up g955 x0 104 ((n0 + 72 : Nat) : Int) = g961
  replace hyp := hyp _ qg961.symm
  obtain ⟨ck962, hyp⟩ := hyp
  exact mf_returnN (mf_dat eX12_init_p18 56 rfl) rfl ck962 hyp
