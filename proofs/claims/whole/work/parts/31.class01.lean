abbrev BX3_changeTop_78 (C : mf_G) (l : Launch) (d : Nat) (K : mf_Kt) (s0 : Int) (g h : mf_M) : Prop := jX C l d YX3_changeTop K 78 [(0, (2, 47))] [(0, s0)] g h
set_option maxRecDepth 100000 in
set_option maxHeartbeats 4000000 in
theorem vX3_changeTop_78 {C : mf_G} {l : Launch} {d : Nat} {K : mf_Kt} {s0 : Int} {g h : mf_M} (hyp : ((s0 = 0 → 0 ≤ mf_w32 ((h 47 3) - 1) ∧ mf_w32 ((h 47 3) - 1) < 64 ∧ (∀ h3 : mf_M, h3 = mf_up h 50 (mf_w32 ((h 47 3) - 1)) 0 → K 0 g h3)) ∧ (¬ s0 = 0 → 0 ≤ mf_w32 ((h 47 3) - 1) ∧ mf_w32 ((h 47 3) - 1) < 64 ∧ (∀ h6 : mf_M, h6 = mf_up h 50 (mf_w32 ((h 47 3) - 1)) 1 → K 0 g h6)))) : BX3_changeTop_78 C l d K s0 g h := by
  intro hG
  refine mf_istore_n (mf_dat eX3_changeTop 43 rfl) rfl (by decide) ?_
  refine mf_aload_n (mf_dat eX3_changeTop 44 rfl) rfl rfl ?_
  refine mf_getf (r := (RX3, TX3, 4)) (ci := 3) (k := 2) (t := 2) (v := 50) (mf_dat eX3_changeTop 45 rfl) fl_X3_21 rfl (by decide) rfl (gx_47_2 hG) is47 ?_
  refine mf_aload_n (mf_dat eX3_changeTop 46 rfl) rfl rfl ?_
  refine mf_getf (r := (RX3, TX3, 4)) (ci := 3) (k := 3) (t := 0) (v := h 47 3) (mf_dat eX3_changeTop 47 rfl) fl_X3_24 rfl (by decide) rfl rfl is47 ?_
  refine mf_iconst (v := 1) (mf_dat eX3_changeTop 48 rfl) (by decide) ?_
  refine mf_isub (mf_dat eX3_changeTop 49 rfl) ?_
  refine mf_iload_n (mf_dat eX3_changeTop 50 rfl) rfl rfl ?_
  refine mf_if_eq (tgt := 97) (mf_dat eX3_changeTop 51 rfl) (by decide) (fun hc => ?_) (fun hc => ?_)
  · replace hyp := hyp.1 hc
    refine mf_iconst (v := 0) (mf_dat eX3_changeTop 54 rfl) (by decide) ?_
    obtain ⟨ck1, hyp⟩ := hyp
    obtain ⟨ck2, hyp⟩ := hyp
    refine mf_iast (mf_dat eX3_changeTop 55 rfl) is50 len50 ck1 ck2 ?_
    generalize qh3 : mf_up h 50 (mf_w32 ((h 47 3) - 1)) 0 = h3
    replace hyp := hyp _ qh3.symm
    exact mf_return (mf_dat eX3_changeTop 56 rfl) rfl ⟨hG, hyp⟩
  · replace hyp := hyp.2 hc
    refine mf_iconst (v := 1) (mf_dat eX3_changeTop 52 rfl) (by decide) ?_
    refine mf_goto (tgt := 98) (mf_dat eX3_changeTop 53 rfl) (by decide) ?_
    obtain ⟨ck4, hyp⟩ := hyp
    obtain ⟨ck5, hyp⟩ := hyp
    refine mf_iast (mf_dat eX3_changeTop 55 rfl) is50 len50 ck4 ck5 ?_
    generalize qh6 : mf_up h 50 (mf_w32 ((h 47 3) - 1)) 1 = h6
    replace hyp := hyp _ qh6.symm
    exact mf_return (mf_dat eX3_changeTop 56 rfl) rfl ⟨hG, hyp⟩
set_option maxRecDepth 100000 in
set_option maxHeartbeats 4000000 in
theorem wX3_changeTop {C : mf_G} {l : Launch} {d : Nat} {K : mf_Kt} {x1 : Int} {g h : mf_M} (hyp : ((h 47 3 < 1 → K 0 g h) ∧ (¬ h 47 3 < 1 → ((h 47 3 ≤ 64 → 0 ≤ mf_w32 ((h 47 3) - 1) ∧ mf_w32 ((h 47 3) - 1) < 64 ∧ (∀ v3 : Int, v3 = h 50 (mf_w32 ((h 47 3) - 1)) → ((¬ x1 = 12 → ((v3 < 0 → BX3_changeTop_78 C l d K 0 g h) ∧ (¬ v3 < 0 → ((8 ≤ v3 → BX3_changeTop_78 C l d K 0 g h) ∧ (¬ 8 ≤ v3 → 0 ≤ v3 ∧ v3 < 8 ∧ ((h 49 v3 = 0 → BX3_changeTop_78 C l d K 0 g h) ∧ (¬ h 49 v3 = 0 → BX3_changeTop_78 C l d K 1 g h))))))) ∧ (x1 = 12 → ((¬ v3 = 0 → BX3_changeTop_78 C l d K 0 g h) ∧ (v3 = 0 → BX3_changeTop_78 C l d K 1 g h)))))) ∧ (¬ h 47 3 ≤ 64 → K 0 g h))))) : xM C l d YX3_changeTop [(2, 47), (0, x1)] g h K := by
  intro hG
  refine mf_entry (by decide) (Nat.le_of_ble_eq_true rfl) ?_
  refine mf_aload_n (mf_dat eX3_changeTop 0 rfl) rfl rfl ?_
  refine mf_getf (r := (RX3, TX3, 4)) (ci := 3) (k := 3) (t := 0) (v := h 47 3) (mf_dat eX3_changeTop 1 rfl) fl_X3_24 rfl (by decide) rfl rfl is47 ?_
  refine mf_iconst (v := 1) (mf_dat eX3_changeTop 2 rfl) (by decide) ?_
  refine mf_icmp_lt (tgt := 20) (mf_dat eX3_changeTop 3 rfl) (by decide) (fun hc => ?_) (fun hc => ?_)
  · replace hyp := hyp.1 hc
    exact mf_return (mf_dat eX3_changeTop 10 rfl) rfl ⟨hG, hyp⟩
  · replace hyp := hyp.2 hc
    refine mf_aload_n (mf_dat eX3_changeTop 4 rfl) rfl rfl ?_
    refine mf_getf (r := (RX3, TX3, 4)) (ci := 3) (k := 3) (t := 0) (v := h 47 3) (mf_dat eX3_changeTop 5 rfl) fl_X3_24 rfl (by decide) rfl rfl is47 ?_
    refine mf_aload_n (mf_dat eX3_changeTop 6 rfl) rfl rfl ?_
    refine mf_getf (r := (RX3, TX3, 4)) (ci := 3) (k := 2) (t := 2) (v := 50) (mf_dat eX3_changeTop 7 rfl) fl_X3_21 rfl (by decide) rfl (gx_47_2 hG) is47 ?_
    refine mf_alen (c := 20) (i := 0) (ty := .int) (v := 64) (mf_dat eX3_changeTop 8 rfl) (by decide) rfl is50 len50 (mf_len_small _) ?_
    refine mf_icmp_le (tgt := 21) (mf_dat eX3_changeTop 9 rfl) (by decide) (fun hc => ?_) (fun hc => ?_)
    · replace hyp := hyp.1 hc
      refine mf_aload_n (mf_dat eX3_changeTop 11 rfl) rfl rfl ?_
      refine mf_getf (r := (RX3, TX3, 4)) (ci := 3) (k := 2) (t := 2) (v := 50) (mf_dat eX3_changeTop 12 rfl) fl_X3_21 rfl (by decide) rfl (gx_47_2 hG) is47 ?_
      refine mf_aload_n (mf_dat eX3_changeTop 13 rfl) rfl rfl ?_
      refine mf_getf (r := (RX3, TX3, 4)) (ci := 3) (k := 3) (t := 0) (v := h 47 3) (mf_dat eX3_changeTop 14 rfl) fl_X3_24 rfl (by decide) rfl rfl is47 ?_
      refine mf_iconst (v := 1) (mf_dat eX3_changeTop 15 rfl) (by decide) ?_
      refine mf_isub (mf_dat eX3_changeTop 16 rfl) ?_
      obtain ⟨ck1, hyp⟩ := hyp
      obtain ⟨ck2, hyp⟩ := hyp
      refine mf_iald (mf_dat eX3_changeTop 17 rfl) is50 len50 ck1 ck2 ?_
      generalize qv3 : h 50 (mf_w32 ((h 47 3) - 1)) = v3
      replace hyp := hyp _ qv3.symm
      refine mf_istore_n (mf_dat eX3_changeTop 18 rfl) rfl (by decide) ?_
      refine mf_iload_n (mf_dat eX3_changeTop 19 rfl) rfl rfl ?_
      refine mf_bipush (v := 12) (mf_dat eX3_changeTop 20 rfl) (by decide) ?_
      refine mf_icmp_ne (tgt := 51) (mf_dat eX3_changeTop 21 rfl) (by decide) (fun hc => ?_) (fun hc => ?_)
      · replace hyp := hyp.1 hc
        refine mf_iload_n (mf_dat eX3_changeTop 28 rfl) rfl rfl ?_
        refine mf_if_lt (tgt := 77) (mf_dat eX3_changeTop 29 rfl) (by decide) (fun hc => ?_) (fun hc => ?_)
        · replace hyp := hyp.1 hc
          refine mf_iconst (v := 0) (mf_dat eX3_changeTop 42 rfl) (by decide) ?_
          exact mf_sub [1] rfl (hyp hG)
        · replace hyp := hyp.2 hc
          refine mf_iload_n (mf_dat eX3_changeTop 30 rfl) rfl rfl ?_
          refine mf_aload_n (mf_dat eX3_changeTop 31 rfl) rfl rfl ?_
          refine mf_getf (r := (RX3, TX3, 4)) (ci := 3) (k := 1) (t := 2) (v := 49) (mf_dat eX3_changeTop 32 rfl) fl_X3_17 rfl (by decide) rfl (gx_47_1 hG) is47 ?_
          refine mf_alen (c := 22) (i := 2) (ty := .boolean) (v := 8) (mf_dat eX3_changeTop 33 rfl) (by decide) rfl is49 len49 (mf_len_small _) ?_
          refine mf_icmp_ge (tgt := 77) (mf_dat eX3_changeTop 34 rfl) (by decide) (fun hc => ?_) (fun hc => ?_)
          · replace hyp := hyp.1 hc
            refine mf_iconst (v := 0) (mf_dat eX3_changeTop 42 rfl) (by decide) ?_
            exact mf_sub [1] rfl (hyp hG)
          · replace hyp := hyp.2 hc
            refine mf_aload_n (mf_dat eX3_changeTop 35 rfl) rfl rfl ?_
            refine mf_getf (r := (RX3, TX3, 4)) (ci := 3) (k := 1) (t := 2) (v := 49) (mf_dat eX3_changeTop 36 rfl) fl_X3_17 rfl (by decide) rfl (gx_47_1 hG) is47 ?_
            refine mf_iload_n (mf_dat eX3_changeTop 37 rfl) rfl rfl ?_
            obtain ⟨ck4, hyp⟩ := hyp
            obtain ⟨ck5, hyp⟩ := hyp
            refine mf_zald (mf_dat eX3_changeTop 38 rfl) is49 len49 ck4 ck5 ?_
            refine mf_if_eq (tgt := 77) (mf_dat eX3_changeTop 39 rfl) (by decide) (fun hc => ?_) (fun hc => ?_)
            · replace hyp := hyp.1 hc
              refine mf_iconst (v := 0) (mf_dat eX3_changeTop 42 rfl) (by decide) ?_
              exact mf_sub [1] rfl (hyp hG)
            · replace hyp := hyp.2 hc
              refine mf_iconst (v := 1) (mf_dat eX3_changeTop 40 rfl) (by decide) ?_
              refine mf_goto (tgt := 78) (mf_dat eX3_changeTop 41 rfl) (by decide) ?_
              exact mf_sub [1] rfl (hyp hG)
      · replace hyp := hyp.2 hc
        refine mf_iload_n (mf_dat eX3_changeTop 22 rfl) rfl rfl ?_
        refine mf_if_ne (tgt := 47) (mf_dat eX3_changeTop 23 rfl) (by decide) (fun hc => ?_) (fun hc => ?_)
        · replace hyp := hyp.1 hc
          refine mf_iconst (v := 0) (mf_dat eX3_changeTop 26 rfl) (by decide) ?_
          refine mf_goto (tgt := 78) (mf_dat eX3_changeTop 27 rfl) (by decide) ?_
          exact mf_sub [1] rfl (hyp hG)
        · replace hyp := hyp.2 hc
          refine mf_iconst (v := 1) (mf_dat eX3_changeTop 24 rfl) (by decide) ?_
          refine mf_goto (tgt := 78) (mf_dat eX3_changeTop 25 rfl) (by decide) ?_
          exact mf_sub [1] rfl (hyp hG)
    · replace hyp := hyp.2 hc
      exact mf_return (mf_dat eX3_changeTop 10 rfl) rfl ⟨hG, hyp⟩
set_option maxRecDepth 100000 in
set_option maxHeartbeats 4000000 in
theorem wX3_join {C : mf_G} {l : Launch} {d : Nat} {K : mf_Kt} {x0 x1 x2 : Int} {g h : mf_M} (hd : 1 ≤ d) (hyp : ((x0 = 1 → xM C l 0 YJ9_min_f86c9 [(1, 1000000), (1, mf_w64 (x1 + x2))] g h (fun r1 g2 h3 => xM C l 0 YJ9_max_f86c9 [(1, (-1000000)), (1, r1)] g2 h3 (fun r4 g5 h6 => K (mf_w32 r4) g5 h6))) ∧ (x0 = 2 → xM C l 0 YJ9_min_f86c9 [(1, 1000000), (1, mf_w64 (x1 - x2))] g h (fun r7 g8 h9 => xM C l 0 YJ9_max_f86c9 [(1, (-1000000)), (1, r7)] g8 h9 (fun r10 g11 h12 => K (mf_w32 r10) g11 h12))) ∧ (x0 = 3 → xM C l 0 YJ9_min_f86c9 [(1, 1000000), (1, mf_w64 (x1 * x2))] g h (fun r13 g14 h15 => xM C l 0 YJ9_max_f86c9 [(1, (-1000000)), (1, r13)] g14 h15 (fun r16 g17 h18 => K (mf_w32 r16) g17 h18))) ∧ (x0 = 4 → ((¬ x2 = 0 → xM C l 0 YJ9_floorDiv_7cf53 [(0, x1), (0, x2)] g h (fun r19 g20 h21 => K r19 g20 h21)) ∧ (x2 = 0 → K 0 g h))) ∧ (x0 = 5 → xM C l 0 YJ9_min_7cf53 [(0, x1), (0, x2)] g h (fun r22 g23 h24 => K r22 g23 h24)) ∧ (x0 = 6 → xM C l 0 YJ9_max_7cf53 [(0, x1), (0, x2)] g h (fun r25 g26 h27 => K r25 g26 h27)) ∧ (x0 = 7 → ((x2 ≤ x1 → K 0 g h) ∧ (¬ x2 ≤ x1 → K 1 g h))) ∧ (x0 = 8 → ((x1 ≤ x2 → K 0 g h) ∧ (¬ x1 ≤ x2 → K 1 g h))) ∧ (x0 = 9 → ((¬ x1 = x2 → K 0 g h) ∧ (x1 = x2 → K 1 g h))) ∧ (x0 = 10 → K (mf_and x1 x2) g h) ∧ (x0 = 11 → K (mf_or x1 x2) g h) ∧ ((x0 < 1 ∨ 11 < x0) → K 0 g h))) : xM C l d YX3_join [(0, x0), (0, x1), (0, x2)] g h K := by
  intro hG
  refine mf_entry (by decide) (Nat.le_of_ble_eq_true rfl) ?_
  refine mf_iload_n (mf_dat eX3_join_p0 0 rfl) rfl rfl ?_
  refine mf_tsw1 (v := 1) (tgt := 60) (mf_dat eX3_join_p0 1 rfl) (by decide) (by decide) (off := 59) (by decide) (by decide) (fun hc => ?_) (fun hc0 => ?_)
  · replace hyp := hyp.1 hc
    refine mf_ldc2 (v := (-1000000)) cl_X3_63 (mf_dat eX3_join_p0 2 rfl) (by decide) ?_
    refine mf_ldc2 (v := 1000000) cl_X3_65 (mf_dat eX3_join_p0 3 rfl) (by decide) ?_
    refine mf_iload_n (mf_dat eX3_join_p0 4 rfl) rfl rfl ?_
    refine mf_i2l (mf_dat eX3_join_p0 5 rfl) ?_
    refine mf_iload_n (mf_dat eX3_join_p0 6 rfl) rfl rfl ?_
    refine mf_i2l (mf_dat eX3_join_p0 7 rfl) ?_
    refine mf_ladd (mf_dat eX3_join_p0 8 rfl) ?_
    refine mf_callS (Yc := YJ9_min_f86c9) (mf_dat eX3_join_p0 9 rfl) ml_X3_67 okJ9_min_f86c9 sm_J9_min_f86c9 rfl rfl (Nat.le_of_ble_eq_true rfl) (mf_rr (Nat.le_trans (by decide) hd) (Nat.le_refl _)) (Nat.le_refl _) (hyp hG) (fun r1 g2 h3 hyp => ?_)
    obtain ⟨hG, hyp⟩ := hyp
    refine mf_callS (Yc := YJ9_max_f86c9) (mf_dat eX3_join_p0 10 rfl) ml_X3_70 okJ9_max_f86c9 sm_J9_max_f86c9 rfl rfl (Nat.le_of_ble_eq_true rfl) (mf_rr (Nat.le_trans (by decide) hd) (Nat.le_refl _)) (Nat.le_refl _) (hyp hG) (fun r4 g5 h6 hyp => ?_)
    obtain ⟨hG, hyp⟩ := hyp
    refine mf_l2i (mf_dat eX3_join_p0 11 rfl) ?_
    exact mf_ireturn (mf_dat eX3_join_p0 12 rfl) rfl (Or.inl rfl) ⟨hG, hyp⟩
  replace hyp := hyp.2
  refine mf_tsw1 (v := 2) (tgt := 79) (mf_dat eX3_join_p0 1 rfl) (by decide) (by decide) (off := 78) (by decide) (by decide) (fun hc => ?_) (fun hc1 => ?_)
  · replace hyp := hyp.1 hc
    refine mf_ldc2 (v := (-1000000)) cl_X3_63 (mf_dat eX3_join_p0 13 rfl) (by decide) ?_
    refine mf_ldc2 (v := 1000000) cl_X3_65 (mf_dat eX3_join_p0 14 rfl) (by decide) ?_
    refine mf_iload_n (mf_dat eX3_join_p0 15 rfl) rfl rfl ?_
    refine mf_i2l (mf_dat eX3_join_p0 16 rfl) ?_
    refine mf_iload_n (mf_dat eX3_join_p0 17 rfl) rfl rfl ?_
    refine mf_i2l (mf_dat eX3_join_p0 18 rfl) ?_
    refine mf_lsub (mf_dat eX3_join_p0 19 rfl) ?_
    refine mf_callS (Yc := YJ9_min_f86c9) (mf_dat eX3_join_p0 20 rfl) ml_X3_67 okJ9_min_f86c9 sm_J9_min_f86c9 rfl rfl (Nat.le_of_ble_eq_true rfl) (mf_rr (Nat.le_trans (by decide) hd) (Nat.le_refl _)) (Nat.le_refl _) (hyp hG) (fun r7 g8 h9 hyp => ?_)
    obtain ⟨hG, hyp⟩ := hyp
    refine mf_callS (Yc := YJ9_max_f86c9) (mf_dat eX3_join_p0 21 rfl) ml_X3_70 okJ9_max_f86c9 sm_J9_max_f86c9 rfl rfl (Nat.le_of_ble_eq_true rfl) (mf_rr (Nat.le_trans (by decide) hd) (Nat.le_refl _)) (Nat.le_refl _) (hyp hG) (fun r10 g11 h12 hyp => ?_)
    obtain ⟨hG, hyp⟩ := hyp
    refine mf_l2i (mf_dat eX3_join_p0 22 rfl) ?_
    exact mf_ireturn (mf_dat eX3_join_p0 23 rfl) rfl (Or.inl rfl) ⟨hG, hyp⟩
  replace hyp := hyp.2
  refine mf_tsw1 (v := 3) (tgt := 98) (mf_dat eX3_join_p0 1 rfl) (by decide) (by decide) (off := 97) (by decide) (by decide) (fun hc => ?_) (fun hc2 => ?_)
  · replace hyp := hyp.1 hc
    refine mf_ldc2 (v := (-1000000)) cl_X3_63 (mf_dat eX3_join_p0 24 rfl) (by decide) ?_
    refine mf_ldc2 (v := 1000000) cl_X3_65 (mf_dat eX3_join_p0 25 rfl) (by decide) ?_
    refine mf_iload_n (mf_dat eX3_join_p0 26 rfl) rfl rfl ?_
    refine mf_i2l (mf_dat eX3_join_p0 27 rfl) ?_
    refine mf_iload_n (mf_dat eX3_join_p0 28 rfl) rfl rfl ?_
    refine mf_i2l (mf_dat eX3_join_p0 29 rfl) ?_
    refine mf_lmul (mf_dat eX3_join_p0 30 rfl) ?_
    refine mf_callS (Yc := YJ9_min_f86c9) (mf_dat eX3_join_p0 31 rfl) ml_X3_67 okJ9_min_f86c9 sm_J9_min_f86c9 rfl rfl (Nat.le_of_ble_eq_true rfl) (mf_rr (Nat.le_trans (by decide) hd) (Nat.le_refl _)) (Nat.le_refl _) (hyp hG) (fun r13 g14 h15 hyp => ?_)
    obtain ⟨hG, hyp⟩ := hyp
    refine mf_callS (Yc := YJ9_max_f86c9) (mf_dat eX3_join_p0 32 rfl) ml_X3_70 okJ9_max_f86c9 sm_J9_max_f86c9 rfl rfl (Nat.le_of_ble_eq_true rfl) (mf_rr (Nat.le_trans (by decide) hd) (Nat.le_refl _)) (Nat.le_refl _) (hyp hG) (fun r16 g17 h18 hyp => ?_)
    obtain ⟨hG, hyp⟩ := hyp
    refine mf_l2i (mf_dat eX3_join_p0 33 rfl) ?_
    exact mf_ireturn (mf_dat eX3_join_p0 34 rfl) rfl (Or.inl rfl) ⟨hG, hyp⟩
  replace hyp := hyp.2
  refine mf_tsw1 (v := 4) (tgt := 117) (mf_dat eX3_join_p0 1 rfl) (by decide) (by decide) (off := 116) (by decide) (by decide) (fun hc => ?_) (fun hc3 => ?_)
  · replace hyp := hyp.1 hc
    refine mf_iload_n (mf_dat eX3_join_p0 35 rfl) rfl rfl ?_
    refine mf_if_ne (tgt := 125) (mf_dat eX3_join_p0 36 rfl) (by decide) (fun hc => ?_) (fun hc => ?_)
    · replace hyp := hyp.1 hc
      refine mf_iload_n (mf_dat eX3_join_p0 39 rfl) rfl rfl ?_
      refine mf_iload_n (mf_dat eX3_join_p0 40 rfl) rfl rfl ?_
      refine mf_callS (Yc := YJ9_floorDiv_7cf53) (mf_dat eX3_join_p0 41 rfl) ml_X3_72 okJ9_floorDiv_7cf53 sm_J9_floorDiv_7cf53 rfl rfl (Nat.le_of_ble_eq_true rfl) (mf_rr (Nat.le_trans (by decide) hd) (Nat.le_refl _)) (Nat.le_refl _) (hyp hG) (fun r19 g20 h21 hyp => ?_)
      obtain ⟨hG, hyp⟩ := hyp
      exact mf_ireturn (mf_dat eX3_join_p0 42 rfl) rfl (Or.inl rfl) ⟨hG, hyp⟩
    · replace hyp := hyp.2 hc
      refine mf_iconst (v := 0) (mf_dat eX3_join_p0 37 rfl) (by decide) ?_
      refine mf_goto (tgt := 130) (mf_dat eX3_join_p0 38 rfl) (by decide) ?_
      exact mf_ireturn (mf_dat eX3_join_p0 42 rfl) rfl (Or.inl rfl) ⟨hG, hyp⟩
  replace hyp := hyp.2
  refine mf_tsw1 (v := 5) (tgt := 131) (mf_dat eX3_join_p0 1 rfl) (by decide) (by decide) (off := 130) (by decide) (by decide) (fun hc => ?_) (fun hc4 => ?_)
  · replace hyp := hyp.1 hc
    refine mf_iload_n (mf_dat eX3_join_p0 43 rfl) rfl rfl ?_
    refine mf_iload_n (mf_dat eX3_join_p0 44 rfl) rfl rfl ?_
    refine mf_callS (Yc := YJ9_min_7cf53) (mf_dat eX3_join_p0 45 rfl) ml_X3_40 okJ9_min_7cf53 sm_J9_min_7cf53 rfl rfl (Nat.le_of_ble_eq_true rfl) (mf_rr (Nat.le_trans (by decide) hd) (Nat.le_refl _)) (Nat.le_refl _) (hyp hG) (fun r22 g23 h24 hyp => ?_)
    obtain ⟨hG, hyp⟩ := hyp
    exact mf_ireturn (mf_dat eX3_join_p0 46 rfl) rfl (Or.inl rfl) ⟨hG, hyp⟩
  replace hyp := hyp.2
  refine mf_tsw1 (v := 6) (tgt := 137) (mf_dat eX3_join_p0 1 rfl) (by decide) (by decide) (off := 136) (by decide) (by decide) (fun hc => ?_) (fun hc5 => ?_)
  · replace hyp := hyp.1 hc
    refine mf_iload_n (mf_dat eX3_join_p0 47 rfl) rfl rfl ?_
    refine mf_iload_n (mf_dat eX3_join_p0 48 rfl) rfl rfl ?_
    refine mf_callS (Yc := YJ9_max_7cf53) (mf_dat eX3_join_p0 49 rfl) ml_X3_49 okJ9_max_7cf53 sm_J9_max_7cf53 rfl rfl (Nat.le_of_ble_eq_true rfl) (mf_rr (Nat.le_trans (by decide) hd) (Nat.le_refl _)) (Nat.le_refl _) (hyp hG) (fun r25 g26 h27 hyp => ?_)
    obtain ⟨hG, hyp⟩ := hyp
    exact mf_ireturn (mf_dat eX3_join_p0 50 rfl) rfl (Or.inl rfl) ⟨hG, hyp⟩
  replace hyp := hyp.2
  refine mf_tsw1 (v := 7) (tgt := 143) (mf_dat eX3_join_p0 1 rfl) (by decide) (by decide) (off := 142) (by decide) (by decide) (fun hc => ?_) (fun hc6 => ?_)
  · replace hyp := hyp.1 hc
    refine mf_iload_n (mf_dat eX3_join_p0 51 rfl) rfl rfl ?_
    refine mf_iload_n (mf_dat eX3_join_p0 52 rfl) rfl rfl ?_
    refine mf_icmp_ge (tgt := 152) (mf_dat eX3_join_p0 53 rfl) (by decide) (fun hc => ?_) (fun hc => ?_)
    · replace hyp := hyp.1 hc
      refine mf_iconst (v := 0) (mf_dat eX3_join_p0 56 rfl) (by decide) ?_
      exact mf_ireturn (mf_dat eX3_join_p0 57 rfl) rfl (Or.inl rfl) ⟨hG, hyp⟩
    · replace hyp := hyp.2 hc
      refine mf_iconst (v := 1) (mf_dat eX3_join_p0 54 rfl) (by decide) ?_
      refine mf_goto (tgt := 153) (mf_dat eX3_join_p0 55 rfl) (by decide) ?_
      exact mf_ireturn (mf_dat eX3_join_p0 57 rfl) rfl (Or.inl rfl) ⟨hG, hyp⟩
  replace hyp := hyp.2
  refine mf_tsw1 (v := 8) (tgt := 154) (mf_dat eX3_join_p0 1 rfl) (by decide) (by decide) (off := 153) (by decide) (by decide) (fun hc => ?_) (fun hc7 => ?_)
  · replace hyp := hyp.1 hc
    refine mf_iload_n (mf_dat eX3_join_p0 58 rfl) rfl rfl ?_
    refine mf_iload_n (mf_dat eX3_join_p0 59 rfl) rfl rfl ?_
    refine mf_icmp_le (tgt := 163) (mf_dat eX3_join_p1 0 rfl) (by decide) (fun hc => ?_) (fun hc => ?_)
    · replace hyp := hyp.1 hc
      refine mf_iconst (v := 0) (mf_dat eX3_join_p1 3 rfl) (by decide) ?_
      exact mf_ireturn (mf_dat eX3_join_p1 4 rfl) rfl (Or.inl rfl) ⟨hG, hyp⟩
    · replace hyp := hyp.2 hc
      refine mf_iconst (v := 1) (mf_dat eX3_join_p1 1 rfl) (by decide) ?_
      refine mf_goto (tgt := 164) (mf_dat eX3_join_p1 2 rfl) (by decide) ?_
      exact mf_ireturn (mf_dat eX3_join_p1 4 rfl) rfl (Or.inl rfl) ⟨hG, hyp⟩
  replace hyp := hyp.2
  refine mf_tsw1 (v := 9) (tgt := 165) (mf_dat eX3_join_p0 1 rfl) (by decide) (by decide) (off := 164) (by decide) (by decide) (fun hc => ?_) (fun hc8 => ?_)
  · replace hyp := hyp.1 hc
    refine mf_iload_n (mf_dat eX3_join_p1 5 rfl) rfl rfl ?_
    refine mf_iload_n (mf_dat eX3_join_p1 6 rfl) rfl rfl ?_
    refine mf_icmp_ne (tgt := 174) (mf_dat eX3_join_p1 7 rfl) (by decide) (fun hc => ?_) (fun hc => ?_)
    · replace hyp := hyp.1 hc
      refine mf_iconst (v := 0) (mf_dat eX3_join_p1 10 rfl) (by decide) ?_
      exact mf_ireturn (mf_dat eX3_join_p1 11 rfl) rfl (Or.inl rfl) ⟨hG, hyp⟩
    · replace hyp := hyp.2 hc
      refine mf_iconst (v := 1) (mf_dat eX3_join_p1 8 rfl) (by decide) ?_
      refine mf_goto (tgt := 175) (mf_dat eX3_join_p1 9 rfl) (by decide) ?_
      exact mf_ireturn (mf_dat eX3_join_p1 11 rfl) rfl (Or.inl rfl) ⟨hG, hyp⟩
  replace hyp := hyp.2
  refine mf_tsw1 (v := 10) (tgt := 176) (mf_dat eX3_join_p0 1 rfl) (by decide) (by decide) (off := 175) (by decide) (by decide) (fun hc => ?_) (fun hc9 => ?_)
  · replace hyp := hyp.1 hc
    refine mf_iload_n (mf_dat eX3_join_p1 12 rfl) rfl rfl ?_
    refine mf_iload_n (mf_dat eX3_join_p1 13 rfl) rfl rfl ?_
    refine mf_iand (mf_dat eX3_join_p1 14 rfl) ?_
    exact mf_ireturn (mf_dat eX3_join_p1 15 rfl) rfl (Or.inl rfl) ⟨hG, hyp⟩
  replace hyp := hyp.2
  refine mf_tsw1 (v := 11) (tgt := 180) (mf_dat eX3_join_p0 1 rfl) (by decide) (by decide) (off := 179) (by decide) (by decide) (fun hc => ?_) (fun hc10 => ?_)
  · replace hyp := hyp.1 hc
    refine mf_iload_n (mf_dat eX3_join_p1 16 rfl) rfl rfl ?_
    refine mf_iload_n (mf_dat eX3_join_p1 17 rfl) rfl rfl ?_
    refine mf_ior (mf_dat eX3_join_p1 18 rfl) ?_
    exact mf_ireturn (mf_dat eX3_join_p1 19 rfl) rfl (Or.inl rfl) ⟨hG, hyp⟩
  replace hyp := hyp.2
  refine mf_tswO (tgt := 184) (mf_dat eX3_join_p0 1 rfl) (by omega) (by decide) ?_
  replace hyp := hyp (by omega)
  refine mf_iconst (v := 0) (mf_dat eX3_join_p1 20 rfl) (by decide) ?_
  exact mf_ireturn (mf_dat eX3_join_p1 21 rfl) rfl (Or.inl rfl) ⟨hG, hyp⟩
abbrev BX4_forget_12 (C : mf_G) (l : Launch) (d : Nat) (K : mf_Kt) (x0 x1 : Int) (g h : mf_M) : Prop := jX C l d YX4_forget K 12 [(0, (2, x0)), (1, (0, x1))] [] g h
set_option maxRecDepth 100000 in
set_option maxHeartbeats 4000000 in
theorem vX4_forget_12 {C : mf_G} {l : Launch} {d : Nat} {K : mf_Kt} {x0 x1 : Int} {g h : mf_M} (hyp : ((4 ≤ x1 → K 0 g h) ∧ (¬ 4 ≤ x1 → mf_is 319 x0 4 ∧ 0 ≤ x1 ∧ x1 < 4 ∧ (∀ h4 : mf_M, h4 = mf_up h (x0 + 2) x1 0 → (∀ h5 : mf_M, h5 = mf_up h4 (x0 + 3) x1 0 → (∀ v6 : Int, v6 = mf_w32 (x1 + 1) → BX4_forget_12 C l d K x0 v6 g h5)))))) : BX4_forget_12 C l d K x0 x1 g h := by
  intro hG
  refine mf_iload_n (mf_dat eX4_forget 8 rfl) rfl rfl ?_
  refine mf_iconst (v := 4) (mf_dat eX4_forget 9 rfl) (by decide) ?_
  refine mf_icmp_ge (tgt := 37) (mf_dat eX4_forget 10 rfl) (by decide) (fun hc => ?_) (fun hc => ?_)
  · replace hyp := hyp.1 hc
    exact mf_return (mf_dat eX4_forget 23 rfl) rfl ⟨hG, hyp⟩
  · replace hyp := hyp.2 hc
    refine mf_aload_n (mf_dat eX4_forget 11 rfl) rfl rfl ?_
    obtain ⟨ck1, hyp⟩ := hyp
    refine mf_getf (r := (RX4, TX4, 5)) (ci := 4) (k := 1) (t := 2) (v := x0 + 2) (mf_dat eX4_forget 12 rfl) fl_X4_15 rfl (by decide) rfl (gc_1 hG ck1) ck1 ?_
    refine mf_iload_n (mf_dat eX4_forget 13 rfl) rfl rfl ?_
    refine mf_iconst (v := 0) (mf_dat eX4_forget 14 rfl) (by decide) ?_
    obtain ⟨ck2, hyp⟩ := hyp
    obtain ⟨ck3, hyp⟩ := hyp
    refine mf_iast (mf_dat eX4_forget 15 rfl) (sc_is1 ck1) (sc_len1 ck1) ck2 ck3 ?_
    generalize qh4 : mf_up h (x0 + 2) x1 0 = h4
    replace hyp := hyp _ qh4.symm
    refine mf_aload_n (mf_dat eX4_forget 16 rfl) rfl rfl ?_
    refine mf_getf (r := (RX4, TX4, 5)) (ci := 4) (k := 2) (t := 2) (v := x0 + 3) (mf_dat eX4_forget 17 rfl) fl_X4_18 rfl (by decide) rfl (gc_2 hG ck1) ck1 ?_
    refine mf_iload_n (mf_dat eX4_forget 18 rfl) rfl rfl ?_
    refine mf_iconst (v := 0) (mf_dat eX4_forget 19 rfl) (by decide) ?_
    refine mf_iast (mf_dat eX4_forget 20 rfl) (sc_is2 ck1) (sc_len2 ck1) ck2 ck3 ?_
    generalize qh5 : mf_up h4 (x0 + 3) x1 0 = h5
    replace hyp := hyp _ qh5.symm
    refine mf_iinc (mf_dat eX4_forget 21 rfl) rfl (by decide) (by decide) ?_
    generalize qv6 : mf_w32 (x1 + 1) = v6
    replace hyp := hyp _ qv6.symm
    refine mf_goto (tgt := 12) (mf_dat eX4_forget 22 rfl) (by decide) ?_
    exact mf_sub [1, 0] rfl (hyp hG)
set_option maxRecDepth 100000 in
set_option maxHeartbeats 4000000 in
theorem wX4_forget {C : mf_G} {l : Launch} {d : Nat} {K : mf_Kt} {x0 : Int} {g h : mf_M} (hyp : mf_is 319 x0 4 ∧ (∀ h2 : mf_M, h2 = mf_up h x0 3 0 → (∀ h3 : mf_M, h3 = mf_up h2 x0 4 (-1) → BX4_forget_12 C l d K x0 0 g h3))) : xM C l d YX4_forget [(2, x0)] g h K := by
  intro hG
  refine mf_entry (by decide) (Nat.le_of_ble_eq_true rfl) ?_
  refine mf_aload_n (mf_dat eX4_forget 0 rfl) rfl rfl ?_
  refine mf_iconst (v := 0) (mf_dat eX4_forget 1 rfl) (by decide) ?_
  obtain ⟨ck1, hyp⟩ := hyp
  refine mf_putI (r := (RX4, TX4, 5)) (ci := 4) (k := 3) (kI := 3) (t := 0) (mf_dat eX4_forget 2 rfl) fl_X4_25 rfl rfl (by decide) rfl (by decide) rfl (by decide) (fun h9 => absurd h9 (by decide)) ck1 ?_
  generalize qh2 : mf_up h x0 3 0 = h2
  replace hyp := hyp _ qh2.symm
  refine mf_aload_n (mf_dat eX4_forget 3 rfl) rfl rfl ?_
  refine mf_iconst (v := (-1)) (mf_dat eX4_forget 4 rfl) (by decide) ?_
  refine mf_putI (r := (RX4, TX4, 5)) (ci := 4) (k := 4) (kI := 4) (t := 0) (mf_dat eX4_forget 5 rfl) fl_X4_21 rfl rfl (by decide) rfl (by decide) rfl (by decide) (fun h9 => absurd h9 (by decide)) ck1 ?_
  generalize qh3 : mf_up h2 x0 4 (-1) = h3
  replace hyp := hyp _ qh3.symm
  refine mf_iconst (v := 0) (mf_dat eX4_forget 6 rfl) (by decide) ?_
  refine mf_istore_n (mf_dat eX4_forget 7 rfl) rfl (by decide) ?_
  exact mf_sub [1, 0] rfl (hyp hG)
set_option maxRecDepth 100000 in
set_option maxHeartbeats 4000000 in
theorem wX4_isTold {C : mf_G} {l : Launch} {d : Nat} {K : mf_Kt} {x0 x1 : Int} {g h : mf_M} (hyp : ((x1 < 0 → K 0 g h) ∧ (¬ x1 < 0 → ((4 ≤ x1 → K 0 g h) ∧ (¬ 4 ≤ x1 → mf_is 319 x0 4 ∧ 0 ≤ x1 ∧ x1 < 4 ∧ ((h (x0 + 3) x1 ≤ h (x0 + 2) x1 → K 0 g h) ∧ (¬ h (x0 + 3) x1 ≤ h (x0 + 2) x1 → K 1 g h))))))) : xM C l d YX4_isTold [(2, x0), (0, x1)] g h K := by
  intro hG
  refine mf_entry (by decide) (Nat.le_of_ble_eq_true rfl) ?_
  refine mf_iload_n (mf_dat eX4_isTold 0 rfl) rfl rfl ?_
  refine mf_if_lt (tgt := 28) (mf_dat eX4_isTold 1 rfl) (by decide) (fun hc => ?_) (fun hc => ?_)
  · replace hyp := hyp.1 hc
    refine mf_iconst (v := 0) (mf_dat eX4_isTold 16 rfl) (by decide) ?_
    exact mf_ireturn (mf_dat eX4_isTold 17 rfl) rfl (Or.inr ⟨rfl, by decide⟩) ⟨hG, hyp⟩
  · replace hyp := hyp.2 hc
    refine mf_iload_n (mf_dat eX4_isTold 2 rfl) rfl rfl ?_
    refine mf_iconst (v := 4) (mf_dat eX4_isTold 3 rfl) (by decide) ?_
    refine mf_icmp_ge (tgt := 28) (mf_dat eX4_isTold 4 rfl) (by decide) (fun hc => ?_) (fun hc => ?_)
    · replace hyp := hyp.1 hc
      refine mf_iconst (v := 0) (mf_dat eX4_isTold 16 rfl) (by decide) ?_
      exact mf_ireturn (mf_dat eX4_isTold 17 rfl) rfl (Or.inr ⟨rfl, by decide⟩) ⟨hG, hyp⟩
    · replace hyp := hyp.2 hc
      refine mf_aload_n (mf_dat eX4_isTold 5 rfl) rfl rfl ?_
      obtain ⟨ck1, hyp⟩ := hyp
      refine mf_getf (r := (RX4, TX4, 5)) (ci := 4) (k := 2) (t := 2) (v := x0 + 3) (mf_dat eX4_isTold 6 rfl) fl_X4_18 rfl (by decide) rfl (gc_2 hG ck1) ck1 ?_
      refine mf_iload_n (mf_dat eX4_isTold 7 rfl) rfl rfl ?_
      obtain ⟨ck2, hyp⟩ := hyp
      obtain ⟨ck3, hyp⟩ := hyp
      refine mf_iald (mf_dat eX4_isTold 8 rfl) (sc_is2 ck1) (sc_len2 ck1) ck2 ck3 ?_
      refine mf_aload_n (mf_dat eX4_isTold 9 rfl) rfl rfl ?_
      refine mf_getf (r := (RX4, TX4, 5)) (ci := 4) (k := 1) (t := 2) (v := x0 + 2) (mf_dat eX4_isTold 10 rfl) fl_X4_15 rfl (by decide) rfl (gc_1 hG ck1) ck1 ?_
      refine mf_iload_n (mf_dat eX4_isTold 11 rfl) rfl rfl ?_
      refine mf_iald (mf_dat eX4_isTold 12 rfl) (sc_is1 ck1) (sc_len1 ck1) ck2 ck3 ?_
      refine mf_icmp_le (tgt := 28) (mf_dat eX4_isTold 13 rfl) (by decide) (fun hc => ?_) (fun hc => ?_)
      · replace hyp := hyp.1 hc
        refine mf_iconst (v := 0) (mf_dat eX4_isTold 16 rfl) (by decide) ?_
        exact mf_ireturn (mf_dat eX4_isTold 17 rfl) rfl (Or.inr ⟨rfl, by decide⟩) ⟨hG, hyp⟩
      · replace hyp := hyp.2 hc
        refine mf_iconst (v := 1) (mf_dat eX4_isTold 14 rfl) (by decide) ?_
        refine mf_goto (tgt := 29) (mf_dat eX4_isTold 15 rfl) (by decide) ?_
        exact mf_ireturn (mf_dat eX4_isTold 17 rfl) rfl (Or.inr ⟨rfl, by decide⟩) ⟨hG, hyp⟩
set_option maxRecDepth 100000 in
set_option maxHeartbeats 4000000 in
theorem wX4_begin {C : mf_G} {l : Launch} {d : Nat} {K : mf_Kt} {x0 x1 : Int} {g h : mf_M} (hyp : mf_is 319 x0 4 ∧ (∀ h2 : mf_M, h2 = mf_up h x0 4 x1 → ((x1 < 0 → K 0 g h2) ∧ (¬ x1 < 0 → ((4 ≤ x1 → K 0 g h2) ∧ (¬ 4 ≤ x1 → 0 ≤ x1 ∧ x1 < 4 ∧ (∀ h5 : mf_M, h5 = mf_up h2 (x0 + 2) x1 (h2 x0 3) → K 0 g h5))))))) : xM C l d YX4_begin [(2, x0), (0, x1)] g h K := by
  intro hG
  refine mf_entry (by decide) (Nat.le_of_ble_eq_true rfl) ?_
  refine mf_aload_n (mf_dat eX4_begin 0 rfl) rfl rfl ?_
  refine mf_iload_n (mf_dat eX4_begin 1 rfl) rfl rfl ?_
  obtain ⟨ck1, hyp⟩ := hyp
  refine mf_putI (r := (RX4, TX4, 5)) (ci := 4) (k := 4) (kI := 4) (t := 0) (mf_dat eX4_begin 2 rfl) fl_X4_21 rfl rfl (by decide) rfl (by decide) rfl (by decide) (fun h9 => absurd h9 (by decide)) ck1 ?_
  generalize qh2 : mf_up h x0 4 x1 = h2
  replace hyp := hyp _ qh2.symm
  refine mf_iload_n (mf_dat eX4_begin 3 rfl) rfl rfl ?_
  refine mf_if_lt (tgt := 24) (mf_dat eX4_begin 4 rfl) (by decide) (fun hc => ?_) (fun hc => ?_)
  · replace hyp := hyp.1 hc
    exact mf_return (mf_dat eX4_begin 14 rfl) rfl ⟨hG, hyp⟩
  · replace hyp := hyp.2 hc
    refine mf_iload_n (mf_dat eX4_begin 5 rfl) rfl rfl ?_
    refine mf_iconst (v := 4) (mf_dat eX4_begin 6 rfl) (by decide) ?_
    refine mf_icmp_ge (tgt := 24) (mf_dat eX4_begin 7 rfl) (by decide) (fun hc => ?_) (fun hc => ?_)
    · replace hyp := hyp.1 hc
      exact mf_return (mf_dat eX4_begin 14 rfl) rfl ⟨hG, hyp⟩
    · replace hyp := hyp.2 hc
      refine mf_aload_n (mf_dat eX4_begin 8 rfl) rfl rfl ?_
      refine mf_getf (r := (RX4, TX4, 5)) (ci := 4) (k := 1) (t := 2) (v := x0 + 2) (mf_dat eX4_begin 9 rfl) fl_X4_15 rfl (by decide) rfl (gc_1 hG ck1) ck1 ?_
      refine mf_iload_n (mf_dat eX4_begin 10 rfl) rfl rfl ?_
      refine mf_aload_n (mf_dat eX4_begin 11 rfl) rfl rfl ?_
      refine mf_getf (r := (RX4, TX4, 5)) (ci := 4) (k := 3) (t := 0) (v := h2 x0 3) (mf_dat eX4_begin 12 rfl) fl_X4_25 rfl (by decide) rfl rfl ck1 ?_
      obtain ⟨ck3, hyp⟩ := hyp
      obtain ⟨ck4, hyp⟩ := hyp
      refine mf_iast (mf_dat eX4_begin 13 rfl) (sc_is1 ck1) (sc_len1 ck1) ck3 ck4 ?_
      generalize qh5 : mf_up h2 (x0 + 2) x1 (h2 x0 3) = h5
      replace hyp := hyp _ qh5.symm
      exact mf_return (mf_dat eX4_begin 14 rfl) rfl ⟨hG, hyp⟩
set_option maxRecDepth 100000 in
set_option maxHeartbeats 4000000 in
theorem wX4_finish {C : mf_G} {l : Launch} {d : Nat} {K : mf_Kt} {x0 : Int} {g h : mf_M} (hyp : mf_is 319 x0 4 ∧ ((h x0 4 < 0 → (∀ h2 : mf_M, h2 = mf_up h x0 4 (-1) → K 0 g h2)) ∧ (¬ h x0 4 < 0 → ((4 ≤ h x0 4 → (∀ h3 : mf_M, h3 = mf_up h x0 4 (-1) → K 0 g h3)) ∧ (¬ 4 ≤ h x0 4 → 0 ≤ h x0 4 ∧ h x0 4 < 4 ∧ (∀ h6 : mf_M, h6 = mf_up h (x0 + 3) (h x0 4) (h x0 3) → (∀ h7 : mf_M, h7 = mf_up h6 x0 4 (-1) → K 0 g h7))))))) : xM C l d YX4_finish [(2, x0)] g h K := by
  intro hG
  refine mf_entry (by decide) (Nat.le_of_ble_eq_true rfl) ?_
  refine mf_aload_n (mf_dat eX4_finish 0 rfl) rfl rfl ?_
  obtain ⟨ck1, hyp⟩ := hyp
  refine mf_getf (r := (RX4, TX4, 5)) (ci := 4) (k := 4) (t := 0) (v := h x0 4) (mf_dat eX4_finish 1 rfl) fl_X4_21 rfl (by decide) rfl rfl ck1 ?_
  refine mf_if_lt (tgt := 28) (mf_dat eX4_finish 2 rfl) (by decide) (fun hc => ?_) (fun hc => ?_)
  · replace hyp := hyp.1 hc
    refine mf_aload_n (mf_dat eX4_finish 14 rfl) rfl rfl ?_
    refine mf_iconst (v := (-1)) (mf_dat eX4_finish 15 rfl) (by decide) ?_
    refine mf_putI (r := (RX4, TX4, 5)) (ci := 4) (k := 4) (kI := 4) (t := 0) (mf_dat eX4_finish 16 rfl) fl_X4_21 rfl rfl (by decide) rfl (by decide) rfl (by decide) (fun h9 => absurd h9 (by decide)) ck1 ?_
    generalize qh2 : mf_up h x0 4 (-1) = h2
    replace hyp := hyp _ qh2.symm
    exact mf_return (mf_dat eX4_finish 17 rfl) rfl ⟨hG, hyp⟩
  · replace hyp := hyp.2 hc
    refine mf_aload_n (mf_dat eX4_finish 3 rfl) rfl rfl ?_
    refine mf_getf (r := (RX4, TX4, 5)) (ci := 4) (k := 4) (t := 0) (v := h x0 4) (mf_dat eX4_finish 4 rfl) fl_X4_21 rfl (by decide) rfl rfl ck1 ?_
    refine mf_iconst (v := 4) (mf_dat eX4_finish 5 rfl) (by decide) ?_
    refine mf_icmp_ge (tgt := 28) (mf_dat eX4_finish 6 rfl) (by decide) (fun hc => ?_) (fun hc => ?_)
    · replace hyp := hyp.1 hc
      refine mf_aload_n (mf_dat eX4_finish 14 rfl) rfl rfl ?_
      refine mf_iconst (v := (-1)) (mf_dat eX4_finish 15 rfl) (by decide) ?_
      refine mf_putI (r := (RX4, TX4, 5)) (ci := 4) (k := 4) (kI := 4) (t := 0) (mf_dat eX4_finish 16 rfl) fl_X4_21 rfl rfl (by decide) rfl (by decide) rfl (by decide) (fun h9 => absurd h9 (by decide)) ck1 ?_
      generalize qh3 : mf_up h x0 4 (-1) = h3
      replace hyp := hyp _ qh3.symm
      exact mf_return (mf_dat eX4_finish 17 rfl) rfl ⟨hG, hyp⟩
    · replace hyp := hyp.2 hc
      refine mf_aload_n (mf_dat eX4_finish 7 rfl) rfl rfl ?_
      refine mf_getf (r := (RX4, TX4, 5)) (ci := 4) (k := 2) (t := 2) (v := x0 + 3) (mf_dat eX4_finish 8 rfl) fl_X4_18 rfl (by decide) rfl (gc_2 hG ck1) ck1 ?_
      refine mf_aload_n (mf_dat eX4_finish 9 rfl) rfl rfl ?_
      refine mf_getf (r := (RX4, TX4, 5)) (ci := 4) (k := 4) (t := 0) (v := h x0 4) (mf_dat eX4_finish 10 rfl) fl_X4_21 rfl (by decide) rfl rfl ck1 ?_
      refine mf_aload_n (mf_dat eX4_finish 11 rfl) rfl rfl ?_
      refine mf_getf (r := (RX4, TX4, 5)) (ci := 4) (k := 3) (t := 0) (v := h x0 3) (mf_dat eX4_finish 12 rfl) fl_X4_25 rfl (by decide) rfl rfl ck1 ?_
      obtain ⟨ck4, hyp⟩ := hyp
      obtain ⟨ck5, hyp⟩ := hyp
      refine mf_iast (mf_dat eX4_finish 13 rfl) (sc_is2 ck1) (sc_len2 ck1) ck4 ck5 ?_
      generalize qh6 : mf_up h (x0 + 3) (h x0 4) (h x0 3) = h6
      replace hyp := hyp _ qh6.symm
      refine mf_aload_n (mf_dat eX4_finish 14 rfl) rfl rfl ?_
      refine mf_iconst (v := (-1)) (mf_dat eX4_finish 15 rfl) (by decide) ?_
      refine mf_putI (r := (RX4, TX4, 5)) (ci := 4) (k := 4) (kI := 4) (t := 0) (mf_dat eX4_finish 16 rfl) fl_X4_21 rfl rfl (by decide) rfl (by decide) rfl (by decide) (fun h9 => absurd h9 (by decide)) ck1 ?_
      generalize qh7 : mf_up h6 x0 4 (-1) = h7
      replace hyp := hyp _ qh7.symm
      exact mf_return (mf_dat eX4_finish 17 rfl) rfl ⟨hG, hyp⟩
set_option maxRecDepth 100000 in
set_option maxHeartbeats 4000000 in
theorem wX4_add {C : mf_G} {l : Launch} {d : Nat} {K : mf_Kt} {x0 x1 : Int} {g h : mf_M} (hyp : mf_is 319 x0 4 ∧ ((1600 ≤ h x0 3 → K 0 g h) ∧ (¬ 1600 ≤ h x0 3 → 0 ≤ h x0 3 ∧ h x0 3 < 1600 ∧ (∀ h4 : mf_M, h4 = mf_up h (x0 + 1) (h x0 3) x1 → (∀ h5 : mf_M, h5 = mf_up h4 x0 3 (mf_w32 ((h4 x0 3) + 1)) → K 0 g h5))))) : xM C l d YX4_add [(2, x0), (0, x1)] g h K := by
  intro hG
  refine mf_entry (by decide) (Nat.le_of_ble_eq_true rfl) ?_
  refine mf_aload_n (mf_dat eX4_add 0 rfl) rfl rfl ?_
  obtain ⟨ck1, hyp⟩ := hyp
  refine mf_getf (r := (RX4, TX4, 5)) (ci := 4) (k := 3) (t := 0) (v := h x0 3) (mf_dat eX4_add 1 rfl) fl_X4_25 rfl (by decide) rfl rfl ck1 ?_
  refine mf_aload_n (mf_dat eX4_add 2 rfl) rfl rfl ?_
  refine mf_getf (r := (RX4, TX4, 5)) (ci := 4) (k := 0) (t := 2) (v := x0 + 1) (mf_dat eX4_add 3 rfl) fl_X4_9 rfl (by decide) rfl (gc_0 hG ck1) ck1 ?_
  refine mf_alen (c := 20) (i := 0) (ty := .int) (v := 1600) (mf_dat eX4_add 4 rfl) (by decide) rfl (sc_is0 ck1) (sc_len0 ck1) (mf_len_small _) ?_
  refine mf_icmp_ge (tgt := 32) (mf_dat eX4_add 5 rfl) (by decide) (fun hc => ?_) (fun hc => ?_)
  · replace hyp := hyp.1 hc
    exact mf_return (mf_dat eX4_add 18 rfl) rfl ⟨hG, hyp⟩
  · replace hyp := hyp.2 hc
    refine mf_aload_n (mf_dat eX4_add 6 rfl) rfl rfl ?_
    refine mf_getf (r := (RX4, TX4, 5)) (ci := 4) (k := 0) (t := 2) (v := x0 + 1) (mf_dat eX4_add 7 rfl) fl_X4_9 rfl (by decide) rfl (gc_0 hG ck1) ck1 ?_
    refine mf_aload_n (mf_dat eX4_add 8 rfl) rfl rfl ?_
    refine mf_getf (r := (RX4, TX4, 5)) (ci := 4) (k := 3) (t := 0) (v := h x0 3) (mf_dat eX4_add 9 rfl) fl_X4_25 rfl (by decide) rfl rfl ck1 ?_
    refine mf_iload_n (mf_dat eX4_add 10 rfl) rfl rfl ?_
    obtain ⟨ck2, hyp⟩ := hyp
    obtain ⟨ck3, hyp⟩ := hyp
    refine mf_iast (mf_dat eX4_add 11 rfl) (sc_is0 ck1) (sc_len0 ck1) ck2 ck3 ?_
    generalize qh4 : mf_up h (x0 + 1) (h x0 3) x1 = h4
    replace hyp := hyp _ qh4.symm
    refine mf_aload_n (mf_dat eX4_add 12 rfl) rfl rfl ?_
    refine mf_dup (mf_dat eX4_add 13 rfl) (by decide) ?_
    refine mf_getf (r := (RX4, TX4, 5)) (ci := 4) (k := 3) (t := 0) (v := h4 x0 3) (mf_dat eX4_add 14 rfl) fl_X4_25 rfl (by decide) rfl rfl ck1 ?_
    refine mf_iconst (v := 1) (mf_dat eX4_add 15 rfl) (by decide) ?_
    refine mf_iadd (mf_dat eX4_add 16 rfl) ?_
    refine mf_putI (r := (RX4, TX4, 5)) (ci := 4) (k := 3) (kI := 3) (t := 0) (mf_dat eX4_add 17 rfl) fl_X4_25 rfl rfl (by decide) rfl (by decide) rfl (by decide) (fun h9 => absurd h9 (by decide)) ck1 ?_
    generalize qh5 : mf_up h4 x0 3 (mf_w32 ((h4 x0 3) + 1)) = h5
    replace hyp := hyp _ qh5.symm
    exact mf_return (mf_dat eX4_add 18 rfl) rfl ⟨hG, hyp⟩
abbrev BX5_findApart_13 (C : mf_G) (l : Launch) (d : Nat) (K : mf_Kt) (x1 x2 x3 x4 x5 : Int) (g h : mf_M) : Prop := jX C l d YX5_findApart K 13 [(1, (2, x1)), (2, (2, x2)), (3, (0, x3)), (4, (0, x4)), (5, (0, x5))] [] g h
set_option maxRecDepth 100000 in
set_option maxHeartbeats 4000000 in
theorem vX5_findApart_13 {C : mf_G} {l : Launch} {d : Nat} {K : mf_Kt} {x1 x2 x3 x4 x5 : Int} {g h : mf_M} (hd : 4 ≤ d) (hyp : mf_is 319 x1 1 ∧ ((h x1 8 < x5 → K x3 g h) ∧ (¬ h x1 8 < x5 → xM C l 3 YX0_countPairs [(2, x1), (2, x2), (0, x5)] g h (fun r2 g3 h4 => ((x4 ≤ r2 → (∀ v5 : Int, v5 = mf_w32 (x5 + 1) → BX5_findApart_13 C l d K x1 x2 x3 x4 v5 g3 h4)) ∧ (¬ x4 ≤ r2 → (∀ v6 : Int, v6 = mf_w32 (x5 + 1) → BX5_findApart_13 C l d K x1 x2 x5 r2 v6 g3 h4))))))) : BX5_findApart_13 C l d K x1 x2 x3 x4 x5 g h := by
  intro hG
  refine mf_iload (mf_dat eX5_findApart 9 rfl) rfl ?_
  refine mf_aload_n (mf_dat eX5_findApart 10 rfl) rfl rfl ?_
  obtain ⟨ck1, hyp⟩ := hyp
  refine mf_getf (r := (RX1, TX1, 14)) (ci := 1) (k := 8) (t := 0) (v := h x1 8) (mf_dat eX5_findApart 11 rfl) fl_X5_54 rfl (by decide) rfl rfl ck1 ?_
  refine mf_icmp_gt (tgt := 51) (mf_dat eX5_findApart 12 rfl) (by decide) (fun hc => ?_) (fun hc => ?_)
  · replace hyp := hyp.1 hc
    refine mf_iload_n (mf_dat eX5_findApart 27 rfl) rfl rfl ?_
    exact mf_ireturn (mf_dat eX5_findApart 28 rfl) rfl (Or.inl rfl) ⟨hG, hyp⟩
  · replace hyp := hyp.2 hc
    refine mf_aload_n (mf_dat eX5_findApart 13 rfl) rfl rfl ?_
    refine mf_aload_n (mf_dat eX5_findApart 14 rfl) rfl rfl ?_
    refine mf_iload (mf_dat eX5_findApart 15 rfl) rfl ?_
    refine mf_callS (Yc := YX0_countPairs) (mf_dat eX5_findApart 16 rfl) ml_X5_48 okX0_countPairs sm_X0_countPairs rfl rfl (Nat.le_of_ble_eq_true rfl) (mf_rr (Nat.le_trans (by decide) hd) (Nat.le_refl _)) (Nat.le_refl _) (hyp hG) (fun r2 g3 h4 hyp => ?_)
    obtain ⟨hG, hyp⟩ := hyp
    refine mf_istore (mf_dat eX5_findApart 17 rfl) (by decide) ?_
    refine mf_iload (mf_dat eX5_findApart 18 rfl) rfl ?_
    refine mf_iload (mf_dat eX5_findApart 19 rfl) rfl ?_
    refine mf_icmp_ge (tgt := 45) (mf_dat eX5_findApart 20 rfl) (by decide) (fun hc => ?_) (fun hc => ?_)
    · replace hyp := hyp.1 hc
      refine mf_iinc (mf_dat eX5_findApart 25 rfl) rfl (by decide) (by decide) ?_
      generalize qv5 : mf_w32 (x5 + 1) = v5
      replace hyp := hyp _ qv5.symm
      refine mf_goto (tgt := 13) (mf_dat eX5_findApart 26 rfl) (by decide) ?_
      exact mf_sub [2, 3, 4, 5, 0] rfl (hyp hG)
    · replace hyp := hyp.2 hc
      refine mf_iload (mf_dat eX5_findApart 21 rfl) rfl ?_
      refine mf_istore (mf_dat eX5_findApart 22 rfl) (by decide) ?_
      refine mf_iload (mf_dat eX5_findApart 23 rfl) rfl ?_
      refine mf_istore_n (mf_dat eX5_findApart 24 rfl) rfl (by decide) ?_
      refine mf_iinc (mf_dat eX5_findApart 25 rfl) rfl (by decide) (by decide) ?_
      generalize qv6 : mf_w32 (x5 + 1) = v6
      replace hyp := hyp _ qv6.symm
      refine mf_goto (tgt := 13) (mf_dat eX5_findApart 26 rfl) (by decide) ?_
      exact mf_sub [4, 5, 1, 2, 0] rfl (hyp hG)
set_option maxRecDepth 100000 in
set_option maxHeartbeats 4000000 in
theorem wX5_findApart {C : mf_G} {l : Launch} {d : Nat} {K : mf_Kt} {x1 x2 : Int} {g h : mf_M} (hd : 4 ≤ d) (hyp : xM C l 3 YX0_countPairs [(2, x1), (2, x2), (0, 0)] g h (fun r1 g2 h3 => BX5_findApart_13 C l d K x1 x2 0 r1 1 g2 h3)) : xM C l d YX5_findApart [(2, 51), (2, x1), (2, x2)] g h K := by
  intro hG
  refine mf_entry (by decide) (Nat.le_of_ble_eq_true rfl) ?_
  refine mf_iconst (v := 0) (mf_dat eX5_findApart 0 rfl) (by decide) ?_
  refine mf_istore_n (mf_dat eX5_findApart 1 rfl) rfl (by decide) ?_
  refine mf_aload_n (mf_dat eX5_findApart 2 rfl) rfl rfl ?_
  refine mf_aload_n (mf_dat eX5_findApart 3 rfl) rfl rfl ?_
  refine mf_iconst (v := 0) (mf_dat eX5_findApart 4 rfl) (by decide) ?_
  refine mf_callS (Yc := YX0_countPairs) (mf_dat eX5_findApart 5 rfl) ml_X5_48 okX0_countPairs sm_X0_countPairs rfl rfl (Nat.le_of_ble_eq_true rfl) (mf_rr (Nat.le_trans (by decide) hd) (Nat.le_refl _)) (Nat.le_refl _) (hyp hG) (fun r1 g2 h3 hyp => ?_)
  obtain ⟨hG, hyp⟩ := hyp
  refine mf_istore (mf_dat eX5_findApart 6 rfl) (by decide) ?_
  refine mf_iconst (v := 1) (mf_dat eX5_findApart 7 rfl) (by decide) ?_
  refine mf_istore (mf_dat eX5_findApart 8 rfl) (by decide) ?_
  exact mf_sub [4, 5, 2, 1, 0] rfl (hyp hG)
set_option maxRecDepth 100000 in
set_option maxHeartbeats 4000000 in
theorem wX5_findReading {C : mf_G} {l : Launch} {d : Nat} {K : mf_Kt} {x1 x2 x3 x4 : Int} {g h : mf_M} (hd : 67 ≤ d) (hyp : (∀ h1 : mf_M, h1 = mf_up h 51 10 1000 → xM C l 66 YX5_tryReadings [(2, 51), (2, x1), (2, x2), (0, x3), (0, 0), (0, 0)] g h1 (fun r2 g3 h4 => ((x4 < 0 → K (h4 51 10) g3 h4) ∧ (¬ x4 < 0 → ((3 ≤ x4 → K (h4 51 10) g3 h4) ∧ (¬ 3 ≤ x4 → 0 ≤ x4 ∧ x4 < 3 ∧ K (h4 61 x4) g3 h4))))))) : xM C l d YX5_findReading [(2, 51), (2, x1), (2, x2), (0, x3), (0, x4)] g h K := by
  intro hG
  refine mf_entry (by decide) (Nat.le_of_ble_eq_true rfl) ?_
  refine mf_aload_n (mf_dat eX5_findReading 0 rfl) rfl rfl ?_
  refine mf_sipush (v := 1000) (mf_dat eX5_findReading 1 rfl) (by decide) ?_
  refine mf_putI (r := (RX5, TX5, 12)) (ci := 5) (k := 10) (kI := 10) (t := 0) (mf_dat eX5_findReading 2 rfl) fl_X5_60 rfl rfl (by decide) rfl (by decide) rfl (by decide) (fun h9 => absurd h9 (by decide)) is51 ?_
  generalize qh1 : mf_up h 51 10 1000 = h1
  replace hyp := hyp _ qh1.symm
  refine mf_aload_n (mf_dat eX5_findReading 3 rfl) rfl rfl ?_
  refine mf_aload_n (mf_dat eX5_findReading 4 rfl) rfl rfl ?_
  refine mf_aload_n (mf_dat eX5_findReading 5 rfl) rfl rfl ?_
  refine mf_iload_n (mf_dat eX5_findReading 6 rfl) rfl rfl ?_
  refine mf_iconst (v := 0) (mf_dat eX5_findReading 7 rfl) (by decide) ?_
  refine mf_iconst (v := 0) (mf_dat eX5_findReading 8 rfl) (by decide) ?_
  refine mf_callV (Yc := YX5_tryReadings) (r := (RX5, TX5, 12)) (ci := 5) (mf_dat eX5_findReading 9 rfl) ml_X5_63 okX5_tryReadings im_X5_tryReadings sl_X5_tryReadings rfl rfl rfl rfl (Nat.le_of_ble_eq_true rfl) (mf_rr (Nat.le_trans (by decide) hd) (Nat.le_refl _)) (Nat.le_refl _) is51 (hyp hG) (fun r2 g3 h4 hyp => ?_)
  obtain ⟨hG, hyp⟩ := hyp
  refine mf_iload (mf_dat eX5_findReading 10 rfl) rfl ?_
  refine mf_if_lt (tgt := 41) (mf_dat eX5_findReading 11 rfl) (by decide) (fun hc => ?_) (fun hc => ?_)
  · replace hyp := hyp.1 hc
    refine mf_aload_n (mf_dat eX5_findReading 22 rfl) rfl rfl ?_
    refine mf_getf (r := (RX5, TX5, 12)) (ci := 5) (k := 10) (t := 0) (v := h4 51 10) (mf_dat eX5_findReading 23 rfl) fl_X5_60 rfl (by decide) rfl rfl is51 ?_
    exact mf_ireturn (mf_dat eX5_findReading 24 rfl) rfl (Or.inl rfl) ⟨hG, hyp⟩
  · replace hyp := hyp.2 hc
    refine mf_iload (mf_dat eX5_findReading 12 rfl) rfl ?_
    refine mf_aload_n (mf_dat eX5_findReading 13 rfl) rfl rfl ?_
    refine mf_getf (r := (RX5, TX5, 12)) (ci := 5) (k := 4) (t := 2) (v := 61) (mf_dat eX5_findReading 14 rfl) fl_X5_26 rfl (by decide) rfl (gx_51_4 hG) is51 ?_
    refine mf_alen (c := 20) (i := 0) (ty := .int) (v := 3) (mf_dat eX5_findReading 15 rfl) (by decide) rfl is61 len61 (mf_len_small _) ?_
    refine mf_icmp_ge (tgt := 41) (mf_dat eX5_findReading 16 rfl) (by decide) (fun hc => ?_) (fun hc => ?_)
    · replace hyp := hyp.1 hc
      refine mf_aload_n (mf_dat eX5_findReading 22 rfl) rfl rfl ?_
      refine mf_getf (r := (RX5, TX5, 12)) (ci := 5) (k := 10) (t := 0) (v := h4 51 10) (mf_dat eX5_findReading 23 rfl) fl_X5_60 rfl (by decide) rfl rfl is51 ?_
      exact mf_ireturn (mf_dat eX5_findReading 24 rfl) rfl (Or.inl rfl) ⟨hG, hyp⟩
    · replace hyp := hyp.2 hc
      refine mf_aload_n (mf_dat eX5_findReading 17 rfl) rfl rfl ?_
      refine mf_getf (r := (RX5, TX5, 12)) (ci := 5) (k := 4) (t := 2) (v := 61) (mf_dat eX5_findReading 18 rfl) fl_X5_26 rfl (by decide) rfl (gx_51_4 hG) is51 ?_
      refine mf_iload (mf_dat eX5_findReading 19 rfl) rfl ?_
      obtain ⟨ck5, hyp⟩ := hyp
      obtain ⟨ck6, hyp⟩ := hyp
      refine mf_iald (mf_dat eX5_findReading 20 rfl) is61 len61 ck5 ck6 ?_
      refine mf_goto (tgt := 45) (mf_dat eX5_findReading 21 rfl) (by decide) ?_
      exact mf_ireturn (mf_dat eX5_findReading 24 rfl) rfl (Or.inl rfl) ⟨hG, hyp⟩
abbrev BX5_tryReadings_15 (C : mf_G) (l : Launch) (d : Nat) (K : mf_Kt) (x1 x2 x3 x4 x5 x6 : Int) (g h : mf_M) : Prop := jX C l d YX5_tryReadings K 15 [(0, (2, 51)), (1, (2, x1)), (2, (2, x2)), (3, (0, x3)), (4, (0, x4)), (5, (0, x5)), (6, (0, x6))] [] g h
set_option maxRecDepth 100000 in
set_option maxHeartbeats 4000000 in
theorem vX5_tryReadings_15 {C : mf_G} {l : Launch} {e : Nat} {K : mf_Kt} {x1 x2 x3 x4 x5 x6 : Int} {g h : mf_M} (hd : 6 ≤ e + 1) (hyp : mf_is 319 x1 1 ∧ ((h x1 8 < x6 → K 0 g h) ∧ (¬ h x1 8 < x6 → ((h 51 10 ≤ 0 → K 0 g h) ∧ (¬ h 51 10 ≤ 0 → xM C l 3 YX0_countPairs [(2, x1), (2, x2), (0, x6)] g h (fun r2 g3 h4 => (∀ v5 : Int, v5 = mf_w32 (x5 + r2) → ((h4 51 10 ≤ v5 → (∀ v6 : Int, v6 = mf_w32 (x6 + 1) → BX5_tryReadings_15 C l (e + 1) K x1 x2 x3 x4 x5 v6 g3 h4)) ∧ (¬ h4 51 10 ≤ v5 → 0 ≤ x4 ∧ x4 < 3 ∧ (∀ h9 : mf_M, h9 = mf_up h4 60 x4 x6 → ((mf_w32 (x4 + 1) < x3 → xM C l 1 YX6_copyFolk [(2, 67 + 7 * x4), (2, x2)] g3 h9 (fun r10 g11 h12 => xM C l 5 YX0_passDay [(2, 46), (2, x1), (2, 67 + 7 * x4), (0, x6)] g11 h12 (fun r13 g14 h15 => xM C l e YX5_tryReadings [(2, 51), (2, x1), (2, 67 + 7 * x4), (0, x3), (0, mf_w32 (x4 + 1)), (0, v5)] g14 h15 (fun r16 g17 h18 => (∀ v19 : Int, v19 = mf_w32 (x6 + 1) → BX5_tryReadings_15 C l (e + 1) K x1 x2 x3 x4 x5 v19 g17 h18))))) ∧ (¬ mf_w32 (x4 + 1) < x3 → (∀ h20 : mf_M, h20 = mf_up h9 51 10 v5 → (∀ h21 : mf_M, h21 = mf_cpy h20 60 61 0 0 3 → (∀ v22 : Int, v22 = mf_w32 (x6 + 1) → BX5_tryReadings_15 C l (e + 1) K x1 x2 x3 x4 x5 v22 g3 h21))))))))))))))) : BX5_tryReadings_15 C l (e + 1) K x1 x2 x3 x4 x5 x6 g h := by
  intro hG
  refine mf_iload (mf_dat eX5_tryReadings_p0 8 rfl) rfl ?_
  refine mf_aload_n (mf_dat eX5_tryReadings_p0 9 rfl) rfl rfl ?_
  obtain ⟨ck1, hyp⟩ := hyp
  refine mf_getf (r := (RX1, TX1, 14)) (ci := 1) (k := 8) (t := 0) (v := h x1 8) (mf_dat eX5_tryReadings_p0 10 rfl) fl_X5_54 rfl (by decide) rfl rfl ck1 ?_
  refine mf_icmp_gt (tgt := 140) (mf_dat eX5_tryReadings_p0 11 rfl) (by decide) (fun hc => ?_) (fun hc => ?_)
  · replace hyp := hyp.1 hc
    exact mf_return (mf_dat eX5_tryReadings_p1 14 rfl) rfl ⟨hG, hyp⟩
  · replace hyp := hyp.2 hc
    refine mf_aload_n (mf_dat eX5_tryReadings_p0 12 rfl) rfl rfl ?_
    refine mf_getf (r := (RX5, TX5, 12)) (ci := 5) (k := 10) (t := 0) (v := h 51 10) (mf_dat eX5_tryReadings_p0 13 rfl) fl_X5_60 rfl (by decide) rfl rfl is51 ?_
    refine mf_if_le (tgt := 140) (mf_dat eX5_tryReadings_p0 14 rfl) (by decide) (fun hc => ?_) (fun hc => ?_)
    · replace hyp := hyp.1 hc
      exact mf_return (mf_dat eX5_tryReadings_p1 14 rfl) rfl ⟨hG, hyp⟩
    · replace hyp := hyp.2 hc
      refine mf_iload (mf_dat eX5_tryReadings_p0 15 rfl) rfl ?_
      refine mf_aload_n (mf_dat eX5_tryReadings_p0 16 rfl) rfl rfl ?_
      refine mf_aload_n (mf_dat eX5_tryReadings_p0 17 rfl) rfl rfl ?_
      refine mf_iload (mf_dat eX5_tryReadings_p0 18 rfl) rfl ?_
      refine mf_callS (Yc := YX0_countPairs) (mf_dat eX5_tryReadings_p0 19 rfl) ml_X5_48 okX0_countPairs sm_X0_countPairs rfl rfl (Nat.le_of_ble_eq_true rfl) (mf_rr (Nat.le_trans (by decide) hd) (Nat.le_refl _)) (Nat.le_refl _) (hyp hG) (fun r2 g3 h4 hyp => ?_)
      obtain ⟨hG, hyp⟩ := hyp
      refine mf_iadd (mf_dat eX5_tryReadings_p0 20 rfl) ?_
      generalize qv5 : mf_w32 (x5 + r2) = v5
      replace hyp := hyp _ qv5.symm
      refine mf_istore (mf_dat eX5_tryReadings_p0 21 rfl) (by decide) ?_
      refine mf_iload (mf_dat eX5_tryReadings_p0 22 rfl) rfl ?_
      refine mf_aload_n (mf_dat eX5_tryReadings_p0 23 rfl) rfl rfl ?_
      refine mf_getf (r := (RX5, TX5, 12)) (ci := 5) (k := 10) (t := 0) (v := h4 51 10) (mf_dat eX5_tryReadings_p0 24 rfl) fl_X5_60 rfl (by decide) rfl rfl is51 ?_
      refine mf_icmp_ge (tgt := 134) (mf_dat eX5_tryReadings_p0 25 rfl) (by decide) (fun hc => ?_) (fun hc => ?_)
      · replace hyp := hyp.1 hc
        refine mf_iinc (mf_dat eX5_tryReadings_p1 12 rfl) rfl (by decide) (by decide) ?_
        generalize qv6 : mf_w32 (x6 + 1) = v6
        replace hyp := hyp _ qv6.symm
        refine mf_goto (tgt := 15) (mf_dat eX5_tryReadings_p1 13 rfl) (by decide) ?_
        exact mf_sub [2, 3, 4, 5, 6, 7, 0] rfl (hyp hG)
      · replace hyp := hyp.2 hc
        refine mf_aload_n (mf_dat eX5_tryReadings_p0 26 rfl) rfl rfl ?_
        refine mf_getf (r := (RX5, TX5, 12)) (ci := 5) (k := 3) (t := 2) (v := 60) (mf_dat eX5_tryReadings_p0 27 rfl) fl_X5_22 rfl (by decide) rfl (gx_51_3 hG) is51 ?_
        refine mf_iload (mf_dat eX5_tryReadings_p0 28 rfl) rfl ?_
        refine mf_iload (mf_dat eX5_tryReadings_p0 29 rfl) rfl ?_
        obtain ⟨ck7, hyp⟩ := hyp
        obtain ⟨ck8, hyp⟩ := hyp
        refine mf_iast (mf_dat eX5_tryReadings_p0 30 rfl) is60 len60 ck7 ck8 ?_
        generalize qh9 : mf_up h4 60 x4 x6 = h9
        replace hyp := hyp _ qh9.symm
        refine mf_iload (mf_dat eX5_tryReadings_p0 31 rfl) rfl ?_
        refine mf_iconst (v := 1) (mf_dat eX5_tryReadings_p0 32 rfl) (by decide) ?_
        refine mf_iadd (mf_dat eX5_tryReadings_p0 33 rfl) ?_
        refine mf_iload_n (mf_dat eX5_tryReadings_p0 34 rfl) rfl rfl ?_
        refine mf_icmp_lt (tgt := 92) (mf_dat eX5_tryReadings_p0 35 rfl) (by decide) (fun hc => ?_) (fun hc => ?_)
        · replace hyp := hyp.1 hc
          refine mf_aload_n (mf_dat eX5_tryReadings_p0 48 rfl) rfl rfl ?_
          refine mf_getf (r := (RX5, TX5, 12)) (ci := 5) (k := 1) (t := 2) (v := 52) (mf_dat eX5_tryReadings_p0 49 rfl) fl_X5_11 rfl (by decide) rfl (gx_51_1 hG) is51 ?_
          refine mf_iload (mf_dat eX5_tryReadings_p0 50 rfl) rfl ?_
          refine mf_aald (mf_dat eX5_tryReadings_p0 51 rfl) is52 len52 ck7 ck8 ?_
          rw [ga_52 hG ck7 ck8]
          refine mf_astore (mf_dat eX5_tryReadings_p0 52 rfl) (by decide) ?_
          refine mf_aload (mf_dat eX5_tryReadings_p0 53 rfl) rfl ?_
          refine mf_aload_n (mf_dat eX5_tryReadings_p0 54 rfl) rfl rfl ?_
          refine mf_callV (Yc := YX6_copyFolk) (r := (RX6, TX6, 8)) (ci := 6) (mf_dat eX5_tryReadings_p0 55 rfl) ml_X5_73 okX6_copyFolk im_X6_copyFolk sl_X6_copyFolk rfl rfl rfl rfl (Nat.le_of_ble_eq_true rfl) (mf_rr (Nat.le_trans (by decide) hd) (Nat.le_refl _)) (Nat.le_refl _) (tri_is ck7 ck8) (hyp hG) (fun r10 g11 h12 hyp => ?_)
          obtain ⟨hG, hyp⟩ := hyp
          refine mf_aload_n (mf_dat eX5_tryReadings_p0 56 rfl) rfl rfl ?_
          refine mf_getf (r := (RX5, TX5, 12)) (ci := 5) (k := 0) (t := 2) (v := 46) (mf_dat eX5_tryReadings_p0 57 rfl) fl_X5_44 rfl (by decide) rfl (gx_51_0 hG) is51 ?_
          refine mf_aload_n (mf_dat eX5_tryReadings_p0 58 rfl) rfl rfl ?_
          refine mf_aload (mf_dat eX5_tryReadings_p0 59 rfl) rfl ?_
          refine mf_iload (mf_dat eX5_tryReadings_p1 0 rfl) rfl ?_
          refine mf_callV (Yc := YX0_passDay) (r := (RX0, TX0, 1)) (ci := 0) (mf_dat eX5_tryReadings_p1 1 rfl) ml_X5_77 okX0_passDay im_X0_passDay sl_X0_passDay rfl rfl rfl rfl (Nat.le_of_ble_eq_true rfl) (mf_rr (Nat.le_trans (by decide) hd) (Nat.le_refl _)) (Nat.le_refl _) is46 (hyp hG) (fun r13 g14 h15 hyp => ?_)
          obtain ⟨hG, hyp⟩ := hyp
          refine mf_pop (mf_dat eX5_tryReadings_p1 2 rfl) (by decide) ?_
          refine mf_aload_n (mf_dat eX5_tryReadings_p1 3 rfl) rfl rfl ?_
          refine mf_aload_n (mf_dat eX5_tryReadings_p1 4 rfl) rfl rfl ?_
          refine mf_aload (mf_dat eX5_tryReadings_p1 5 rfl) rfl ?_
          refine mf_iload_n (mf_dat eX5_tryReadings_p1 6 rfl) rfl rfl ?_
          refine mf_iload (mf_dat eX5_tryReadings_p1 7 rfl) rfl ?_
          refine mf_iconst (v := 1) (mf_dat eX5_tryReadings_p1 8 rfl) (by decide) ?_
          refine mf_iadd (mf_dat eX5_tryReadings_p1 9 rfl) ?_
          refine mf_iload (mf_dat eX5_tryReadings_p1 10 rfl) rfl ?_
          refine mf_callV (Yc := YX5_tryReadings) (r := (RX5, TX5, 12)) (ci := 5) (mf_dat eX5_tryReadings_p1 11 rfl) ml_X5_63 okX5_tryReadings im_X5_tryReadings sl_X5_tryReadings rfl rfl rfl rfl (Nat.le_of_ble_eq_true rfl) (mf_rr (Nat.le_refl _) (Nat.le_refl _)) (Nat.le_refl _) is51 (hyp hG) (fun r16 g17 h18 hyp => ?_)
          obtain ⟨hG, hyp⟩ := hyp
          refine mf_iinc (mf_dat eX5_tryReadings_p1 12 rfl) rfl (by decide) (by decide) ?_
          generalize qv19 : mf_w32 (x6 + 1) = v19
          replace hyp := hyp _ qv19.symm
          refine mf_goto (tgt := 15) (mf_dat eX5_tryReadings_p1 13 rfl) (by decide) ?_
          exact mf_sub [3, 4, 5, 6, 7, 8, 0] rfl (hyp hG)
        · replace hyp := hyp.2 hc
          refine mf_aload_n (mf_dat eX5_tryReadings_p0 36 rfl) rfl rfl ?_
          refine mf_iload (mf_dat eX5_tryReadings_p0 37 rfl) rfl ?_
          refine mf_putI (r := (RX5, TX5, 12)) (ci := 5) (k := 10) (kI := 10) (t := 0) (mf_dat eX5_tryReadings_p0 38 rfl) fl_X5_60 rfl rfl (by decide) rfl (by decide) rfl (by decide) (fun h9 => absurd h9 (by decide)) is51 ?_
          generalize qh20 : mf_up h9 51 10 v5 = h20
          replace hyp := hyp _ qh20.symm
          refine mf_aload_n (mf_dat eX5_tryReadings_p0 39 rfl) rfl rfl ?_
          refine mf_getf (r := (RX5, TX5, 12)) (ci := 5) (k := 3) (t := 2) (v := 60) (mf_dat eX5_tryReadings_p0 40 rfl) fl_X5_22 rfl (by decide) rfl (gx_51_3 hG) is51 ?_
          refine mf_iconst (v := 0) (mf_dat eX5_tryReadings_p0 41 rfl) (by decide) ?_
          refine mf_aload_n (mf_dat eX5_tryReadings_p0 42 rfl) rfl rfl ?_
          refine mf_getf (r := (RX5, TX5, 12)) (ci := 5) (k := 4) (t := 2) (v := 61) (mf_dat eX5_tryReadings_p0 43 rfl) fl_X5_26 rfl (by decide) rfl (gx_51_4 hG) is51 ?_
          refine mf_iconst (v := 0) (mf_dat eX5_tryReadings_p0 44 rfl) (by decide) ?_
          refine mf_iconst (v := 3) (mf_dat eX5_tryReadings_p0 45 rfl) (by decide) ?_
          refine mf_acopy (mf_dat eX5_tryReadings_p0 46 rfl) ml_X5_67 na_copy st_copy ii_System is60 is61 len60 len61 (by decide) (by decide) (by decide) (by decide) (by decide) (mf_rmf hd) (mf_rml hd (Nat.le_of_ble_eq_true rfl)) ?_
          generalize qh21 : mf_cpy h20 60 61 0 0 3 = h21
          replace hyp := hyp _ qh21.symm
          refine mf_goto (tgt := 134) (mf_dat eX5_tryReadings_p0 47 rfl) (by decide) ?_
          refine mf_iinc (mf_dat eX5_tryReadings_p1 12 rfl) rfl (by decide) (by decide) ?_
          generalize qv22 : mf_w32 (x6 + 1) = v22
          replace hyp := hyp _ qv22.symm
          refine mf_goto (tgt := 15) (mf_dat eX5_tryReadings_p1 13 rfl) (by decide) ?_
          exact mf_sub [2, 3, 4, 5, 6, 7, 0] rfl (hyp hG)
set_option maxRecDepth 100000 in
set_option maxHeartbeats 4000000 in
theorem wX5_tryReadings {C : mf_G} {l : Launch} {e : Nat} {K : mf_Kt} {x1 x2 x3 x4 x5 : Int} {g h : mf_M} (hd : 1 ≤ e + 1) (hyp : ((x4 < 0 → K 0 g h) ∧ (¬ x4 < 0 → ((x4 < 3 → BX5_tryReadings_15 C l (e + 1) K x1 x2 x3 x4 x5 0 g h) ∧ (¬ x4 < 3 → K 0 g h))))) : xM C l (e + 1) YX5_tryReadings [(2, 51), (2, x1), (2, x2), (0, x3), (0, x4), (0, x5)] g h K := by
  intro hG
  refine mf_entry (by decide) (Nat.le_of_ble_eq_true rfl) ?_
  refine mf_iload (mf_dat eX5_tryReadings_p0 0 rfl) rfl ?_
  refine mf_if_lt (tgt := 11) (mf_dat eX5_tryReadings_p0 1 rfl) (by decide) (fun hc => ?_) (fun hc => ?_)
  · replace hyp := hyp.1 hc
    exact mf_return (mf_dat eX5_tryReadings_p0 5 rfl) rfl ⟨hG, hyp⟩
  · replace hyp := hyp.2 hc
    refine mf_iload (mf_dat eX5_tryReadings_p0 2 rfl) rfl ?_
    refine mf_iconst (v := 3) (mf_dat eX5_tryReadings_p0 3 rfl) (by decide) ?_
    refine mf_icmp_lt (tgt := 12) (mf_dat eX5_tryReadings_p0 4 rfl) (by decide) (fun hc => ?_) (fun hc => ?_)
    · replace hyp := hyp.1 hc
      refine mf_iconst (v := 0) (mf_dat eX5_tryReadings_p0 6 rfl) (by decide) ?_
      refine mf_istore (mf_dat eX5_tryReadings_p0 7 rfl) (by decide) ?_
      exact mf_sub [1, 2, 3, 4, 5, 6, 0] rfl (hyp hG)
    · replace hyp := hyp.2 hc
      exact mf_return (mf_dat eX5_tryReadings_p0 5 rfl) rfl ⟨hG, hyp⟩
abbrev BX5_lookAhead_11 (C : mf_G) (l : Launch) (d : Nat) (K : mf_Kt) (x1 x3 x4 : Int) (g h : mf_M) : Prop := jX C l d YX5_lookAhead K 11 [(0, (2, 51)), (1, (2, x1)), (3, (0, x3)), (4, (0, x4))] [] g h
abbrev BX5_lookAhead_38 (C : mf_G) (l : Launch) (d : Nat) (K : mf_Kt) (x1 x3 x4 : Int) (g h : mf_M) : Prop := jX C l d YX5_lookAhead K 38 [(0, (2, 51)), (1, (2, x1)), (3, (0, x3)), (4, (0, x4))] [] g h
set_option maxRecDepth 100000 in
set_option maxHeartbeats 4000000 in
theorem vX5_lookAhead_11 {C : mf_G} {l : Launch} {d : Nat} {K : mf_Kt} {x1 x3 x4 : Int} {g h : mf_M} (hyp : ((8 ≤ x4 → BX5_lookAhead_38 C l d K x1 x3 0 g h) ∧ (¬ 8 ≤ x4 → 0 ≤ x4 ∧ x4 < 8 ∧ (∀ h3 : mf_M, h3 = mf_up h 58 x4 0 → (∀ v4 : Int, v4 = mf_w32 (x4 + 1) → BX5_lookAhead_11 C l d K x1 x3 v4 g h3))))) : BX5_lookAhead_11 C l d K x1 x3 x4 g h := by
  intro hG
  refine mf_iload (mf_dat eX5_lookAhead 6 rfl) rfl ?_
  refine mf_bipush (v := 8) (mf_dat eX5_lookAhead 7 rfl) (by decide) ?_
  refine mf_icmp_ge (tgt := 35) (mf_dat eX5_lookAhead 8 rfl) (by decide) (fun hc => ?_) (fun hc => ?_)
  · replace hyp := hyp.1 hc
    refine mf_iconst (v := 0) (mf_dat eX5_lookAhead 17 rfl) (by decide) ?_
    refine mf_istore (mf_dat eX5_lookAhead 18 rfl) (by decide) ?_
    exact mf_sub [1, 2, 3, 0] rfl (hyp hG)
  · replace hyp := hyp.2 hc
    refine mf_aload_n (mf_dat eX5_lookAhead 9 rfl) rfl rfl ?_
    refine mf_getf (r := (RX5, TX5, 12)) (ci := 5) (k := 2) (t := 2) (v := 53) (mf_dat eX5_lookAhead 10 rfl) fl_X5_18 rfl (by decide) rfl (gx_51_2 hG) is51 ?_
    refine mf_getf (r := (RX6, TX6, 8)) (ci := 6) (k := 4) (t := 2) (v := 58) (mf_dat eX5_lookAhead 11 rfl) fl_X5_80 rfl (by decide) rfl (gs_4 hG is53) is53 ?_
    refine mf_iload (mf_dat eX5_lookAhead 12 rfl) rfl ?_
    refine mf_iconst (v := 0) (mf_dat eX5_lookAhead 13 rfl) (by decide) ?_
    obtain ⟨ck1, hyp⟩ := hyp
    obtain ⟨ck2, hyp⟩ := hyp
    refine mf_iast (mf_dat eX5_lookAhead 14 rfl) is58 len58 ck1 ck2 ?_
    generalize qh3 : mf_up h 58 x4 0 = h3
    replace hyp := hyp _ qh3.symm
    refine mf_iinc (mf_dat eX5_lookAhead 15 rfl) rfl (by decide) (by decide) ?_
    generalize qv4 : mf_w32 (x4 + 1) = v4
    replace hyp := hyp _ qv4.symm
    refine mf_goto (tgt := 11) (mf_dat eX5_lookAhead 16 rfl) (by decide) ?_
    exact mf_sub [1, 2, 3, 0] rfl (hyp hG)
set_option maxRecDepth 100000 in
set_option maxHeartbeats 4000000 in
theorem vX5_lookAhead_38 {C : mf_G} {l : Launch} {d : Nat} {K : mf_Kt} {x1 x3 x4 : Int} {g h : mf_M} (hd : 6 ≤ d) (hyp : ((x3 ≤ x4 → K 53 g h) ∧ (¬ x3 ≤ x4 → xM C l 4 YX0_openingOf [(2, 46), (2, x1), (0, h 53 7)] g h (fun r1 g2 h3 => xM C l 5 YX0_passDay [(2, 46), (2, x1), (2, 53), (0, r1)] g2 h3 (fun r4 g5 h6 => (∀ v7 : Int, v7 = mf_w32 (x4 + 1) → BX5_lookAhead_38 C l d K x1 x3 v7 g5 h6)))))) : BX5_lookAhead_38 C l d K x1 x3 x4 g h := by
  intro hG
  refine mf_iload (mf_dat eX5_lookAhead 19 rfl) rfl ?_
  refine mf_iload_n (mf_dat eX5_lookAhead 20 rfl) rfl rfl ?_
  refine mf_icmp_ge (tgt := 78) (mf_dat eX5_lookAhead 21 rfl) (by decide) (fun hc => ?_) (fun hc => ?_)
  · replace hyp := hyp.1 hc
    refine mf_aload_n (mf_dat eX5_lookAhead 38 rfl) rfl rfl ?_
    refine mf_getf (r := (RX5, TX5, 12)) (ci := 5) (k := 2) (t := 2) (v := 53) (mf_dat eX5_lookAhead 39 rfl) fl_X5_18 rfl (by decide) rfl (gx_51_2 hG) is51 ?_
    exact mf_areturn (mf_dat eX5_lookAhead 40 rfl) rfl (Or.inl ⟨_, rfl⟩) ⟨hG, hyp⟩
  · replace hyp := hyp.2 hc
    refine mf_aload_n (mf_dat eX5_lookAhead 22 rfl) rfl rfl ?_
    refine mf_getf (r := (RX5, TX5, 12)) (ci := 5) (k := 0) (t := 2) (v := 46) (mf_dat eX5_lookAhead 23 rfl) fl_X5_44 rfl (by decide) rfl (gx_51_0 hG) is51 ?_
    refine mf_aload_n (mf_dat eX5_lookAhead 24 rfl) rfl rfl ?_
    refine mf_aload_n (mf_dat eX5_lookAhead 25 rfl) rfl rfl ?_
    refine mf_getf (r := (RX5, TX5, 12)) (ci := 5) (k := 2) (t := 2) (v := 53) (mf_dat eX5_lookAhead 26 rfl) fl_X5_18 rfl (by decide) rfl (gx_51_2 hG) is51 ?_
    refine mf_aload_n (mf_dat eX5_lookAhead 27 rfl) rfl rfl ?_
    refine mf_getf (r := (RX5, TX5, 12)) (ci := 5) (k := 0) (t := 2) (v := 46) (mf_dat eX5_lookAhead 28 rfl) fl_X5_44 rfl (by decide) rfl (gx_51_0 hG) is51 ?_
    refine mf_aload_n (mf_dat eX5_lookAhead 29 rfl) rfl rfl ?_
    refine mf_aload_n (mf_dat eX5_lookAhead 30 rfl) rfl rfl ?_
    refine mf_getf (r := (RX5, TX5, 12)) (ci := 5) (k := 2) (t := 2) (v := 53) (mf_dat eX5_lookAhead 31 rfl) fl_X5_18 rfl (by decide) rfl (gx_51_2 hG) is51 ?_
    refine mf_getf (r := (RX6, TX6, 8)) (ci := 6) (k := 7) (t := 0) (v := h 53 7) (mf_dat eX5_lookAhead 32 rfl) fl_X5_83 rfl (by decide) rfl rfl is53 ?_
    refine mf_callV (Yc := YX0_openingOf) (r := (RX0, TX0, 1)) (ci := 0) (mf_dat eX5_lookAhead 33 rfl) ml_X5_86 okX0_openingOf im_X0_openingOf sl_X0_openingOf rfl rfl rfl rfl (Nat.le_of_ble_eq_true rfl) (mf_rr (Nat.le_trans (by decide) hd) (Nat.le_refl _)) (Nat.le_refl _) is46 (hyp hG) (fun r1 g2 h3 hyp => ?_)
    obtain ⟨hG, hyp⟩ := hyp
    refine mf_callV (Yc := YX0_passDay) (r := (RX0, TX0, 1)) (ci := 0) (mf_dat eX5_lookAhead 34 rfl) ml_X5_77 okX0_passDay im_X0_passDay sl_X0_passDay rfl rfl rfl rfl (Nat.le_of_ble_eq_true rfl) (mf_rr (Nat.le_trans (by decide) hd) (Nat.le_refl _)) (Nat.le_refl _) is46 (hyp hG) (fun r4 g5 h6 hyp => ?_)
    obtain ⟨hG, hyp⟩ := hyp
    refine mf_pop (mf_dat eX5_lookAhead 35 rfl) (by decide) ?_
    refine mf_iinc (mf_dat eX5_lookAhead 36 rfl) rfl (by decide) (by decide) ?_
    generalize qv7 : mf_w32 (x4 + 1) = v7
    replace hyp := hyp _ qv7.symm
    refine mf_goto (tgt := 38) (mf_dat eX5_lookAhead 37 rfl) (by decide) ?_
    exact mf_sub [1, 2, 3, 0] rfl (hyp hG)
set_option maxRecDepth 100000 in
set_option maxHeartbeats 4000000 in
theorem wX5_lookAhead {C : mf_G} {l : Launch} {d : Nat} {K : mf_Kt} {x1 x2 x3 : Int} {g h : mf_M} (hd : 2 ≤ d) (hyp : xM C l 1 YX6_copyFolk [(2, 53), (2, x2)] g h (fun r1 g2 h3 => BX5_lookAhead_11 C l d K x1 x3 0 g2 h3)) : xM C l d YX5_lookAhead [(2, 51), (2, x1), (2, x2), (0, x3)] g h K := by
  intro hG
  refine mf_entry (by decide) (Nat.le_of_ble_eq_true rfl) ?_
  refine mf_aload_n (mf_dat eX5_lookAhead 0 rfl) rfl rfl ?_
  refine mf_getf (r := (RX5, TX5, 12)) (ci := 5) (k := 2) (t := 2) (v := 53) (mf_dat eX5_lookAhead 1 rfl) fl_X5_18 rfl (by decide) rfl (gx_51_2 hG) is51 ?_
  refine mf_aload_n (mf_dat eX5_lookAhead 2 rfl) rfl rfl ?_
  refine mf_callV (Yc := YX6_copyFolk) (r := (RX6, TX6, 8)) (ci := 6) (mf_dat eX5_lookAhead 3 rfl) ml_X5_73 okX6_copyFolk im_X6_copyFolk sl_X6_copyFolk rfl rfl rfl rfl (Nat.le_of_ble_eq_true rfl) (mf_rr (Nat.le_trans (by decide) hd) (Nat.le_refl _)) (Nat.le_refl _) is53 (hyp hG) (fun r1 g2 h3 hyp => ?_)
  obtain ⟨hG, hyp⟩ := hyp
  refine mf_iconst (v := 0) (mf_dat eX5_lookAhead 4 rfl) (by decide) ?_
  refine mf_istore (mf_dat eX5_lookAhead 5 rfl) (by decide) ?_
  exact mf_sub [1, 2, 4, 0] rfl (hyp hG)
abbrev BX5_findWay_3 (C : mf_G) (l : Launch) (d : Nat) (K : mf_Kt) (x1 x2 x3 x4 x5 x6 : Int) (g h : mf_M) : Prop := jX C l d YX5_findWay K 3 [(0, (2, 51)), (1, (2, x1)), (2, (2, x2)), (3, (0, x3)), (4, (0, x4)), (5, (0, x5)), (6, (0, x6))] [] g h
abbrev BX5_findWay_46 (C : mf_G) (l : Launch) (d : Nat) (K : mf_Kt) (x1 x2 x4 x5 x6 : Int) (g h : mf_M) : Prop := jX C l d YX5_findWay K 46 [(0, (2, 51)), (1, (2, x1)), (2, (2, x2)), (4, (0, x4)), (5, (0, x5)), (6, (0, x6))] [] g h
set_option maxRecDepth 100000 in
set_option maxHeartbeats 4000000 in
theorem vX5_findWay_3 {C : mf_G} {l : Launch} {d : Nat} {K : mf_Kt} {x1 x2 x3 x4 x5 x6 : Int} {g h : mf_M} (hyp : ((6 ≤ x6 → mf_is 319 x2 6 ∧ 0 ≤ x3 ∧ x3 < 8 ∧ 0 ≤ h (x2 + 2) x3 ∧ h (x2 + 2) x3 < 6 ∧ (∀ h6 : mf_M, h6 = mf_up h 62 (h (x2 + 2) x3) (mf_shl 1 (h (x2 + 3) x3)) → BX5_findWay_46 C l d K x1 x2 x4 x5 0 g h6)) ∧ (¬ 6 ≤ x6 → 0 ≤ x6 ∧ x6 < 6 ∧ (∀ h9 : mf_M, h9 = mf_up h 62 x6 0 → (∀ v10 : Int, v10 = mf_w32 (x6 + 1) → BX5_findWay_3 C l d K x1 x2 x3 x4 x5 v10 g h9))))) : BX5_findWay_3 C l d K x1 x2 x3 x4 x5 x6 g h := by
  intro hG
  refine mf_iload (mf_dat eX5_findWay_p0 2 rfl) rfl ?_
  refine mf_bipush (v := 6) (mf_dat eX5_findWay_p0 3 rfl) (by decide) ?_
  refine mf_icmp_ge (tgt := 24) (mf_dat eX5_findWay_p0 4 rfl) (by decide) (fun hc => ?_) (fun hc => ?_)
  · replace hyp := hyp.1 hc
    refine mf_aload_n (mf_dat eX5_findWay_p0 12 rfl) rfl rfl ?_
    refine mf_getf (r := (RX5, TX5, 12)) (ci := 5) (k := 5) (t := 2) (v := 62) (mf_dat eX5_findWay_p0 13 rfl) fl_X5_29 rfl (by decide) rfl (gx_51_5 hG) is51 ?_
    refine mf_aload_n (mf_dat eX5_findWay_p0 14 rfl) rfl rfl ?_
    obtain ⟨ck1, hyp⟩ := hyp
    refine mf_getf (r := (RX6, TX6, 8)) (ci := 6) (k := 1) (t := 2) (v := x2 + 2) (mf_dat eX5_findWay_p0 15 rfl) fl_X5_90 rfl (by decide) rfl (gs_1 hG ck1) ck1 ?_
    refine mf_iload_n (mf_dat eX5_findWay_p0 16 rfl) rfl rfl ?_
    obtain ⟨ck2, hyp⟩ := hyp
    obtain ⟨ck3, hyp⟩ := hyp
    refine mf_iald (mf_dat eX5_findWay_p0 17 rfl) (st_is1 ck1) (st_len1 ck1) ck2 ck3 ?_
    refine mf_iconst (v := 1) (mf_dat eX5_findWay_p0 18 rfl) (by decide) ?_
    refine mf_aload_n (mf_dat eX5_findWay_p0 19 rfl) rfl rfl ?_
    refine mf_getf (r := (RX6, TX6, 8)) (ci := 6) (k := 2) (t := 2) (v := x2 + 3) (mf_dat eX5_findWay_p0 20 rfl) fl_X5_93 rfl (by decide) rfl (gs_2 hG ck1) ck1 ?_
    refine mf_iload_n (mf_dat eX5_findWay_p0 21 rfl) rfl rfl ?_
    refine mf_iald (mf_dat eX5_findWay_p0 22 rfl) (st_is2 ck1) (st_len2 ck1) ck2 ck3 ?_
    refine mf_ishl (mf_dat eX5_findWay_p0 23 rfl) ?_
    obtain ⟨ck4, hyp⟩ := hyp
    obtain ⟨ck5, hyp⟩ := hyp
    refine mf_iast (mf_dat eX5_findWay_p0 24 rfl) is62 len62 ck4 ck5 ?_
    generalize qh6 : mf_up h 62 (h (x2 + 2) x3) (mf_shl 1 (h (x2 + 3) x3)) = h6
    replace hyp := hyp _ qh6.symm
    refine mf_iconst (v := 0) (mf_dat eX5_findWay_p0 25 rfl) (by decide) ?_
    refine mf_istore (mf_dat eX5_findWay_p0 26 rfl) (by decide) ?_
    exact mf_sub [1, 2, 3, 5, 6, 0] rfl (hyp hG)
  · replace hyp := hyp.2 hc
    refine mf_aload_n (mf_dat eX5_findWay_p0 5 rfl) rfl rfl ?_
    refine mf_getf (r := (RX5, TX5, 12)) (ci := 5) (k := 5) (t := 2) (v := 62) (mf_dat eX5_findWay_p0 6 rfl) fl_X5_29 rfl (by decide) rfl (gx_51_5 hG) is51 ?_
    refine mf_iload (mf_dat eX5_findWay_p0 7 rfl) rfl ?_
    refine mf_iconst (v := 0) (mf_dat eX5_findWay_p0 8 rfl) (by decide) ?_
    obtain ⟨ck7, hyp⟩ := hyp
    obtain ⟨ck8, hyp⟩ := hyp
    refine mf_iast (mf_dat eX5_findWay_p0 9 rfl) is62 len62 ck7 ck8 ?_
    generalize qh9 : mf_up h 62 x6 0 = h9
    replace hyp := hyp _ qh9.symm
    refine mf_iinc (mf_dat eX5_findWay_p0 10 rfl) rfl (by decide) (by decide) ?_
    generalize qv10 : mf_w32 (x6 + 1) = v10
    replace hyp := hyp _ qv10.symm
    refine mf_goto (tgt := 3) (mf_dat eX5_findWay_p0 11 rfl) (by decide) ?_
    exact mf_sub [1, 2, 3, 4, 5, 6, 0] rfl (hyp hG)
set_option maxRecDepth 100000 in
set_option maxHeartbeats 4000000 in
theorem vX5_findWay_46 {C : mf_G} {l : Launch} {d : Nat} {K : mf_Kt} {x1 x2 x4 x5 x6 : Int} {g h : mf_M} (hd : 5 ≤ d) (hyp : ((40 < x6 → K (-1) g h) ∧ (¬ 40 < x6 → mf_is 319 x2 6 ∧ ((999 < mf_w32 ((h x2 7) + x6) → K (-1) g h) ∧ (¬ 999 < mf_w32 ((h x2 7) + x6) → 0 ≤ x4 ∧ x4 < 6 ∧ ((¬ mf_and (mf_shr (h 62 x4) x5) 1 = 1 → xM C l 4 YX0_openingOf [(2, 46), (2, x1), (0, mf_w32 ((h x2 7) + x6))] g h (fun r4 g5 h6 => xM C l 2 YX5_spread [(2, 51), (2, x1), (2, x2), (0, r4)] g5 h6 (fun r7 g8 h9 => (∀ v10 : Int, v10 = mf_w32 (x6 + 1) → BX5_findWay_46 C l d K x1 x2 x4 x5 v10 g8 h9)))) ∧ (mf_and (mf_shr (h 62 x4) x5) 1 = 1 → K x6 g h))))))) : BX5_findWay_46 C l d K x1 x2 x4 x5 x6 g h := by
  intro hG
  refine mf_iload (mf_dat eX5_findWay_p0 27 rfl) rfl ?_
  refine mf_bipush (v := 40) (mf_dat eX5_findWay_p0 28 rfl) (by decide) ?_
  refine mf_icmp_gt (tgt := 112) (mf_dat eX5_findWay_p0 29 rfl) (by decide) (fun hc => ?_) (fun hc => ?_)
  · replace hyp := hyp.1 hc
    refine mf_iconst (v := (-1)) (mf_dat eX5_findWay_p1 2 rfl) (by decide) ?_
    exact mf_ireturn (mf_dat eX5_findWay_p1 3 rfl) rfl (Or.inl rfl) ⟨hG, hyp⟩
  · replace hyp := hyp.2 hc
    refine mf_aload_n (mf_dat eX5_findWay_p0 30 rfl) rfl rfl ?_
    obtain ⟨ck1, hyp⟩ := hyp
    refine mf_getf (r := (RX6, TX6, 8)) (ci := 6) (k := 7) (t := 0) (v := h x2 7) (mf_dat eX5_findWay_p0 31 rfl) fl_X5_83 rfl (by decide) rfl rfl ck1 ?_
    refine mf_iload (mf_dat eX5_findWay_p0 32 rfl) rfl ?_
    refine mf_iadd (mf_dat eX5_findWay_p0 33 rfl) ?_
    refine mf_sipush (v := 999) (mf_dat eX5_findWay_p0 34 rfl) (by decide) ?_
    refine mf_icmp_gt (tgt := 112) (mf_dat eX5_findWay_p0 35 rfl) (by decide) (fun hc => ?_) (fun hc => ?_)
    · replace hyp := hyp.1 hc
      refine mf_iconst (v := (-1)) (mf_dat eX5_findWay_p1 2 rfl) (by decide) ?_
      exact mf_ireturn (mf_dat eX5_findWay_p1 3 rfl) rfl (Or.inl rfl) ⟨hG, hyp⟩
    · replace hyp := hyp.2 hc
      refine mf_aload_n (mf_dat eX5_findWay_p0 36 rfl) rfl rfl ?_
      refine mf_getf (r := (RX5, TX5, 12)) (ci := 5) (k := 5) (t := 2) (v := 62) (mf_dat eX5_findWay_p0 37 rfl) fl_X5_29 rfl (by decide) rfl (gx_51_5 hG) is51 ?_
      refine mf_iload (mf_dat eX5_findWay_p0 38 rfl) rfl ?_
      obtain ⟨ck2, hyp⟩ := hyp
      obtain ⟨ck3, hyp⟩ := hyp
      refine mf_iald (mf_dat eX5_findWay_p0 39 rfl) is62 len62 ck2 ck3 ?_
      refine mf_iload (mf_dat eX5_findWay_p0 40 rfl) rfl ?_
      refine mf_ishr (mf_dat eX5_findWay_p0 41 rfl) ?_
      refine mf_iconst (v := 1) (mf_dat eX5_findWay_p0 42 rfl) (by decide) ?_
      refine mf_iand (mf_dat eX5_findWay_p0 43 rfl) ?_
      refine mf_iconst (v := 1) (mf_dat eX5_findWay_p0 44 rfl) (by decide) ?_
      refine mf_icmp_ne (tgt := 85) (mf_dat eX5_findWay_p0 45 rfl) (by decide) (fun hc => ?_) (fun hc => ?_)
      · replace hyp := hyp.1 hc
        refine mf_aload_n (mf_dat eX5_findWay_p0 48 rfl) rfl rfl ?_
        refine mf_aload_n (mf_dat eX5_findWay_p0 49 rfl) rfl rfl ?_
        refine mf_aload_n (mf_dat eX5_findWay_p0 50 rfl) rfl rfl ?_
        refine mf_aload_n (mf_dat eX5_findWay_p0 51 rfl) rfl rfl ?_
        refine mf_getf (r := (RX5, TX5, 12)) (ci := 5) (k := 0) (t := 2) (v := 46) (mf_dat eX5_findWay_p0 52 rfl) fl_X5_44 rfl (by decide) rfl (gx_51_0 hG) is51 ?_
        refine mf_aload_n (mf_dat eX5_findWay_p0 53 rfl) rfl rfl ?_
        refine mf_aload_n (mf_dat eX5_findWay_p0 54 rfl) rfl rfl ?_
        refine mf_getf (r := (RX6, TX6, 8)) (ci := 6) (k := 7) (t := 0) (v := h x2 7) (mf_dat eX5_findWay_p0 55 rfl) fl_X5_83 rfl (by decide) rfl rfl ck1 ?_
        refine mf_iload (mf_dat eX5_findWay_p0 56 rfl) rfl ?_
        refine mf_iadd (mf_dat eX5_findWay_p0 57 rfl) ?_
        refine mf_callV (Yc := YX0_openingOf) (r := (RX0, TX0, 1)) (ci := 0) (mf_dat eX5_findWay_p0 58 rfl) ml_X5_86 okX0_openingOf im_X0_openingOf sl_X0_openingOf rfl rfl rfl rfl (Nat.le_of_ble_eq_true rfl) (mf_rr (Nat.le_trans (by decide) hd) (Nat.le_refl _)) (Nat.le_refl _) is46 (hyp hG) (fun r4 g5 h6 hyp => ?_)
        obtain ⟨hG, hyp⟩ := hyp
        refine mf_callV (Yc := YX5_spread) (r := (RX5, TX5, 12)) (ci := 5) (mf_dat eX5_findWay_p0 59 rfl) ml_X5_96 okX5_spread im_X5_spread sl_X5_spread rfl rfl rfl rfl (Nat.le_of_ble_eq_true rfl) (mf_rr (Nat.le_trans (by decide) hd) (Nat.le_refl _)) (Nat.le_refl _) is51 (hyp hG) (fun r7 g8 h9 hyp => ?_)
        obtain ⟨hG, hyp⟩ := hyp
        refine mf_iinc (mf_dat eX5_findWay_p1 0 rfl) rfl (by decide) (by decide) ?_
        generalize qv10 : mf_w32 (x6 + 1) = v10
        replace hyp := hyp _ qv10.symm
        refine mf_goto (tgt := 46) (mf_dat eX5_findWay_p1 1 rfl) (by decide) ?_
        exact mf_sub [1, 2, 3, 4, 5, 0] rfl (hyp hG)
      · replace hyp := hyp.2 hc
        refine mf_iload (mf_dat eX5_findWay_p0 46 rfl) rfl ?_
        exact mf_ireturn (mf_dat eX5_findWay_p0 47 rfl) rfl (Or.inl rfl) ⟨hG, hyp⟩
set_option maxRecDepth 100000 in
set_option maxHeartbeats 4000000 in
theorem wX5_findWay {C : mf_G} {l : Launch} {d : Nat} {K : mf_Kt} {x1 x2 x3 x4 x5 : Int} {g h : mf_M} (hyp : BX5_findWay_3 C l d K x1 x2 x3 x4 x5 0 g h) : xM C l d YX5_findWay [(2, 51), (2, x1), (2, x2), (0, x3), (0, x4), (0, x5)] g h K := by
  intro hG
  refine mf_entry (by decide) (Nat.le_of_ble_eq_true rfl) ?_
  refine mf_iconst (v := 0) (mf_dat eX5_findWay_p0 0 rfl) (by decide) ?_
  refine mf_istore (mf_dat eX5_findWay_p0 1 rfl) (by decide) ?_
  exact mf_sub [1, 2, 3, 4, 5, 6, 0] rfl (hyp hG)
abbrev BX5_spread_3 (C : mf_G) (l : Launch) (d : Nat) (K : mf_Kt) (x1 x2 x3 x4 : Int) (g h : mf_M) : Prop := jX C l d YX5_spread K 3 [(0, (2, 51)), (1, (2, x1)), (2, (2, x2)), (3, (0, x3)), (4, (0, x4))] [] g h
abbrev BX5_spread_73 (C : mf_G) (l : Launch) (d : Nat) (K : mf_Kt) (x1 x2 x3 x4 : Int) (g h : mf_M) : Prop := jX C l d YX5_spread K 73 [(0, (2, 51)), (1, (2, x1)), (2, (2, x2)), (3, (0, x3)), (4, (0, x4))] [] g h
abbrev BX5_spread_117 (C : mf_G) (l : Launch) (d : Nat) (K : mf_Kt) (x1 x2 x4 : Int) (g h : mf_M) : Prop := jX C l d YX5_spread K 117 [(0, (2, 51)), (1, (2, x1)), (2, (2, x2)), (4, (0, x4))] [] g h
abbrev BX5_spread_214 (C : mf_G) (l : Launch) (d : Nat) (K : mf_Kt) (x1 x2 x4 x5 : Int) (g h : mf_M) : Prop := jX C l d YX5_spread K 214 [(0, (2, 51)), (1, (2, x1)), (2, (2, x2)), (4, (0, x4)), (5, (0, x5))] [] g h
set_option maxRecDepth 100000 in
set_option maxHeartbeats 4000000 in
theorem vX5_spread_3 {C : mf_G} {l : Launch} {d : Nat} {K : mf_Kt} {x1 x2 x3 x4 : Int} {g h : mf_M} (hd : 2 ≤ d) (hyp : mf_is 319 x1 1 ∧ ((h x1 8 ≤ x4 → BX5_spread_117 C l d K x1 x2 0 g h) ∧ (¬ h x1 8 ≤ x4 → 0 ≤ x4 ∧ x4 < 6 ∧ (∀ v4 : Int, v4 = h 62 x4 → (∀ h5 : mf_M, h5 = mf_up h 63 x4 (mf_or (mf_or v4 (mf_shl v4 1)) (mf_shr v4 1)) → xM C l 1 YX0_liesOnNext [(2, x1), (0, x3), (0, x4)] g h5 (fun r6 g7 h8 => ((r6 = 0 → BX5_spread_73 C l d K x1 x2 x3 x4 g7 h8) ∧ (¬ r6 = 0 → 0 ≤ mf_w32 (x4 + 1) ∧ mf_w32 (x4 + 1) < 6 ∧ xM C l 1 YX5_mirrorBits [(2, x1), (0, h8 62 (mf_w32 (x4 + 1)))] g7 h8 (fun r11 g12 h13 => (∀ h14 : mf_M, h14 = mf_up h13 63 x4 (mf_or (h8 63 x4) r11) → BX5_spread_73 C l d K x1 x2 x3 x4 g12 h14)))))))))) : BX5_spread_3 C l d K x1 x2 x3 x4 g h := by
  intro hG
  refine mf_iload (mf_dat eX5_spread_p0 2 rfl) rfl ?_
  refine mf_aload_n (mf_dat eX5_spread_p0 3 rfl) rfl rfl ?_
  obtain ⟨ck1, hyp⟩ := hyp
  refine mf_getf (r := (RX1, TX1, 14)) (ci := 1) (k := 8) (t := 0) (v := h x1 8) (mf_dat eX5_spread_p0 4 rfl) fl_X5_54 rfl (by decide) rfl rfl ck1 ?_
  refine mf_icmp_ge (tgt := 114) (mf_dat eX5_spread_p0 5 rfl) (by decide) (fun hc => ?_) (fun hc => ?_)
  · replace hyp := hyp.1 hc
    refine mf_iconst (v := 0) (mf_dat eX5_spread_p1 8 rfl) (by decide) ?_
    refine mf_istore (mf_dat eX5_spread_p1 9 rfl) (by decide) ?_
    exact mf_sub [1, 2, 3, 0] rfl (hyp hG)
  · replace hyp := hyp.2 hc
    refine mf_aload_n (mf_dat eX5_spread_p0 6 rfl) rfl rfl ?_
    refine mf_getf (r := (RX5, TX5, 12)) (ci := 5) (k := 5) (t := 2) (v := 62) (mf_dat eX5_spread_p0 7 rfl) fl_X5_29 rfl (by decide) rfl (gx_51_5 hG) is51 ?_
    refine mf_iload (mf_dat eX5_spread_p0 8 rfl) rfl ?_
    obtain ⟨ck2, hyp⟩ := hyp
    obtain ⟨ck3, hyp⟩ := hyp
    refine mf_iald (mf_dat eX5_spread_p0 9 rfl) is62 len62 ck2 ck3 ?_
    generalize qv4 : h 62 x4 = v4
    replace hyp := hyp _ qv4.symm
    refine mf_istore (mf_dat eX5_spread_p0 10 rfl) (by decide) ?_
    refine mf_aload_n (mf_dat eX5_spread_p0 11 rfl) rfl rfl ?_
    refine mf_getf (r := (RX5, TX5, 12)) (ci := 5) (k := 6) (t := 2) (v := 63) (mf_dat eX5_spread_p0 12 rfl) fl_X5_32 rfl (by decide) rfl (gx_51_6 hG) is51 ?_
    refine mf_iload (mf_dat eX5_spread_p0 13 rfl) rfl ?_
    refine mf_iload (mf_dat eX5_spread_p0 14 rfl) rfl ?_
    refine mf_iload (mf_dat eX5_spread_p0 15 rfl) rfl ?_
    refine mf_iconst (v := 1) (mf_dat eX5_spread_p0 16 rfl) (by decide) ?_
    refine mf_ishl (mf_dat eX5_spread_p0 17 rfl) ?_
    refine mf_ior (mf_dat eX5_spread_p0 18 rfl) ?_
    refine mf_iload (mf_dat eX5_spread_p0 19 rfl) rfl ?_
    refine mf_iconst (v := 1) (mf_dat eX5_spread_p0 20 rfl) (by decide) ?_
    refine mf_ishr (mf_dat eX5_spread_p0 21 rfl) ?_
    refine mf_ior (mf_dat eX5_spread_p0 22 rfl) ?_
    refine mf_iast (mf_dat eX5_spread_p0 23 rfl) is63 len63 ck2 ck3 ?_
    generalize qh5 : mf_up h 63 x4 (mf_or (mf_or v4 (mf_shl v4 1)) (mf_shr v4 1)) = h5
    replace hyp := hyp _ qh5.symm
    refine mf_aload_n (mf_dat eX5_spread_p0 24 rfl) rfl rfl ?_
    refine mf_iload_n (mf_dat eX5_spread_p0 25 rfl) rfl rfl ?_
    refine mf_iload (mf_dat eX5_spread_p0 26 rfl) rfl ?_
    refine mf_callS (Yc := YX0_liesOnNext) (mf_dat eX5_spread_p0 27 rfl) ml_X5_100 okX0_liesOnNext sm_X0_liesOnNext rfl rfl (Nat.le_of_ble_eq_true rfl) (mf_rr (Nat.le_trans (by decide) hd) (Nat.le_refl _)) (Nat.le_refl _) (hyp hG) (fun r6 g7 h8 hyp => ?_)
    obtain ⟨hG, hyp⟩ := hyp
    refine mf_if_eq (tgt := 73) (mf_dat eX5_spread_p0 28 rfl) (by decide) (fun hc => ?_) (fun hc => ?_)
    · replace hyp := hyp.1 hc
      exact mf_sub [1, 2, 3, 4, 5] rfl (hyp hG)
    · replace hyp := hyp.2 hc
      refine mf_aload_n (mf_dat eX5_spread_p0 29 rfl) rfl rfl ?_
      refine mf_getf (r := (RX5, TX5, 12)) (ci := 5) (k := 6) (t := 2) (v := 63) (mf_dat eX5_spread_p0 30 rfl) fl_X5_32 rfl (by decide) rfl (gx_51_6 hG) is51 ?_
      refine mf_iload (mf_dat eX5_spread_p0 31 rfl) rfl ?_
      refine mf_dup2 (mf_dat eX5_spread_p0 32 rfl) (by decide) (by decide) ?_
      refine mf_iald (mf_dat eX5_spread_p0 33 rfl) is63 len63 ck2 ck3 ?_
      refine mf_aload_n (mf_dat eX5_spread_p0 34 rfl) rfl rfl ?_
      refine mf_aload_n (mf_dat eX5_spread_p0 35 rfl) rfl rfl ?_
      refine mf_getf (r := (RX5, TX5, 12)) (ci := 5) (k := 5) (t := 2) (v := 62) (mf_dat eX5_spread_p0 36 rfl) fl_X5_29 rfl (by decide) rfl (gx_51_5 hG) is51 ?_
      refine mf_iload (mf_dat eX5_spread_p0 37 rfl) rfl ?_
      refine mf_iconst (v := 1) (mf_dat eX5_spread_p0 38 rfl) (by decide) ?_
      refine mf_iadd (mf_dat eX5_spread_p0 39 rfl) ?_
      obtain ⟨ck9, hyp⟩ := hyp
      obtain ⟨ck10, hyp⟩ := hyp
      refine mf_iald (mf_dat eX5_spread_p0 40 rfl) is62 len62 ck9 ck10 ?_
      refine mf_callS (Yc := YX5_mirrorBits) (mf_dat eX5_spread_p0 41 rfl) ml_X5_104 okX5_mirrorBits sm_X5_mirrorBits rfl rfl (Nat.le_of_ble_eq_true rfl) (mf_rr (Nat.le_trans (by decide) hd) (Nat.le_refl _)) (Nat.le_refl _) (hyp hG) (fun r11 g12 h13 hyp => ?_)
      obtain ⟨hG, hyp⟩ := hyp
      refine mf_ior (mf_dat eX5_spread_p0 42 rfl) ?_
      refine mf_iast (mf_dat eX5_spread_p0 43 rfl) is63 len63 ck2 ck3 ?_
      generalize qh14 : mf_up h13 63 x4 (mf_or (h8 63 x4) r11) = h14
      replace hyp := hyp _ qh14.symm
      exact mf_sub [1, 2, 3, 4, 5] rfl (hyp hG)
set_option maxRecDepth 100000 in
set_option maxHeartbeats 4000000 in
theorem vX5_spread_73 {C : mf_G} {l : Launch} {d : Nat} {K : mf_Kt} {x1 x2 x3 x4 : Int} {g h : mf_M} (hd : 2 ≤ d) (hyp : xM C l 1 YX0_liesOnNext [(2, x1), (0, x3), (0, mf_w32 (x4 - 1))] g h (fun r1 g2 h3 => ((r1 = 0 → (∀ v4 : Int, v4 = mf_w32 (x4 + 1) → BX5_spread_3 C l d K x1 x2 x3 v4 g2 h3)) ∧ (¬ r1 = 0 → 0 ≤ x4 ∧ x4 < 6 ∧ 0 ≤ mf_w32 (x4 - 1) ∧ mf_w32 (x4 - 1) < 6 ∧ xM C l 1 YX5_mirrorBits [(2, x1), (0, h3 62 (mf_w32 (x4 - 1)))] g2 h3 (fun r9 g10 h11 => (∀ h12 : mf_M, h12 = mf_up h11 63 x4 (mf_or (h3 63 x4) r9) → (∀ v13 : Int, v13 = mf_w32 (x4 + 1) → BX5_spread_3 C l d K x1 x2 x3 v13 g10 h12))))))) : BX5_spread_73 C l d K x1 x2 x3 x4 g h := by
  intro hG
  refine mf_aload_n (mf_dat eX5_spread_p0 44 rfl) rfl rfl ?_
  refine mf_iload_n (mf_dat eX5_spread_p0 45 rfl) rfl rfl ?_
  refine mf_iload (mf_dat eX5_spread_p0 46 rfl) rfl ?_
  refine mf_iconst (v := 1) (mf_dat eX5_spread_p0 47 rfl) (by decide) ?_
  refine mf_isub (mf_dat eX5_spread_p0 48 rfl) ?_
  refine mf_callS (Yc := YX0_liesOnNext) (mf_dat eX5_spread_p0 49 rfl) ml_X5_100 okX0_liesOnNext sm_X0_liesOnNext rfl rfl (Nat.le_of_ble_eq_true rfl) (mf_rr (Nat.le_trans (by decide) hd) (Nat.le_refl _)) (Nat.le_refl _) (hyp hG) (fun r1 g2 h3 hyp => ?_)
  obtain ⟨hG, hyp⟩ := hyp
  refine mf_if_eq (tgt := 108) (mf_dat eX5_spread_p0 50 rfl) (by decide) (fun hc => ?_) (fun hc => ?_)
  · replace hyp := hyp.1 hc
    refine mf_iinc (mf_dat eX5_spread_p1 6 rfl) rfl (by decide) (by decide) ?_
    generalize qv4 : mf_w32 (x4 + 1) = v4
    replace hyp := hyp _ qv4.symm
    refine mf_goto (tgt := 3) (mf_dat eX5_spread_p1 7 rfl) (by decide) ?_
    exact mf_sub [1, 2, 3, 4, 0] rfl (hyp hG)
  · replace hyp := hyp.2 hc
    refine mf_aload_n (mf_dat eX5_spread_p0 51 rfl) rfl rfl ?_
    refine mf_getf (r := (RX5, TX5, 12)) (ci := 5) (k := 6) (t := 2) (v := 63) (mf_dat eX5_spread_p0 52 rfl) fl_X5_32 rfl (by decide) rfl (gx_51_6 hG) is51 ?_
    refine mf_iload (mf_dat eX5_spread_p0 53 rfl) rfl ?_
    refine mf_dup2 (mf_dat eX5_spread_p0 54 rfl) (by decide) (by decide) ?_
    obtain ⟨ck5, hyp⟩ := hyp
    obtain ⟨ck6, hyp⟩ := hyp
    refine mf_iald (mf_dat eX5_spread_p0 55 rfl) is63 len63 ck5 ck6 ?_
    refine mf_aload_n (mf_dat eX5_spread_p0 56 rfl) rfl rfl ?_
    refine mf_aload_n (mf_dat eX5_spread_p0 57 rfl) rfl rfl ?_
    refine mf_getf (r := (RX5, TX5, 12)) (ci := 5) (k := 5) (t := 2) (v := 62) (mf_dat eX5_spread_p0 58 rfl) fl_X5_29 rfl (by decide) rfl (gx_51_5 hG) is51 ?_
    refine mf_iload (mf_dat eX5_spread_p0 59 rfl) rfl ?_
    refine mf_iconst (v := 1) (mf_dat eX5_spread_p1 0 rfl) (by decide) ?_
    refine mf_isub (mf_dat eX5_spread_p1 1 rfl) ?_
    obtain ⟨ck7, hyp⟩ := hyp
    obtain ⟨ck8, hyp⟩ := hyp
    refine mf_iald (mf_dat eX5_spread_p1 2 rfl) is62 len62 ck7 ck8 ?_
    refine mf_callS (Yc := YX5_mirrorBits) (mf_dat eX5_spread_p1 3 rfl) ml_X5_104 okX5_mirrorBits sm_X5_mirrorBits rfl rfl (Nat.le_of_ble_eq_true rfl) (mf_rr (Nat.le_trans (by decide) hd) (Nat.le_refl _)) (Nat.le_refl _) (hyp hG) (fun r9 g10 h11 hyp => ?_)
    obtain ⟨hG, hyp⟩ := hyp
    refine mf_ior (mf_dat eX5_spread_p1 4 rfl) ?_
    refine mf_iast (mf_dat eX5_spread_p1 5 rfl) is63 len63 ck5 ck6 ?_
    generalize qh12 : mf_up h11 63 x4 (mf_or (h3 63 x4) r9) = h12
    replace hyp := hyp _ qh12.symm
    refine mf_iinc (mf_dat eX5_spread_p1 6 rfl) rfl (by decide) (by decide) ?_
    generalize qv13 : mf_w32 (x4 + 1) = v13
    replace hyp := hyp _ qv13.symm
    refine mf_goto (tgt := 3) (mf_dat eX5_spread_p1 7 rfl) (by decide) ?_
    exact mf_sub [1, 2, 3, 4, 0] rfl (hyp hG)
set_option maxRecDepth 100000 in
set_option maxHeartbeats 4000000 in
theorem vX5_spread_117 {C : mf_G} {l : Launch} {d : Nat} {K : mf_Kt} {x1 x2 x4 : Int} {g h : mf_M} (hyp : mf_is 319 x1 1 ∧ ((h x1 11 ≤ x4 → (∀ v2 : Int, v2 = mf_w32 ((mf_shl 1 (h x1 9)) - 1) → BX5_spread_214 C l d K x1 x2 v2 0 g h)) ∧ (¬ h x1 11 ≤ x4 → 0 ≤ x4 ∧ x4 < 12 ∧ (∀ v5 : Int, v5 = h (x1 + 1) x4 → (∀ v6 : Int, v6 = h (x1 + 2) x4 → (∀ v7 : Int, v7 = mf_shl 1 (h (x1 + 3) x4) → 0 ≤ v6 ∧ v6 < 6 ∧ 0 ≤ v5 ∧ v5 < 6 ∧ (∀ h12 : mf_M, h12 = mf_up h 63 v6 (mf_or (h 63 v6) (mf_and (h 62 v5) v7)) → (∀ h13 : mf_M, h13 = mf_up h12 63 v5 (mf_or (h12 63 v5) (mf_and (h12 62 v6) v7)) → (∀ v14 : Int, v14 = mf_w32 (x4 + 1) → BX5_spread_117 C l d K x1 x2 v14 g h13))))))))) : BX5_spread_117 C l d K x1 x2 x4 g h := by
  intro hG
  refine mf_iload (mf_dat eX5_spread_p1 10 rfl) rfl ?_
  refine mf_aload_n (mf_dat eX5_spread_p1 11 rfl) rfl rfl ?_
  obtain ⟨ck1, hyp⟩ := hyp
  refine mf_getf (r := (RX1, TX1, 14)) (ci := 1) (k := 11) (t := 0) (v := h x1 11) (mf_dat eX5_spread_p1 12 rfl) fl_X5_107 rfl (by decide) rfl rfl ck1 ?_
  refine mf_icmp_ge (tgt := 201) (mf_dat eX5_spread_p1 13 rfl) (by decide) (fun hc => ?_) (fun hc => ?_)
  · replace hyp := hyp.1 hc
    refine mf_iconst (v := 1) (mf_dat eX5_spread_p1 59 rfl) (by decide) ?_
    refine mf_aload_n (mf_dat eX5_spread_p2 0 rfl) rfl rfl ?_
    refine mf_getf (r := (RX1, TX1, 14)) (ci := 1) (k := 9) (t := 0) (v := h x1 9) (mf_dat eX5_spread_p2 1 rfl) fl_X5_119 rfl (by decide) rfl rfl ck1 ?_
    refine mf_ishl (mf_dat eX5_spread_p2 2 rfl) ?_
    refine mf_iconst (v := 1) (mf_dat eX5_spread_p2 3 rfl) (by decide) ?_
    refine mf_isub (mf_dat eX5_spread_p2 4 rfl) ?_
    generalize qv2 : mf_w32 ((mf_shl 1 (h x1 9)) - 1) = v2
    replace hyp := hyp _ qv2.symm
    refine mf_istore (mf_dat eX5_spread_p2 5 rfl) (by decide) ?_
    refine mf_iconst (v := 0) (mf_dat eX5_spread_p2 6 rfl) (by decide) ?_
    refine mf_istore (mf_dat eX5_spread_p2 7 rfl) (by decide) ?_
    exact mf_sub [2, 3, 4, 1, 0] rfl (hyp hG)
  · replace hyp := hyp.2 hc
    refine mf_aload_n (mf_dat eX5_spread_p1 14 rfl) rfl rfl ?_
    refine mf_getf (r := (RX1, TX1, 14)) (ci := 1) (k := 0) (t := 2) (v := x1 + 1) (mf_dat eX5_spread_p1 15 rfl) fl_X5_110 rfl (by decide) rfl (gf_0 hG ck1) ck1 ?_
    refine mf_iload (mf_dat eX5_spread_p1 16 rfl) rfl ?_
    obtain ⟨ck3, hyp⟩ := hyp
    obtain ⟨ck4, hyp⟩ := hyp
    refine mf_iald (mf_dat eX5_spread_p1 17 rfl) (fo_is0 ck1) (fo_len0 ck1) ck3 ck4 ?_
    generalize qv5 : h (x1 + 1) x4 = v5
    replace hyp := hyp _ qv5.symm
    refine mf_istore (mf_dat eX5_spread_p1 18 rfl) (by decide) ?_
    refine mf_aload_n (mf_dat eX5_spread_p1 19 rfl) rfl rfl ?_
    refine mf_getf (r := (RX1, TX1, 14)) (ci := 1) (k := 1) (t := 2) (v := x1 + 2) (mf_dat eX5_spread_p1 20 rfl) fl_X5_113 rfl (by decide) rfl (gf_1 hG ck1) ck1 ?_
    refine mf_iload (mf_dat eX5_spread_p1 21 rfl) rfl ?_
    refine mf_iald (mf_dat eX5_spread_p1 22 rfl) (fo_is1 ck1) (fo_len1 ck1) ck3 ck4 ?_
    generalize qv6 : h (x1 + 2) x4 = v6
    replace hyp := hyp _ qv6.symm
    refine mf_istore (mf_dat eX5_spread_p1 23 rfl) (by decide) ?_
    refine mf_iconst (v := 1) (mf_dat eX5_spread_p1 24 rfl) (by decide) ?_
    refine mf_aload_n (mf_dat eX5_spread_p1 25 rfl) rfl rfl ?_
    refine mf_getf (r := (RX1, TX1, 14)) (ci := 1) (k := 2) (t := 2) (v := x1 + 3) (mf_dat eX5_spread_p1 26 rfl) fl_X5_116 rfl (by decide) rfl (gf_2 hG ck1) ck1 ?_
    refine mf_iload (mf_dat eX5_spread_p1 27 rfl) rfl ?_
    refine mf_iald (mf_dat eX5_spread_p1 28 rfl) (fo_is2 ck1) (fo_len2 ck1) ck3 ck4 ?_
    refine mf_ishl (mf_dat eX5_spread_p1 29 rfl) ?_
    generalize qv7 : mf_shl 1 (h (x1 + 3) x4) = v7
    replace hyp := hyp _ qv7.symm
    refine mf_istore (mf_dat eX5_spread_p1 30 rfl) (by decide) ?_
    refine mf_aload_n (mf_dat eX5_spread_p1 31 rfl) rfl rfl ?_
    refine mf_getf (r := (RX5, TX5, 12)) (ci := 5) (k := 6) (t := 2) (v := 63) (mf_dat eX5_spread_p1 32 rfl) fl_X5_32 rfl (by decide) rfl (gx_51_6 hG) is51 ?_
    refine mf_iload (mf_dat eX5_spread_p1 33 rfl) rfl ?_
    refine mf_dup2 (mf_dat eX5_spread_p1 34 rfl) (by decide) (by decide) ?_
    obtain ⟨ck8, hyp⟩ := hyp
    obtain ⟨ck9, hyp⟩ := hyp
    refine mf_iald (mf_dat eX5_spread_p1 35 rfl) is63 len63 ck8 ck9 ?_
    refine mf_aload_n (mf_dat eX5_spread_p1 36 rfl) rfl rfl ?_
    refine mf_getf (r := (RX5, TX5, 12)) (ci := 5) (k := 5) (t := 2) (v := 62) (mf_dat eX5_spread_p1 37 rfl) fl_X5_29 rfl (by decide) rfl (gx_51_5 hG) is51 ?_
    refine mf_iload (mf_dat eX5_spread_p1 38 rfl) rfl ?_
    obtain ⟨ck10, hyp⟩ := hyp
    obtain ⟨ck11, hyp⟩ := hyp
    refine mf_iald (mf_dat eX5_spread_p1 39 rfl) is62 len62 ck10 ck11 ?_
    refine mf_iload (mf_dat eX5_spread_p1 40 rfl) rfl ?_
    refine mf_iand (mf_dat eX5_spread_p1 41 rfl) ?_
    refine mf_ior (mf_dat eX5_spread_p1 42 rfl) ?_
    refine mf_iast (mf_dat eX5_spread_p1 43 rfl) is63 len63 ck8 ck9 ?_
    generalize qh12 : mf_up h 63 v6 (mf_or (h 63 v6) (mf_and (h 62 v5) v7)) = h12
    replace hyp := hyp _ qh12.symm
    refine mf_aload_n (mf_dat eX5_spread_p1 44 rfl) rfl rfl ?_
    refine mf_getf (r := (RX5, TX5, 12)) (ci := 5) (k := 6) (t := 2) (v := 63) (mf_dat eX5_spread_p1 45 rfl) fl_X5_32 rfl (by decide) rfl (gx_51_6 hG) is51 ?_
    refine mf_iload (mf_dat eX5_spread_p1 46 rfl) rfl ?_
    refine mf_dup2 (mf_dat eX5_spread_p1 47 rfl) (by decide) (by decide) ?_
    refine mf_iald (mf_dat eX5_spread_p1 48 rfl) is63 len63 ck10 ck11 ?_
    refine mf_aload_n (mf_dat eX5_spread_p1 49 rfl) rfl rfl ?_
    refine mf_getf (r := (RX5, TX5, 12)) (ci := 5) (k := 5) (t := 2) (v := 62) (mf_dat eX5_spread_p1 50 rfl) fl_X5_29 rfl (by decide) rfl (gx_51_5 hG) is51 ?_
    refine mf_iload (mf_dat eX5_spread_p1 51 rfl) rfl ?_
    refine mf_iald (mf_dat eX5_spread_p1 52 rfl) is62 len62 ck8 ck9 ?_
    refine mf_iload (mf_dat eX5_spread_p1 53 rfl) rfl ?_
    refine mf_iand (mf_dat eX5_spread_p1 54 rfl) ?_
    refine mf_ior (mf_dat eX5_spread_p1 55 rfl) ?_
    refine mf_iast (mf_dat eX5_spread_p1 56 rfl) is63 len63 ck10 ck11 ?_
    generalize qh13 : mf_up h12 63 v5 (mf_or (h12 63 v5) (mf_and (h12 62 v6) v7)) = h13
    replace hyp := hyp _ qh13.symm
    refine mf_iinc (mf_dat eX5_spread_p1 57 rfl) rfl (by decide) (by decide) ?_
    generalize qv14 : mf_w32 (x4 + 1) = v14
    replace hyp := hyp _ qv14.symm
    refine mf_goto (tgt := 117) (mf_dat eX5_spread_p1 58 rfl) (by decide) ?_
    exact mf_sub [4, 5, 6, 0] rfl (hyp hG)
set_option maxRecDepth 100000 in
set_option maxHeartbeats 4000000 in
theorem vX5_spread_214 {C : mf_G} {l : Launch} {d : Nat} {K : mf_Kt} {x1 x2 x4 x5 : Int} {g h : mf_M} (hyp : mf_is 319 x1 1 ∧ ((h x1 8 ≤ x5 → K 0 g h) ∧ (¬ h x1 8 ≤ x5 → 0 ≤ x5 ∧ x5 < 6 ∧ mf_is 319 x2 6 ∧ (∀ h5 : mf_M, h5 = mf_up h 62 x5 (mf_and (mf_and (h 63 x5) x4) (mf_xor (h (x2 + 1) x5) (-1))) → (∀ v6 : Int, v6 = mf_w32 (x5 + 1) → BX5_spread_214 C l d K x1 x2 x4 v6 g h5))))) : BX5_spread_214 C l d K x1 x2 x4 x5 g h := by
  intro hG
  refine mf_iload (mf_dat eX5_spread_p2 8 rfl) rfl ?_
  refine mf_aload_n (mf_dat eX5_spread_p2 9 rfl) rfl rfl ?_
  obtain ⟨ck1, hyp⟩ := hyp
  refine mf_getf (r := (RX1, TX1, 14)) (ci := 1) (k := 8) (t := 0) (v := h x1 8) (mf_dat eX5_spread_p2 10 rfl) fl_X5_54 rfl (by decide) rfl rfl ck1 ?_
  refine mf_icmp_ge (tgt := 256) (mf_dat eX5_spread_p2 11 rfl) (by decide) (fun hc => ?_) (fun hc => ?_)
  · replace hyp := hyp.1 hc
    exact mf_return (mf_dat eX5_spread_p2 31 rfl) rfl ⟨hG, hyp⟩
  · replace hyp := hyp.2 hc
    refine mf_aload_n (mf_dat eX5_spread_p2 12 rfl) rfl rfl ?_
    refine mf_getf (r := (RX5, TX5, 12)) (ci := 5) (k := 5) (t := 2) (v := 62) (mf_dat eX5_spread_p2 13 rfl) fl_X5_29 rfl (by decide) rfl (gx_51_5 hG) is51 ?_
    refine mf_iload (mf_dat eX5_spread_p2 14 rfl) rfl ?_
    refine mf_aload_n (mf_dat eX5_spread_p2 15 rfl) rfl rfl ?_
    refine mf_getf (r := (RX5, TX5, 12)) (ci := 5) (k := 6) (t := 2) (v := 63) (mf_dat eX5_spread_p2 16 rfl) fl_X5_32 rfl (by decide) rfl (gx_51_6 hG) is51 ?_
    refine mf_iload (mf_dat eX5_spread_p2 17 rfl) rfl ?_
    obtain ⟨ck2, hyp⟩ := hyp
    obtain ⟨ck3, hyp⟩ := hyp
    refine mf_iald (mf_dat eX5_spread_p2 18 rfl) is63 len63 ck2 ck3 ?_
    refine mf_iload (mf_dat eX5_spread_p2 19 rfl) rfl ?_
    refine mf_iand (mf_dat eX5_spread_p2 20 rfl) ?_
    refine mf_aload_n (mf_dat eX5_spread_p2 21 rfl) rfl rfl ?_
    obtain ⟨ck4, hyp⟩ := hyp
    refine mf_getf (r := (RX6, TX6, 8)) (ci := 6) (k := 0) (t := 2) (v := x2 + 1) (mf_dat eX5_spread_p2 22 rfl) fl_X5_122 rfl (by decide) rfl (gs_0 hG ck4) ck4 ?_
    refine mf_iload (mf_dat eX5_spread_p2 23 rfl) rfl ?_
    refine mf_iald (mf_dat eX5_spread_p2 24 rfl) (st_is0 ck4) (st_len0 ck4) ck2 ck3 ?_
    refine mf_iconst (v := (-1)) (mf_dat eX5_spread_p2 25 rfl) (by decide) ?_
    refine mf_ixor (mf_dat eX5_spread_p2 26 rfl) ?_
    refine mf_iand (mf_dat eX5_spread_p2 27 rfl) ?_
    refine mf_iast (mf_dat eX5_spread_p2 28 rfl) is62 len62 ck2 ck3 ?_
    generalize qh5 : mf_up h 62 x5 (mf_and (mf_and (h 63 x5) x4) (mf_xor (h (x2 + 1) x5) (-1))) = h5
    replace hyp := hyp _ qh5.symm
    refine mf_iinc (mf_dat eX5_spread_p2 29 rfl) rfl (by decide) (by decide) ?_
    generalize qv6 : mf_w32 (x5 + 1) = v6
    replace hyp := hyp _ qv6.symm
    refine mf_goto (tgt := 214) (mf_dat eX5_spread_p2 30 rfl) (by decide) ?_
    exact mf_sub [1, 2, 3, 4, 0] rfl (hyp hG)
set_option maxRecDepth 100000 in
set_option maxHeartbeats 4000000 in
theorem wX5_spread {C : mf_G} {l : Launch} {d : Nat} {K : mf_Kt} {x1 x2 x3 : Int} {g h : mf_M} (hyp : BX5_spread_3 C l d K x1 x2 x3 0 g h) : xM C l d YX5_spread [(2, 51), (2, x1), (2, x2), (0, x3)] g h K := by
  intro hG
  refine mf_entry (by decide) (Nat.le_of_ble_eq_true rfl) ?_
  refine mf_iconst (v := 0) (mf_dat eX5_spread_p0 0 rfl) (by decide) ?_
  refine mf_istore (mf_dat eX5_spread_p0 1 rfl) (by decide) ?_
  exact mf_sub [1, 2, 3, 4, 0] rfl (hyp hG)
abbrev BX5_mirrorBits_4 (C : mf_G) (l : Launch) (d : Nat) (K : mf_Kt) (x0 x1 x2 x3 : Int) (g h : mf_M) : Prop := jX C l d YX5_mirrorBits K 4 [(0, (2, x0)), (1, (0, x1)), (2, (0, x2)), (3, (0, x3))] [] g h
set_option maxRecDepth 100000 in
set_option maxHeartbeats 4000000 in
theorem vX5_mirrorBits_4 {C : mf_G} {l : Launch} {d : Nat} {K : mf_Kt} {x0 x1 x2 x3 : Int} {g h : mf_M} (hd : 1 ≤ d) (hyp : mf_is 319 x0 1 ∧ ((h x0 9 ≤ x3 → K x2 g h) ∧ (¬ h x0 9 ≤ x3 → xM C l 0 YX1_mirror [(2, x0), (0, x3)] g h (fun r2 g3 h4 => (∀ v5 : Int, v5 = mf_or x2 (mf_shl (mf_and (mf_shr x1 x3) 1) r2) → (∀ v6 : Int, v6 = mf_w32 (x3 + 1) → BX5_mirrorBits_4 C l d K x0 x1 v5 v6 g3 h4)))))) : BX5_mirrorBits_4 C l d K x0 x1 x2 x3 g h := by
  intro hG
  refine mf_iload_n (mf_dat eX5_mirrorBits 4 rfl) rfl rfl ?_
  refine mf_aload_n (mf_dat eX5_mirrorBits 5 rfl) rfl rfl ?_
  obtain ⟨ck1, hyp⟩ := hyp
  refine mf_getf (r := (RX1, TX1, 14)) (ci := 1) (k := 9) (t := 0) (v := h x0 9) (mf_dat eX5_mirrorBits 6 rfl) fl_X5_119 rfl (by decide) rfl rfl ck1 ?_
  refine mf_icmp_ge (tgt := 32) (mf_dat eX5_mirrorBits 7 rfl) (by decide) (fun hc => ?_) (fun hc => ?_)
  · replace hyp := hyp.1 hc
    refine mf_iload_n (mf_dat eX5_mirrorBits 22 rfl) rfl rfl ?_
    exact mf_ireturn (mf_dat eX5_mirrorBits 23 rfl) rfl (Or.inl rfl) ⟨hG, hyp⟩
  · replace hyp := hyp.2 hc
    refine mf_iload_n (mf_dat eX5_mirrorBits 8 rfl) rfl rfl ?_
    refine mf_iload_n (mf_dat eX5_mirrorBits 9 rfl) rfl rfl ?_
    refine mf_iload_n (mf_dat eX5_mirrorBits 10 rfl) rfl rfl ?_
    refine mf_ishr (mf_dat eX5_mirrorBits 11 rfl) ?_
    refine mf_iconst (v := 1) (mf_dat eX5_mirrorBits 12 rfl) (by decide) ?_
    refine mf_iand (mf_dat eX5_mirrorBits 13 rfl) ?_
    refine mf_aload_n (mf_dat eX5_mirrorBits 14 rfl) rfl rfl ?_
    refine mf_iload_n (mf_dat eX5_mirrorBits 15 rfl) rfl rfl ?_
    refine mf_callV (Yc := YX1_mirror) (r := (RX1, TX1, 14)) (ci := 1) (mf_dat eX5_mirrorBits 16 rfl) ml_X5_125 okX1_mirror im_X1_mirror sl_X1_mirror rfl rfl rfl rfl (Nat.le_of_ble_eq_true rfl) (mf_rr (Nat.le_trans (by decide) hd) (Nat.le_refl _)) (Nat.le_refl _) ck1 (hyp hG) (fun r2 g3 h4 hyp => ?_)
    obtain ⟨hG, hyp⟩ := hyp
    refine mf_ishl (mf_dat eX5_mirrorBits 17 rfl) ?_
    refine mf_ior (mf_dat eX5_mirrorBits 18 rfl) ?_
    generalize qv5 : mf_or x2 (mf_shl (mf_and (mf_shr x1 x3) 1) r2) = v5
    replace hyp := hyp _ qv5.symm
    refine mf_istore_n (mf_dat eX5_mirrorBits 19 rfl) rfl (by decide) ?_
    refine mf_iinc (mf_dat eX5_mirrorBits 20 rfl) rfl (by decide) (by decide) ?_
    generalize qv6 : mf_w32 (x3 + 1) = v6
    replace hyp := hyp _ qv6.symm
    refine mf_goto (tgt := 4) (mf_dat eX5_mirrorBits 21 rfl) (by decide) ?_
    exact mf_sub [2, 3, 1, 0] rfl (hyp hG)
set_option maxRecDepth 100000 in
set_option maxHeartbeats 4000000 in
theorem wX5_mirrorBits {C : mf_G} {l : Launch} {d : Nat} {K : mf_Kt} {x0 x1 : Int} {g h : mf_M} (hyp : BX5_mirrorBits_4 C l d K x0 x1 0 0 g h) : xM C l d YX5_mirrorBits [(2, x0), (0, x1)] g h K := by
  intro hG
  refine mf_entry (by decide) (Nat.le_of_ble_eq_true rfl) ?_
  refine mf_iconst (v := 0) (mf_dat eX5_mirrorBits 0 rfl) (by decide) ?_
  refine mf_istore_n (mf_dat eX5_mirrorBits 1 rfl) rfl (by decide) ?_
  refine mf_iconst (v := 0) (mf_dat eX5_mirrorBits 2 rfl) (by decide) ?_
  refine mf_istore_n (mf_dat eX5_mirrorBits 3 rfl) rfl (by decide) ?_
  exact mf_sub [2, 3, 1, 0] rfl (hyp hG)
abbrev BX5_takeSeen_30 (C : mf_G) (l : Launch) (d : Nat) (K : mf_Kt) (x1 x2 x3 : Int) (g h : mf_M) : Prop := jX C l d YX5_takeSeen K 30 [(0, (2, 51)), (1, (2, x1)), (2, (2, x2)), (3, (0, x3))] [] g h
abbrev BX5_takeSeen_84 (C : mf_G) (l : Launch) (d : Nat) (K : mf_Kt) (x2 x3 : Int) (g h : mf_M) : Prop := jX C l d YX5_takeSeen K 84 [(0, (2, 51)), (2, (2, x2)), (3, (0, x3))] [] g h
set_option maxRecDepth 100000 in
set_option maxHeartbeats 4000000 in
theorem vX5_takeSeen_30 {C : mf_G} {l : Launch} {d : Nat} {K : mf_Kt} {x1 x2 x3 : Int} {g h : mf_M} (hd : 1 ≤ d) (hyp : mf_is 319 x2 8 ∧ ((h x2 1 ≤ x3 → (∀ h2 : mf_M, h2 = mf_up h 51 11 (mf_w32 ((h x2 1).tdiv 2)) → BX5_takeSeen_84 C l d K x2 0 g h2)) ∧ (¬ h x2 1 ≤ x3 → xM C l 0 YX8_byteAt [(2, x2), (0, x3)] g h (fun r3 g4 h5 => mf_is 319 x1 1 ∧ ((h5 x1 12 ≤ r3 → K 0 g4 h5) ∧ (¬ h5 x1 12 ≤ r3 → xM C l 0 YX8_byteAt [(2, x2), (0, mf_w32 (x3 + 1))] g4 h5 (fun r7 g8 h9 => ((r7 < h9 x1 9 → (∀ v10 : Int, v10 = mf_w32 (x3 + 2) → BX5_takeSeen_30 C l d K x1 x2 v10 g8 h9)) ∧ (¬ r7 < h9 x1 9 → K 0 g8 h9))))))))) : BX5_takeSeen_30 C l d K x1 x2 x3 g h := by
  intro hG
  refine mf_iload_n (mf_dat eX5_takeSeen_p0 17 rfl) rfl rfl ?_
  refine mf_aload_n (mf_dat eX5_takeSeen_p0 18 rfl) rfl rfl ?_
  obtain ⟨ck1, hyp⟩ := hyp
  refine mf_getf (r := (RX8, TX8, 2)) (ci := 8) (k := 1) (t := 0) (v := h x2 1) (mf_dat eX5_takeSeen_p0 19 rfl) fl_X5_129 rfl (by decide) rfl rfl ck1 ?_
  refine mf_icmp_ge (tgt := 72) (mf_dat eX5_takeSeen_p0 20 rfl) (by decide) (fun hc => ?_) (fun hc => ?_)
  · replace hyp := hyp.1 hc
    refine mf_aload_n (mf_dat eX5_takeSeen_p0 39 rfl) rfl rfl ?_
    refine mf_aload_n (mf_dat eX5_takeSeen_p0 40 rfl) rfl rfl ?_
    refine mf_getf (r := (RX8, TX8, 2)) (ci := 8) (k := 1) (t := 0) (v := h x2 1) (mf_dat eX5_takeSeen_p0 41 rfl) fl_X5_129 rfl (by decide) rfl rfl ck1 ?_
    refine mf_iconst (v := 2) (mf_dat eX5_takeSeen_p0 42 rfl) (by decide) ?_
    refine mf_idiv (mf_dat eX5_takeSeen_p0 43 rfl) (by decide) ?_
    refine mf_putI (r := (RX5, TX5, 12)) (ci := 5) (k := 11) (kI := 11) (t := 0) (mf_dat eX5_takeSeen_p0 44 rfl) fl_X5_140 rfl rfl (by decide) rfl (by decide) rfl (by decide) (fun h9 => absurd h9 (by decide)) is51 ?_
    generalize qh2 : mf_up h 51 11 (mf_w32 ((h x2 1).tdiv 2)) = h2
    replace hyp := hyp _ qh2.symm
    refine mf_iconst (v := 0) (mf_dat eX5_takeSeen_p0 45 rfl) (by decide) ?_
    refine mf_istore_n (mf_dat eX5_takeSeen_p0 46 rfl) rfl (by decide) ?_
    exact mf_sub [1, 3, 0] rfl (hyp hG)
  · replace hyp := hyp.2 hc
    refine mf_aload_n (mf_dat eX5_takeSeen_p0 21 rfl) rfl rfl ?_
    refine mf_iload_n (mf_dat eX5_takeSeen_p0 22 rfl) rfl rfl ?_
    refine mf_callV (Yc := YX8_byteAt) (r := (RX8, TX8, 2)) (ci := 8) (mf_dat eX5_takeSeen_p0 23 rfl) ml_X5_134 okX8_byteAt im_X8_byteAt sl_X8_byteAt rfl rfl rfl rfl (Nat.le_of_ble_eq_true rfl) (mf_rr (Nat.le_trans (by decide) hd) (Nat.le_refl _)) (Nat.le_refl _) ck1 (hyp hG) (fun r3 g4 h5 hyp => ?_)
    obtain ⟨hG, hyp⟩ := hyp
    refine mf_aload_n (mf_dat eX5_takeSeen_p0 24 rfl) rfl rfl ?_
    obtain ⟨ck6, hyp⟩ := hyp
    refine mf_getf (r := (RX1, TX1, 14)) (ci := 1) (k := 12) (t := 0) (v := h5 x1 12) (mf_dat eX5_takeSeen_p0 25 rfl) fl_X5_137 rfl (by decide) rfl rfl ck6 ?_
    refine mf_icmp_ge (tgt := 64) (mf_dat eX5_takeSeen_p0 26 rfl) (by decide) (fun hc => ?_) (fun hc => ?_)
    · replace hyp := hyp.1 hc
      refine mf_iconst (v := 0) (mf_dat eX5_takeSeen_p0 35 rfl) (by decide) ?_
      exact mf_ireturn (mf_dat eX5_takeSeen_p0 36 rfl) rfl (Or.inr ⟨rfl, by decide⟩) ⟨hG, hyp⟩
    · replace hyp := hyp.2 hc
      refine mf_aload_n (mf_dat eX5_takeSeen_p0 27 rfl) rfl rfl ?_
      refine mf_iload_n (mf_dat eX5_takeSeen_p0 28 rfl) rfl rfl ?_
      refine mf_iconst (v := 1) (mf_dat eX5_takeSeen_p0 29 rfl) (by decide) ?_
      refine mf_iadd (mf_dat eX5_takeSeen_p0 30 rfl) ?_
      refine mf_callV (Yc := YX8_byteAt) (r := (RX8, TX8, 2)) (ci := 8) (mf_dat eX5_takeSeen_p0 31 rfl) ml_X5_134 okX8_byteAt im_X8_byteAt sl_X8_byteAt rfl rfl rfl rfl (Nat.le_of_ble_eq_true rfl) (mf_rr (Nat.le_trans (by decide) hd) (Nat.le_refl _)) (Nat.le_refl _) ck1 (hyp hG) (fun r7 g8 h9 hyp => ?_)
      obtain ⟨hG, hyp⟩ := hyp
      refine mf_aload_n (mf_dat eX5_takeSeen_p0 32 rfl) rfl rfl ?_
      refine mf_getf (r := (RX1, TX1, 14)) (ci := 1) (k := 9) (t := 0) (v := h9 x1 9) (mf_dat eX5_takeSeen_p0 33 rfl) fl_X5_119 rfl (by decide) rfl rfl ck6 ?_
      refine mf_icmp_lt (tgt := 66) (mf_dat eX5_takeSeen_p0 34 rfl) (by decide) (fun hc => ?_) (fun hc => ?_)
      · replace hyp := hyp.1 hc
        refine mf_iinc (mf_dat eX5_takeSeen_p0 37 rfl) rfl (by decide) (by decide) ?_
        generalize qv10 : mf_w32 (x3 + 2) = v10
        replace hyp := hyp _ qv10.symm
        refine mf_goto (tgt := 30) (mf_dat eX5_takeSeen_p0 38 rfl) (by decide) ?_
        exact mf_sub [1, 2, 3, 0] rfl (hyp hG)
      · replace hyp := hyp.2 hc
        refine mf_iconst (v := 0) (mf_dat eX5_takeSeen_p0 35 rfl) (by decide) ?_
        exact mf_ireturn (mf_dat eX5_takeSeen_p0 36 rfl) rfl (Or.inr ⟨rfl, by decide⟩) ⟨hG, hyp⟩
set_option maxRecDepth 100000 in
set_option maxHeartbeats 4000000 in
theorem vX5_takeSeen_84 {C : mf_G} {l : Launch} {d : Nat} {K : mf_Kt} {x2 x3 : Int} {g h : mf_M} (hd : 1 ≤ d) (hyp : ((h 51 11 ≤ x3 → K 1 g h) ∧ (¬ h 51 11 ≤ x3 → ((16 ≤ x3 → K 1 g h) ∧ (¬ 16 ≤ x3 → mf_is 319 x2 8 ∧ xM C l 0 YX8_byteAt [(2, x2), (0, mf_w32 (2 * x3))] g h (fun r1 g2 h3 => 0 ≤ x3 ∧ x3 < 16 ∧ (∀ h7 : mf_M, h7 = mf_up h3 65 x3 r1 → xM C l 0 YX8_byteAt [(2, x2), (0, mf_w32 ((mf_w32 (2 * x3)) + 1))] g2 h7 (fun r8 g9 h10 => (∀ h11 : mf_M, h11 = mf_up h10 66 x3 r8 → (∀ v12 : Int, v12 = mf_w32 (x3 + 1) → BX5_takeSeen_84 C l d K x2 v12 g9 h11)))))))))) : BX5_takeSeen_84 C l d K x2 x3 g h := by
  intro hG
  refine mf_iload_n (mf_dat eX5_takeSeen_p0 47 rfl) rfl rfl ?_
  refine mf_aload_n (mf_dat eX5_takeSeen_p0 48 rfl) rfl rfl ?_
  refine mf_getf (r := (RX5, TX5, 12)) (ci := 5) (k := 11) (t := 0) (v := h 51 11) (mf_dat eX5_takeSeen_p0 49 rfl) fl_X5_140 rfl (by decide) rfl rfl is51 ?_
  refine mf_icmp_ge (tgt := 132) (mf_dat eX5_takeSeen_p0 50 rfl) (by decide) (fun hc => ?_) (fun hc => ?_)
  · replace hyp := hyp.1 hc
    refine mf_iconst (v := 1) (mf_dat eX5_takeSeen_p1 16 rfl) (by decide) ?_
    exact mf_ireturn (mf_dat eX5_takeSeen_p1 17 rfl) rfl (Or.inr ⟨rfl, by decide⟩) ⟨hG, hyp⟩
  · replace hyp := hyp.2 hc
    refine mf_iload_n (mf_dat eX5_takeSeen_p0 51 rfl) rfl rfl ?_
    refine mf_bipush (v := 16) (mf_dat eX5_takeSeen_p0 52 rfl) (by decide) ?_
    refine mf_icmp_ge (tgt := 132) (mf_dat eX5_takeSeen_p0 53 rfl) (by decide) (fun hc => ?_) (fun hc => ?_)
    · replace hyp := hyp.1 hc
      refine mf_iconst (v := 1) (mf_dat eX5_takeSeen_p1 16 rfl) (by decide) ?_
      exact mf_ireturn (mf_dat eX5_takeSeen_p1 17 rfl) rfl (Or.inr ⟨rfl, by decide⟩) ⟨hG, hyp⟩
    · replace hyp := hyp.2 hc
      refine mf_aload_n (mf_dat eX5_takeSeen_p0 54 rfl) rfl rfl ?_
      refine mf_getf (r := (RX5, TX5, 12)) (ci := 5) (k := 8) (t := 2) (v := 65) (mf_dat eX5_takeSeen_p0 55 rfl) fl_X5_38 rfl (by decide) rfl (gx_51_8 hG) is51 ?_
      refine mf_iload_n (mf_dat eX5_takeSeen_p0 56 rfl) rfl rfl ?_
      refine mf_aload_n (mf_dat eX5_takeSeen_p0 57 rfl) rfl rfl ?_
      refine mf_iconst (v := 2) (mf_dat eX5_takeSeen_p0 58 rfl) (by decide) ?_
      refine mf_iload_n (mf_dat eX5_takeSeen_p0 59 rfl) rfl rfl ?_
      refine mf_imul (mf_dat eX5_takeSeen_p1 0 rfl) ?_
      obtain ⟨ck4, hyp⟩ := hyp
      refine mf_callV (Yc := YX8_byteAt) (r := (RX8, TX8, 2)) (ci := 8) (mf_dat eX5_takeSeen_p1 1 rfl) ml_X5_134 okX8_byteAt im_X8_byteAt sl_X8_byteAt rfl rfl rfl rfl (Nat.le_of_ble_eq_true rfl) (mf_rr (Nat.le_trans (by decide) hd) (Nat.le_refl _)) (Nat.le_refl _) ck4 (hyp hG) (fun r1 g2 h3 hyp => ?_)
      obtain ⟨hG, hyp⟩ := hyp
      obtain ⟨ck5, hyp⟩ := hyp
      obtain ⟨ck6, hyp⟩ := hyp
      refine mf_iast (mf_dat eX5_takeSeen_p1 2 rfl) is65 len65 ck5 ck6 ?_
      generalize qh7 : mf_up h3 65 x3 r1 = h7
      replace hyp := hyp _ qh7.symm
      refine mf_aload_n (mf_dat eX5_takeSeen_p1 3 rfl) rfl rfl ?_
      refine mf_getf (r := (RX5, TX5, 12)) (ci := 5) (k := 9) (t := 2) (v := 66) (mf_dat eX5_takeSeen_p1 4 rfl) fl_X5_41 rfl (by decide) rfl (gx_51_9 hG) is51 ?_
      refine mf_iload_n (mf_dat eX5_takeSeen_p1 5 rfl) rfl rfl ?_
      refine mf_aload_n (mf_dat eX5_takeSeen_p1 6 rfl) rfl rfl ?_
      refine mf_iconst (v := 2) (mf_dat eX5_takeSeen_p1 7 rfl) (by decide) ?_
      refine mf_iload_n (mf_dat eX5_takeSeen_p1 8 rfl) rfl rfl ?_
      refine mf_imul (mf_dat eX5_takeSeen_p1 9 rfl) ?_
      refine mf_iconst (v := 1) (mf_dat eX5_takeSeen_p1 10 rfl) (by decide) ?_
      refine mf_iadd (mf_dat eX5_takeSeen_p1 11 rfl) ?_
      refine mf_callV (Yc := YX8_byteAt) (r := (RX8, TX8, 2)) (ci := 8) (mf_dat eX5_takeSeen_p1 12 rfl) ml_X5_134 okX8_byteAt im_X8_byteAt sl_X8_byteAt rfl rfl rfl rfl (Nat.le_of_ble_eq_true rfl) (mf_rr (Nat.le_trans (by decide) hd) (Nat.le_refl _)) (Nat.le_refl _) ck4 (hyp hG) (fun r8 g9 h10 hyp => ?_)
      obtain ⟨hG, hyp⟩ := hyp
      refine mf_iast (mf_dat eX5_takeSeen_p1 13 rfl) is66 len66 ck5 ck6 ?_
      generalize qh11 : mf_up h10 66 x3 r8 = h11
      replace hyp := hyp _ qh11.symm
      refine mf_iinc (mf_dat eX5_takeSeen_p1 14 rfl) rfl (by decide) (by decide) ?_
      generalize qv12 : mf_w32 (x3 + 1) = v12
      replace hyp := hyp _ qv12.symm
      refine mf_goto (tgt := 84) (mf_dat eX5_takeSeen_p1 15 rfl) (by decide) ?_
      exact mf_sub [1, 2, 0] rfl (hyp hG)
set_option maxRecDepth 100000 in
set_option maxHeartbeats 4000000 in
theorem wX5_takeSeen {C : mf_G} {l : Launch} {d : Nat} {K : mf_Kt} {x1 x2 : Int} {g h : mf_M} (hyp : mf_is 319 x2 8 ∧ ((h x2 1 < 2 → K 0 g h) ∧ (¬ h x2 1 < 2 → ((32 < h x2 1 → K 0 g h) ∧ (¬ 32 < h x2 1 → (((h x2 1).tmod 2 = 0 → BX5_takeSeen_30 C l d K x1 x2 0 g h) ∧ (¬ (h x2 1).tmod 2 = 0 → K 0 g h))))))) : xM C l d YX5_takeSeen [(2, 51), (2, x1), (2, x2)] g h K := by
  intro hG
  refine mf_entry (by decide) (Nat.le_of_ble_eq_true rfl) ?_
  refine mf_aload_n (mf_dat eX5_takeSeen_p0 0 rfl) rfl rfl ?_
  obtain ⟨ck1, hyp⟩ := hyp
  refine mf_getf (r := (RX8, TX8, 2)) (ci := 8) (k := 1) (t := 0) (v := h x2 1) (mf_dat eX5_takeSeen_p0 1 rfl) fl_X5_129 rfl (by decide) rfl rfl ck1 ?_
  refine mf_iconst (v := 2) (mf_dat eX5_takeSeen_p0 2 rfl) (by decide) ?_
  refine mf_icmp_lt (tgt := 26) (mf_dat eX5_takeSeen_p0 3 rfl) (by decide) (fun hc => ?_) (fun hc => ?_)
  · replace hyp := hyp.1 hc
    refine mf_iconst (v := 0) (mf_dat eX5_takeSeen_p0 13 rfl) (by decide) ?_
    exact mf_ireturn (mf_dat eX5_takeSeen_p0 14 rfl) rfl (Or.inr ⟨rfl, by decide⟩) ⟨hG, hyp⟩
  · replace hyp := hyp.2 hc
    refine mf_aload_n (mf_dat eX5_takeSeen_p0 4 rfl) rfl rfl ?_
    refine mf_getf (r := (RX8, TX8, 2)) (ci := 8) (k := 1) (t := 0) (v := h x2 1) (mf_dat eX5_takeSeen_p0 5 rfl) fl_X5_129 rfl (by decide) rfl rfl ck1 ?_
    refine mf_bipush (v := 32) (mf_dat eX5_takeSeen_p0 6 rfl) (by decide) ?_
    refine mf_icmp_gt (tgt := 26) (mf_dat eX5_takeSeen_p0 7 rfl) (by decide) (fun hc => ?_) (fun hc => ?_)
    · replace hyp := hyp.1 hc
      refine mf_iconst (v := 0) (mf_dat eX5_takeSeen_p0 13 rfl) (by decide) ?_
      exact mf_ireturn (mf_dat eX5_takeSeen_p0 14 rfl) rfl (Or.inr ⟨rfl, by decide⟩) ⟨hG, hyp⟩
    · replace hyp := hyp.2 hc
      refine mf_aload_n (mf_dat eX5_takeSeen_p0 8 rfl) rfl rfl ?_
      refine mf_getf (r := (RX8, TX8, 2)) (ci := 8) (k := 1) (t := 0) (v := h x2 1) (mf_dat eX5_takeSeen_p0 9 rfl) fl_X5_129 rfl (by decide) rfl rfl ck1 ?_
      refine mf_iconst (v := 2) (mf_dat eX5_takeSeen_p0 10 rfl) (by decide) ?_
      refine mf_irem (mf_dat eX5_takeSeen_p0 11 rfl) (by decide) ?_
      refine mf_if_eq (tgt := 28) (mf_dat eX5_takeSeen_p0 12 rfl) (by decide) (fun hc => ?_) (fun hc => ?_)
      · replace hyp := hyp.1 hc
        refine mf_iconst (v := 0) (mf_dat eX5_takeSeen_p0 15 rfl) (by decide) ?_
        refine mf_istore_n (mf_dat eX5_takeSeen_p0 16 rfl) rfl (by decide) ?_
        exact mf_sub [1, 2, 3, 0] rfl (hyp hG)
      · replace hyp := hyp.2 hc
        refine mf_iconst (v := 0) (mf_dat eX5_takeSeen_p0 13 rfl) (by decide) ?_
        exact mf_ireturn (mf_dat eX5_takeSeen_p0 14 rfl) rfl (Or.inr ⟨rfl, by decide⟩) ⟨hG, hyp⟩
abbrev BX5_findOpenings_5 (C : mf_G) (l : Launch) (d : Nat) (K : mf_Kt) (x1 x2 x3 x4 : Int) (g h : mf_M) : Prop := jX C l d YX5_findOpenings K 5 [(0, (2, 51)), (1, (2, x1)), (2, (2, x2)), (3, (0, x3)), (4, (0, x4))] [] g h
set_option maxRecDepth 100000 in
set_option maxHeartbeats 4000000 in
theorem vX5_findOpenings_5 {C : mf_G} {l : Launch} {d : Nat} {K : mf_Kt} {x1 x2 x3 x4 : Int} {g h : mf_M} (hd : 6 ≤ d) (hyp : mf_is 319 x1 1 ∧ ((h x1 8 < x4 → K x3 g h) ∧ (¬ h x1 8 < x4 → xM C l 1 YX6_copyFolk [(2, 53), (2, x2)] g h (fun r2 g3 h4 => xM C l 5 YX0_passDay [(2, 46), (2, x1), (2, 53), (0, x4)] g3 h4 (fun r5 g6 h7 => 0 ≤ mf_w32 (x4 * 8) ∧ mf_w32 (x4 * 8) + 8 ≤ 56 ∧ (∀ h10 : mf_M, h10 = mf_cpy h7 56 64 0 (mf_w32 (x4 * 8)) 8 → xM C l 0 YX5_isAsSeen [(2, 51), (2, 53)] g6 h10 (fun r11 g12 h13 => ((r11 = 0 → (∀ v14 : Int, v14 = mf_w32 (x4 + 1) → BX5_findOpenings_5 C l d K x1 x2 x3 v14 g12 h13)) ∧ (¬ r11 = 0 → (∀ v15 : Int, v15 = mf_or x3 (mf_shl 1 x4) → (∀ v16 : Int, v16 = mf_w32 (x4 + 1) → BX5_findOpenings_5 C l d K x1 x2 v15 v16 g12 h13))))))))))) : BX5_findOpenings_5 C l d K x1 x2 x3 x4 g h := by
  intro hG
  refine mf_iload (mf_dat eX5_findOpenings 4 rfl) rfl ?_
  refine mf_aload_n (mf_dat eX5_findOpenings 5 rfl) rfl rfl ?_
  obtain ⟨ck1, hyp⟩ := hyp
  refine mf_getf (r := (RX1, TX1, 14)) (ci := 1) (k := 8) (t := 0) (v := h x1 8) (mf_dat eX5_findOpenings 6 rfl) fl_X5_54 rfl (by decide) rfl rfl ck1 ?_
  refine mf_icmp_gt (tgt := 83) (mf_dat eX5_findOpenings 7 rfl) (by decide) (fun hc => ?_) (fun hc => ?_)
  · replace hyp := hyp.1 hc
    refine mf_iload_n (mf_dat eX5_findOpenings 44 rfl) rfl rfl ?_
    exact mf_ireturn (mf_dat eX5_findOpenings 45 rfl) rfl (Or.inl rfl) ⟨hG, hyp⟩
  · replace hyp := hyp.2 hc
    refine mf_aload_n (mf_dat eX5_findOpenings 8 rfl) rfl rfl ?_
    refine mf_getf (r := (RX5, TX5, 12)) (ci := 5) (k := 2) (t := 2) (v := 53) (mf_dat eX5_findOpenings 9 rfl) fl_X5_18 rfl (by decide) rfl (gx_51_2 hG) is51 ?_
    refine mf_aload_n (mf_dat eX5_findOpenings 10 rfl) rfl rfl ?_
    refine mf_callV (Yc := YX6_copyFolk) (r := (RX6, TX6, 8)) (ci := 6) (mf_dat eX5_findOpenings 11 rfl) ml_X5_73 okX6_copyFolk im_X6_copyFolk sl_X6_copyFolk rfl rfl rfl rfl (Nat.le_of_ble_eq_true rfl) (mf_rr (Nat.le_trans (by decide) hd) (Nat.le_refl _)) (Nat.le_refl _) is53 (hyp hG) (fun r2 g3 h4 hyp => ?_)
    obtain ⟨hG, hyp⟩ := hyp
    refine mf_aload_n (mf_dat eX5_findOpenings 12 rfl) rfl rfl ?_
    refine mf_getf (r := (RX5, TX5, 12)) (ci := 5) (k := 0) (t := 2) (v := 46) (mf_dat eX5_findOpenings 13 rfl) fl_X5_44 rfl (by decide) rfl (gx_51_0 hG) is51 ?_
    refine mf_aload_n (mf_dat eX5_findOpenings 14 rfl) rfl rfl ?_
    refine mf_aload_n (mf_dat eX5_findOpenings 15 rfl) rfl rfl ?_
    refine mf_getf (r := (RX5, TX5, 12)) (ci := 5) (k := 2) (t := 2) (v := 53) (mf_dat eX5_findOpenings 16 rfl) fl_X5_18 rfl (by decide) rfl (gx_51_2 hG) is51 ?_
    refine mf_iload (mf_dat eX5_findOpenings 17 rfl) rfl ?_
    refine mf_callV (Yc := YX0_passDay) (r := (RX0, TX0, 1)) (ci := 0) (mf_dat eX5_findOpenings 18 rfl) ml_X5_77 okX0_passDay im_X0_passDay sl_X0_passDay rfl rfl rfl rfl (Nat.le_of_ble_eq_true rfl) (mf_rr (Nat.le_trans (by decide) hd) (Nat.le_refl _)) (Nat.le_refl _) is46 (hyp hG) (fun r5 g6 h7 hyp => ?_)
    obtain ⟨hG, hyp⟩ := hyp
    refine mf_pop (mf_dat eX5_findOpenings 19 rfl) (by decide) ?_
    refine mf_aload_n (mf_dat eX5_findOpenings 20 rfl) rfl rfl ?_
    refine mf_getf (r := (RX5, TX5, 12)) (ci := 5) (k := 2) (t := 2) (v := 53) (mf_dat eX5_findOpenings 21 rfl) fl_X5_18 rfl (by decide) rfl (gx_51_2 hG) is51 ?_
    refine mf_getf (r := (RX6, TX6, 8)) (ci := 6) (k := 2) (t := 2) (v := 56) (mf_dat eX5_findOpenings 22 rfl) fl_X5_93 rfl (by decide) rfl (gs_2 hG is53) is53 ?_
    refine mf_iconst (v := 0) (mf_dat eX5_findOpenings 23 rfl) (by decide) ?_
    refine mf_aload_n (mf_dat eX5_findOpenings 24 rfl) rfl rfl ?_
    refine mf_getf (r := (RX5, TX5, 12)) (ci := 5) (k := 7) (t := 2) (v := 64) (mf_dat eX5_findOpenings 25 rfl) fl_X5_35 rfl (by decide) rfl (gx_51_7 hG) is51 ?_
    refine mf_iload (mf_dat eX5_findOpenings 26 rfl) rfl ?_
    refine mf_bipush (v := 8) (mf_dat eX5_findOpenings 27 rfl) (by decide) ?_
    refine mf_imul (mf_dat eX5_findOpenings 28 rfl) ?_
    refine mf_bipush (v := 8) (mf_dat eX5_findOpenings 29 rfl) (by decide) ?_
    obtain ⟨ck8, hyp⟩ := hyp
    obtain ⟨ck9, hyp⟩ := hyp
    refine mf_acopy (mf_dat eX5_findOpenings 30 rfl) ml_X5_67 na_copy st_copy ii_System is56 is64 len56 len64 (by decide) ck8 (by decide) (by decide) ck9 (mf_rmf hd) (mf_rml hd (Nat.le_of_ble_eq_true rfl)) ?_
    generalize qh10 : mf_cpy h7 56 64 0 (mf_w32 (x4 * 8)) 8 = h10
    replace hyp := hyp _ qh10.symm
    refine mf_aload_n (mf_dat eX5_findOpenings 31 rfl) rfl rfl ?_
    refine mf_aload_n (mf_dat eX5_findOpenings 32 rfl) rfl rfl ?_
    refine mf_getf (r := (RX5, TX5, 12)) (ci := 5) (k := 2) (t := 2) (v := 53) (mf_dat eX5_findOpenings 33 rfl) fl_X5_18 rfl (by decide) rfl (gx_51_2 hG) is51 ?_
    refine mf_callV (Yc := YX5_isAsSeen) (r := (RX5, TX5, 12)) (ci := 5) (mf_dat eX5_findOpenings 34 rfl) ml_X5_143 okX5_isAsSeen im_X5_isAsSeen sl_X5_isAsSeen rfl rfl rfl rfl (Nat.le_of_ble_eq_true rfl) (mf_rr (Nat.le_trans (by decide) hd) (Nat.le_refl _)) (Nat.le_refl _) is51 (hyp hG) (fun r11 g12 h13 hyp => ?_)
    obtain ⟨hG, hyp⟩ := hyp
    refine mf_if_eq (tgt := 77) (mf_dat eX5_findOpenings 35 rfl) (by decide) (fun hc => ?_) (fun hc => ?_)
    · replace hyp := hyp.1 hc
      refine mf_iinc (mf_dat eX5_findOpenings 42 rfl) rfl (by decide) (by decide) ?_
      generalize qv14 : mf_w32 (x4 + 1) = v14
      replace hyp := hyp _ qv14.symm
      refine mf_goto (tgt := 5) (mf_dat eX5_findOpenings 43 rfl) (by decide) ?_
      exact mf_sub [1, 2, 3, 4, 0] rfl (hyp hG)
    · replace hyp := hyp.2 hc
      refine mf_iload_n (mf_dat eX5_findOpenings 36 rfl) rfl rfl ?_
      refine mf_iconst (v := 1) (mf_dat eX5_findOpenings 37 rfl) (by decide) ?_
      refine mf_iload (mf_dat eX5_findOpenings 38 rfl) rfl ?_
      refine mf_ishl (mf_dat eX5_findOpenings 39 rfl) ?_
      refine mf_ior (mf_dat eX5_findOpenings 40 rfl) ?_
      generalize qv15 : mf_or x3 (mf_shl 1 x4) = v15
      replace hyp := hyp _ qv15.symm
      refine mf_istore_n (mf_dat eX5_findOpenings 41 rfl) rfl (by decide) ?_
      refine mf_iinc (mf_dat eX5_findOpenings 42 rfl) rfl (by decide) (by decide) ?_
      generalize qv16 : mf_w32 (x4 + 1) = v16
      replace hyp := hyp _ qv16.symm
      refine mf_goto (tgt := 5) (mf_dat eX5_findOpenings 43 rfl) (by decide) ?_
      exact mf_sub [2, 3, 4, 1, 0] rfl (hyp hG)
set_option maxRecDepth 100000 in
set_option maxHeartbeats 4000000 in
theorem wX5_findOpenings {C : mf_G} {l : Launch} {d : Nat} {K : mf_Kt} {x1 x2 : Int} {g h : mf_M} (hyp : BX5_findOpenings_5 C l d K x1 x2 0 0 g h) : xM C l d YX5_findOpenings [(2, 51), (2, x1), (2, x2)] g h K := by
  intro hG
  refine mf_entry (by decide) (Nat.le_of_ble_eq_true rfl) ?_
  refine mf_iconst (v := 0) (mf_dat eX5_findOpenings 0 rfl) (by decide) ?_
  refine mf_istore_n (mf_dat eX5_findOpenings 1 rfl) rfl (by decide) ?_
  refine mf_iconst (v := 0) (mf_dat eX5_findOpenings 2 rfl) (by decide) ?_
  refine mf_istore (mf_dat eX5_findOpenings 3 rfl) (by decide) ?_
  exact mf_sub [2, 3, 4, 1, 0] rfl (hyp hG)
abbrev BX5_isAsSeen_2 (C : mf_G) (l : Launch) (d : Nat) (K : mf_Kt) (x1 x2 : Int) (g h : mf_M) : Prop := jX C l d YX5_isAsSeen K 2 [(0, (2, 51)), (1, (2, x1)), (2, (0, x2))] [] g h
set_option maxRecDepth 100000 in
set_option maxHeartbeats 4000000 in
theorem vX5_isAsSeen_2 {C : mf_G} {l : Launch} {d : Nat} {K : mf_Kt} {x1 x2 : Int} {g h : mf_M} (hyp : ((h 51 11 ≤ x2 → K 1 g h) ∧ (¬ h 51 11 ≤ x2 → ((16 ≤ x2 → K 1 g h) ∧ (¬ 16 ≤ x2 → mf_is 319 x1 6 ∧ 0 ≤ x2 ∧ x2 < 16 ∧ 0 ≤ h 65 x2 ∧ h 65 x2 < 8 ∧ ((h (x1 + 3) (h 65 x2) = h 66 x2 → (∀ v6 : Int, v6 = mf_w32 (x2 + 1) → BX5_isAsSeen_2 C l d K x1 v6 g h)) ∧ (¬ h (x1 + 3) (h 65 x2) = h 66 x2 → K 0 g h))))))) : BX5_isAsSeen_2 C l d K x1 x2 g h := by
  intro hG
  refine mf_iload_n (mf_dat eX5_isAsSeen 2 rfl) rfl rfl ?_
  refine mf_aload_n (mf_dat eX5_isAsSeen 3 rfl) rfl rfl ?_
  refine mf_getf (r := (RX5, TX5, 12)) (ci := 5) (k := 11) (t := 0) (v := h 51 11) (mf_dat eX5_isAsSeen 4 rfl) fl_X5_140 rfl (by decide) rfl rfl is51 ?_
  refine mf_icmp_ge (tgt := 44) (mf_dat eX5_isAsSeen 5 rfl) (by decide) (fun hc => ?_) (fun hc => ?_)
  · replace hyp := hyp.1 hc
    refine mf_iconst (v := 1) (mf_dat eX5_isAsSeen 25 rfl) (by decide) ?_
    exact mf_ireturn (mf_dat eX5_isAsSeen 26 rfl) rfl (Or.inr ⟨rfl, by decide⟩) ⟨hG, hyp⟩
  · replace hyp := hyp.2 hc
    refine mf_iload_n (mf_dat eX5_isAsSeen 6 rfl) rfl rfl ?_
    refine mf_bipush (v := 16) (mf_dat eX5_isAsSeen 7 rfl) (by decide) ?_
    refine mf_icmp_ge (tgt := 44) (mf_dat eX5_isAsSeen 8 rfl) (by decide) (fun hc => ?_) (fun hc => ?_)
    · replace hyp := hyp.1 hc
      refine mf_iconst (v := 1) (mf_dat eX5_isAsSeen 25 rfl) (by decide) ?_
      exact mf_ireturn (mf_dat eX5_isAsSeen 26 rfl) rfl (Or.inr ⟨rfl, by decide⟩) ⟨hG, hyp⟩
    · replace hyp := hyp.2 hc
      refine mf_aload_n (mf_dat eX5_isAsSeen 9 rfl) rfl rfl ?_
      obtain ⟨ck1, hyp⟩ := hyp
      refine mf_getf (r := (RX6, TX6, 8)) (ci := 6) (k := 2) (t := 2) (v := x1 + 3) (mf_dat eX5_isAsSeen 10 rfl) fl_X5_93 rfl (by decide) rfl (gs_2 hG ck1) ck1 ?_
      refine mf_aload_n (mf_dat eX5_isAsSeen 11 rfl) rfl rfl ?_
      refine mf_getf (r := (RX5, TX5, 12)) (ci := 5) (k := 8) (t := 2) (v := 65) (mf_dat eX5_isAsSeen 12 rfl) fl_X5_38 rfl (by decide) rfl (gx_51_8 hG) is51 ?_
      refine mf_iload_n (mf_dat eX5_isAsSeen 13 rfl) rfl rfl ?_
      obtain ⟨ck2, hyp⟩ := hyp
      obtain ⟨ck3, hyp⟩ := hyp
      refine mf_iald (mf_dat eX5_isAsSeen 14 rfl) is65 len65 ck2 ck3 ?_
      obtain ⟨ck4, hyp⟩ := hyp
      obtain ⟨ck5, hyp⟩ := hyp
      refine mf_iald (mf_dat eX5_isAsSeen 15 rfl) (st_is2 ck1) (st_len2 ck1) ck4 ck5 ?_
      refine mf_aload_n (mf_dat eX5_isAsSeen 16 rfl) rfl rfl ?_
      refine mf_getf (r := (RX5, TX5, 12)) (ci := 5) (k := 9) (t := 2) (v := 66) (mf_dat eX5_isAsSeen 17 rfl) fl_X5_41 rfl (by decide) rfl (gx_51_9 hG) is51 ?_
      refine mf_iload_n (mf_dat eX5_isAsSeen 18 rfl) rfl rfl ?_
      refine mf_iald (mf_dat eX5_isAsSeen 19 rfl) is66 len66 ck2 ck3 ?_
      refine mf_icmp_eq (tgt := 38) (mf_dat eX5_isAsSeen 20 rfl) (by decide) (fun hc => ?_) (fun hc => ?_)
      · replace hyp := hyp.1 hc
        refine mf_iinc (mf_dat eX5_isAsSeen 23 rfl) rfl (by decide) (by decide) ?_
        generalize qv6 : mf_w32 (x2 + 1) = v6
        replace hyp := hyp _ qv6.symm
        refine mf_goto (tgt := 2) (mf_dat eX5_isAsSeen 24 rfl) (by decide) ?_
        exact mf_sub [1, 2, 0] rfl (hyp hG)
      · replace hyp := hyp.2 hc
        refine mf_iconst (v := 0) (mf_dat eX5_isAsSeen 21 rfl) (by decide) ?_
        exact mf_ireturn (mf_dat eX5_isAsSeen 22 rfl) rfl (Or.inr ⟨rfl, by decide⟩) ⟨hG, hyp⟩
set_option maxRecDepth 100000 in
set_option maxHeartbeats 4000000 in
theorem wX5_isAsSeen {C : mf_G} {l : Launch} {d : Nat} {K : mf_Kt} {x1 : Int} {g h : mf_M} (hyp : BX5_isAsSeen_2 C l d K x1 0 g h) : xM C l d YX5_isAsSeen [(2, 51), (2, x1)] g h K := by
  intro hG
  refine mf_entry (by decide) (Nat.le_of_ble_eq_true rfl) ?_
  refine mf_iconst (v := 0) (mf_dat eX5_isAsSeen 0 rfl) (by decide) ?_
  refine mf_istore_n (mf_dat eX5_isAsSeen 1 rfl) rfl (by decide) ?_
  exact mf_sub [1, 2, 0] rfl (hyp hG)
abbrev BX5_askAfter_24 (C : mf_G) (l : Launch) (d : Nat) (K : mf_Kt) (x1 x3 x4 x5 x6 x7 : Int) (g h : mf_M) : Prop := jX C l d YX5_askAfter K 24 [(0, (2, 51)), (1, (2, x1)), (3, (0, x3)), (4, (0, x4)), (5, (0, x5)), (6, (0, x6)), (7, (0, x7))] [] g h
set_option maxRecDepth 100000 in
set_option maxHeartbeats 4000000 in
theorem vX5_askAfter_24 {C : mf_G} {l : Launch} {d : Nat} {K : mf_Kt} {x1 x3 x4 x5 x6 x7 : Int} {g h : mf_M} (hd : 2 ≤ d) (hyp : mf_is 319 x1 1 ∧ ((h x1 12 ≤ x7 → ((¬ x3 = 0 → K x6 g h) ∧ (x3 = 0 → K x5 g h))) ∧ (¬ h x1 12 ≤ x7 → xM C l 1 YX5_mostLeft [(2, 51), (2, x1), (0, x7), (0, x4)] g h (fun r2 g3 h4 => ((x5 = (-1) → (∀ v5 : Int, v5 = mf_w32 (x7 + 1) → BX5_askAfter_24 C l d K x1 x3 x4 x7 r2 v5 g3 h4)) ∧ (¬ x5 = (-1) → ((x6 ≤ r2 → (∀ v6 : Int, v6 = mf_w32 (x7 + 1) → BX5_askAfter_24 C l d K x1 x3 x4 x5 x6 v6 g3 h4)) ∧ (¬ x6 ≤ r2 → (∀ v7 : Int, v7 = mf_w32 (x7 + 1) → BX5_askAfter_24 C l d K x1 x3 x4 x7 r2 v7 g3 h4))))))))) : BX5_askAfter_24 C l d K x1 x3 x4 x5 x6 x7 g h := by
  intro hG
  refine mf_iload (mf_dat eX5_askAfter 15 rfl) rfl ?_
  refine mf_aload_n (mf_dat eX5_askAfter 16 rfl) rfl rfl ?_
  obtain ⟨ck1, hyp⟩ := hyp
  refine mf_getf (r := (RX1, TX1, 14)) (ci := 1) (k := 12) (t := 0) (v := h x1 12) (mf_dat eX5_askAfter 17 rfl) fl_X5_137 rfl (by decide) rfl rfl ck1 ?_
  refine mf_icmp_ge (tgt := 71) (mf_dat eX5_askAfter 18 rfl) (by decide) (fun hc => ?_) (fun hc => ?_)
  · replace hyp := hyp.1 hc
    refine mf_iload_n (mf_dat eX5_askAfter 37 rfl) rfl rfl ?_
    refine mf_if_ne (tgt := 80) (mf_dat eX5_askAfter 38 rfl) (by decide) (fun hc => ?_) (fun hc => ?_)
    · replace hyp := hyp.1 hc
      refine mf_iload (mf_dat eX5_askAfter 41 rfl) rfl ?_
      exact mf_ireturn (mf_dat eX5_askAfter 42 rfl) rfl (Or.inl rfl) ⟨hG, hyp⟩
    · replace hyp := hyp.2 hc
      refine mf_iload (mf_dat eX5_askAfter 39 rfl) rfl ?_
      refine mf_goto (tgt := 82) (mf_dat eX5_askAfter 40 rfl) (by decide) ?_
      exact mf_ireturn (mf_dat eX5_askAfter 42 rfl) rfl (Or.inl rfl) ⟨hG, hyp⟩
  · replace hyp := hyp.2 hc
    refine mf_aload_n (mf_dat eX5_askAfter 19 rfl) rfl rfl ?_
    refine mf_aload_n (mf_dat eX5_askAfter 20 rfl) rfl rfl ?_
    refine mf_iload (mf_dat eX5_askAfter 21 rfl) rfl ?_
    refine mf_iload (mf_dat eX5_askAfter 22 rfl) rfl ?_
    refine mf_callV (Yc := YX5_mostLeft) (r := (RX5, TX5, 12)) (ci := 5) (mf_dat eX5_askAfter 23 rfl) ml_X5_151 okX5_mostLeft im_X5_mostLeft sl_X5_mostLeft rfl rfl rfl rfl (Nat.le_of_ble_eq_true rfl) (mf_rr (Nat.le_trans (by decide) hd) (Nat.le_refl _)) (Nat.le_refl _) is51 (hyp hG) (fun r2 g3 h4 hyp => ?_)
    obtain ⟨hG, hyp⟩ := hyp
    refine mf_istore (mf_dat eX5_askAfter 24 rfl) (by decide) ?_
    refine mf_iload (mf_dat eX5_askAfter 25 rfl) rfl ?_
    refine mf_iconst (v := (-1)) (mf_dat eX5_askAfter 26 rfl) (by decide) ?_
    refine mf_icmp_eq (tgt := 57) (mf_dat eX5_askAfter 27 rfl) (by decide) (fun hc => ?_) (fun hc => ?_)
    · replace hyp := hyp.1 hc
      refine mf_iload (mf_dat eX5_askAfter 31 rfl) rfl ?_
      refine mf_istore (mf_dat eX5_askAfter 32 rfl) (by decide) ?_
      refine mf_iload (mf_dat eX5_askAfter 33 rfl) rfl ?_
      refine mf_istore (mf_dat eX5_askAfter 34 rfl) (by decide) ?_
      refine mf_iinc (mf_dat eX5_askAfter 35 rfl) rfl (by decide) (by decide) ?_
      generalize qv5 : mf_w32 (x7 + 1) = v5
      replace hyp := hyp _ qv5.symm
      refine mf_goto (tgt := 24) (mf_dat eX5_askAfter 36 rfl) (by decide) ?_
      exact mf_sub [4, 5, 6, 7, 2, 1, 0] rfl (hyp hG)
    · replace hyp := hyp.2 hc
      refine mf_iload (mf_dat eX5_askAfter 28 rfl) rfl ?_
      refine mf_iload (mf_dat eX5_askAfter 29 rfl) rfl ?_
      refine mf_icmp_ge (tgt := 65) (mf_dat eX5_askAfter 30 rfl) (by decide) (fun hc => ?_) (fun hc => ?_)
      · replace hyp := hyp.1 hc
        refine mf_iinc (mf_dat eX5_askAfter 35 rfl) rfl (by decide) (by decide) ?_
        generalize qv6 : mf_w32 (x7 + 1) = v6
        replace hyp := hyp _ qv6.symm
        refine mf_goto (tgt := 24) (mf_dat eX5_askAfter 36 rfl) (by decide) ?_
        exact mf_sub [2, 3, 4, 5, 6, 7, 0] rfl (hyp hG)
      · replace hyp := hyp.2 hc
        refine mf_iload (mf_dat eX5_askAfter 31 rfl) rfl ?_
        refine mf_istore (mf_dat eX5_askAfter 32 rfl) (by decide) ?_
        refine mf_iload (mf_dat eX5_askAfter 33 rfl) rfl ?_
        refine mf_istore (mf_dat eX5_askAfter 34 rfl) (by decide) ?_
        refine mf_iinc (mf_dat eX5_askAfter 35 rfl) rfl (by decide) (by decide) ?_
        generalize qv7 : mf_w32 (x7 + 1) = v7
        replace hyp := hyp _ qv7.symm
        refine mf_goto (tgt := 24) (mf_dat eX5_askAfter 36 rfl) (by decide) ?_
        exact mf_sub [4, 5, 6, 7, 2, 1, 0] rfl (hyp hG)
set_option maxRecDepth 100000 in
set_option maxHeartbeats 4000000 in
theorem wX5_askAfter {C : mf_G} {l : Launch} {d : Nat} {K : mf_Kt} {x1 x2 x3 : Int} {g h : mf_M} (hd : 7 ≤ d) (hyp : xM C l 6 YX5_findOpenings [(2, 51), (2, x1), (2, x2)] g h (fun r1 g2 h3 => ((¬ r1 = 0 → BX5_askAfter_24 C l d K x1 x3 r1 (-1) (-1) 0 g2 h3) ∧ (r1 = 0 → K (-1) g2 h3)))) : xM C l d YX5_askAfter [(2, 51), (2, x1), (2, x2), (0, x3)] g h K := by
  intro hG
  refine mf_entry (by decide) (Nat.le_of_ble_eq_true rfl) ?_
  refine mf_aload_n (mf_dat eX5_askAfter 0 rfl) rfl rfl ?_
  refine mf_aload_n (mf_dat eX5_askAfter 1 rfl) rfl rfl ?_
  refine mf_aload_n (mf_dat eX5_askAfter 2 rfl) rfl rfl ?_
  refine mf_callV (Yc := YX5_findOpenings) (r := (RX5, TX5, 12)) (ci := 5) (mf_dat eX5_askAfter 3 rfl) ml_X5_147 okX5_findOpenings im_X5_findOpenings sl_X5_findOpenings rfl rfl rfl rfl (Nat.le_of_ble_eq_true rfl) (mf_rr (Nat.le_trans (by decide) hd) (Nat.le_refl _)) (Nat.le_refl _) is51 (hyp hG) (fun r1 g2 h3 hyp => ?_)
  obtain ⟨hG, hyp⟩ := hyp
  refine mf_istore (mf_dat eX5_askAfter 4 rfl) (by decide) ?_
  refine mf_iload (mf_dat eX5_askAfter 5 rfl) rfl ?_
  refine mf_if_ne (tgt := 15) (mf_dat eX5_askAfter 6 rfl) (by decide) (fun hc => ?_) (fun hc => ?_)
  · replace hyp := hyp.1 hc
    refine mf_iconst (v := (-1)) (mf_dat eX5_askAfter 9 rfl) (by decide) ?_
    refine mf_istore (mf_dat eX5_askAfter 10 rfl) (by decide) ?_
    refine mf_iconst (v := (-1)) (mf_dat eX5_askAfter 11 rfl) (by decide) ?_
    refine mf_istore (mf_dat eX5_askAfter 12 rfl) (by decide) ?_
    refine mf_iconst (v := 0) (mf_dat eX5_askAfter 13 rfl) (by decide) ?_
    refine mf_istore (mf_dat eX5_askAfter 14 rfl) (by decide) ?_
    exact mf_sub [4, 5, 7, 3, 2, 1, 0] rfl (hyp hG)
  · replace hyp := hyp.2 hc
    refine mf_iconst (v := (-1)) (mf_dat eX5_askAfter 7 rfl) (by decide) ?_
    exact mf_ireturn (mf_dat eX5_askAfter 8 rfl) rfl (Or.inl rfl) ⟨hG, hyp⟩
abbrev BX5_mostLeft_6 (C : mf_G) (l : Launch) (d : Nat) (K : mf_Kt) (x1 x2 x3 x4 x5 : Int) (g h : mf_M) : Prop := jX C l d YX5_mostLeft K 6 [(0, (2, 51)), (1, (2, x1)), (2, (0, x2)), (3, (0, x3)), (4, (0, x4)), (5, (0, x5))] [] g h
abbrev BX5_mostLeft_21 (C : mf_G) (l : Launch) (d : Nat) (K : mf_Kt) (x1 x2 x3 x4 x5 x6 x7 : Int) (g h : mf_M) : Prop := jX C l d YX5_mostLeft K 21 [(0, (2, 51)), (1, (2, x1)), (2, (0, x2)), (3, (0, x3)), (4, (0, x4)), (5, (0, x5)), (6, (0, x6)), (7, (0, x7))] [] g h
set_option maxRecDepth 100000 in
set_option maxHeartbeats 4000000 in
theorem vX5_mostLeft_6 {C : mf_G} {l : Launch} {d : Nat} {K : mf_Kt} {x1 x2 x3 x4 x5 : Int} {g h : mf_M} (hyp : mf_is 319 x1 1 ∧ ((h x1 9 ≤ x5 → K x4 g h) ∧ (¬ h x1 9 ≤ x5 → BX5_mostLeft_21 C l d K x1 x2 x3 x4 x5 0 0 g h))) : BX5_mostLeft_6 C l d K x1 x2 x3 x4 x5 g h := by
  intro hG
  refine mf_iload (mf_dat eX5_mostLeft 4 rfl) rfl ?_
  refine mf_aload_n (mf_dat eX5_mostLeft 5 rfl) rfl rfl ?_
  obtain ⟨ck1, hyp⟩ := hyp
  refine mf_getf (r := (RX1, TX1, 14)) (ci := 1) (k := 9) (t := 0) (v := h x1 9) (mf_dat eX5_mostLeft 6 rfl) fl_X5_119 rfl (by decide) rfl rfl ck1 ?_
  refine mf_icmp_ge (tgt := 81) (mf_dat eX5_mostLeft 7 rfl) (by decide) (fun hc => ?_) (fun hc => ?_)
  · replace hyp := hyp.1 hc
    refine mf_iload (mf_dat eX5_mostLeft 42 rfl) rfl ?_
    exact mf_ireturn (mf_dat eX5_mostLeft 43 rfl) rfl (Or.inl rfl) ⟨hG, hyp⟩
  · replace hyp := hyp.2 hc
    refine mf_iconst (v := 0) (mf_dat eX5_mostLeft 8 rfl) (by decide) ?_
    refine mf_istore (mf_dat eX5_mostLeft 9 rfl) (by decide) ?_
    refine mf_iconst (v := 0) (mf_dat eX5_mostLeft 10 rfl) (by decide) ?_
    refine mf_istore (mf_dat eX5_mostLeft 11 rfl) (by decide) ?_
    exact mf_sub [2, 3, 4, 5, 6, 7, 1, 0] rfl (hyp hG)
set_option maxRecDepth 100000 in
set_option maxHeartbeats 4000000 in
theorem vX5_mostLeft_21 {C : mf_G} {l : Launch} {d : Nat} {K : mf_Kt} {x1 x2 x3 x4 x5 x6 x7 : Int} {g h : mf_M} (hd : 1 ≤ d) (hyp : mf_is 319 x1 1 ∧ ((h x1 8 < x7 → xM C l 0 YJ9_max_7cf53 [(0, x4), (0, x6)] g h (fun r2 g3 h4 => (∀ v5 : Int, v5 = mf_w32 (x5 + 1) → BX5_mostLeft_6 C l d K x1 x2 x3 r2 v5 g3 h4))) ∧ (¬ h x1 8 < x7 → ((¬ mf_and (mf_shr x3 x7) 1 = 1 → (∀ v6 : Int, v6 = mf_w32 (x7 + 1) → BX5_mostLeft_21 C l d K x1 x2 x3 x4 x5 x6 v6 g h)) ∧ (mf_and (mf_shr x3 x7) 1 = 1 → 0 ≤ mf_w32 ((mf_w32 (x7 * 8)) + x2) ∧ mf_w32 ((mf_w32 (x7 * 8)) + x2) < 56 ∧ ((¬ h 64 (mf_w32 ((mf_w32 (x7 * 8)) + x2)) = x5 → (∀ v9 : Int, v9 = mf_w32 (x7 + 1) → BX5_mostLeft_21 C l d K x1 x2 x3 x4 x5 x6 v9 g h)) ∧ (h 64 (mf_w32 ((mf_w32 (x7 * 8)) + x2)) = x5 → (∀ v10 : Int, v10 = mf_w32 (x6 + 1) → (∀ v11 : Int, v11 = mf_w32 (x7 + 1) → BX5_mostLeft_21 C l d K x1 x2 x3 x4 x5 v10 v11 g h))))))))) : BX5_mostLeft_21 C l d K x1 x2 x3 x4 x5 x6 x7 g h := by
  intro hG
  refine mf_iload (mf_dat eX5_mostLeft 12 rfl) rfl ?_
  refine mf_aload_n (mf_dat eX5_mostLeft 13 rfl) rfl rfl ?_
  obtain ⟨ck1, hyp⟩ := hyp
  refine mf_getf (r := (RX1, TX1, 14)) (ci := 1) (k := 8) (t := 0) (v := h x1 8) (mf_dat eX5_mostLeft 14 rfl) fl_X5_54 rfl (by decide) rfl rfl ck1 ?_
  refine mf_icmp_gt (tgt := 66) (mf_dat eX5_mostLeft 15 rfl) (by decide) (fun hc => ?_) (fun hc => ?_)
  · replace hyp := hyp.1 hc
    refine mf_iload (mf_dat eX5_mostLeft 36 rfl) rfl ?_
    refine mf_iload (mf_dat eX5_mostLeft 37 rfl) rfl ?_
    refine mf_callS (Yc := YJ9_max_7cf53) (mf_dat eX5_mostLeft 38 rfl) ml_X5_155 okJ9_max_7cf53 sm_J9_max_7cf53 rfl rfl (Nat.le_of_ble_eq_true rfl) (mf_rr (Nat.le_trans (by decide) hd) (Nat.le_refl _)) (Nat.le_refl _) (hyp hG) (fun r2 g3 h4 hyp => ?_)
    obtain ⟨hG, hyp⟩ := hyp
    refine mf_istore (mf_dat eX5_mostLeft 39 rfl) (by decide) ?_
    refine mf_iinc (mf_dat eX5_mostLeft 40 rfl) rfl (by decide) (by decide) ?_
    generalize qv5 : mf_w32 (x5 + 1) = v5
    replace hyp := hyp _ qv5.symm
    refine mf_goto (tgt := 6) (mf_dat eX5_mostLeft 41 rfl) (by decide) ?_
    exact mf_sub [2, 3, 4, 5, 1, 0] rfl (hyp hG)
  · replace hyp := hyp.2 hc
    refine mf_iload_n (mf_dat eX5_mostLeft 16 rfl) rfl rfl ?_
    refine mf_iload (mf_dat eX5_mostLeft 17 rfl) rfl ?_
    refine mf_ishr (mf_dat eX5_mostLeft 18 rfl) ?_
    refine mf_iconst (v := 1) (mf_dat eX5_mostLeft 19 rfl) (by decide) ?_
    refine mf_iand (mf_dat eX5_mostLeft 20 rfl) ?_
    refine mf_iconst (v := 1) (mf_dat eX5_mostLeft 21 rfl) (by decide) ?_
    refine mf_icmp_ne (tgt := 60) (mf_dat eX5_mostLeft 22 rfl) (by decide) (fun hc => ?_) (fun hc => ?_)
    · replace hyp := hyp.1 hc
      refine mf_iinc (mf_dat eX5_mostLeft 34 rfl) rfl (by decide) (by decide) ?_
      generalize qv6 : mf_w32 (x7 + 1) = v6
      replace hyp := hyp _ qv6.symm
      refine mf_goto (tgt := 21) (mf_dat eX5_mostLeft 35 rfl) (by decide) ?_
      exact mf_sub [1, 2, 3, 4, 5, 6, 7, 0] rfl (hyp hG)
    · replace hyp := hyp.2 hc
      refine mf_aload_n (mf_dat eX5_mostLeft 23 rfl) rfl rfl ?_
      refine mf_getf (r := (RX5, TX5, 12)) (ci := 5) (k := 7) (t := 2) (v := 64) (mf_dat eX5_mostLeft 24 rfl) fl_X5_35 rfl (by decide) rfl (gx_51_7 hG) is51 ?_
      refine mf_iload (mf_dat eX5_mostLeft 25 rfl) rfl ?_
      refine mf_bipush (v := 8) (mf_dat eX5_mostLeft 26 rfl) (by decide) ?_
      refine mf_imul (mf_dat eX5_mostLeft 27 rfl) ?_
      refine mf_iload_n (mf_dat eX5_mostLeft 28 rfl) rfl rfl ?_
      refine mf_iadd (mf_dat eX5_mostLeft 29 rfl) ?_
      obtain ⟨ck7, hyp⟩ := hyp
      obtain ⟨ck8, hyp⟩ := hyp
      refine mf_iald (mf_dat eX5_mostLeft 30 rfl) is64 len64 ck7 ck8 ?_
      refine mf_iload (mf_dat eX5_mostLeft 31 rfl) rfl ?_
      refine mf_icmp_ne (tgt := 60) (mf_dat eX5_mostLeft 32 rfl) (by decide) (fun hc => ?_) (fun hc => ?_)
      · replace hyp := hyp.1 hc
        refine mf_iinc (mf_dat eX5_mostLeft 34 rfl) rfl (by decide) (by decide) ?_
        generalize qv9 : mf_w32 (x7 + 1) = v9
        replace hyp := hyp _ qv9.symm
        refine mf_goto (tgt := 21) (mf_dat eX5_mostLeft 35 rfl) (by decide) ?_
        exact mf_sub [1, 2, 3, 4, 5, 6, 7, 0] rfl (hyp hG)
      · replace hyp := hyp.2 hc
        refine mf_iinc (mf_dat eX5_mostLeft 33 rfl) rfl (by decide) (by decide) ?_
        generalize qv10 : mf_w32 (x6 + 1) = v10
        replace hyp := hyp _ qv10.symm
        refine mf_iinc (mf_dat eX5_mostLeft 34 rfl) rfl (by decide) (by decide) ?_
        generalize qv11 : mf_w32 (x7 + 1) = v11
        replace hyp := hyp _ qv11.symm
        refine mf_goto (tgt := 21) (mf_dat eX5_mostLeft 35 rfl) (by decide) ?_
        exact mf_sub [2, 3, 4, 5, 6, 7, 1, 0] rfl (hyp hG)
set_option maxRecDepth 100000 in
set_option maxHeartbeats 4000000 in
theorem wX5_mostLeft {C : mf_G} {l : Launch} {d : Nat} {K : mf_Kt} {x1 x2 x3 : Int} {g h : mf_M} (hyp : BX5_mostLeft_6 C l d K x1 x2 x3 0 0 g h) : xM C l d YX5_mostLeft [(2, 51), (2, x1), (0, x2), (0, x3)] g h K := by
  intro hG
  refine mf_entry (by decide) (Nat.le_of_ble_eq_true rfl) ?_
  refine mf_iconst (v := 0) (mf_dat eX5_mostLeft 0 rfl) (by decide) ?_
  refine mf_istore (mf_dat eX5_mostLeft 1 rfl) (by decide) ?_
  refine mf_iconst (v := 0) (mf_dat eX5_mostLeft 2 rfl) (by decide) ?_
  refine mf_istore (mf_dat eX5_mostLeft 3 rfl) (by decide) ?_
  exact mf_sub [2, 3, 4, 5, 1, 0] rfl (hyp hG)
abbrev BX5_findTrim_22 (C : mf_G) (l : Launch) (d : Nat) (K : mf_Kt) (x1 x2 x3 x6 x7 x8 : Int) (g h : mf_M) : Prop := jX C l d YX5_findTrim K 22 [(1, (2, x1)), (2, (2, x2)), (3, (0, x3)), (6, (0, x6)), (7, (0, x7)), (8, (0, x8))] [] g h
abbrev BX5_findTrim_46 (C : mf_G) (l : Launch) (d : Nat) (K : mf_Kt) (x1 x2 x3 x6 x7 x8 : Int) (g h : mf_M) : Prop := jX C l d YX5_findTrim K 46 [(1, (2, x1)), (2, (2, x2)), (3, (0, x3)), (6, (0, x6)), (7, (0, x7)), (8, (0, x8))] [] g h
set_option maxRecDepth 100000 in
set_option maxHeartbeats 4000000 in
theorem vX5_findTrim_22 {C : mf_G} {l : Launch} {d : Nat} {K : mf_Kt} {x1 x2 x3 x6 x7 x8 : Int} {g h : mf_M} (hd : 1 ≤ d) (hyp : mf_is 319 x1 1 ∧ ((h x1 9 ≤ x8 → K x7 g h) ∧ (¬ h x1 9 ≤ x8 → mf_is 319 x2 6 ∧ xM C l 0 YX6_whoStands [(2, x2), (0, x3), (0, x8), (0, h x1 12)] g h (fun r2 g3 h4 => ((r2 = (-1) → (∀ v6 : Int, v6 = mf_w32 (x8 + 1) → BX5_findTrim_22 C l d K x1 x2 x3 x6 x7 v6 g3 h4)) ∧ (¬ r2 = (-1) → BX5_findTrim_46 C l d K x1 x2 x3 x6 x7 x8 g3 h4)))))) : BX5_findTrim_22 C l d K x1 x2 x3 x6 x7 x8 g h := by
  intro hG
  refine mf_iload (mf_dat eX5_findTrim 13 rfl) rfl ?_
  refine mf_aload_n (mf_dat eX5_findTrim 14 rfl) rfl rfl ?_
  obtain ⟨ck1, hyp⟩ := hyp
  refine mf_getf (r := (RX1, TX1, 14)) (ci := 1) (k := 9) (t := 0) (v := h x1 9) (mf_dat eX5_findTrim 15 rfl) fl_X5_119 rfl (by decide) rfl rfl ck1 ?_
  refine mf_icmp_ge (tgt := 97) (mf_dat eX5_findTrim 16 rfl) (by decide) (fun hc => ?_) (fun hc => ?_)
  · replace hyp := hyp.1 hc
    refine mf_iload (mf_dat eX5_findTrim 49 rfl) rfl ?_
    exact mf_ireturn (mf_dat eX5_findTrim 50 rfl) rfl (Or.inl rfl) ⟨hG, hyp⟩
  · replace hyp := hyp.2 hc
    refine mf_aload_n (mf_dat eX5_findTrim 17 rfl) rfl rfl ?_
    refine mf_iload_n (mf_dat eX5_findTrim 18 rfl) rfl rfl ?_
    refine mf_iload (mf_dat eX5_findTrim 19 rfl) rfl ?_
    refine mf_aload_n (mf_dat eX5_findTrim 20 rfl) rfl rfl ?_
    refine mf_getf (r := (RX1, TX1, 14)) (ci := 1) (k := 12) (t := 0) (v := h x1 12) (mf_dat eX5_findTrim 21 rfl) fl_X5_137 rfl (by decide) rfl rfl ck1 ?_
    obtain ⟨ck5, hyp⟩ := hyp
    refine mf_callV (Yc := YX6_whoStands) (r := (RX6, TX6, 8)) (ci := 6) (mf_dat eX5_findTrim 22 rfl) ml_X5_161 okX6_whoStands im_X6_whoStands sl_X6_whoStands rfl rfl rfl rfl (Nat.le_of_ble_eq_true rfl) (mf_rr (Nat.le_trans (by decide) hd) (Nat.le_refl _)) (Nat.le_refl _) ck5 (hyp hG) (fun r2 g3 h4 hyp => ?_)
    obtain ⟨hG, hyp⟩ := hyp
    refine mf_iconst (v := (-1)) (mf_dat eX5_findTrim 23 rfl) (by decide) ?_
    refine mf_icmp_eq (tgt := 91) (mf_dat eX5_findTrim 24 rfl) (by decide) (fun hc => ?_) (fun hc => ?_)
    · replace hyp := hyp.1 hc
      refine mf_iinc (mf_dat eX5_findTrim 47 rfl) rfl (by decide) (by decide) ?_
      generalize qv6 : mf_w32 (x8 + 1) = v6
      replace hyp := hyp _ qv6.symm
      refine mf_goto (tgt := 22) (mf_dat eX5_findTrim 48 rfl) (by decide) ?_
      exact mf_sub [1, 2, 3, 4, 5, 0] rfl (hyp hG)
    · replace hyp := hyp.2 hc
      exact mf_sub [0, 1, 2, 3, 4, 5] rfl (hyp hG)
set_option maxRecDepth 100000 in
set_option maxHeartbeats 4000000 in
theorem vX5_findTrim_46 {C : mf_G} {l : Launch} {d : Nat} {K : mf_Kt} {x1 x2 x3 x6 x7 x8 : Int} {g h : mf_M} (hd : 2 ≤ d) (hyp : ((x6 < 0 → ((0 ≤ x6 → (∀ v1 : Int, v1 = mf_w32 (x7 + (mf_w32 (x8 - x6))) → (∀ v2 : Int, v2 = mf_w32 (x6 + (-1)) → (∀ v3 : Int, v3 = mf_w32 (x8 + 1) → BX5_findTrim_22 C l d K x1 x2 x3 v2 v1 v3 g h)))) ∧ (¬ 0 ≤ x6 → K (-1) g h))) ∧ (¬ x6 < 0 → mf_is 319 x1 1 ∧ mf_is 319 x2 6 ∧ xM C l 1 YX6_isFree [(2, x2), (0, x3), (0, x6), (0, h x1 12)] g h (fun r5 g6 h7 => ((¬ r5 = 0 → ((0 ≤ x6 → (∀ v9 : Int, v9 = mf_w32 (x7 + (mf_w32 (x8 - x6))) → (∀ v10 : Int, v10 = mf_w32 (x6 + (-1)) → (∀ v11 : Int, v11 = mf_w32 (x8 + 1) → BX5_findTrim_22 C l d K x1 x2 x3 v10 v9 v11 g6 h7)))) ∧ (¬ 0 ≤ x6 → K (-1) g6 h7))) ∧ (r5 = 0 → (∀ v12 : Int, v12 = mf_w32 (x6 + (-1)) → BX5_findTrim_46 C l d K x1 x2 x3 v12 x7 x8 g6 h7))))))) : BX5_findTrim_46 C l d K x1 x2 x3 x6 x7 x8 g h := by
  intro hG
  refine mf_iload (mf_dat eX5_findTrim 25 rfl) rfl ?_
  refine mf_if_lt (tgt := 71) (mf_dat eX5_findTrim 26 rfl) (by decide) (fun hc => ?_) (fun hc => ?_)
  · replace hyp := hyp.1 hc
    refine mf_iload (mf_dat eX5_findTrim 36 rfl) rfl ?_
    refine mf_if_ge (tgt := 78) (mf_dat eX5_findTrim 37 rfl) (by decide) (fun hc => ?_) (fun hc => ?_)
    · replace hyp := hyp.1 hc
      refine mf_iload (mf_dat eX5_findTrim 40 rfl) rfl ?_
      refine mf_iload (mf_dat eX5_findTrim 41 rfl) rfl ?_
      refine mf_iload (mf_dat eX5_findTrim 42 rfl) rfl ?_
      refine mf_isub (mf_dat eX5_findTrim 43 rfl) ?_
      refine mf_iadd (mf_dat eX5_findTrim 44 rfl) ?_
      generalize qv1 : mf_w32 (x7 + (mf_w32 (x8 - x6))) = v1
      replace hyp := hyp _ qv1.symm
      refine mf_istore (mf_dat eX5_findTrim 45 rfl) (by decide) ?_
      refine mf_iinc (mf_dat eX5_findTrim 46 rfl) rfl (by decide) (by decide) ?_
      generalize qv2 : mf_w32 (x6 + (-1)) = v2
      replace hyp := hyp _ qv2.symm
      refine mf_iinc (mf_dat eX5_findTrim 47 rfl) rfl (by decide) (by decide) ?_
      generalize qv3 : mf_w32 (x8 + 1) = v3
      replace hyp := hyp _ qv3.symm
      refine mf_goto (tgt := 22) (mf_dat eX5_findTrim 48 rfl) (by decide) ?_
      exact mf_sub [3, 4, 5, 1, 2, 0] rfl (hyp hG)
    · replace hyp := hyp.2 hc
      refine mf_iconst (v := (-1)) (mf_dat eX5_findTrim 38 rfl) (by decide) ?_
      exact mf_ireturn (mf_dat eX5_findTrim 39 rfl) rfl (Or.inl rfl) ⟨hG, hyp⟩
  · replace hyp := hyp.2 hc
    refine mf_aload_n (mf_dat eX5_findTrim 27 rfl) rfl rfl ?_
    refine mf_iload_n (mf_dat eX5_findTrim 28 rfl) rfl rfl ?_
    refine mf_iload (mf_dat eX5_findTrim 29 rfl) rfl ?_
    refine mf_aload_n (mf_dat eX5_findTrim 30 rfl) rfl rfl ?_
    obtain ⟨ck4, hyp⟩ := hyp
    refine mf_getf (r := (RX1, TX1, 14)) (ci := 1) (k := 12) (t := 0) (v := h x1 12) (mf_dat eX5_findTrim 31 rfl) fl_X5_137 rfl (by decide) rfl rfl ck4 ?_
    obtain ⟨ck8, hyp⟩ := hyp
    refine mf_callV (Yc := YX6_isFree) (r := (RX6, TX6, 8)) (ci := 6) (mf_dat eX5_findTrim 32 rfl) ml_X5_165 okX6_isFree im_X6_isFree sl_X6_isFree rfl rfl rfl rfl (Nat.le_of_ble_eq_true rfl) (mf_rr (Nat.le_trans (by decide) hd) (Nat.le_refl _)) (Nat.le_refl _) ck8 (hyp hG) (fun r5 g6 h7 hyp => ?_)
    obtain ⟨hG, hyp⟩ := hyp
    refine mf_if_ne (tgt := 71) (mf_dat eX5_findTrim 33 rfl) (by decide) (fun hc => ?_) (fun hc => ?_)
    · replace hyp := hyp.1 hc
      refine mf_iload (mf_dat eX5_findTrim 36 rfl) rfl ?_
      refine mf_if_ge (tgt := 78) (mf_dat eX5_findTrim 37 rfl) (by decide) (fun hc => ?_) (fun hc => ?_)
      · replace hyp := hyp.1 hc
        refine mf_iload (mf_dat eX5_findTrim 40 rfl) rfl ?_
        refine mf_iload (mf_dat eX5_findTrim 41 rfl) rfl ?_
        refine mf_iload (mf_dat eX5_findTrim 42 rfl) rfl ?_
        refine mf_isub (mf_dat eX5_findTrim 43 rfl) ?_
        refine mf_iadd (mf_dat eX5_findTrim 44 rfl) ?_
        generalize qv9 : mf_w32 (x7 + (mf_w32 (x8 - x6))) = v9
        replace hyp := hyp _ qv9.symm
        refine mf_istore (mf_dat eX5_findTrim 45 rfl) (by decide) ?_
        refine mf_iinc (mf_dat eX5_findTrim 46 rfl) rfl (by decide) (by decide) ?_
        generalize qv10 : mf_w32 (x6 + (-1)) = v10
        replace hyp := hyp _ qv10.symm
        refine mf_iinc (mf_dat eX5_findTrim 47 rfl) rfl (by decide) (by decide) ?_
        generalize qv11 : mf_w32 (x8 + 1) = v11
        replace hyp := hyp _ qv11.symm
        refine mf_goto (tgt := 22) (mf_dat eX5_findTrim 48 rfl) (by decide) ?_
        exact mf_sub [3, 4, 5, 1, 2, 0] rfl (hyp hG)
      · replace hyp := hyp.2 hc
        refine mf_iconst (v := (-1)) (mf_dat eX5_findTrim 38 rfl) (by decide) ?_
        exact mf_ireturn (mf_dat eX5_findTrim 39 rfl) rfl (Or.inl rfl) ⟨hG, hyp⟩
    · replace hyp := hyp.2 hc
      refine mf_iinc (mf_dat eX5_findTrim 34 rfl) rfl (by decide) (by decide) ?_
      generalize qv12 : mf_w32 (x6 + (-1)) = v12
      replace hyp := hyp _ qv12.symm
      refine mf_goto (tgt := 46) (mf_dat eX5_findTrim 35 rfl) (by decide) ?_
      exact mf_sub [1, 2, 3, 0, 4, 5] rfl (hyp hG)
set_option maxRecDepth 100000 in
set_option maxHeartbeats 4000000 in
theorem wX5_findTrim {C : mf_G} {l : Launch} {d : Nat} {K : mf_Kt} {x1 x2 x3 x4 : Int} {g h : mf_M} (hyp : mf_is 319 x1 1 ∧ (∀ v2 : Int, v2 = mf_w32 ((h x1 9) - x4) → (∀ v3 : Int, v3 = mf_w32 (v2 - 1) → BX5_findTrim_22 C l d K x1 x2 x3 v3 0 v2 g h))) : xM C l d YX5_findTrim [(2, 51), (2, x1), (2, x2), (0, x3), (0, x4)] g h K := by
  intro hG
  refine mf_entry (by decide) (Nat.le_of_ble_eq_true rfl) ?_
  refine mf_aload_n (mf_dat eX5_findTrim 0 rfl) rfl rfl ?_
  obtain ⟨ck1, hyp⟩ := hyp
  refine mf_getf (r := (RX1, TX1, 14)) (ci := 1) (k := 9) (t := 0) (v := h x1 9) (mf_dat eX5_findTrim 1 rfl) fl_X5_119 rfl (by decide) rfl rfl ck1 ?_
  refine mf_iload (mf_dat eX5_findTrim 2 rfl) rfl ?_
  refine mf_isub (mf_dat eX5_findTrim 3 rfl) ?_
  generalize qv2 : mf_w32 ((h x1 9) - x4) = v2
  replace hyp := hyp _ qv2.symm
  refine mf_istore (mf_dat eX5_findTrim 4 rfl) (by decide) ?_
  refine mf_iload (mf_dat eX5_findTrim 5 rfl) rfl ?_
  refine mf_iconst (v := 1) (mf_dat eX5_findTrim 6 rfl) (by decide) ?_
  refine mf_isub (mf_dat eX5_findTrim 7 rfl) ?_
  generalize qv3 : mf_w32 (v2 - 1) = v3
  replace hyp := hyp _ qv3.symm
  refine mf_istore (mf_dat eX5_findTrim 8 rfl) (by decide) ?_
  refine mf_iconst (v := 0) (mf_dat eX5_findTrim 9 rfl) (by decide) ?_
  refine mf_istore (mf_dat eX5_findTrim 10 rfl) (by decide) ?_
  refine mf_iload (mf_dat eX5_findTrim 11 rfl) rfl ?_
  refine mf_istore (mf_dat eX5_findTrim 12 rfl) (by decide) ?_
  exact mf_sub [5, 6, 7, 2, 1, 0] rfl (hyp hG)
abbrev BX6_forget_12 (C : mf_G) (l : Launch) (d : Nat) (K : mf_Kt) (x0 x1 : Int) (g h : mf_M) : Prop := jX C l d YX6_forget K 12 [(0, (2, x0)), (1, (0, x1))] [] g h
set_option maxRecDepth 100000 in
set_option maxHeartbeats 4000000 in
theorem vX6_forget_12 {C : mf_G} {l : Launch} {d : Nat} {K : mf_Kt} {x0 x1 : Int} {g h : mf_M} (hyp : mf_is 319 x0 6 ∧ ((6 ≤ x1 → K 0 g h) ∧ (¬ 6 ≤ x1 → 0 ≤ x1 ∧ x1 < 6 ∧ (∀ h4 : mf_M, h4 = mf_up h (x0 + 1) x1 0 → (∀ v5 : Int, v5 = mf_w32 (x1 + 1) → BX6_forget_12 C l d K x0 v5 g h4))))) : BX6_forget_12 C l d K x0 x1 g h := by
  intro hG
  refine mf_iload_n (mf_dat eX6_forget 8 rfl) rfl rfl ?_
  refine mf_aload_n (mf_dat eX6_forget 9 rfl) rfl rfl ?_
  obtain ⟨ck1, hyp⟩ := hyp
  refine mf_getf (r := (RX6, TX6, 8)) (ci := 6) (k := 0) (t := 2) (v := x0 + 1) (mf_dat eX6_forget 10 rfl) fl_X6_9 rfl (by decide) rfl (gs_0 hG ck1) ck1 ?_
  refine mf_alen (c := 20) (i := 0) (ty := .int) (v := 6) (mf_dat eX6_forget 11 rfl) (by decide) rfl (st_is0 ck1) (st_len0 ck1) (mf_len_small _) ?_
  refine mf_icmp_ge (tgt := 34) (mf_dat eX6_forget 12 rfl) (by decide) (fun hc => ?_) (fun hc => ?_)
  · replace hyp := hyp.1 hc
    exact mf_return (mf_dat eX6_forget 20 rfl) rfl ⟨hG, hyp⟩
  · replace hyp := hyp.2 hc
    refine mf_aload_n (mf_dat eX6_forget 13 rfl) rfl rfl ?_
    refine mf_getf (r := (RX6, TX6, 8)) (ci := 6) (k := 0) (t := 2) (v := x0 + 1) (mf_dat eX6_forget 14 rfl) fl_X6_9 rfl (by decide) rfl (gs_0 hG ck1) ck1 ?_
    refine mf_iload_n (mf_dat eX6_forget 15 rfl) rfl rfl ?_
    refine mf_iconst (v := 0) (mf_dat eX6_forget 16 rfl) (by decide) ?_
    obtain ⟨ck2, hyp⟩ := hyp
    obtain ⟨ck3, hyp⟩ := hyp
    refine mf_iast (mf_dat eX6_forget 17 rfl) (st_is0 ck1) (st_len0 ck1) ck2 ck3 ?_
    generalize qh4 : mf_up h (x0 + 1) x1 0 = h4
    replace hyp := hyp _ qh4.symm
    refine mf_iinc (mf_dat eX6_forget 18 rfl) rfl (by decide) (by decide) ?_
    generalize qv5 : mf_w32 (x1 + 1) = v5
    replace hyp := hyp _ qv5.symm
    refine mf_goto (tgt := 12) (mf_dat eX6_forget 19 rfl) (by decide) ?_
    exact mf_sub [1, 0] rfl (hyp hG)
set_option maxRecDepth 100000 in
set_option maxHeartbeats 4000000 in
theorem wX6_forget {C : mf_G} {l : Launch} {d : Nat} {K : mf_Kt} {x0 : Int} {g h : mf_M} (hyp : mf_is 319 x0 6 ∧ (∀ h2 : mf_M, h2 = mf_up h x0 7 0 → (∀ h3 : mf_M, h3 = mf_up h2 x0 6 0 → BX6_forget_12 C l d K x0 0 g h3))) : xM C l d YX6_forget [(2, x0)] g h K := by
  intro hG
  refine mf_entry (by decide) (Nat.le_of_ble_eq_true rfl) ?_
  refine mf_aload_n (mf_dat eX6_forget 0 rfl) rfl rfl ?_
  refine mf_iconst (v := 0) (mf_dat eX6_forget 1 rfl) (by decide) ?_
  obtain ⟨ck1, hyp⟩ := hyp
  refine mf_putI (r := (RX6, TX6, 8)) (ci := 6) (k := 7) (kI := 7) (t := 0) (mf_dat eX6_forget 2 rfl) fl_X6_30 rfl rfl (by decide) rfl (by decide) rfl (by decide) (fun h9 => absurd h9 (by decide)) ck1 ?_
  generalize qh2 : mf_up h x0 7 0 = h2
  replace hyp := hyp _ qh2.symm
  refine mf_aload_n (mf_dat eX6_forget 3 rfl) rfl rfl ?_
  refine mf_iconst (v := 0) (mf_dat eX6_forget 4 rfl) (by decide) ?_
  refine mf_putI (r := (RX6, TX6, 8)) (ci := 6) (k := 6) (kI := 6) (t := 0) (mf_dat eX6_forget 5 rfl) fl_X6_34 rfl rfl (by decide) rfl (by decide) rfl (by decide) (fun h9 => absurd h9 (by decide)) ck1 ?_
  generalize qh3 : mf_up h2 x0 6 0 = h3
  replace hyp := hyp _ qh3.symm
  refine mf_iconst (v := 0) (mf_dat eX6_forget 6 rfl) (by decide) ?_
  refine mf_istore_n (mf_dat eX6_forget 7 rfl) rfl (by decide) ?_
  exact mf_sub [1, 0] rfl (hyp hG)
set_option maxRecDepth 100000 in
set_option maxHeartbeats 4000000 in
theorem wX6_copyAll {C : mf_G} {l : Launch} {d : Nat} {K : mf_Kt} {x0 x1 : Int} {g h : mf_M} (hd : 2 ≤ d) (hyp : mf_is 319 x0 6 ∧ xM C l 1 YX6_copyFolk [(2, x0), (2, x1)] g h (fun r1 g2 h3 => mf_is 319 x1 6 ∧ (∀ h6 : mf_M, h6 = mf_cpy h3 (x1 + 6) (x0 + 6) 0 0 40 → (∀ h7 : mf_M, h7 = mf_up h6 x0 6 (h6 x1 6) → K 0 g2 h7)))) : xM C l d YX6_copyAll [(2, x0), (2, x1)] g h K := by
  intro hG
  refine mf_entry (by decide) (Nat.le_of_ble_eq_true rfl) ?_
  refine mf_aload_n (mf_dat eX6_copyAll 0 rfl) rfl rfl ?_
  refine mf_aload_n (mf_dat eX6_copyAll 1 rfl) rfl rfl ?_
  obtain ⟨ck4, hyp⟩ := hyp
  refine mf_callV (Yc := YX6_copyFolk) (r := (RX6, TX6, 8)) (ci := 6) (mf_dat eX6_copyAll 2 rfl) ml_X6_37 okX6_copyFolk im_X6_copyFolk sl_X6_copyFolk rfl rfl rfl rfl (Nat.le_of_ble_eq_true rfl) (mf_rr (Nat.le_trans (by decide) hd) (Nat.le_refl _)) (Nat.le_refl _) ck4 (hyp hG) (fun r1 g2 h3 hyp => ?_)
  obtain ⟨hG, hyp⟩ := hyp
  refine mf_aload_n (mf_dat eX6_copyAll 3 rfl) rfl rfl ?_
  obtain ⟨ck5, hyp⟩ := hyp
  refine mf_getf (r := (RX6, TX6, 8)) (ci := 6) (k := 5) (t := 2) (v := x1 + 6) (mf_dat eX6_copyAll 4 rfl) fl_X6_27 rfl (by decide) rfl (gs_5 hG ck5) ck5 ?_
  refine mf_iconst (v := 0) (mf_dat eX6_copyAll 5 rfl) (by decide) ?_
  refine mf_aload_n (mf_dat eX6_copyAll 6 rfl) rfl rfl ?_
  refine mf_getf (r := (RX6, TX6, 8)) (ci := 6) (k := 5) (t := 2) (v := x0 + 6) (mf_dat eX6_copyAll 7 rfl) fl_X6_27 rfl (by decide) rfl (gs_5 hG ck4) ck4 ?_
  refine mf_iconst (v := 0) (mf_dat eX6_copyAll 8 rfl) (by decide) ?_
  refine mf_bipush (v := 40) (mf_dat eX6_copyAll 9 rfl) (by decide) ?_
  refine mf_acopy (mf_dat eX6_copyAll 10 rfl) ml_X6_41 na_copy st_copy ii_System (st_is5 ck5) (st_is5 ck4) (st_len5 ck5) (st_len5 ck4) (by decide) (by decide) (by decide) (by decide) (by decide) (mf_rmf hd) (mf_rml hd (Nat.le_of_ble_eq_true rfl)) ?_
  generalize qh6 : mf_cpy h3 (x1 + 6) (x0 + 6) 0 0 40 = h6
  replace hyp := hyp _ qh6.symm
  refine mf_aload_n (mf_dat eX6_copyAll 11 rfl) rfl rfl ?_
  refine mf_aload_n (mf_dat eX6_copyAll 12 rfl) rfl rfl ?_
  refine mf_getf (r := (RX6, TX6, 8)) (ci := 6) (k := 6) (t := 0) (v := h6 x1 6) (mf_dat eX6_copyAll 13 rfl) fl_X6_34 rfl (by decide) rfl rfl ck5 ?_
  refine mf_putI (r := (RX6, TX6, 8)) (ci := 6) (k := 6) (kI := 6) (t := 0) (mf_dat eX6_copyAll 14 rfl) fl_X6_34 rfl rfl (by decide) rfl (by decide) rfl (by decide) (fun h9 => absurd h9 (by decide)) ck4 ?_
  generalize qh7 : mf_up h6 x0 6 (h6 x1 6) = h7
  replace hyp := hyp _ qh7.symm
  exact mf_return (mf_dat eX6_copyAll 15 rfl) rfl ⟨hG, hyp⟩
set_option maxRecDepth 100000 in
set_option maxHeartbeats 4000000 in
theorem wX6_copyFolk {C : mf_G} {l : Launch} {d : Nat} {K : mf_Kt} {x0 x1 : Int} {g h : mf_M} (hd : 1 ≤ d) (hyp : mf_is 319 x1 6 ∧ mf_is 319 x0 6 ∧ (∀ h3 : mf_M, h3 = mf_up h x0 7 (h x1 7) → (∀ h4 : mf_M, h4 = mf_cpy h3 (x1 + 1) (x0 + 1) 0 0 6 → (∀ h5 : mf_M, h5 = mf_cpy h4 (x1 + 2) (x0 + 2) 0 0 8 → (∀ h6 : mf_M, h6 = mf_cpy h5 (x1 + 3) (x0 + 3) 0 0 8 → (∀ h7 : mf_M, h7 = mf_cpy h6 (x1 + 4) (x0 + 4) 0 0 8 → (∀ h8 : mf_M, h8 = mf_cpy h7 (x1 + 5) (x0 + 5) 0 0 8 → K 0 g h8))))))) : xM C l d YX6_copyFolk [(2, x0), (2, x1)] g h K := by
  intro hG
  refine mf_entry (by decide) (Nat.le_of_ble_eq_true rfl) ?_
  refine mf_aload_n (mf_dat eX6_copyFolk 0 rfl) rfl rfl ?_
  refine mf_aload_n (mf_dat eX6_copyFolk 1 rfl) rfl rfl ?_
  obtain ⟨ck1, hyp⟩ := hyp
  refine mf_getf (r := (RX6, TX6, 8)) (ci := 6) (k := 7) (t := 0) (v := h x1 7) (mf_dat eX6_copyFolk 2 rfl) fl_X6_30 rfl (by decide) rfl rfl ck1 ?_
  obtain ⟨ck2, hyp⟩ := hyp
  refine mf_putI (r := (RX6, TX6, 8)) (ci := 6) (k := 7) (kI := 7) (t := 0) (mf_dat eX6_copyFolk 3 rfl) fl_X6_30 rfl rfl (by decide) rfl (by decide) rfl (by decide) (fun h9 => absurd h9 (by decide)) ck2 ?_
  generalize qh3 : mf_up h x0 7 (h x1 7) = h3
  replace hyp := hyp _ qh3.symm
  refine mf_aload_n (mf_dat eX6_copyFolk 4 rfl) rfl rfl ?_
  refine mf_getf (r := (RX6, TX6, 8)) (ci := 6) (k := 0) (t := 2) (v := x1 + 1) (mf_dat eX6_copyFolk 5 rfl) fl_X6_9 rfl (by decide) rfl (gs_0 hG ck1) ck1 ?_
  refine mf_iconst (v := 0) (mf_dat eX6_copyFolk 6 rfl) (by decide) ?_
  refine mf_aload_n (mf_dat eX6_copyFolk 7 rfl) rfl rfl ?_
  refine mf_getf (r := (RX6, TX6, 8)) (ci := 6) (k := 0) (t := 2) (v := x0 + 1) (mf_dat eX6_copyFolk 8 rfl) fl_X6_9 rfl (by decide) rfl (gs_0 hG ck2) ck2 ?_
  refine mf_iconst (v := 0) (mf_dat eX6_copyFolk 9 rfl) (by decide) ?_
  refine mf_bipush (v := 6) (mf_dat eX6_copyFolk 10 rfl) (by decide) ?_
  refine mf_acopy (mf_dat eX6_copyFolk 11 rfl) ml_X6_41 na_copy st_copy ii_System (st_is0 ck1) (st_is0 ck2) (st_len0 ck1) (st_len0 ck2) (by decide) (by decide) (by decide) (by decide) (by decide) (mf_rmf hd) (mf_rml hd (Nat.le_of_ble_eq_true rfl)) ?_
  generalize qh4 : mf_cpy h3 (x1 + 1) (x0 + 1) 0 0 6 = h4
  replace hyp := hyp _ qh4.symm
  refine mf_aload_n (mf_dat eX6_copyFolk 12 rfl) rfl rfl ?_
  refine mf_getf (r := (RX6, TX6, 8)) (ci := 6) (k := 1) (t := 2) (v := x1 + 2) (mf_dat eX6_copyFolk 13 rfl) fl_X6_15 rfl (by decide) rfl (gs_1 hG ck1) ck1 ?_
  refine mf_iconst (v := 0) (mf_dat eX6_copyFolk 14 rfl) (by decide) ?_
  refine mf_aload_n (mf_dat eX6_copyFolk 15 rfl) rfl rfl ?_
  refine mf_getf (r := (RX6, TX6, 8)) (ci := 6) (k := 1) (t := 2) (v := x0 + 2) (mf_dat eX6_copyFolk 16 rfl) fl_X6_15 rfl (by decide) rfl (gs_1 hG ck2) ck2 ?_
  refine mf_iconst (v := 0) (mf_dat eX6_copyFolk 17 rfl) (by decide) ?_
  refine mf_bipush (v := 8) (mf_dat eX6_copyFolk 18 rfl) (by decide) ?_
  refine mf_acopy (mf_dat eX6_copyFolk 19 rfl) ml_X6_41 na_copy st_copy ii_System (st_is1 ck1) (st_is1 ck2) (st_len1 ck1) (st_len1 ck2) (by decide) (by decide) (by decide) (by decide) (by decide) (mf_rmf hd) (mf_rml hd (Nat.le_of_ble_eq_true rfl)) ?_
  generalize qh5 : mf_cpy h4 (x1 + 2) (x0 + 2) 0 0 8 = h5
  replace hyp := hyp _ qh5.symm
  refine mf_aload_n (mf_dat eX6_copyFolk 20 rfl) rfl rfl ?_
  refine mf_getf (r := (RX6, TX6, 8)) (ci := 6) (k := 2) (t := 2) (v := x1 + 3) (mf_dat eX6_copyFolk 21 rfl) fl_X6_18 rfl (by decide) rfl (gs_2 hG ck1) ck1 ?_
  refine mf_iconst (v := 0) (mf_dat eX6_copyFolk 22 rfl) (by decide) ?_
  refine mf_aload_n (mf_dat eX6_copyFolk 23 rfl) rfl rfl ?_
  refine mf_getf (r := (RX6, TX6, 8)) (ci := 6) (k := 2) (t := 2) (v := x0 + 3) (mf_dat eX6_copyFolk 24 rfl) fl_X6_18 rfl (by decide) rfl (gs_2 hG ck2) ck2 ?_
  refine mf_iconst (v := 0) (mf_dat eX6_copyFolk 25 rfl) (by decide) ?_
  refine mf_bipush (v := 8) (mf_dat eX6_copyFolk 26 rfl) (by decide) ?_
  refine mf_acopy (mf_dat eX6_copyFolk 27 rfl) ml_X6_41 na_copy st_copy ii_System (st_is2 ck1) (st_is2 ck2) (st_len2 ck1) (st_len2 ck2) (by decide) (by decide) (by decide) (by decide) (by decide) (mf_rmf hd) (mf_rml hd (Nat.le_of_ble_eq_true rfl)) ?_
  generalize qh6 : mf_cpy h5 (x1 + 3) (x0 + 3) 0 0 8 = h6
  replace hyp := hyp _ qh6.symm
  refine mf_aload_n (mf_dat eX6_copyFolk 28 rfl) rfl rfl ?_
  refine mf_getf (r := (RX6, TX6, 8)) (ci := 6) (k := 3) (t := 2) (v := x1 + 4) (mf_dat eX6_copyFolk 29 rfl) fl_X6_21 rfl (by decide) rfl (gs_3 hG ck1) ck1 ?_
  refine mf_iconst (v := 0) (mf_dat eX6_copyFolk 30 rfl) (by decide) ?_
  refine mf_aload_n (mf_dat eX6_copyFolk 31 rfl) rfl rfl ?_
  refine mf_getf (r := (RX6, TX6, 8)) (ci := 6) (k := 3) (t := 2) (v := x0 + 4) (mf_dat eX6_copyFolk 32 rfl) fl_X6_21 rfl (by decide) rfl (gs_3 hG ck2) ck2 ?_
  refine mf_iconst (v := 0) (mf_dat eX6_copyFolk 33 rfl) (by decide) ?_
  refine mf_bipush (v := 8) (mf_dat eX6_copyFolk 34 rfl) (by decide) ?_
  refine mf_acopy (mf_dat eX6_copyFolk 35 rfl) ml_X6_41 na_copy st_copy ii_System (st_is3 ck1) (st_is3 ck2) (st_len3 ck1) (st_len3 ck2) (by decide) (by decide) (by decide) (by decide) (by decide) (mf_rmf hd) (mf_rml hd (Nat.le_of_ble_eq_true rfl)) ?_
  generalize qh7 : mf_cpy h6 (x1 + 4) (x0 + 4) 0 0 8 = h7
  replace hyp := hyp _ qh7.symm
  refine mf_aload_n (mf_dat eX6_copyFolk 36 rfl) rfl rfl ?_
  refine mf_getf (r := (RX6, TX6, 8)) (ci := 6) (k := 4) (t := 2) (v := x1 + 5) (mf_dat eX6_copyFolk 37 rfl) fl_X6_24 rfl (by decide) rfl (gs_4 hG ck1) ck1 ?_
  refine mf_iconst (v := 0) (mf_dat eX6_copyFolk 38 rfl) (by decide) ?_
  refine mf_aload_n (mf_dat eX6_copyFolk 39 rfl) rfl rfl ?_
  refine mf_getf (r := (RX6, TX6, 8)) (ci := 6) (k := 4) (t := 2) (v := x0 + 5) (mf_dat eX6_copyFolk 40 rfl) fl_X6_24 rfl (by decide) rfl (gs_4 hG ck2) ck2 ?_
  refine mf_iconst (v := 0) (mf_dat eX6_copyFolk 41 rfl) (by decide) ?_
  refine mf_bipush (v := 8) (mf_dat eX6_copyFolk 42 rfl) (by decide) ?_
  refine mf_acopy (mf_dat eX6_copyFolk 43 rfl) ml_X6_41 na_copy st_copy ii_System (st_is4 ck1) (st_is4 ck2) (st_len4 ck1) (st_len4 ck2) (by decide) (by decide) (by decide) (by decide) (by decide) (mf_rmf hd) (mf_rml hd (Nat.le_of_ble_eq_true rfl)) ?_
  generalize qh8 : mf_cpy h7 (x1 + 5) (x0 + 5) 0 0 8 = h8
  replace hyp := hyp _ qh8.symm
  exact mf_return (mf_dat eX6_copyFolk 44 rfl) rfl ⟨hG, hyp⟩
set_option maxRecDepth 100000 in
set_option maxHeartbeats 4000000 in
theorem wX6_hasGloss {C : mf_G} {l : Launch} {d : Nat} {K : mf_Kt} {x0 x1 x2 : Int} {g h : mf_M} (hyp : ((x1 < 0 → K 0 g h) ∧ (¬ x1 < 0 → mf_is 319 x0 6 ∧ ((6 ≤ x1 → K 0 g h) ∧ (¬ 6 ≤ x1 → 0 ≤ x1 ∧ x1 < 6 ∧ ((¬ mf_and (mf_shr (h (x0 + 1) x1) x2) 1 = 1 → K 0 g h) ∧ (mf_and (mf_shr (h (x0 + 1) x1) x2) 1 = 1 → K 1 g h))))))) : xM C l d YX6_hasGloss [(2, x0), (0, x1), (0, x2)] g h K := by
  intro hG
  refine mf_entry (by decide) (Nat.le_of_ble_eq_true rfl) ?_
  refine mf_iload_n (mf_dat eX6_hasGloss 0 rfl) rfl rfl ?_
  refine mf_if_lt (tgt := 31) (mf_dat eX6_hasGloss 1 rfl) (by decide) (fun hc => ?_) (fun hc => ?_)
  · replace hyp := hyp.1 hc
    refine mf_iconst (v := 0) (mf_dat eX6_hasGloss 19 rfl) (by decide) ?_
    exact mf_ireturn (mf_dat eX6_hasGloss 20 rfl) rfl (Or.inr ⟨rfl, by decide⟩) ⟨hG, hyp⟩
  · replace hyp := hyp.2 hc
    refine mf_iload_n (mf_dat eX6_hasGloss 2 rfl) rfl rfl ?_
    refine mf_aload_n (mf_dat eX6_hasGloss 3 rfl) rfl rfl ?_
    obtain ⟨ck1, hyp⟩ := hyp
    refine mf_getf (r := (RX6, TX6, 8)) (ci := 6) (k := 0) (t := 2) (v := x0 + 1) (mf_dat eX6_hasGloss 4 rfl) fl_X6_9 rfl (by decide) rfl (gs_0 hG ck1) ck1 ?_
    refine mf_alen (c := 20) (i := 0) (ty := .int) (v := 6) (mf_dat eX6_hasGloss 5 rfl) (by decide) rfl (st_is0 ck1) (st_len0 ck1) (mf_len_small _) ?_
    refine mf_icmp_ge (tgt := 31) (mf_dat eX6_hasGloss 6 rfl) (by decide) (fun hc => ?_) (fun hc => ?_)
    · replace hyp := hyp.1 hc
      refine mf_iconst (v := 0) (mf_dat eX6_hasGloss 19 rfl) (by decide) ?_
      exact mf_ireturn (mf_dat eX6_hasGloss 20 rfl) rfl (Or.inr ⟨rfl, by decide⟩) ⟨hG, hyp⟩
    · replace hyp := hyp.2 hc
      refine mf_aload_n (mf_dat eX6_hasGloss 7 rfl) rfl rfl ?_
      refine mf_getf (r := (RX6, TX6, 8)) (ci := 6) (k := 0) (t := 2) (v := x0 + 1) (mf_dat eX6_hasGloss 8 rfl) fl_X6_9 rfl (by decide) rfl (gs_0 hG ck1) ck1 ?_
      refine mf_iload_n (mf_dat eX6_hasGloss 9 rfl) rfl rfl ?_
      obtain ⟨ck2, hyp⟩ := hyp
      obtain ⟨ck3, hyp⟩ := hyp
      refine mf_iald (mf_dat eX6_hasGloss 10 rfl) (st_is0 ck1) (st_len0 ck1) ck2 ck3 ?_
      refine mf_iload_n (mf_dat eX6_hasGloss 11 rfl) rfl rfl ?_
      refine mf_ishr (mf_dat eX6_hasGloss 12 rfl) ?_
      refine mf_iconst (v := 1) (mf_dat eX6_hasGloss 13 rfl) (by decide) ?_
      refine mf_iand (mf_dat eX6_hasGloss 14 rfl) ?_
      refine mf_iconst (v := 1) (mf_dat eX6_hasGloss 15 rfl) (by decide) ?_
      refine mf_icmp_ne (tgt := 31) (mf_dat eX6_hasGloss 16 rfl) (by decide) (fun hc => ?_) (fun hc => ?_)
      · replace hyp := hyp.1 hc
        refine mf_iconst (v := 0) (mf_dat eX6_hasGloss 19 rfl) (by decide) ?_
        exact mf_ireturn (mf_dat eX6_hasGloss 20 rfl) rfl (Or.inr ⟨rfl, by decide⟩) ⟨hG, hyp⟩
      · replace hyp := hyp.2 hc
        refine mf_iconst (v := 1) (mf_dat eX6_hasGloss 17 rfl) (by decide) ?_
        refine mf_goto (tgt := 32) (mf_dat eX6_hasGloss 18 rfl) (by decide) ?_
        exact mf_ireturn (mf_dat eX6_hasGloss 20 rfl) rfl (Or.inr ⟨rfl, by decide⟩) ⟨hG, hyp⟩
set_option maxRecDepth 100000 in
set_option maxHeartbeats 4000000 in
theorem wX6_writeGloss {C : mf_G} {l : Launch} {d : Nat} {K : mf_Kt} {x0 x1 x2 : Int} {g h : mf_M} (hyp : ((x1 < 0 → K 0 g h) ∧ (¬ x1 < 0 → mf_is 319 x0 6 ∧ ((6 ≤ x1 → K 0 g h) ∧ (¬ 6 ≤ x1 → 0 ≤ x1 ∧ x1 < 6 ∧ (∀ h4 : mf_M, h4 = mf_up h (x0 + 1) x1 (mf_or (h (x0 + 1) x1) (mf_shl 1 x2)) → K 0 g h4)))))) : xM C l d YX6_writeGloss [(2, x0), (0, x1), (0, x2)] g h K := by
  intro hG
  refine mf_entry (by decide) (Nat.le_of_ble_eq_true rfl) ?_
  refine mf_iload_n (mf_dat eX6_writeGloss 0 rfl) rfl rfl ?_
  refine mf_if_lt (tgt := 25) (mf_dat eX6_writeGloss 1 rfl) (by decide) (fun hc => ?_) (fun hc => ?_)
  · replace hyp := hyp.1 hc
    exact mf_return (mf_dat eX6_writeGloss 17 rfl) rfl ⟨hG, hyp⟩
  · replace hyp := hyp.2 hc
    refine mf_iload_n (mf_dat eX6_writeGloss 2 rfl) rfl rfl ?_
    refine mf_aload_n (mf_dat eX6_writeGloss 3 rfl) rfl rfl ?_
    obtain ⟨ck1, hyp⟩ := hyp
    refine mf_getf (r := (RX6, TX6, 8)) (ci := 6) (k := 0) (t := 2) (v := x0 + 1) (mf_dat eX6_writeGloss 4 rfl) fl_X6_9 rfl (by decide) rfl (gs_0 hG ck1) ck1 ?_
    refine mf_alen (c := 20) (i := 0) (ty := .int) (v := 6) (mf_dat eX6_writeGloss 5 rfl) (by decide) rfl (st_is0 ck1) (st_len0 ck1) (mf_len_small _) ?_
    refine mf_icmp_ge (tgt := 25) (mf_dat eX6_writeGloss 6 rfl) (by decide) (fun hc => ?_) (fun hc => ?_)
    · replace hyp := hyp.1 hc
      exact mf_return (mf_dat eX6_writeGloss 17 rfl) rfl ⟨hG, hyp⟩
    · replace hyp := hyp.2 hc
      refine mf_aload_n (mf_dat eX6_writeGloss 7 rfl) rfl rfl ?_
      refine mf_getf (r := (RX6, TX6, 8)) (ci := 6) (k := 0) (t := 2) (v := x0 + 1) (mf_dat eX6_writeGloss 8 rfl) fl_X6_9 rfl (by decide) rfl (gs_0 hG ck1) ck1 ?_
      refine mf_iload_n (mf_dat eX6_writeGloss 9 rfl) rfl rfl ?_
      refine mf_dup2 (mf_dat eX6_writeGloss 10 rfl) (by decide) (by decide) ?_
      obtain ⟨ck2, hyp⟩ := hyp
      obtain ⟨ck3, hyp⟩ := hyp
      refine mf_iald (mf_dat eX6_writeGloss 11 rfl) (st_is0 ck1) (st_len0 ck1) ck2 ck3 ?_
      refine mf_iconst (v := 1) (mf_dat eX6_writeGloss 12 rfl) (by decide) ?_
      refine mf_iload_n (mf_dat eX6_writeGloss 13 rfl) rfl rfl ?_
      refine mf_ishl (mf_dat eX6_writeGloss 14 rfl) ?_
      refine mf_ior (mf_dat eX6_writeGloss 15 rfl) ?_
      refine mf_iast (mf_dat eX6_writeGloss 16 rfl) (st_is0 ck1) (st_len0 ck1) ck2 ck3 ?_
      generalize qh4 : mf_up h (x0 + 1) x1 (mf_or (h (x0 + 1) x1) (mf_shl 1 x2)) = h4
      replace hyp := hyp _ qh4.symm
      exact mf_return (mf_dat eX6_writeGloss 17 rfl) rfl ⟨hG, hyp⟩
abbrev BX6_countGlosses_4 (C : mf_G) (l : Launch) (d : Nat) (K : mf_Kt) (x0 x1 x2 : Int) (g h : mf_M) : Prop := jX C l d YX6_countGlosses K 4 [(0, (2, x0)), (1, (0, x1)), (2, (0, x2))] [] g h
set_option maxRecDepth 100000 in
set_option maxHeartbeats 4000000 in
theorem vX6_countGlosses_4 {C : mf_G} {l : Launch} {d : Nat} {K : mf_Kt} {x0 x1 x2 : Int} {g h : mf_M} (hd : 1 ≤ d) (hyp : mf_is 319 x0 6 ∧ ((6 ≤ x2 → K x1 g h) ∧ (¬ 6 ≤ x2 → 0 ≤ x2 ∧ x2 < 6 ∧ xM C l 0 YJ6_bitCount_0f7a4 [(0, h (x0 + 1) x2)] g h (fun r4 g5 h6 => (∀ v7 : Int, v7 = mf_w32 (x1 + r4) → (∀ v8 : Int, v8 = mf_w32 (x2 + 1) → BX6_countGlosses_4 C l d K x0 v7 v8 g5 h6)))))) : BX6_countGlosses_4 C l d K x0 x1 x2 g h := by
  intro hG
  refine mf_iload_n (mf_dat eX6_countGlosses 4 rfl) rfl rfl ?_
  refine mf_aload_n (mf_dat eX6_countGlosses 5 rfl) rfl rfl ?_
  obtain ⟨ck1, hyp⟩ := hyp
  refine mf_getf (r := (RX6, TX6, 8)) (ci := 6) (k := 0) (t := 2) (v := x0 + 1) (mf_dat eX6_countGlosses 6 rfl) fl_X6_9 rfl (by decide) rfl (gs_0 hG ck1) ck1 ?_
  refine mf_alen (c := 20) (i := 0) (ty := .int) (v := 6) (mf_dat eX6_countGlosses 7 rfl) (by decide) rfl (st_is0 ck1) (st_len0 ck1) (mf_len_small _) ?_
  refine mf_icmp_ge (tgt := 31) (mf_dat eX6_countGlosses 8 rfl) (by decide) (fun hc => ?_) (fun hc => ?_)
  · replace hyp := hyp.1 hc
    refine mf_iload_n (mf_dat eX6_countGlosses 19 rfl) rfl rfl ?_
    exact mf_ireturn (mf_dat eX6_countGlosses 20 rfl) rfl (Or.inl rfl) ⟨hG, hyp⟩
  · replace hyp := hyp.2 hc
    refine mf_iload_n (mf_dat eX6_countGlosses 9 rfl) rfl rfl ?_
    refine mf_aload_n (mf_dat eX6_countGlosses 10 rfl) rfl rfl ?_
    refine mf_getf (r := (RX6, TX6, 8)) (ci := 6) (k := 0) (t := 2) (v := x0 + 1) (mf_dat eX6_countGlosses 11 rfl) fl_X6_9 rfl (by decide) rfl (gs_0 hG ck1) ck1 ?_
    refine mf_iload_n (mf_dat eX6_countGlosses 12 rfl) rfl rfl ?_
    obtain ⟨ck2, hyp⟩ := hyp
    obtain ⟨ck3, hyp⟩ := hyp
    refine mf_iald (mf_dat eX6_countGlosses 13 rfl) (st_is0 ck1) (st_len0 ck1) ck2 ck3 ?_
    refine mf_callS (Yc := YJ6_bitCount_0f7a4) (mf_dat eX6_countGlosses 14 rfl) ml_X6_47 okJ6_bitCount_0f7a4 sm_J6_bitCount_0f7a4 rfl rfl (Nat.le_of_ble_eq_true rfl) (mf_rr (Nat.le_trans (by decide) hd) (Nat.le_refl _)) (Nat.le_refl _) (hyp hG) (fun r4 g5 h6 hyp => ?_)
    obtain ⟨hG, hyp⟩ := hyp
    refine mf_iadd (mf_dat eX6_countGlosses 15 rfl) ?_
    generalize qv7 : mf_w32 (x1 + r4) = v7
    replace hyp := hyp _ qv7.symm
    refine mf_istore_n (mf_dat eX6_countGlosses 16 rfl) rfl (by decide) ?_
    refine mf_iinc (mf_dat eX6_countGlosses 17 rfl) rfl (by decide) (by decide) ?_
    generalize qv8 : mf_w32 (x2 + 1) = v8
    replace hyp := hyp _ qv8.symm
    refine mf_goto (tgt := 4) (mf_dat eX6_countGlosses 18 rfl) (by decide) ?_
    exact mf_sub [2, 1, 0] rfl (hyp hG)
set_option maxRecDepth 100000 in
set_option maxHeartbeats 4000000 in
theorem wX6_countGlosses {C : mf_G} {l : Launch} {d : Nat} {K : mf_Kt} {x0 : Int} {g h : mf_M} (hyp : BX6_countGlosses_4 C l d K x0 0 0 g h) : xM C l d YX6_countGlosses [(2, x0)] g h K := by
  intro hG
  refine mf_entry (by decide) (Nat.le_of_ble_eq_true rfl) ?_
  refine mf_iconst (v := 0) (mf_dat eX6_countGlosses 0 rfl) (by decide) ?_
  refine mf_istore_n (mf_dat eX6_countGlosses 1 rfl) rfl (by decide) ?_
  refine mf_iconst (v := 0) (mf_dat eX6_countGlosses 2 rfl) (by decide) ?_
  refine mf_istore_n (mf_dat eX6_countGlosses 3 rfl) rfl (by decide) ?_
  exact mf_sub [2, 1, 0] rfl (hyp hG)
abbrev BX6_whoStands_3 (C : mf_G) (l : Launch) (d : Nat) (K : mf_Kt) (x0 x1 x2 x3 x4 : Int) (g h : mf_M) : Prop := jX C l d YX6_whoStands K 3 [(0, (2, x0)), (1, (0, x1)), (2, (0, x2)), (3, (0, x3)), (4, (0, x4))] [] g h
set_option maxRecDepth 100000 in
set_option maxHeartbeats 4000000 in
theorem vX6_whoStands_3 {C : mf_G} {l : Launch} {d : Nat} {K : mf_Kt} {x0 x1 x2 x3 x4 : Int} {g h : mf_M} (hyp : ((x3 ≤ x4 → K (-1) g h) ∧ (¬ x3 ≤ x4 → ((8 ≤ x4 → K (-1) g h) ∧ (¬ 8 ≤ x4 → mf_is 319 x0 6 ∧ 0 ≤ x4 ∧ x4 < 8 ∧ ((¬ h (x0 + 2) x4 = x1 → (∀ v4 : Int, v4 = mf_w32 (x4 + 1) → BX6_whoStands_3 C l d K x0 x1 x2 x3 v4 g h)) ∧ (h (x0 + 2) x4 = x1 → ((¬ h (x0 + 3) x4 = x2 → (∀ v5 : Int, v5 = mf_w32 (x4 + 1) → BX6_whoStands_3 C l d K x0 x1 x2 x3 v5 g h)) ∧ (h (x0 + 3) x4 = x2 → K x4 g h))))))))) : BX6_whoStands_3 C l d K x0 x1 x2 x3 x4 g h := by
  intro hG
  refine mf_iload (mf_dat eX6_whoStands 2 rfl) rfl ?_
  refine mf_iload_n (mf_dat eX6_whoStands 3 rfl) rfl rfl ?_
  refine mf_icmp_ge (tgt := 47) (mf_dat eX6_whoStands 4 rfl) (by decide) (fun hc => ?_) (fun hc => ?_)
  · replace hyp := hyp.1 hc
    refine mf_iconst (v := (-1)) (mf_dat eX6_whoStands 24 rfl) (by decide) ?_
    exact mf_ireturn (mf_dat eX6_whoStands 25 rfl) rfl (Or.inl rfl) ⟨hG, hyp⟩
  · replace hyp := hyp.2 hc
    refine mf_iload (mf_dat eX6_whoStands 5 rfl) rfl ?_
    refine mf_bipush (v := 8) (mf_dat eX6_whoStands 6 rfl) (by decide) ?_
    refine mf_icmp_ge (tgt := 47) (mf_dat eX6_whoStands 7 rfl) (by decide) (fun hc => ?_) (fun hc => ?_)
    · replace hyp := hyp.1 hc
      refine mf_iconst (v := (-1)) (mf_dat eX6_whoStands 24 rfl) (by decide) ?_
      exact mf_ireturn (mf_dat eX6_whoStands 25 rfl) rfl (Or.inl rfl) ⟨hG, hyp⟩
    · replace hyp := hyp.2 hc
      refine mf_aload_n (mf_dat eX6_whoStands 8 rfl) rfl rfl ?_
      obtain ⟨ck1, hyp⟩ := hyp
      refine mf_getf (r := (RX6, TX6, 8)) (ci := 6) (k := 1) (t := 2) (v := x0 + 2) (mf_dat eX6_whoStands 9 rfl) fl_X6_15 rfl (by decide) rfl (gs_1 hG ck1) ck1 ?_
      refine mf_iload (mf_dat eX6_whoStands 10 rfl) rfl ?_
      obtain ⟨ck2, hyp⟩ := hyp
      obtain ⟨ck3, hyp⟩ := hyp
      refine mf_iald (mf_dat eX6_whoStands 11 rfl) (st_is1 ck1) (st_len1 ck1) ck2 ck3 ?_
      refine mf_iload_n (mf_dat eX6_whoStands 12 rfl) rfl rfl ?_
      refine mf_icmp_ne (tgt := 41) (mf_dat eX6_whoStands 13 rfl) (by decide) (fun hc => ?_) (fun hc => ?_)
      · replace hyp := hyp.1 hc
        refine mf_iinc (mf_dat eX6_whoStands 22 rfl) rfl (by decide) (by decide) ?_
        generalize qv4 : mf_w32 (x4 + 1) = v4
        replace hyp := hyp _ qv4.symm
        refine mf_goto (tgt := 3) (mf_dat eX6_whoStands 23 rfl) (by decide) ?_
        exact mf_sub [1, 2, 3, 4, 0] rfl (hyp hG)
      · replace hyp := hyp.2 hc
        refine mf_aload_n (mf_dat eX6_whoStands 14 rfl) rfl rfl ?_
        refine mf_getf (r := (RX6, TX6, 8)) (ci := 6) (k := 2) (t := 2) (v := x0 + 3) (mf_dat eX6_whoStands 15 rfl) fl_X6_18 rfl (by decide) rfl (gs_2 hG ck1) ck1 ?_
        refine mf_iload (mf_dat eX6_whoStands 16 rfl) rfl ?_
        refine mf_iald (mf_dat eX6_whoStands 17 rfl) (st_is2 ck1) (st_len2 ck1) ck2 ck3 ?_
        refine mf_iload_n (mf_dat eX6_whoStands 18 rfl) rfl rfl ?_
        refine mf_icmp_ne (tgt := 41) (mf_dat eX6_whoStands 19 rfl) (by decide) (fun hc => ?_) (fun hc => ?_)
        · replace hyp := hyp.1 hc
          refine mf_iinc (mf_dat eX6_whoStands 22 rfl) rfl (by decide) (by decide) ?_
          generalize qv5 : mf_w32 (x4 + 1) = v5
          replace hyp := hyp _ qv5.symm
          refine mf_goto (tgt := 3) (mf_dat eX6_whoStands 23 rfl) (by decide) ?_
          exact mf_sub [1, 2, 3, 4, 0] rfl (hyp hG)
        · replace hyp := hyp.2 hc
          refine mf_iload (mf_dat eX6_whoStands 20 rfl) rfl ?_
          exact mf_ireturn (mf_dat eX6_whoStands 21 rfl) rfl (Or.inl rfl) ⟨hG, hyp⟩
set_option maxRecDepth 100000 in
set_option maxHeartbeats 4000000 in
theorem wX6_whoStands {C : mf_G} {l : Launch} {d : Nat} {K : mf_Kt} {x0 x1 x2 x3 : Int} {g h : mf_M} (hyp : BX6_whoStands_3 C l d K x0 x1 x2 x3 0 g h) : xM C l d YX6_whoStands [(2, x0), (0, x1), (0, x2), (0, x3)] g h K := by
  intro hG
  refine mf_entry (by decide) (Nat.le_of_ble_eq_true rfl) ?_
  refine mf_iconst (v := 0) (mf_dat eX6_whoStands 0 rfl) (by decide) ?_
  refine mf_istore (mf_dat eX6_whoStands 1 rfl) (by decide) ?_
  exact mf_sub [1, 2, 3, 4, 0] rfl (hyp hG)
set_option maxRecDepth 100000 in
set_option maxHeartbeats 4000000 in
theorem wX6_isFree {C : mf_G} {l : Launch} {d : Nat} {K : mf_Kt} {x0 x1 x2 x3 : Int} {g h : mf_M} (hd : 1 ≤ d) (hyp : mf_is 319 x0 6 ∧ xM C l 0 YX6_hasGloss [(2, x0), (0, x1), (0, x2)] g h (fun r1 g2 h3 => ((¬ r1 = 0 → K 0 g2 h3) ∧ (r1 = 0 → xM C l 0 YX6_whoStands [(2, x0), (0, x1), (0, x2), (0, x3)] g2 h3 (fun r5 g6 h7 => ((¬ r5 = (-1) → K 0 g6 h7) ∧ (r5 = (-1) → K 1 g6 h7))))))) : xM C l d YX6_isFree [(2, x0), (0, x1), (0, x2), (0, x3)] g h K := by
  intro hG
  refine mf_entry (by decide) (Nat.le_of_ble_eq_true rfl) ?_
  refine mf_aload_n (mf_dat eX6_isFree 0 rfl) rfl rfl ?_
  refine mf_iload_n (mf_dat eX6_isFree 1 rfl) rfl rfl ?_
  refine mf_iload_n (mf_dat eX6_isFree 2 rfl) rfl rfl ?_
  obtain ⟨ck4, hyp⟩ := hyp
  refine mf_callV (Yc := YX6_hasGloss) (r := (RX6, TX6, 8)) (ci := 6) (mf_dat eX6_isFree 3 rfl) ml_X6_53 okX6_hasGloss im_X6_hasGloss sl_X6_hasGloss rfl rfl rfl rfl (Nat.le_of_ble_eq_true rfl) (mf_rr (Nat.le_trans (by decide) hd) (Nat.le_refl _)) (Nat.le_refl _) ck4 (hyp hG) (fun r1 g2 h3 hyp => ?_)
  obtain ⟨hG, hyp⟩ := hyp
  refine mf_if_ne (tgt := 24) (mf_dat eX6_isFree 4 rfl) (by decide) (fun hc => ?_) (fun hc => ?_)
  · replace hyp := hyp.1 hc
    refine mf_iconst (v := 0) (mf_dat eX6_isFree 14 rfl) (by decide) ?_
    exact mf_ireturn (mf_dat eX6_isFree 15 rfl) rfl (Or.inr ⟨rfl, by decide⟩) ⟨hG, hyp⟩
  · replace hyp := hyp.2 hc
    refine mf_aload_n (mf_dat eX6_isFree 5 rfl) rfl rfl ?_
    refine mf_iload_n (mf_dat eX6_isFree 6 rfl) rfl rfl ?_
    refine mf_iload_n (mf_dat eX6_isFree 7 rfl) rfl rfl ?_
    refine mf_iload_n (mf_dat eX6_isFree 8 rfl) rfl rfl ?_
    refine mf_callV (Yc := YX6_whoStands) (r := (RX6, TX6, 8)) (ci := 6) (mf_dat eX6_isFree 9 rfl) ml_X6_57 okX6_whoStands im_X6_whoStands sl_X6_whoStands rfl rfl rfl rfl (Nat.le_of_ble_eq_true rfl) (mf_rr (Nat.le_trans (by decide) hd) (Nat.le_refl _)) (Nat.le_refl _) ck4 (hyp hG) (fun r5 g6 h7 hyp => ?_)
    obtain ⟨hG, hyp⟩ := hyp
    refine mf_iconst (v := (-1)) (mf_dat eX6_isFree 10 rfl) (by decide) ?_
    refine mf_icmp_ne (tgt := 24) (mf_dat eX6_isFree 11 rfl) (by decide) (fun hc => ?_) (fun hc => ?_)
    · replace hyp := hyp.1 hc
      refine mf_iconst (v := 0) (mf_dat eX6_isFree 14 rfl) (by decide) ?_
      exact mf_ireturn (mf_dat eX6_isFree 15 rfl) rfl (Or.inr ⟨rfl, by decide⟩) ⟨hG, hyp⟩
    · replace hyp := hyp.2 hc
      refine mf_iconst (v := 1) (mf_dat eX6_isFree 12 rfl) (by decide) ?_
      refine mf_goto (tgt := 25) (mf_dat eX6_isFree 13 rfl) (by decide) ?_
      exact mf_ireturn (mf_dat eX6_isFree 15 rfl) rfl (Or.inr ⟨rfl, by decide⟩) ⟨hG, hyp⟩
set_option maxRecDepth 100000 in
set_option maxHeartbeats 4000000 in
theorem wX6_addPurse {C : mf_G} {l : Launch} {d : Nat} {K : mf_Kt} {x0 x1 x2 : Int} {g h : mf_M} (hd : 1 ≤ d) (hyp : ((x1 < 0 → K 0 g h) ∧ (¬ x1 < 0 → mf_is 319 x0 6 ∧ ((8 ≤ x1 → K 0 g h) ∧ (¬ 8 ≤ x1 → 0 ≤ x1 ∧ x1 < 8 ∧ xM C l 0 YJ9_min_7cf53 [(0, 9999), (0, mf_w32 ((h (x0 + 4) x1) + x2))] g h (fun r4 g5 h6 => xM C l 0 YJ9_max_7cf53 [(0, 0), (0, r4)] g5 h6 (fun r7 g8 h9 => (∀ h10 : mf_M, h10 = mf_up h9 (x0 + 4) x1 r7 → K 0 g8 h10)))))))) : xM C l d YX6_addPurse [(2, x0), (0, x1), (0, x2)] g h K := by
  intro hG
  refine mf_entry (by decide) (Nat.le_of_ble_eq_true rfl) ?_
  refine mf_iload_n (mf_dat eX6_addPurse 0 rfl) rfl rfl ?_
  refine mf_if_lt (tgt := 37) (mf_dat eX6_addPurse 1 rfl) (by decide) (fun hc => ?_) (fun hc => ?_)
  · replace hyp := hyp.1 hc
    exact mf_return (mf_dat eX6_addPurse 21 rfl) rfl ⟨hG, hyp⟩
  · replace hyp := hyp.2 hc
    refine mf_iload_n (mf_dat eX6_addPurse 2 rfl) rfl rfl ?_
    refine mf_aload_n (mf_dat eX6_addPurse 3 rfl) rfl rfl ?_
    obtain ⟨ck1, hyp⟩ := hyp
    refine mf_getf (r := (RX6, TX6, 8)) (ci := 6) (k := 3) (t := 2) (v := x0 + 4) (mf_dat eX6_addPurse 4 rfl) fl_X6_21 rfl (by decide) rfl (gs_3 hG ck1) ck1 ?_
    refine mf_alen (c := 20) (i := 0) (ty := .int) (v := 8) (mf_dat eX6_addPurse 5 rfl) (by decide) rfl (st_is3 ck1) (st_len3 ck1) (mf_len_small _) ?_
    refine mf_icmp_ge (tgt := 37) (mf_dat eX6_addPurse 6 rfl) (by decide) (fun hc => ?_) (fun hc => ?_)
    · replace hyp := hyp.1 hc
      exact mf_return (mf_dat eX6_addPurse 21 rfl) rfl ⟨hG, hyp⟩
    · replace hyp := hyp.2 hc
      refine mf_aload_n (mf_dat eX6_addPurse 7 rfl) rfl rfl ?_
      refine mf_getf (r := (RX6, TX6, 8)) (ci := 6) (k := 3) (t := 2) (v := x0 + 4) (mf_dat eX6_addPurse 8 rfl) fl_X6_21 rfl (by decide) rfl (gs_3 hG ck1) ck1 ?_
      refine mf_iload_n (mf_dat eX6_addPurse 9 rfl) rfl rfl ?_
      refine mf_iconst (v := 0) (mf_dat eX6_addPurse 10 rfl) (by decide) ?_
      refine mf_sipush (v := 9999) (mf_dat eX6_addPurse 11 rfl) (by decide) ?_
      refine mf_aload_n (mf_dat eX6_addPurse 12 rfl) rfl rfl ?_
      refine mf_getf (r := (RX6, TX6, 8)) (ci := 6) (k := 3) (t := 2) (v := x0 + 4) (mf_dat eX6_addPurse 13 rfl) fl_X6_21 rfl (by decide) rfl (gs_3 hG ck1) ck1 ?_
      refine mf_iload_n (mf_dat eX6_addPurse 14 rfl) rfl rfl ?_
      obtain ⟨ck2, hyp⟩ := hyp
      obtain ⟨ck3, hyp⟩ := hyp
      refine mf_iald (mf_dat eX6_addPurse 15 rfl) (st_is3 ck1) (st_len3 ck1) ck2 ck3 ?_
      refine mf_iload_n (mf_dat eX6_addPurse 16 rfl) rfl rfl ?_
      refine mf_iadd (mf_dat eX6_addPurse 17 rfl) ?_
      refine mf_callS (Yc := YJ9_min_7cf53) (mf_dat eX6_addPurse 18 rfl) ml_X6_61 okJ9_min_7cf53 sm_J9_min_7cf53 rfl rfl (Nat.le_of_ble_eq_true rfl) (mf_rr (Nat.le_trans (by decide) hd) (Nat.le_refl _)) (Nat.le_refl _) (hyp hG) (fun r4 g5 h6 hyp => ?_)
      obtain ⟨hG, hyp⟩ := hyp
      refine mf_callS (Yc := YJ9_max_7cf53) (mf_dat eX6_addPurse 19 rfl) ml_X6_67 okJ9_max_7cf53 sm_J9_max_7cf53 rfl rfl (Nat.le_of_ble_eq_true rfl) (mf_rr (Nat.le_trans (by decide) hd) (Nat.le_refl _)) (Nat.le_refl _) (hyp hG) (fun r7 g8 h9 hyp => ?_)
      obtain ⟨hG, hyp⟩ := hyp
      refine mf_iast (mf_dat eX6_addPurse 20 rfl) (st_is3 ck1) (st_len3 ck1) ck2 ck3 ?_
      generalize qh10 : mf_up h9 (x0 + 4) x1 r7 = h10
      replace hyp := hyp _ qh10.symm
      exact mf_return (mf_dat eX6_addPurse 21 rfl) rfl ⟨hG, hyp⟩
set_option maxRecDepth 100000 in
set_option maxHeartbeats 4000000 in
theorem wX6_keep {C : mf_G} {l : Launch} {d : Nat} {K : mf_Kt} {x0 x1 x2 : Int} {g h : mf_M} (hd : 1 ≤ d) (hyp : mf_is 319 x0 6 ∧ xM C l 0 YJ9_floorMod_7cf53 [(0, h x0 6), (0, 40)] g h (fun r2 g3 h4 => 0 ≤ r2 ∧ r2 < 40 ∧ (∀ h7 : mf_M, h7 = mf_up h4 (x0 + 6) r2 (mf_w32 ((mf_w32 ((mf_w32 ((h4 x0 7) * 64)) + (mf_w32 (x1 * 8)))) + x2)) → (∀ h8 : mf_M, h8 = mf_up h7 x0 6 (mf_w32 ((h7 x0 6) + 1)) → K 0 g3 h8)))) : xM C l d YX6_keep [(2, x0), (0, x1), (0, x2)] g h K := by
  intro hG
  refine mf_entry (by decide) (Nat.le_of_ble_eq_true rfl) ?_
  refine mf_aload_n (mf_dat eX6_keep 0 rfl) rfl rfl ?_
  obtain ⟨ck1, hyp⟩ := hyp
  refine mf_getf (r := (RX6, TX6, 8)) (ci := 6) (k := 5) (t := 2) (v := x0 + 6) (mf_dat eX6_keep 1 rfl) fl_X6_27 rfl (by decide) rfl (gs_5 hG ck1) ck1 ?_
  refine mf_aload_n (mf_dat eX6_keep 2 rfl) rfl rfl ?_
  refine mf_getf (r := (RX6, TX6, 8)) (ci := 6) (k := 6) (t := 0) (v := h x0 6) (mf_dat eX6_keep 3 rfl) fl_X6_34 rfl (by decide) rfl rfl ck1 ?_
  refine mf_bipush (v := 40) (mf_dat eX6_keep 4 rfl) (by decide) ?_
  refine mf_callS (Yc := YJ9_floorMod_7cf53) (mf_dat eX6_keep 5 rfl) ml_X6_70 okJ9_floorMod_7cf53 sm_J9_floorMod_7cf53 rfl rfl (Nat.le_of_ble_eq_true rfl) (mf_rr (Nat.le_trans (by decide) hd) (Nat.le_refl _)) (Nat.le_refl _) (hyp hG) (fun r2 g3 h4 hyp => ?_)
  obtain ⟨hG, hyp⟩ := hyp
  refine mf_aload_n (mf_dat eX6_keep 6 rfl) rfl rfl ?_
  refine mf_getf (r := (RX6, TX6, 8)) (ci := 6) (k := 7) (t := 0) (v := h4 x0 7) (mf_dat eX6_keep 7 rfl) fl_X6_30 rfl (by decide) rfl rfl ck1 ?_
  refine mf_bipush (v := 64) (mf_dat eX6_keep 8 rfl) (by decide) ?_
  refine mf_imul (mf_dat eX6_keep 9 rfl) ?_
  refine mf_iload_n (mf_dat eX6_keep 10 rfl) rfl rfl ?_
  refine mf_bipush (v := 8) (mf_dat eX6_keep 11 rfl) (by decide) ?_
  refine mf_imul (mf_dat eX6_keep 12 rfl) ?_
  refine mf_iadd (mf_dat eX6_keep 13 rfl) ?_
  refine mf_iload_n (mf_dat eX6_keep 14 rfl) rfl rfl ?_
  refine mf_iadd (mf_dat eX6_keep 15 rfl) ?_
  obtain ⟨ck5, hyp⟩ := hyp
  obtain ⟨ck6, hyp⟩ := hyp
  refine mf_iast (mf_dat eX6_keep 16 rfl) (st_is5 ck1) (st_len5 ck1) ck5 ck6 ?_
  generalize qh7 : mf_up h4 (x0 + 6) r2 (mf_w32 ((mf_w32 ((mf_w32 ((h4 x0 7) * 64)) + (mf_w32 (x1 * 8)))) + x2)) = h7
  replace hyp := hyp _ qh7.symm
  refine mf_aload_n (mf_dat eX6_keep 17 rfl) rfl rfl ?_
  refine mf_dup (mf_dat eX6_keep 18 rfl) (by decide) ?_
  refine mf_getf (r := (RX6, TX6, 8)) (ci := 6) (k := 6) (t := 0) (v := h7 x0 6) (mf_dat eX6_keep 19 rfl) fl_X6_34 rfl (by decide) rfl rfl ck1 ?_
  refine mf_iconst (v := 1) (mf_dat eX6_keep 20 rfl) (by decide) ?_
  refine mf_iadd (mf_dat eX6_keep 21 rfl) ?_
  refine mf_putI (r := (RX6, TX6, 8)) (ci := 6) (k := 6) (kI := 6) (t := 0) (mf_dat eX6_keep 22 rfl) fl_X6_34 rfl rfl (by decide) rfl (by decide) rfl (by decide) (fun h9 => absurd h9 (by decide)) ck1 ?_
  generalize qh8 : mf_up h7 x0 6 (mf_w32 ((h7 x0 6) + 1)) = h8
  replace hyp := hyp _ qh8.symm
  exact mf_return (mf_dat eX6_keep 23 rfl) rfl ⟨hG, hyp⟩
set_option maxRecDepth 100000 in
set_option maxHeartbeats 4000000 in
theorem wX6_countKept {C : mf_G} {l : Launch} {d : Nat} {K : mf_Kt} {x0 : Int} {g h : mf_M} (hd : 1 ≤ d) (hyp : mf_is 319 x0 6 ∧ xM C l 0 YJ9_min_7cf53 [(0, 40), (0, h x0 6)] g h (fun r2 g3 h4 => K r2 g3 h4)) : xM C l d YX6_countKept [(2, x0)] g h K := by
  intro hG
  refine mf_entry (by decide) (Nat.le_of_ble_eq_true rfl) ?_
  refine mf_bipush (v := 40) (mf_dat eX6_countKept 0 rfl) (by decide) ?_
  refine mf_aload_n (mf_dat eX6_countKept 1 rfl) rfl rfl ?_
  obtain ⟨ck1, hyp⟩ := hyp
  refine mf_getf (r := (RX6, TX6, 8)) (ci := 6) (k := 6) (t := 0) (v := h x0 6) (mf_dat eX6_countKept 2 rfl) fl_X6_34 rfl (by decide) rfl rfl ck1 ?_
  refine mf_callS (Yc := YJ9_min_7cf53) (mf_dat eX6_countKept 3 rfl) ml_X6_61 okJ9_min_7cf53 sm_J9_min_7cf53 rfl rfl (Nat.le_of_ble_eq_true rfl) (mf_rr (Nat.le_trans (by decide) hd) (Nat.le_refl _)) (Nat.le_refl _) (hyp hG) (fun r2 g3 h4 hyp => ?_)
  obtain ⟨hG, hyp⟩ := hyp
  exact mf_ireturn (mf_dat eX6_countKept 4 rfl) rfl (Or.inl rfl) ⟨hG, hyp⟩
set_option maxRecDepth 100000 in
set_option maxHeartbeats 4000000 in
theorem wX6_keptAt {C : mf_G} {l : Launch} {d : Nat} {K : mf_Kt} {x0 x1 : Int} {g h : mf_M} (hd : 2 ≤ d) (hyp : mf_is 319 x0 6 ∧ xM C l 1 YX6_countKept [(2, x0)] g h (fun r2 g3 h4 => xM C l 0 YJ9_floorMod_7cf53 [(0, mf_w32 ((mf_w32 ((h x0 6) - r2)) + x1)), (0, 40)] g3 h4 (fun r5 g6 h7 => 0 ≤ r5 ∧ r5 < 40 ∧ K (h7 (x0 + 6) r5) g6 h7))) : xM C l d YX6_keptAt [(2, x0), (0, x1)] g h K := by
  intro hG
  refine mf_entry (by decide) (Nat.le_of_ble_eq_true rfl) ?_
  refine mf_aload_n (mf_dat eX6_keptAt 0 rfl) rfl rfl ?_
  obtain ⟨ck1, hyp⟩ := hyp
  refine mf_getf (r := (RX6, TX6, 8)) (ci := 6) (k := 5) (t := 2) (v := x0 + 6) (mf_dat eX6_keptAt 1 rfl) fl_X6_27 rfl (by decide) rfl (gs_5 hG ck1) ck1 ?_
  refine mf_aload_n (mf_dat eX6_keptAt 2 rfl) rfl rfl ?_
  refine mf_getf (r := (RX6, TX6, 8)) (ci := 6) (k := 6) (t := 0) (v := h x0 6) (mf_dat eX6_keptAt 3 rfl) fl_X6_34 rfl (by decide) rfl rfl ck1 ?_
  refine mf_aload_n (mf_dat eX6_keptAt 4 rfl) rfl rfl ?_
  refine mf_callV (Yc := YX6_countKept) (r := (RX6, TX6, 8)) (ci := 6) (mf_dat eX6_keptAt 5 rfl) ml_X6_73 okX6_countKept im_X6_countKept sl_X6_countKept rfl rfl rfl rfl (Nat.le_of_ble_eq_true rfl) (mf_rr (Nat.le_trans (by decide) hd) (Nat.le_refl _)) (Nat.le_refl _) ck1 (hyp hG) (fun r2 g3 h4 hyp => ?_)
  obtain ⟨hG, hyp⟩ := hyp
  refine mf_isub (mf_dat eX6_keptAt 6 rfl) ?_
  refine mf_iload_n (mf_dat eX6_keptAt 7 rfl) rfl rfl ?_
  refine mf_iadd (mf_dat eX6_keptAt 8 rfl) ?_
  refine mf_bipush (v := 40) (mf_dat eX6_keptAt 9 rfl) (by decide) ?_
  refine mf_callS (Yc := YJ9_floorMod_7cf53) (mf_dat eX6_keptAt 10 rfl) ml_X6_70 okJ9_floorMod_7cf53 sm_J9_floorMod_7cf53 rfl rfl (Nat.le_of_ble_eq_true rfl) (mf_rr (Nat.le_trans (by decide) hd) (Nat.le_refl _)) (Nat.le_refl _) (hyp hG) (fun r5 g6 h7 hyp => ?_)
  obtain ⟨hG, hyp⟩ := hyp
  obtain ⟨ck8, hyp⟩ := hyp
  obtain ⟨ck9, hyp⟩ := hyp
  refine mf_iald (mf_dat eX6_keptAt 11 rfl) (st_is5 ck1) (st_len5 ck1) ck8 ck9 ?_
  exact mf_ireturn (mf_dat eX6_keptAt 12 rfl) rfl (Or.inl rfl) ⟨hG, hyp⟩
abbrev BX6_takeImage_34 (C : mf_G) (l : Launch) (d : Nat) (K : mf_Kt) (x0 x1 x2 x3 x4 x5 : Int) (g h : mf_M) : Prop := jX C l d YX6_takeImage K 34 [(0, (2, x0)), (1, (2, x1)), (2, (2, x2)), (3, (0, x3)), (4, (0, x4)), (5, (0, x5))] [] g h
abbrev BX6_takeImage_97 (C : mf_G) (l : Launch) (d : Nat) (K : mf_Kt) (x0 x1 x2 x5 : Int) (g h : mf_M) : Prop := jX C l d YX6_takeImage K 97 [(0, (2, x0)), (1, (2, x1)), (2, (2, x2)), (5, (0, x5))] [] g h
abbrev BX6_takeImage_155 (C : mf_G) (l : Launch) (d : Nat) (K : mf_Kt) (x0 x1 x2 x5 : Int) (g h : mf_M) : Prop := jX C l d YX6_takeImage K 155 [(0, (2, x0)), (1, (2, x1)), (2, (2, x2)), (5, (0, x5))] [] g h
set_option maxRecDepth 100000 in
set_option maxHeartbeats 4000000 in
theorem vX6_takeImage_34 {C : mf_G} {l : Launch} {d : Nat} {K : mf_Kt} {x0 x1 x2 x3 x4 x5 : Int} {g h : mf_M} (hd : 2 ≤ d) (hyp : ((x3 ≤ x5 → mf_is 319 x0 6 ∧ xM C l 0 YX6_forget [(2, x0)] g h (fun r1 g2 h3 => mf_is 319 x2 8 ∧ xM C l 1 YX8_pairAt [(2, x2), (0, 0)] g2 h3 (fun r5 g6 h7 => (∀ h9 : mf_M, h9 = mf_up h7 x0 7 r5 → xM C l 0 YX8_byteAt [(2, x2), (0, x3)] g6 h9 (fun r10 g11 h12 => ((¬ x4 = r10 → K 0 g11 h12) ∧ (x4 = r10 → ((h12 x0 7 ≤ 999 → BX6_takeImage_97 C l d K x0 x1 x2 0 g11 h12) ∧ (¬ h12 x0 7 ≤ 999 → K 0 g11 h12))))))))) ∧ (¬ x3 ≤ x5 → mf_is 319 x2 8 ∧ xM C l 0 YX8_byteAt [(2, x2), (0, x5)] g h (fun r13 g14 h15 => xM C l 0 YX8_nextCheck [(0, x4), (0, r13)] g14 h15 (fun r17 g18 h19 => (∀ v20 : Int, v20 = mf_w32 (x5 + 1) → BX6_takeImage_34 C l d K x0 x1 x2 x3 r17 v20 g18 h19)))))) : BX6_takeImage_34 C l d K x0 x1 x2 x3 x4 x5 g h := by
  intro hG
  refine mf_iload (mf_dat eX6_takeImage_p0 22 rfl) rfl ?_
  refine mf_iload_n (mf_dat eX6_takeImage_p0 23 rfl) rfl rfl ?_
  refine mf_icmp_ge (tgt := 59) (mf_dat eX6_takeImage_p0 24 rfl) (by decide) (fun hc => ?_) (fun hc => ?_)
  · replace hyp := hyp.1 hc
    refine mf_aload_n (mf_dat eX6_takeImage_p0 33 rfl) rfl rfl ?_
    obtain ⟨ck4, hyp⟩ := hyp
    refine mf_callV (Yc := YX6_forget) (r := (RX6, TX6, 8)) (ci := 6) (mf_dat eX6_takeImage_p0 34 rfl) ml_X6_96 okX6_forget im_X6_forget sl_X6_forget rfl rfl rfl rfl (Nat.le_of_ble_eq_true rfl) (mf_rr (Nat.le_trans (by decide) hd) (Nat.le_refl _)) (Nat.le_refl _) ck4 (hyp hG) (fun r1 g2 h3 hyp => ?_)
    obtain ⟨hG, hyp⟩ := hyp
    refine mf_aload_n (mf_dat eX6_takeImage_p0 35 rfl) rfl rfl ?_
    refine mf_aload_n (mf_dat eX6_takeImage_p0 36 rfl) rfl rfl ?_
    refine mf_iconst (v := 0) (mf_dat eX6_takeImage_p0 37 rfl) (by decide) ?_
    obtain ⟨ck8, hyp⟩ := hyp
    refine mf_callV (Yc := YX8_pairAt) (r := (RX8, TX8, 2)) (ci := 8) (mf_dat eX6_takeImage_p0 38 rfl) ml_X6_99 okX8_pairAt im_X8_pairAt sl_X8_pairAt rfl rfl rfl rfl (Nat.le_of_ble_eq_true rfl) (mf_rr (Nat.le_trans (by decide) hd) (Nat.le_refl _)) (Nat.le_refl _) ck8 (hyp hG) (fun r5 g6 h7 hyp => ?_)
    obtain ⟨hG, hyp⟩ := hyp
    refine mf_putI (r := (RX6, TX6, 8)) (ci := 6) (k := 7) (kI := 7) (t := 0) (mf_dat eX6_takeImage_p0 39 rfl) fl_X6_30 rfl rfl (by decide) rfl (by decide) rfl (by decide) (fun h9 => absurd h9 (by decide)) ck4 ?_
    generalize qh9 : mf_up h7 x0 7 r5 = h9
    replace hyp := hyp _ qh9.symm
    refine mf_iload (mf_dat eX6_takeImage_p0 40 rfl) rfl ?_
    refine mf_aload_n (mf_dat eX6_takeImage_p0 41 rfl) rfl rfl ?_
    refine mf_iload_n (mf_dat eX6_takeImage_p0 42 rfl) rfl rfl ?_
    refine mf_callV (Yc := YX8_byteAt) (r := (RX8, TX8, 2)) (ci := 8) (mf_dat eX6_takeImage_p0 43 rfl) ml_X6_90 okX8_byteAt im_X8_byteAt sl_X8_byteAt rfl rfl rfl rfl (Nat.le_of_ble_eq_true rfl) (mf_rr (Nat.le_trans (by decide) hd) (Nat.le_refl _)) (Nat.le_refl _) ck8 (hyp hG) (fun r10 g11 h12 hyp => ?_)
    obtain ⟨hG, hyp⟩ := hyp
    refine mf_icmp_ne (tgt := 92) (mf_dat eX6_takeImage_p0 44 rfl) (by decide) (fun hc => ?_) (fun hc => ?_)
    · replace hyp := hyp.1 hc
      refine mf_iconst (v := 0) (mf_dat eX6_takeImage_p0 49 rfl) (by decide) ?_
      exact mf_ireturn (mf_dat eX6_takeImage_p0 50 rfl) rfl (Or.inr ⟨rfl, by decide⟩) ⟨hG, hyp⟩
    · replace hyp := hyp.2 hc
      refine mf_aload_n (mf_dat eX6_takeImage_p0 45 rfl) rfl rfl ?_
      refine mf_getf (r := (RX6, TX6, 8)) (ci := 6) (k := 7) (t := 0) (v := h12 x0 7) (mf_dat eX6_takeImage_p0 46 rfl) fl_X6_30 rfl (by decide) rfl rfl ck4 ?_
      refine mf_sipush (v := 999) (mf_dat eX6_takeImage_p0 47 rfl) (by decide) ?_
      refine mf_icmp_le (tgt := 94) (mf_dat eX6_takeImage_p0 48 rfl) (by decide) (fun hc => ?_) (fun hc => ?_)
      · replace hyp := hyp.1 hc
        refine mf_iconst (v := 0) (mf_dat eX6_takeImage_p0 51 rfl) (by decide) ?_
        refine mf_istore (mf_dat eX6_takeImage_p0 52 rfl) (by decide) ?_
        exact mf_sub [1, 2, 3, 0] rfl (hyp hG)
      · replace hyp := hyp.2 hc
        refine mf_iconst (v := 0) (mf_dat eX6_takeImage_p0 49 rfl) (by decide) ?_
        exact mf_ireturn (mf_dat eX6_takeImage_p0 50 rfl) rfl (Or.inr ⟨rfl, by decide⟩) ⟨hG, hyp⟩
  · replace hyp := hyp.2 hc
    refine mf_iload (mf_dat eX6_takeImage_p0 25 rfl) rfl ?_
    refine mf_aload_n (mf_dat eX6_takeImage_p0 26 rfl) rfl rfl ?_
    refine mf_iload (mf_dat eX6_takeImage_p0 27 rfl) rfl ?_
    obtain ⟨ck16, hyp⟩ := hyp
    refine mf_callV (Yc := YX8_byteAt) (r := (RX8, TX8, 2)) (ci := 8) (mf_dat eX6_takeImage_p0 28 rfl) ml_X6_90 okX8_byteAt im_X8_byteAt sl_X8_byteAt rfl rfl rfl rfl (Nat.le_of_ble_eq_true rfl) (mf_rr (Nat.le_trans (by decide) hd) (Nat.le_refl _)) (Nat.le_refl _) ck16 (hyp hG) (fun r13 g14 h15 hyp => ?_)
    obtain ⟨hG, hyp⟩ := hyp
    refine mf_callS (Yc := YX8_nextCheck) (mf_dat eX6_takeImage_p0 29 rfl) ml_X6_93 okX8_nextCheck sm_X8_nextCheck rfl rfl (Nat.le_of_ble_eq_true rfl) (mf_rr (Nat.le_trans (by decide) hd) (Nat.le_refl _)) (Nat.le_refl _) (hyp hG) (fun r17 g18 h19 hyp => ?_)
    obtain ⟨hG, hyp⟩ := hyp
    refine mf_istore (mf_dat eX6_takeImage_p0 30 rfl) (by decide) ?_
    refine mf_iinc (mf_dat eX6_takeImage_p0 31 rfl) rfl (by decide) (by decide) ?_
    generalize qv20 : mf_w32 (x5 + 1) = v20
    replace hyp := hyp _ qv20.symm
    refine mf_goto (tgt := 34) (mf_dat eX6_takeImage_p0 32 rfl) (by decide) ?_
    exact mf_sub [2, 3, 4, 5, 1, 0] rfl (hyp hG)
set_option maxRecDepth 100000 in
set_option maxHeartbeats 4000000 in
theorem vX6_takeImage_97 {C : mf_G} {l : Launch} {d : Nat} {K : mf_Kt} {x0 x1 x2 x5 : Int} {g h : mf_M} (hd : 1 ≤ d) (hyp : mf_is 319 x1 1 ∧ ((h x1 8 ≤ x5 → BX6_takeImage_155 C l d K x0 x1 x2 0 g h) ∧ (¬ h x1 8 ≤ x5 → ((6 ≤ x5 → BX6_takeImage_155 C l d K x0 x1 x2 0 g h) ∧ (¬ 6 ≤ x5 → mf_is 319 x0 6 ∧ mf_is 319 x2 8 ∧ xM C l 0 YX8_byteAt [(2, x2), (0, mf_w32 (2 + x5))] g h (fun r3 g4 h5 => 0 ≤ x5 ∧ x5 < 6 ∧ (∀ h9 : mf_M, h9 = mf_up h5 (x0 + 1) x5 r3 → ((h9 (x0 + 1) x5 < mf_shl 1 (h9 x1 9) → (∀ v10 : Int, v10 = mf_w32 (x5 + 1) → BX6_takeImage_97 C l d K x0 x1 x2 v10 g4 h9)) ∧ (¬ h9 (x0 + 1) x5 < mf_shl 1 (h9 x1 9) → K 0 g4 h9))))))))) : BX6_takeImage_97 C l d K x0 x1 x2 x5 g h := by
  intro hG
  refine mf_iload (mf_dat eX6_takeImage_p0 53 rfl) rfl ?_
  refine mf_aload_n (mf_dat eX6_takeImage_p0 54 rfl) rfl rfl ?_
  obtain ⟨ck1, hyp⟩ := hyp
  refine mf_getf (r := (RX1, TX1, 14)) (ci := 1) (k := 8) (t := 0) (v := h x1 8) (mf_dat eX6_takeImage_p0 55 rfl) fl_X6_77 rfl (by decide) rfl rfl ck1 ?_
  refine mf_icmp_ge (tgt := 152) (mf_dat eX6_takeImage_p0 56 rfl) (by decide) (fun hc => ?_) (fun hc => ?_)
  · replace hyp := hyp.1 hc
    refine mf_iconst (v := 0) (mf_dat eX6_takeImage_p1 22 rfl) (by decide) ?_
    refine mf_istore (mf_dat eX6_takeImage_p1 23 rfl) (by decide) ?_
    exact mf_sub [1, 2, 3, 0] rfl (hyp hG)
  · replace hyp := hyp.2 hc
    refine mf_iload (mf_dat eX6_takeImage_p0 57 rfl) rfl ?_
    refine mf_bipush (v := 6) (mf_dat eX6_takeImage_p0 58 rfl) (by decide) ?_
    refine mf_icmp_ge (tgt := 152) (mf_dat eX6_takeImage_p0 59 rfl) (by decide) (fun hc => ?_) (fun hc => ?_)
    · replace hyp := hyp.1 hc
      refine mf_iconst (v := 0) (mf_dat eX6_takeImage_p1 22 rfl) (by decide) ?_
      refine mf_istore (mf_dat eX6_takeImage_p1 23 rfl) (by decide) ?_
      exact mf_sub [1, 2, 3, 0] rfl (hyp hG)
    · replace hyp := hyp.2 hc
      refine mf_aload_n (mf_dat eX6_takeImage_p1 0 rfl) rfl rfl ?_
      obtain ⟨ck2, hyp⟩ := hyp
      refine mf_getf (r := (RX6, TX6, 8)) (ci := 6) (k := 0) (t := 2) (v := x0 + 1) (mf_dat eX6_takeImage_p1 1 rfl) fl_X6_9 rfl (by decide) rfl (gs_0 hG ck2) ck2 ?_
      refine mf_iload (mf_dat eX6_takeImage_p1 2 rfl) rfl ?_
      refine mf_aload_n (mf_dat eX6_takeImage_p1 3 rfl) rfl rfl ?_
      refine mf_iconst (v := 2) (mf_dat eX6_takeImage_p1 4 rfl) (by decide) ?_
      refine mf_iload (mf_dat eX6_takeImage_p1 5 rfl) rfl ?_
      refine mf_iadd (mf_dat eX6_takeImage_p1 6 rfl) ?_
      obtain ⟨ck6, hyp⟩ := hyp
      refine mf_callV (Yc := YX8_byteAt) (r := (RX8, TX8, 2)) (ci := 8) (mf_dat eX6_takeImage_p1 7 rfl) ml_X6_90 okX8_byteAt im_X8_byteAt sl_X8_byteAt rfl rfl rfl rfl (Nat.le_of_ble_eq_true rfl) (mf_rr (Nat.le_trans (by decide) hd) (Nat.le_refl _)) (Nat.le_refl _) ck6 (hyp hG) (fun r3 g4 h5 hyp => ?_)
      obtain ⟨hG, hyp⟩ := hyp
      obtain ⟨ck7, hyp⟩ := hyp
      obtain ⟨ck8, hyp⟩ := hyp
      refine mf_iast (mf_dat eX6_takeImage_p1 8 rfl) (st_is0 ck2) (st_len0 ck2) ck7 ck8 ?_
      generalize qh9 : mf_up h5 (x0 + 1) x5 r3 = h9
      replace hyp := hyp _ qh9.symm
      refine mf_aload_n (mf_dat eX6_takeImage_p1 9 rfl) rfl rfl ?_
      refine mf_getf (r := (RX6, TX6, 8)) (ci := 6) (k := 0) (t := 2) (v := x0 + 1) (mf_dat eX6_takeImage_p1 10 rfl) fl_X6_9 rfl (by decide) rfl (gs_0 hG ck2) ck2 ?_
      refine mf_iload (mf_dat eX6_takeImage_p1 11 rfl) rfl ?_
      refine mf_iald (mf_dat eX6_takeImage_p1 12 rfl) (st_is0 ck2) (st_len0 ck2) ck7 ck8 ?_
      refine mf_iconst (v := 1) (mf_dat eX6_takeImage_p1 13 rfl) (by decide) ?_
      refine mf_aload_n (mf_dat eX6_takeImage_p1 14 rfl) rfl rfl ?_
      refine mf_getf (r := (RX1, TX1, 14)) (ci := 1) (k := 9) (t := 0) (v := h9 x1 9) (mf_dat eX6_takeImage_p1 15 rfl) fl_X6_102 rfl (by decide) rfl rfl ck1 ?_
      refine mf_ishl (mf_dat eX6_takeImage_p1 16 rfl) ?_
      refine mf_icmp_lt (tgt := 146) (mf_dat eX6_takeImage_p1 17 rfl) (by decide) (fun hc => ?_) (fun hc => ?_)
      · replace hyp := hyp.1 hc
        refine mf_iinc (mf_dat eX6_takeImage_p1 20 rfl) rfl (by decide) (by decide) ?_
        generalize qv10 : mf_w32 (x5 + 1) = v10
        replace hyp := hyp _ qv10.symm
        refine mf_goto (tgt := 97) (mf_dat eX6_takeImage_p1 21 rfl) (by decide) ?_
        exact mf_sub [1, 2, 3, 0] rfl (hyp hG)
      · replace hyp := hyp.2 hc
        refine mf_iconst (v := 0) (mf_dat eX6_takeImage_p1 18 rfl) (by decide) ?_
        exact mf_ireturn (mf_dat eX6_takeImage_p1 19 rfl) rfl (Or.inr ⟨rfl, by decide⟩) ⟨hG, hyp⟩
set_option maxRecDepth 100000 in
set_option maxHeartbeats 4000000 in
theorem vX6_takeImage_155 {C : mf_G} {l : Launch} {d : Nat} {K : mf_Kt} {x0 x1 x2 x5 : Int} {g h : mf_M} (hd : 3 ≤ d) (hyp : mf_is 319 x1 1 ∧ ((h x1 12 ≤ x5 → K 1 g h) ∧ (¬ h x1 12 ≤ x5 → ((8 ≤ x5 → K 1 g h) ∧ (¬ 8 ≤ x5 → mf_is 319 x0 6 ∧ xM C l 2 YX6_takeBeing [(2, x0), (2, x1), (2, x2), (0, x5)] g h (fun r2 g3 h4 => ((¬ r2 = 0 → (∀ v6 : Int, v6 = mf_w32 (x5 + 1) → BX6_takeImage_155 C l d K x0 x1 x2 v6 g3 h4)) ∧ (r2 = 0 → K 0 g3 h4)))))))) : BX6_takeImage_155 C l d K x0 x1 x2 x5 g h := by
  intro hG
  refine mf_iload (mf_dat eX6_takeImage_p1 24 rfl) rfl ?_
  refine mf_aload_n (mf_dat eX6_takeImage_p1 25 rfl) rfl rfl ?_
  obtain ⟨ck1, hyp⟩ := hyp
  refine mf_getf (r := (RX1, TX1, 14)) (ci := 1) (k := 12) (t := 0) (v := h x1 12) (mf_dat eX6_takeImage_p1 26 rfl) fl_X6_82 rfl (by decide) rfl rfl ck1 ?_
  refine mf_icmp_ge (tgt := 190) (mf_dat eX6_takeImage_p1 27 rfl) (by decide) (fun hc => ?_) (fun hc => ?_)
  · replace hyp := hyp.1 hc
    refine mf_iconst (v := 1) (mf_dat eX6_takeImage_p1 41 rfl) (by decide) ?_
    exact mf_ireturn (mf_dat eX6_takeImage_p1 42 rfl) rfl (Or.inr ⟨rfl, by decide⟩) ⟨hG, hyp⟩
  · replace hyp := hyp.2 hc
    refine mf_iload (mf_dat eX6_takeImage_p1 28 rfl) rfl ?_
    refine mf_bipush (v := 8) (mf_dat eX6_takeImage_p1 29 rfl) (by decide) ?_
    refine mf_icmp_ge (tgt := 190) (mf_dat eX6_takeImage_p1 30 rfl) (by decide) (fun hc => ?_) (fun hc => ?_)
    · replace hyp := hyp.1 hc
      refine mf_iconst (v := 1) (mf_dat eX6_takeImage_p1 41 rfl) (by decide) ?_
      exact mf_ireturn (mf_dat eX6_takeImage_p1 42 rfl) rfl (Or.inr ⟨rfl, by decide⟩) ⟨hG, hyp⟩
    · replace hyp := hyp.2 hc
      refine mf_aload_n (mf_dat eX6_takeImage_p1 31 rfl) rfl rfl ?_
      refine mf_aload_n (mf_dat eX6_takeImage_p1 32 rfl) rfl rfl ?_
      refine mf_aload_n (mf_dat eX6_takeImage_p1 33 rfl) rfl rfl ?_
      refine mf_iload (mf_dat eX6_takeImage_p1 34 rfl) rfl ?_
      obtain ⟨ck5, hyp⟩ := hyp
      refine mf_callV (Yc := YX6_takeBeing) (r := (RX6, TX6, 8)) (ci := 6) (mf_dat eX6_takeImage_p1 35 rfl) ml_X6_105 okX6_takeBeing im_X6_takeBeing sl_X6_takeBeing rfl rfl rfl rfl (Nat.le_of_ble_eq_true rfl) (mf_rr (Nat.le_trans (by decide) hd) (Nat.le_refl _)) (Nat.le_refl _) ck5 (hyp hG) (fun r2 g3 h4 hyp => ?_)
      obtain ⟨hG, hyp⟩ := hyp
      refine mf_if_ne (tgt := 184) (mf_dat eX6_takeImage_p1 36 rfl) (by decide) (fun hc => ?_) (fun hc => ?_)
      · replace hyp := hyp.1 hc
        refine mf_iinc (mf_dat eX6_takeImage_p1 39 rfl) rfl (by decide) (by decide) ?_
        generalize qv6 : mf_w32 (x5 + 1) = v6
        replace hyp := hyp _ qv6.symm
        refine mf_goto (tgt := 155) (mf_dat eX6_takeImage_p1 40 rfl) (by decide) ?_
        exact mf_sub [1, 2, 3, 0] rfl (hyp hG)
      · replace hyp := hyp.2 hc
        refine mf_iconst (v := 0) (mf_dat eX6_takeImage_p1 37 rfl) (by decide) ?_
        exact mf_ireturn (mf_dat eX6_takeImage_p1 38 rfl) rfl (Or.inr ⟨rfl, by decide⟩) ⟨hG, hyp⟩
set_option maxRecDepth 100000 in
set_option maxHeartbeats 4000000 in
theorem wX6_takeImage {C : mf_G} {l : Launch} {d : Nat} {K : mf_Kt} {x0 x1 x2 : Int} {g h : mf_M} (hyp : mf_is 319 x1 1 ∧ (∀ v2 : Int, v2 = mf_w32 ((mf_w32 (2 + (h x1 8))) + (mf_w32 (6 * (h x1 12)))) → mf_is 319 x2 8 ∧ ((h x2 1 = mf_w32 (v2 + 1) → BX6_takeImage_34 C l d K x0 x1 x2 v2 83 0 g h) ∧ (¬ h x2 1 = mf_w32 (v2 + 1) → K 0 g h)))) : xM C l d YX6_takeImage [(2, x0), (2, x1), (2, x2)] g h K := by
  intro hG
  refine mf_entry (by decide) (Nat.le_of_ble_eq_true rfl) ?_
  refine mf_iconst (v := 2) (mf_dat eX6_takeImage_p0 0 rfl) (by decide) ?_
  refine mf_aload_n (mf_dat eX6_takeImage_p0 1 rfl) rfl rfl ?_
  obtain ⟨ck1, hyp⟩ := hyp
  refine mf_getf (r := (RX1, TX1, 14)) (ci := 1) (k := 8) (t := 0) (v := h x1 8) (mf_dat eX6_takeImage_p0 2 rfl) fl_X6_77 rfl (by decide) rfl rfl ck1 ?_
  refine mf_iadd (mf_dat eX6_takeImage_p0 3 rfl) ?_
  refine mf_bipush (v := 6) (mf_dat eX6_takeImage_p0 4 rfl) (by decide) ?_
  refine mf_aload_n (mf_dat eX6_takeImage_p0 5 rfl) rfl rfl ?_
  refine mf_getf (r := (RX1, TX1, 14)) (ci := 1) (k := 12) (t := 0) (v := h x1 12) (mf_dat eX6_takeImage_p0 6 rfl) fl_X6_82 rfl (by decide) rfl rfl ck1 ?_
  refine mf_imul (mf_dat eX6_takeImage_p0 7 rfl) ?_
  refine mf_iadd (mf_dat eX6_takeImage_p0 8 rfl) ?_
  generalize qv2 : mf_w32 ((mf_w32 (2 + (h x1 8))) + (mf_w32 (6 * (h x1 12)))) = v2
  replace hyp := hyp _ qv2.symm
  refine mf_istore_n (mf_dat eX6_takeImage_p0 9 rfl) rfl (by decide) ?_
  refine mf_aload_n (mf_dat eX6_takeImage_p0 10 rfl) rfl rfl ?_
  obtain ⟨ck3, hyp⟩ := hyp
  refine mf_getf (r := (RX8, TX8, 2)) (ci := 8) (k := 1) (t := 0) (v := h x2 1) (mf_dat eX6_takeImage_p0 11 rfl) fl_X6_85 rfl (by decide) rfl rfl ck3 ?_
  refine mf_iload_n (mf_dat eX6_takeImage_p0 12 rfl) rfl rfl ?_
  refine mf_iconst (v := 1) (mf_dat eX6_takeImage_p0 13 rfl) (by decide) ?_
  refine mf_iadd (mf_dat eX6_takeImage_p0 14 rfl) ?_
  refine mf_icmp_eq (tgt := 27) (mf_dat eX6_takeImage_p0 15 rfl) (by decide) (fun hc => ?_) (fun hc => ?_)
  · replace hyp := hyp.1 hc
    refine mf_bipush (v := 83) (mf_dat eX6_takeImage_p0 18 rfl) (by decide) ?_
    refine mf_istore (mf_dat eX6_takeImage_p0 19 rfl) (by decide) ?_
    refine mf_iconst (v := 0) (mf_dat eX6_takeImage_p0 20 rfl) (by decide) ?_
    refine mf_istore (mf_dat eX6_takeImage_p0 21 rfl) (by decide) ?_
    exact mf_sub [3, 4, 5, 2, 1, 0] rfl (hyp hG)
  · replace hyp := hyp.2 hc
    refine mf_iconst (v := 0) (mf_dat eX6_takeImage_p0 16 rfl) (by decide) ?_
    exact mf_ireturn (mf_dat eX6_takeImage_p0 17 rfl) rfl (Or.inr ⟨rfl, by decide⟩) ⟨hG, hyp⟩
