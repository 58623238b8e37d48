set_option maxRecDepth 100000 in
set_option maxHeartbeats 4000000 in
theorem mJ0_length_8abf5 {C : mf_G} {l : Launch} {d n : Nat} {K : mf_Kt} {x0 : Int} {g h : mf_M} (hd : 1 ≤ d) (hyp : mf_MT C l 0 YJ0_coder_7d493 [(2, (-2))] n n g h (fun r1 g2 h3 => K (mf_shr 174 r1) g2 h3)) : mf_MT C l d YJ0_length_8abf5 [(2, (-2))] n n g h K := by
  refine mf_entry (by decide) (Nat.le_of_ble_eq_true rfl) ?_
  refine mf_aload_n (mf_dat eJ0_length_8abf5 0 rfl) rfl rfl ?_
  refine mf_getV (mf_dat eJ0_length_8abf5 1 rfl) fl_J0_9 ?_
  refine mf_alenT (mf_dat eJ0_length_8abf5 2 rfl) ?_
  rw [mf_llen]
  refine mf_aload_n (mf_dat eJ0_length_8abf5 3 rfl) rfl rfl ?_
  refine mf_callVT (Yc := YJ0_coder_7d493) (mf_dat eJ0_length_8abf5 4 rfl) ml_J0_335 okJ0_coder_7d493 im_J0_coder_7d493 sl_J0_coder_7d493 rfl rfl rfl (Nat.le_of_ble_eq_true rfl) (mf_rr (Nat.le_trans (by decide) hd) (Nat.le_refl _)) (Nat.le_refl _) hyp (fun r1 g2 h3 hyp => ?_)
  refine mf_ishr (mf_dat eJ0_length_8abf5 5 rfl) ?_
  exact mf_ireturn (mf_dat eJ0_length_8abf5 6 rfl) rfl (Or.inl rfl) hyp
set_option maxRecDepth 100000 in
set_option maxHeartbeats 4000000 in
theorem mJ0_charAt_5068e {C : mf_G} {l : Launch} {d n : Nat} {K : mf_Kt} {x0 x1 : Int} {g h : mf_M} (hd : 4 ≤ d) (hyp : mf_MT C l 0 YJ0_isLatin1_aae02 [(2, (-2))] n n g h (fun r1 g2 h3 => ((r1 = 0 → mf_MT C l 3 YJ2_charAt_3b067 [(2, (-4)), (0, x1)] n n g2 h3 (fun r4 g5 h6 => 0 ≤ r4 ∧ r4 < 128 ∧ K r4 g5 h6)) ∧ (¬ r1 = 0 → mf_MT C l 2 YJ1_charAt_3b067 [(2, (-4)), (0, x1)] n n g2 h3 (fun r9 g10 h11 => 0 ≤ r9 ∧ r9 < 128 ∧ K r9 g10 h11))))) : mf_MT C l d YJ0_charAt_5068e [(2, (-2)), (0, x1)] n n g h K := by
  refine mf_entry (by decide) (Nat.le_of_ble_eq_true rfl) ?_
  refine mf_aload_n (mf_dat eJ0_charAt_5068e 0 rfl) rfl rfl ?_
  refine mf_callVT (Yc := YJ0_isLatin1_aae02) (mf_dat eJ0_charAt_5068e 1 rfl) ml_J0_492 okJ0_isLatin1_aae02 im_J0_isLatin1_aae02 sl_J0_isLatin1_aae02 rfl rfl rfl (Nat.le_of_ble_eq_true rfl) (mf_rr (Nat.le_trans (by decide) hd) (Nat.le_refl _)) (Nat.le_refl _) hyp (fun r1 g2 h3 hyp => ?_)
  refine mf_if_eq (tgt := 16) (mf_dat eJ0_charAt_5068e 2 rfl) (by decide) (fun hc => ?_) (fun hc => ?_)
  · replace hyp := hyp.1 hc
    refine mf_aload_n (mf_dat eJ0_charAt_5068e 8 rfl) rfl rfl ?_
    refine mf_getV (mf_dat eJ0_charAt_5068e 9 rfl) fl_J0_9 ?_
    refine mf_iload_n (mf_dat eJ0_charAt_5068e 10 rfl) rfl rfl ?_
    refine mf_callS (Yc := YJ2_charAt_3b067) (mf_dat eJ0_charAt_5068e 11 rfl) ml_J0_498 okJ2_charAt_3b067 sm_J2_charAt_3b067 rfl rfl (Nat.le_of_ble_eq_true rfl) (mf_rr (Nat.le_trans (by decide) hd) (Nat.le_refl _)) (Nat.le_refl _) hyp (fun r4 g5 h6 hyp => ?_)
    obtain ⟨ck7, hyp⟩ := hyp
    obtain ⟨ck8, hyp⟩ := hyp
    exact mf_creturn (mf_dat eJ0_charAt_5068e 12 rfl) rfl (Or.inl rfl) ck7 ck8 hyp
  · replace hyp := hyp.2 hc
    refine mf_aload_n (mf_dat eJ0_charAt_5068e 3 rfl) rfl rfl ?_
    refine mf_getV (mf_dat eJ0_charAt_5068e 4 rfl) fl_J0_9 ?_
    refine mf_iload_n (mf_dat eJ0_charAt_5068e 5 rfl) rfl rfl ?_
    refine mf_callS (Yc := YJ1_charAt_3b067) (mf_dat eJ0_charAt_5068e 6 rfl) ml_J0_495 okJ1_charAt_3b067 sm_J1_charAt_3b067 rfl rfl (Nat.le_of_ble_eq_true rfl) (mf_rr (Nat.le_trans (by decide) hd) (Nat.le_refl _)) (Nat.le_refl _) hyp (fun r9 g10 h11 hyp => ?_)
    obtain ⟨ck12, hyp⟩ := hyp
    obtain ⟨ck13, hyp⟩ := hyp
    exact mf_creturn (mf_dat eJ0_charAt_5068e 7 rfl) rfl (Or.inl rfl) ck12 ck13 hyp
set_option maxRecDepth 100000 in
set_option maxHeartbeats 4000000 in
theorem mJ0_coder_7d493 {C : mf_G} {l : Launch} {d n : Nat} {K : mf_Kt} {x0 : Int} {g h : mf_M} (hyp : (((1 : Int) = 0 → K 1 g h) ∧ (¬ (1 : Int) = 0 → K 0 g h))) : mf_MT C l d YJ0_coder_7d493 [(2, (-2))] n n g h K := by
  refine mf_entry (by decide) (Nat.le_of_ble_eq_true rfl) ?_
  refine mf_getsC (mf_dat eJ0_coder_7d493 0 rfl) fl_J0_38 ?_
  refine mf_if_eq (tgt := 13) (mf_dat eJ0_coder_7d493 1 rfl) (by decide) (fun hc => ?_) (fun hc => ?_)
  · replace hyp := hyp.1 hc
    refine mf_iconst (v := 1) (mf_dat eJ0_coder_7d493 5 rfl) (by decide) ?_
    exact mf_creturn (mf_dat eJ0_coder_7d493 6 rfl) rfl (Or.inr rfl) (by decide) (by decide) hyp
  · replace hyp := hyp.2 hc
    refine mf_aload_n (mf_dat eJ0_coder_7d493 2 rfl) rfl rfl ?_
    refine mf_getCo (mf_dat eJ0_coder_7d493 3 rfl) fl_J0_15 ?_
    refine mf_goto (tgt := 14) (mf_dat eJ0_coder_7d493 4 rfl) (by decide) ?_
    exact mf_creturn (mf_dat eJ0_coder_7d493 6 rfl) rfl (Or.inr rfl) (by decide) (by decide) hyp
set_option maxRecDepth 100000 in
set_option maxHeartbeats 4000000 in
theorem mJ0_isLatin1_aae02 {C : mf_G} {l : Launch} {d n : Nat} {K : mf_Kt} {x0 : Int} {g h : mf_M} (hyp : (((1 : Int) = 0 → K 0 g h) ∧ (¬ (1 : Int) = 0 → ((¬ (0 : Int) = 0 → K 0 g h) ∧ ((0 : Int) = 0 → K 1 g h))))) : mf_MT C l d YJ0_isLatin1_aae02 [(2, (-2))] n n g h K := by
  refine mf_entry (by decide) (Nat.le_of_ble_eq_true rfl) ?_
  refine mf_getsC (mf_dat eJ0_isLatin1_aae02 0 rfl) fl_J0_38 ?_
  refine mf_if_eq (tgt := 17) (mf_dat eJ0_isLatin1_aae02 1 rfl) (by decide) (fun hc => ?_) (fun hc => ?_)
  · replace hyp := hyp.1 hc
    refine mf_iconst (v := 0) (mf_dat eJ0_isLatin1_aae02 7 rfl) (by decide) ?_
    exact mf_ireturn (mf_dat eJ0_isLatin1_aae02 8 rfl) rfl (Or.inr ⟨rfl, by decide⟩) hyp
  · replace hyp := hyp.2 hc
    refine mf_aload_n (mf_dat eJ0_isLatin1_aae02 2 rfl) rfl rfl ?_
    refine mf_getCo (mf_dat eJ0_isLatin1_aae02 3 rfl) fl_J0_15 ?_
    refine mf_if_ne (tgt := 17) (mf_dat eJ0_isLatin1_aae02 4 rfl) (by decide) (fun hc => ?_) (fun hc => ?_)
    · replace hyp := hyp.1 hc
      refine mf_iconst (v := 0) (mf_dat eJ0_isLatin1_aae02 7 rfl) (by decide) ?_
      exact mf_ireturn (mf_dat eJ0_isLatin1_aae02 8 rfl) rfl (Or.inr ⟨rfl, by decide⟩) hyp
    · replace hyp := hyp.2 hc
      refine mf_iconst (v := 1) (mf_dat eJ0_isLatin1_aae02 5 rfl) (by decide) ?_
      refine mf_goto (tgt := 18) (mf_dat eJ0_isLatin1_aae02 6 rfl) (by decide) ?_
      exact mf_ireturn (mf_dat eJ0_isLatin1_aae02 8 rfl) rfl (Or.inr ⟨rfl, by decide⟩) hyp
set_option maxRecDepth 100000 in
set_option maxHeartbeats 4000000 in
theorem mJ0_checkIndex_df160 {C : mf_G} {l : Launch} {d n : Nat} {K : mf_Kt} {x0 x1 : Int} {g h : mf_M} (hd : 1 ≤ d) (hyp : mf_MT C l 0 YJ3_checkIndex_8e157 [(0, x0), (0, x1), (2, (-5))] n n g h (fun r1 g2 h3 => K 0 g2 h3)) : mf_MT C l d YJ0_checkIndex_df160 [(0, x0), (0, x1)] n n g h K := by
  refine mf_entry (by decide) (Nat.le_of_ble_eq_true rfl) ?_
  refine mf_iload_n (mf_dat eJ0_checkIndex_df160 0 rfl) rfl rfl ?_
  refine mf_iload_n (mf_dat eJ0_checkIndex_df160 1 rfl) rfl rfl ?_
  refine mf_getsF (mf_dat eJ0_checkIndex_df160 2 rfl) fl_J0_1053 ?_
  refine mf_callS (Yc := YJ3_checkIndex_8e157) (mf_dat eJ0_checkIndex_df160 3 rfl) ml_J0_1059 okJ3_checkIndex_8e157 sm_J3_checkIndex_8e157 rfl rfl (Nat.le_of_ble_eq_true rfl) (mf_rr (Nat.le_trans (by decide) hd) (Nat.le_refl _)) (Nat.le_refl _) hyp (fun r1 g2 h3 hyp => ?_)
  refine mf_pop (mf_dat eJ0_checkIndex_df160 4 rfl) (by decide) ?_
  exact mf_return (mf_dat eJ0_checkIndex_df160 5 rfl) rfl hyp
set_option maxRecDepth 100000 in
set_option maxHeartbeats 4000000 in
theorem mJ1_charAt_3b067 {C : mf_G} {l : Launch} {d n : Nat} {K : mf_Kt} {x0 x1 : Int} {g h : mf_M} (hd : 2 ≤ d) (hyp : mf_MT C l 1 YJ0_checkIndex_df160 [(0, x1), (0, 174)] n n g h (fun r1 g2 h3 => 0 ≤ x1 ∧ x1 < 174 ∧ 0 ≤ mf_and (mf_lb x1) 255 ∧ mf_and (mf_lb x1) 255 < 128 ∧ K (mf_and (mf_lb x1) 255) g2 h3)) : mf_MT C l d YJ1_charAt_3b067 [(2, (-4)), (0, x1)] n n g h K := by
  refine mf_entry (by decide) (Nat.le_of_ble_eq_true rfl) ?_
  refine mf_iload_n (mf_dat eJ1_charAt_3b067 0 rfl) rfl rfl ?_
  refine mf_aload_n (mf_dat eJ1_charAt_3b067 1 rfl) rfl rfl ?_
  refine mf_alenT (mf_dat eJ1_charAt_3b067 2 rfl) ?_
  rw [mf_llen]
  refine mf_callS (Yc := YJ0_checkIndex_df160) (mf_dat eJ1_charAt_3b067 3 rfl) ml_J1_9 okJ0_checkIndex_df160 sm_J0_checkIndex_df160 rfl rfl (Nat.le_of_ble_eq_true rfl) (mf_rr (Nat.le_trans (by decide) hd) (Nat.le_refl _)) (Nat.le_refl _) hyp (fun r1 g2 h3 hyp => ?_)
  refine mf_aload_n (mf_dat eJ1_charAt_3b067 4 rfl) rfl rfl ?_
  refine mf_iload_n (mf_dat eJ1_charAt_3b067 5 rfl) rfl rfl ?_
  obtain ⟨ck4, hyp⟩ := hyp
  obtain ⟨ck5, hyp⟩ := hyp
  refine mf_baldT (mf_dat eJ1_charAt_3b067 6 rfl) ck4 (by rw [mf_llen]; exact ck5) ?_
  refine mf_sipush (v := 255) (mf_dat eJ1_charAt_3b067 7 rfl) (by decide) ?_
  refine mf_iand (mf_dat eJ1_charAt_3b067 8 rfl) ?_
  obtain ⟨ck6, hyp⟩ := hyp
  obtain ⟨ck7, hyp⟩ := hyp
  refine mf_i2c (mf_dat eJ1_charAt_3b067 9 rfl) ck6 ck7 ?_
  exact mf_creturn (mf_dat eJ1_charAt_3b067 10 rfl) rfl (Or.inl rfl) ck6 ck7 hyp
set_option maxRecDepth 100000 in
set_option maxHeartbeats 4000000 in
theorem mJ3_checkIndex_8e157 {C : mf_G} {l : Launch} {d n : Nat} {K : mf_Kt} {x0 x1 x2 : Int} {g h : mf_M} (hyp : ((x0 < 0 → False) ∧ (¬ x0 < 0 → ((x0 < x1 → K x0 g h) ∧ (¬ x0 < x1 → False))))) : mf_MT C l d YJ3_checkIndex_8e157 [(0, x0), (0, x1), (2, x2)] n n g h K := by
  refine mf_entry (by decide) (Nat.le_of_ble_eq_true rfl) ?_
  refine mf_iload_n (mf_dat eJ3_checkIndex_8e157 0 rfl) rfl rfl ?_
  refine mf_if_lt (tgt := 9) (mf_dat eJ3_checkIndex_8e157 1 rfl) (by decide) (fun hc => ?_) (fun hc => ?_)
  · replace hyp := hyp.1 hc
    refine mf_aload_n (mf_dat eJ3_checkIndex_8e157 5 rfl) rfl rfl ?_
    refine mf_iload_n (mf_dat eJ3_checkIndex_8e157 6 rfl) rfl rfl ?_
    refine mf_iload_n (mf_dat eJ3_checkIndex_8e157 7 rfl) rfl rfl ?_
    exact hyp.elim
  · replace hyp := hyp.2 hc
    refine mf_iload_n (mf_dat eJ3_checkIndex_8e157 2 rfl) rfl rfl ?_
    refine mf_iload_n (mf_dat eJ3_checkIndex_8e157 3 rfl) rfl rfl ?_
    refine mf_icmp_lt (tgt := 16) (mf_dat eJ3_checkIndex_8e157 4 rfl) (by decide) (fun hc => ?_) (fun hc => ?_)
    · replace hyp := hyp.1 hc
      refine mf_iload_n (mf_dat eJ3_checkIndex_8e157 10 rfl) rfl rfl ?_
      exact mf_ireturn (mf_dat eJ3_checkIndex_8e157 11 rfl) rfl (Or.inl rfl) hyp
    · replace hyp := hyp.2 hc
      refine mf_aload_n (mf_dat eJ3_checkIndex_8e157 5 rfl) rfl rfl ?_
      refine mf_iload_n (mf_dat eJ3_checkIndex_8e157 6 rfl) rfl rfl ?_
      refine mf_iload_n (mf_dat eJ3_checkIndex_8e157 7 rfl) rfl rfl ?_
      exact hyp.elim
