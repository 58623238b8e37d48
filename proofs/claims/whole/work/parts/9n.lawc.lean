/-! the law: a case a call -/
section LawC
variable {C : mf_G} {l : Launch} {b L : Nat} {xs : Nat → Int32} {S : aS} {g h : mf_M}
set_option maxRecDepth 100000 in
set_option maxHeartbeats 4000000 in
theorem lwC0 {j : Int} (j0 : 0 ≤ j) (j1 : j + 6 ≤ L) (L1 : L ≤ 3072) (I : lwI S g h) (k : ∀ g h S, lwI S g h → mf_AW C l YL_law room_1 0 lw_Z (lwX C b L xs) 1006 (lwL j) [] 319 g h) : mf_AW C l YL_law room_1 0 lw_Z (lwX C b L xs) 172 (lwL j) [] 319 g h := by
  refine mf_aload_n (mf_dat eL_law_p0 22 rfl) rfl rfl ?_
  refine mf_aload_n (mf_dat eL_law_p0 23 rfl) rfl rfl ?_
  refine mf_iload_n (mf_dat eL_law_p0 24 rfl) rfl rfl ?_
  refine mf_iconst (v := 1) (mf_dat eL_law_p0 25 rfl) (by decide) ?_
  refine mf_iadd (mf_dat eL_law_p0 26 rfl) ?_
  refine mf_sld (i' := j + 1) (mf_dat eL_law_p0 27 rfl) (w_id (by omega) (by omega)) (by omega) (by omega) ?_
  refine mf_aload_n (mf_dat eL_law_p0 28 rfl) rfl rfl ?_
  refine mf_iload_n (mf_dat eL_law_p0 29 rfl) rfl rfl ?_
  refine mf_iconst (v := 2) (mf_dat eL_law_p0 30 rfl) (by decide) ?_
  refine mf_iadd (mf_dat eL_law_p0 31 rfl) ?_
  refine mf_sld (i' := j + 2) (mf_dat eL_law_p0 32 rfl) (w_id (by omega) (by omega)) (by omega) (by omega) ?_
  refine mf_aload_n (mf_dat eL_law_p0 33 rfl) rfl rfl ?_
  refine mf_iload_n (mf_dat eL_law_p0 34 rfl) rfl rfl ?_
  refine mf_iconst (v := 3) (mf_dat eL_law_p0 35 rfl) (by decide) ?_
  refine mf_iadd (mf_dat eL_law_p0 36 rfl) ?_
  refine mf_sld (i' := j + 3) (mf_dat eL_law_p0 37 rfl) (w_id (by omega) (by omega)) (by omega) (by omega) ?_
  refine mf_aload_n (mf_dat eL_law_p0 38 rfl) rfl rfl ?_
  refine mf_iload_n (mf_dat eL_law_p0 39 rfl) rfl rfl ?_
  refine mf_iconst (v := 4) (mf_dat eL_law_p0 40 rfl) (by decide) ?_
  refine mf_iadd (mf_dat eL_law_p0 41 rfl) ?_
  refine mf_sld (i' := j + 4) (mf_dat eL_law_p0 42 rfl) (w_id (by omega) (by omega)) (by omega) (by omega) ?_
  refine mf_aload_n (mf_dat eL_law_p0 43 rfl) rfl rfl ?_
  refine mf_iload_n (mf_dat eL_law_p0 44 rfl) rfl rfl ?_
  refine mf_iconst (v := 5) (mf_dat eL_law_p0 45 rfl) (by decide) ?_
  refine mf_iadd (mf_dat eL_law_p0 46 rfl) ?_
  refine mf_sld (i' := j + 5) (mf_dat eL_law_p0 47 rfl) (w_id (by omega) (by omega)) (by omega) (by omega) ?_
  refine mf_callV (Yc := YX11_feed) (r := (RX11, TX11, 20)) (ci := 11) (d := 200) (n2 := 319) (K := cX S (feedS S (lwV xs (j + 1)) (lwV xs (j + 2)) (lwV xs (j + 3)) (lwV xs (j + 4)) (lwV xs (j + 5))).1 (feedS S (lwV xs (j + 1)) (lwV xs (j + 2)) (lwV xs (j + 3)) (lwV xs (j + 4)) (lwV xs (j + 5))).2) (mf_dat eL_law_p0 48 rfl) ml_L_13 okX11_feed im_X11_feed sl_X11_feed rfl rfl rfl rfl (Nat.le_of_ble_eq_true rfl) lw_room (Nat.le_refl _) is0 (toXA I (fun K hK => X_feed (by decide) I.2.2.1 hK)) (fun r g1 h1 J => ?_)
  refine mf_aload_n (mf_dat eL_law_p0 49 rfl) rfl rfl ?_
  refine mf_aload_n (mf_dat eL_law_p0 50 rfl) rfl rfl ?_
  refine mf_iload_n (mf_dat eL_law_p0 51 rfl) rfl rfl ?_
  refine mf_iconst (v := 1) (mf_dat eL_law_p0 52 rfl) (by decide) ?_
  refine mf_iadd (mf_dat eL_law_p0 53 rfl) ?_
  refine mf_sld (i' := j + 1) (mf_dat eL_law_p0 54 rfl) (w_id (by omega) (by omega)) (by omega) (by omega) ?_
  refine mf_aload_n (mf_dat eL_law_p0 55 rfl) rfl rfl ?_
  refine mf_iload_n (mf_dat eL_law_p0 56 rfl) rfl rfl ?_
  refine mf_iconst (v := 2) (mf_dat eL_law_p0 57 rfl) (by decide) ?_
  refine mf_iadd (mf_dat eL_law_p0 58 rfl) ?_
  refine mf_sld (i' := j + 2) (mf_dat eL_law_p0 59 rfl) (w_id (by omega) (by omega)) (by omega) (by omega) ?_
  refine mf_aload_n (mf_dat eL_law_p1 0 rfl) rfl rfl ?_
  refine mf_iload_n (mf_dat eL_law_p1 1 rfl) rfl rfl ?_
  refine mf_iconst (v := 3) (mf_dat eL_law_p1 2 rfl) (by decide) ?_
  refine mf_iadd (mf_dat eL_law_p1 3 rfl) ?_
  refine mf_sld (i' := j + 3) (mf_dat eL_law_p1 4 rfl) (w_id (by omega) (by omega)) (by omega) (by omega) ?_
  refine mf_aload_n (mf_dat eL_law_p1 5 rfl) rfl rfl ?_
  refine mf_iload_n (mf_dat eL_law_p1 6 rfl) rfl rfl ?_
  refine mf_iconst (v := 4) (mf_dat eL_law_p1 7 rfl) (by decide) ?_
  refine mf_iadd (mf_dat eL_law_p1 8 rfl) ?_
  refine mf_sld (i' := j + 4) (mf_dat eL_law_p1 9 rfl) (w_id (by omega) (by omega)) (by omega) (by omega) ?_
  refine mf_aload_n (mf_dat eL_law_p1 10 rfl) rfl rfl ?_
  refine mf_iload_n (mf_dat eL_law_p1 11 rfl) rfl rfl ?_
  refine mf_iconst (v := 5) (mf_dat eL_law_p1 12 rfl) (by decide) ?_
  refine mf_iadd (mf_dat eL_law_p1 13 rfl) ?_
  refine mf_sld (i' := j + 5) (mf_dat eL_law_p1 14 rfl) (w_id (by omega) (by omega)) (by omega) (by omega) ?_
  refine mf_callV (Yc := YX12_feed) (r := (RX12, TX12, 106)) (ci := 12) (d := 200) (n2 := 319) (K := cM (feedS S (lwV xs (j + 1)) (lwV xs (j + 2)) (lwV xs (j + 3)) (lwV xs (j + 4)) (lwV xs (j + 5))).1 (feedS S (lwV xs (j + 1)) (lwV xs (j + 2)) (lwV xs (j + 3)) (lwV xs (j + 4)) (lwV xs (j + 5))).2) (mf_dat eL_law_p1 15 rfl) ml_L_17 okX12_feed im_X12_feed sl_X12_feed rfl rfl rfl rfl (Nat.le_of_ble_eq_true rfl) lw_room (Nat.le_refl _) is245 (toMA J (fun K hK => M_feed J.2.2.2.2 hK)) (fun r2 g2 h2 J2 => ?_)
  have er : r = r2 := J.2.2.1.trans J2.2.2.1.symm
  exact mf_icmp_eq (tgt := 1006) (mf_dat eL_law_p1 16 rfl) (by decide) (fun _ => k g2 h2 _ ⟨J2.1, J2.2.1, J2.2.2.2⟩) (fun ne => absurd er ne)
set_option maxRecDepth 100000 in
set_option maxHeartbeats 4000000 in
theorem lwC1 {j : Int} (j0 : 0 ≤ j) (j1 : j + 6 ≤ L) (L1 : L ≤ 3072) (I : lwI S g h) (k : ∀ g h S, lwI S g h → mf_AW C l YL_law room_1 0 lw_Z (lwX C b L xs) 1006 (lwL j) [] 319 g h) : mf_AW C l YL_law room_1 0 lw_Z (lwX C b L xs) 235 (lwL j) [] 319 g h := by
  refine mf_aload_n (mf_dat eL_law_p1 19 rfl) rfl rfl ?_
  refine mf_aload_n (mf_dat eL_law_p1 20 rfl) rfl rfl ?_
  refine mf_iload_n (mf_dat eL_law_p1 21 rfl) rfl rfl ?_
  refine mf_iconst (v := 1) (mf_dat eL_law_p1 22 rfl) (by decide) ?_
  refine mf_iadd (mf_dat eL_law_p1 23 rfl) ?_
  refine mf_sld (i' := j + 1) (mf_dat eL_law_p1 24 rfl) (w_id (by omega) (by omega)) (by omega) (by omega) ?_
  refine mf_callV (Yc := YX11_end) (r := (RX11, TX11, 20)) (ci := 11) (d := 200) (n2 := 319) (K := cX S (endS S (lwV xs (j + 1))).1 (endS S (lwV xs (j + 1))).2) (mf_dat eL_law_p1 25 rfl) ml_L_18 okX11_end im_X11_end sl_X11_end rfl rfl rfl rfl (Nat.le_of_ble_eq_true rfl) lw_room (Nat.le_refl _) is0 (toXA I (fun K hK => X_end I.2.2.1 hK)) (fun r g1 h1 J => ?_)
  refine mf_aload_n (mf_dat eL_law_p1 26 rfl) rfl rfl ?_
  refine mf_aload_n (mf_dat eL_law_p1 27 rfl) rfl rfl ?_
  refine mf_iload_n (mf_dat eL_law_p1 28 rfl) rfl rfl ?_
  refine mf_iconst (v := 1) (mf_dat eL_law_p1 29 rfl) (by decide) ?_
  refine mf_iadd (mf_dat eL_law_p1 30 rfl) ?_
  refine mf_sld (i' := j + 1) (mf_dat eL_law_p1 31 rfl) (w_id (by omega) (by omega)) (by omega) (by omega) ?_
  refine mf_callV (Yc := YX12_end) (r := (RX12, TX12, 106)) (ci := 12) (d := 200) (n2 := 319) (K := cM (endS S (lwV xs (j + 1))).1 (endS S (lwV xs (j + 1))).2) (mf_dat eL_law_p1 32 rfl) ml_L_22 okX12_end im_X12_end sl_X12_end rfl rfl rfl rfl (Nat.le_of_ble_eq_true rfl) lw_room (Nat.le_refl _) is245 (toMA J (fun K hK => M_end J.2.2.2.2 hK)) (fun r2 g2 h2 J2 => ?_)
  have er : r = r2 := J.2.2.1.trans J2.2.2.1.symm
  exact mf_icmp_eq (tgt := 1006) (mf_dat eL_law_p1 33 rfl) (by decide) (fun _ => k g2 h2 _ ⟨J2.1, J2.2.1, J2.2.2.2⟩) (fun ne => absurd er ne)
set_option maxRecDepth 100000 in
set_option maxHeartbeats 4000000 in
theorem lwC2 {j : Int} (j0 : 0 ≤ j) (j1 : j + 6 ≤ L) (L1 : L ≤ 3072) (I : lwI S g h) (k : ∀ g h S, lwI S g h → mf_AW C l YL_law room_1 0 lw_Z (lwX C b L xs) 1006 (lwL j) [] 319 g h) : mf_AW C l YL_law room_1 0 lw_Z (lwX C b L xs) 258 (lwL j) [] 319 g h := by
  refine mf_aload_n (mf_dat eL_law_p1 36 rfl) rfl rfl ?_
  refine mf_callV (Yc := YX11_folio) (r := (RX11, TX11, 20)) (ci := 11) (d := 200) (n2 := 319) (K := cX S (folioS S).1 (folioS S).2) (mf_dat eL_law_p1 37 rfl) ml_L_23 okX11_folio im_X11_folio sl_X11_folio rfl rfl rfl rfl (Nat.le_of_ble_eq_true rfl) lw_room (Nat.le_refl _) is0 (toXC I (fun K hK => X_folio (by decide) I.2.2.1 hK)) (fun r g1 h1 J => ?_)
  refine mf_aload_n (mf_dat eL_law_p1 38 rfl) rfl rfl ?_
  refine mf_callV (Yc := YX12_folio) (r := (RX12, TX12, 106)) (ci := 12) (d := 200) (n2 := 319) (K := cM (folioS S).1 (folioS S).2) (mf_dat eL_law_p1 39 rfl) ml_L_27 okX12_folio im_X12_folio sl_X12_folio rfl rfl rfl rfl (Nat.le_of_ble_eq_true rfl) lw_room (Nat.le_refl _) is245 (toMA J (fun K hK => M_folio (by decide) J.2.2.2.2 hK)) (fun r2 g2 h2 J2 => ?_)
  have er : r = r2 := J.2.2.1.trans J2.2.2.1.symm
  exact mf_icmp_eq (tgt := 1006) (mf_dat eL_law_p1 40 rfl) (by decide) (fun _ => k g2 h2 _ ⟨J2.1, J2.2.1, J2.2.2.2⟩) (fun ne => absurd er ne)
set_option maxRecDepth 100000 in
set_option maxHeartbeats 4000000 in
theorem lwC3 {j : Int} (j0 : 0 ≤ j) (j1 : j + 6 ≤ L) (L1 : L ≤ 3072) (I : lwI S g h) (k : ∀ g h S, lwI S g h → mf_AW C l YL_law room_1 0 lw_Z (lwX C b L xs) 1006 (lwL j) [] 319 g h) : mf_AW C l YL_law room_1 0 lw_Z (lwX C b L xs) 271 (lwL j) [] 319 g h := by
  refine mf_aload_n (mf_dat eL_law_p1 43 rfl) rfl rfl ?_
  refine mf_aload_n (mf_dat eL_law_p1 44 rfl) rfl rfl ?_
  refine mf_iload_n (mf_dat eL_law_p1 45 rfl) rfl rfl ?_
  refine mf_iconst (v := 1) (mf_dat eL_law_p1 46 rfl) (by decide) ?_
  refine mf_iadd (mf_dat eL_law_p1 47 rfl) ?_
  refine mf_sld (i' := j + 1) (mf_dat eL_law_p1 48 rfl) (w_id (by omega) (by omega)) (by omega) (by omega) ?_
  refine mf_callV (Yc := YX11_fault) (r := (RX11, TX11, 20)) (ci := 11) (d := 200) (n2 := 319) (K := cX S (faultS S (lwV xs (j + 1))) S) (mf_dat eL_law_p1 49 rfl) ml_L_28 okX11_fault im_X11_fault sl_X11_fault rfl rfl rfl rfl (Nat.le_of_ble_eq_true rfl) lw_room (Nat.le_refl _) is0 (toXB I (fun K hK => X_fault I.2.2.1 hK)) (fun r g1 h1 J => ?_)
  refine mf_aload_n (mf_dat eL_law_p1 50 rfl) rfl rfl ?_
  refine mf_aload_n (mf_dat eL_law_p1 51 rfl) rfl rfl ?_
  refine mf_iload_n (mf_dat eL_law_p1 52 rfl) rfl rfl ?_
  refine mf_iconst (v := 1) (mf_dat eL_law_p1 53 rfl) (by decide) ?_
  refine mf_iadd (mf_dat eL_law_p1 54 rfl) ?_
  refine mf_sld (i' := j + 1) (mf_dat eL_law_p1 55 rfl) (w_id (by omega) (by omega)) (by omega) (by omega) ?_
  refine mf_callV (Yc := YX12_fault) (r := (RX12, TX12, 106)) (ci := 12) (d := 200) (n2 := 319) (K := cM (faultS S (lwV xs (j + 1))) S) (mf_dat eL_law_p1 56 rfl) ml_L_32 okX12_fault im_X12_fault sl_X12_fault rfl rfl rfl rfl (Nat.le_of_ble_eq_true rfl) lw_room (Nat.le_refl _) is245 (toMB J (fun K hK => M_fault J.2.2.2.2 hK)) (fun r2 g2 h2 J2 => ?_)
  have er : r = r2 := J.2.2.1.trans J2.2.2.1.symm
  exact mf_icmp_eq (tgt := 1006) (mf_dat eL_law_p1 57 rfl) (by decide) (fun _ => k g2 h2 _ ⟨J2.1, J2.2.1, J2.2.2.2⟩) (fun ne => absurd er ne)
set_option maxRecDepth 100000 in
set_option maxHeartbeats 4000000 in
theorem lwC4 {j : Int} (j0 : 0 ≤ j) (j1 : j + 6 ≤ L) (L1 : L ≤ 3072) (I : lwI S g h) (k : ∀ g h S, lwI S g h → mf_AW C l YL_law room_1 0 lw_Z (lwX C b L xs) 1006 (lwL j) [] 319 g h) : mf_AW C l YL_law room_1 0 lw_Z (lwX C b L xs) 294 (lwL j) [] 319 g h := by
  refine mf_aload_n (mf_dat eL_law_p2 0 rfl) rfl rfl ?_
  refine mf_aload_n (mf_dat eL_law_p2 1 rfl) rfl rfl ?_
  refine mf_iload_n (mf_dat eL_law_p2 2 rfl) rfl rfl ?_
  refine mf_iconst (v := 1) (mf_dat eL_law_p2 3 rfl) (by decide) ?_
  refine mf_iadd (mf_dat eL_law_p2 4 rfl) ?_
  refine mf_sld (i' := j + 1) (mf_dat eL_law_p2 5 rfl) (w_id (by omega) (by omega)) (by omega) (by omega) ?_
  refine mf_callV (Yc := YX11_has) (r := (RX11, TX11, 20)) (ci := 11) (d := 200) (n2 := 319) (K := cX S (hasS S (lwV xs (j + 1))) S) (mf_dat eL_law_p2 6 rfl) ml_L_33 okX11_has im_X11_has sl_X11_has rfl rfl rfl rfl (Nat.le_of_ble_eq_true rfl) lw_room (Nat.le_refl _) is0 (toXA I (fun K hK => X_has (by decide) I.2.2.1 hK)) (fun r g1 h1 J => ?_)
  refine mf_aload_n (mf_dat eL_law_p2 7 rfl) rfl rfl ?_
  refine mf_aload_n (mf_dat eL_law_p2 8 rfl) rfl rfl ?_
  refine mf_iload_n (mf_dat eL_law_p2 9 rfl) rfl rfl ?_
  refine mf_iconst (v := 1) (mf_dat eL_law_p2 10 rfl) (by decide) ?_
  refine mf_iadd (mf_dat eL_law_p2 11 rfl) ?_
  refine mf_sld (i' := j + 1) (mf_dat eL_law_p2 12 rfl) (w_id (by omega) (by omega)) (by omega) (by omega) ?_
  refine mf_callV (Yc := YX12_has) (r := (RX12, TX12, 106)) (ci := 12) (d := 200) (n2 := 319) (K := cM (hasS S (lwV xs (j + 1))) S) (mf_dat eL_law_p2 13 rfl) ml_L_36 okX12_has im_X12_has sl_X12_has rfl rfl rfl rfl (Nat.le_of_ble_eq_true rfl) lw_room (Nat.le_refl _) is245 (toMA J (fun K hK => M_has (by decide) J.2.2.2.2 hK)) (fun r2 g2 h2 J2 => ?_)
  have er : r = r2 := J.2.2.1.trans J2.2.2.1.symm
  exact mf_icmp_eq (tgt := 1006) (mf_dat eL_law_p2 14 rfl) (by decide) (fun _ => k g2 h2 _ ⟨J2.1, J2.2.1, J2.2.2.2⟩) (fun ne => absurd er ne)
set_option maxRecDepth 100000 in
set_option maxHeartbeats 4000000 in
theorem lwC5 {j : Int} (j0 : 0 ≤ j) (j1 : j + 6 ≤ L) (L1 : L ≤ 3072) (I : lwI S g h) (k : ∀ g h S, lwI S g h → mf_AW C l YL_law room_1 0 lw_Z (lwX C b L xs) 1006 (lwL j) [] 319 g h) : mf_AW C l YL_law room_1 0 lw_Z (lwX C b L xs) 317 (lwL j) [] 319 g h := by
  refine mf_aload_n (mf_dat eL_law_p2 17 rfl) rfl rfl ?_
  refine mf_aload_n (mf_dat eL_law_p2 18 rfl) rfl rfl ?_
  refine mf_iload_n (mf_dat eL_law_p2 19 rfl) rfl rfl ?_
  refine mf_iconst (v := 1) (mf_dat eL_law_p2 20 rfl) (by decide) ?_
  refine mf_iadd (mf_dat eL_law_p2 21 rfl) ?_
  refine mf_sld (i' := j + 1) (mf_dat eL_law_p2 22 rfl) (w_id (by omega) (by omega)) (by omega) (by omega) ?_
  refine mf_aload_n (mf_dat eL_law_p2 23 rfl) rfl rfl ?_
  refine mf_iload_n (mf_dat eL_law_p2 24 rfl) rfl rfl ?_
  refine mf_iconst (v := 2) (mf_dat eL_law_p2 25 rfl) (by decide) ?_
  refine mf_iadd (mf_dat eL_law_p2 26 rfl) ?_
  refine mf_sld (i' := j + 2) (mf_dat eL_law_p2 27 rfl) (w_id (by omega) (by omega)) (by omega) (by omega) ?_
  refine mf_callV (Yc := YX11_letter) (r := (RX11, TX11, 20)) (ci := 11) (d := 200) (n2 := 319) (K := cX S (letterS S (lwV xs (j + 1)) (lwV xs (j + 2))) S) (mf_dat eL_law_p2 28 rfl) ml_L_37 okX11_letter im_X11_letter sl_X11_letter rfl rfl rfl rfl (Nat.le_of_ble_eq_true rfl) lw_room (Nat.le_refl _) is0 (toXB I (fun K hK => X_letter (by decide) I.2.2.1 hK)) (fun r g1 h1 J => ?_)
  refine mf_aload_n (mf_dat eL_law_p2 29 rfl) rfl rfl ?_
  refine mf_aload_n (mf_dat eL_law_p2 30 rfl) rfl rfl ?_
  refine mf_iload_n (mf_dat eL_law_p2 31 rfl) rfl rfl ?_
  refine mf_iconst (v := 1) (mf_dat eL_law_p2 32 rfl) (by decide) ?_
  refine mf_iadd (mf_dat eL_law_p2 33 rfl) ?_
  refine mf_sld (i' := j + 1) (mf_dat eL_law_p2 34 rfl) (w_id (by omega) (by omega)) (by omega) (by omega) ?_
  refine mf_aload_n (mf_dat eL_law_p2 35 rfl) rfl rfl ?_
  refine mf_iload_n (mf_dat eL_law_p2 36 rfl) rfl rfl ?_
  refine mf_iconst (v := 2) (mf_dat eL_law_p2 37 rfl) (by decide) ?_
  refine mf_iadd (mf_dat eL_law_p2 38 rfl) ?_
  refine mf_sld (i' := j + 2) (mf_dat eL_law_p2 39 rfl) (w_id (by omega) (by omega)) (by omega) (by omega) ?_
  refine mf_callV (Yc := YX12_letter) (r := (RX12, TX12, 106)) (ci := 12) (d := 200) (n2 := 319) (K := cM (letterS S (lwV xs (j + 1)) (lwV xs (j + 2))) S) (mf_dat eL_law_p2 40 rfl) ml_L_41 okX12_letter im_X12_letter sl_X12_letter rfl rfl rfl rfl (Nat.le_of_ble_eq_true rfl) lw_room (Nat.le_refl _) is245 (toMB J (fun K hK => M_letter (by decide) J.2.2.2.2 hK)) (fun r2 g2 h2 J2 => ?_)
  have er : r = r2 := J.2.2.1.trans J2.2.2.1.symm
  exact mf_icmp_eq (tgt := 1006) (mf_dat eL_law_p2 41 rfl) (by decide) (fun _ => k g2 h2 _ ⟨J2.1, J2.2.1, J2.2.2.2⟩) (fun ne => absurd er ne)
set_option maxRecDepth 100000 in
set_option maxHeartbeats 4000000 in
theorem lwC6 {j : Int} (j0 : 0 ≤ j) (j1 : j + 6 ≤ L) (L1 : L ≤ 3072) (I : lwI S g h) (k : ∀ g h S, lwI S g h → mf_AW C l YL_law room_1 0 lw_Z (lwX C b L xs) 1006 (lwL j) [] 319 g h) : mf_AW C l YL_law room_1 0 lw_Z (lwX C b L xs) 350 (lwL j) [] 319 g h := by
  refine mf_aload_n (mf_dat eL_law_p2 44 rfl) rfl rfl ?_
  refine mf_aload_n (mf_dat eL_law_p2 45 rfl) rfl rfl ?_
  refine mf_iload_n (mf_dat eL_law_p2 46 rfl) rfl rfl ?_
  refine mf_iconst (v := 1) (mf_dat eL_law_p2 47 rfl) (by decide) ?_
  refine mf_iadd (mf_dat eL_law_p2 48 rfl) ?_
  refine mf_sld (i' := j + 1) (mf_dat eL_law_p2 49 rfl) (w_id (by omega) (by omega)) (by omega) (by omega) ?_
  refine mf_aload_n (mf_dat eL_law_p2 50 rfl) rfl rfl ?_
  refine mf_iload_n (mf_dat eL_law_p2 51 rfl) rfl rfl ?_
  refine mf_iconst (v := 2) (mf_dat eL_law_p2 52 rfl) (by decide) ?_
  refine mf_iadd (mf_dat eL_law_p2 53 rfl) ?_
  refine mf_sld (i' := j + 2) (mf_dat eL_law_p2 54 rfl) (w_id (by omega) (by omega)) (by omega) (by omega) ?_
  refine mf_callV (Yc := YX11_being) (r := (RX11, TX11, 20)) (ci := 11) (d := 200) (n2 := 319) (K := cX S (beingS S (lwV xs (j + 1)) (lwV xs (j + 2))) S) (mf_dat eL_law_p2 55 rfl) ml_L_42 okX11_being im_X11_being sl_X11_being rfl rfl rfl rfl (Nat.le_of_ble_eq_true rfl) lw_room (Nat.le_refl _) is0 (toXA I (fun K hK => X_being (by decide) I.2.2.1 hK)) (fun r g1 h1 J => ?_)
  refine mf_aload_n (mf_dat eL_law_p2 56 rfl) rfl rfl ?_
  refine mf_aload_n (mf_dat eL_law_p2 57 rfl) rfl rfl ?_
  refine mf_iload_n (mf_dat eL_law_p2 58 rfl) rfl rfl ?_
  refine mf_iconst (v := 1) (mf_dat eL_law_p2 59 rfl) (by decide) ?_
  refine mf_iadd (mf_dat eL_law_p3 0 rfl) ?_
  refine mf_sld (i' := j + 1) (mf_dat eL_law_p3 1 rfl) (w_id (by omega) (by omega)) (by omega) (by omega) ?_
  refine mf_aload_n (mf_dat eL_law_p3 2 rfl) rfl rfl ?_
  refine mf_iload_n (mf_dat eL_law_p3 3 rfl) rfl rfl ?_
  refine mf_iconst (v := 2) (mf_dat eL_law_p3 4 rfl) (by decide) ?_
  refine mf_iadd (mf_dat eL_law_p3 5 rfl) ?_
  refine mf_sld (i' := j + 2) (mf_dat eL_law_p3 6 rfl) (w_id (by omega) (by omega)) (by omega) (by omega) ?_
  refine mf_callV (Yc := YX12_being) (r := (RX12, TX12, 106)) (ci := 12) (d := 200) (n2 := 319) (K := cM (beingS S (lwV xs (j + 1)) (lwV xs (j + 2))) S) (mf_dat eL_law_p3 7 rfl) ml_L_45 okX12_being im_X12_being sl_X12_being rfl rfl rfl rfl (Nat.le_of_ble_eq_true rfl) lw_room (Nat.le_refl _) is245 (toMA J (fun K hK => M_being (by decide) J.2.2.2.2 hK)) (fun r2 g2 h2 J2 => ?_)
  have er : r = r2 := J.2.2.1.trans J2.2.2.1.symm
  exact mf_icmp_eq (tgt := 1006) (mf_dat eL_law_p3 8 rfl) (by decide) (fun _ => k g2 h2 _ ⟨J2.1, J2.2.1, J2.2.2.2⟩) (fun ne => absurd er ne)
set_option maxRecDepth 100000 in
set_option maxHeartbeats 4000000 in
theorem lwC7 {j : Int} (j0 : 0 ≤ j) (j1 : j + 6 ≤ L) (L1 : L ≤ 3072) (I : lwI S g h) (k : ∀ g h S, lwI S g h → mf_AW C l YL_law room_1 0 lw_Z (lwX C b L xs) 1006 (lwL j) [] 319 g h) : mf_AW C l YL_law room_1 0 lw_Z (lwX C b L xs) 383 (lwL j) [] 319 g h := by
  refine mf_aload_n (mf_dat eL_law_p3 11 rfl) rfl rfl ?_
  refine mf_aload_n (mf_dat eL_law_p3 12 rfl) rfl rfl ?_
  refine mf_iload_n (mf_dat eL_law_p3 13 rfl) rfl rfl ?_
  refine mf_iconst (v := 1) (mf_dat eL_law_p3 14 rfl) (by decide) ?_
  refine mf_iadd (mf_dat eL_law_p3 15 rfl) ?_
  refine mf_sld (i' := j + 1) (mf_dat eL_law_p3 16 rfl) (w_id (by omega) (by omega)) (by omega) (by omega) ?_
  refine mf_aload_n (mf_dat eL_law_p3 17 rfl) rfl rfl ?_
  refine mf_iload_n (mf_dat eL_law_p3 18 rfl) rfl rfl ?_
  refine mf_iconst (v := 2) (mf_dat eL_law_p3 19 rfl) (by decide) ?_
  refine mf_iadd (mf_dat eL_law_p3 20 rfl) ?_
  refine mf_sld (i' := j + 2) (mf_dat eL_law_p3 21 rfl) (w_id (by omega) (by omega)) (by omega) (by omega) ?_
  refine mf_aload_n (mf_dat eL_law_p3 22 rfl) rfl rfl ?_
  refine mf_iload_n (mf_dat eL_law_p3 23 rfl) rfl rfl ?_
  refine mf_iconst (v := 3) (mf_dat eL_law_p3 24 rfl) (by decide) ?_
  refine mf_iadd (mf_dat eL_law_p3 25 rfl) ?_
  refine mf_sld (i' := j + 3) (mf_dat eL_law_p3 26 rfl) (w_id (by omega) (by omega)) (by omega) (by omega) ?_
  refine mf_callV (Yc := YX11_cell) (r := (RX11, TX11, 20)) (ci := 11) (d := 200) (n2 := 319) (K := cX S (cellS S (lwV xs (j + 1)) (lwV xs (j + 2)) (lwV xs (j + 3))) S) (mf_dat eL_law_p3 27 rfl) ml_L_46 okX11_cell im_X11_cell sl_X11_cell rfl rfl rfl rfl (Nat.le_of_ble_eq_true rfl) lw_room (Nat.le_refl _) is0 (toXA I (fun K hK => X_cell (by decide) I.2.2.1 hK)) (fun r g1 h1 J => ?_)
  refine mf_aload_n (mf_dat eL_law_p3 28 rfl) rfl rfl ?_
  refine mf_aload_n (mf_dat eL_law_p3 29 rfl) rfl rfl ?_
  refine mf_iload_n (mf_dat eL_law_p3 30 rfl) rfl rfl ?_
  refine mf_iconst (v := 1) (mf_dat eL_law_p3 31 rfl) (by decide) ?_
  refine mf_iadd (mf_dat eL_law_p3 32 rfl) ?_
  refine mf_sld (i' := j + 1) (mf_dat eL_law_p3 33 rfl) (w_id (by omega) (by omega)) (by omega) (by omega) ?_
  refine mf_aload_n (mf_dat eL_law_p3 34 rfl) rfl rfl ?_
  refine mf_iload_n (mf_dat eL_law_p3 35 rfl) rfl rfl ?_
  refine mf_iconst (v := 2) (mf_dat eL_law_p3 36 rfl) (by decide) ?_
  refine mf_iadd (mf_dat eL_law_p3 37 rfl) ?_
  refine mf_sld (i' := j + 2) (mf_dat eL_law_p3 38 rfl) (w_id (by omega) (by omega)) (by omega) (by omega) ?_
  refine mf_aload_n (mf_dat eL_law_p3 39 rfl) rfl rfl ?_
  refine mf_iload_n (mf_dat eL_law_p3 40 rfl) rfl rfl ?_
  refine mf_iconst (v := 3) (mf_dat eL_law_p3 41 rfl) (by decide) ?_
  refine mf_iadd (mf_dat eL_law_p3 42 rfl) ?_
  refine mf_sld (i' := j + 3) (mf_dat eL_law_p3 43 rfl) (w_id (by omega) (by omega)) (by omega) (by omega) ?_
  refine mf_callV (Yc := YX12_cell) (r := (RX12, TX12, 106)) (ci := 12) (d := 200) (n2 := 319) (K := cM (cellS S (lwV xs (j + 1)) (lwV xs (j + 2)) (lwV xs (j + 3))) S) (mf_dat eL_law_p3 44 rfl) ml_L_50 okX12_cell im_X12_cell sl_X12_cell rfl rfl rfl rfl (Nat.le_of_ble_eq_true rfl) lw_room (Nat.le_refl _) is245 (toMA J (fun K hK => M_cell (by decide) J.2.2.2.2 hK)) (fun r2 g2 h2 J2 => ?_)
  have er : r = r2 := J.2.2.1.trans J2.2.2.1.symm
  exact mf_icmp_eq (tgt := 1006) (mf_dat eL_law_p3 45 rfl) (by decide) (fun _ => k g2 h2 _ ⟨J2.1, J2.2.1, J2.2.2.2⟩) (fun ne => absurd er ne)
set_option maxRecDepth 100000 in
set_option maxHeartbeats 4000000 in
theorem lwC8 {j : Int} (j0 : 0 ≤ j) (j1 : j + 6 ≤ L) (L1 : L ≤ 3072) (I : lwI S g h) (k : ∀ g h S, lwI S g h → mf_AW C l YL_law room_1 0 lw_Z (lwX C b L xs) 1006 (lwL j) [] 319 g h) : mf_AW C l YL_law room_1 0 lw_Z (lwX C b L xs) 426 (lwL j) [] 319 g h := by
  refine mf_aload_n (mf_dat eL_law_p3 48 rfl) rfl rfl ?_
  refine mf_aload_n (mf_dat eL_law_p3 49 rfl) rfl rfl ?_
  refine mf_iload_n (mf_dat eL_law_p3 50 rfl) rfl rfl ?_
  refine mf_iconst (v := 1) (mf_dat eL_law_p3 51 rfl) (by decide) ?_
  refine mf_iadd (mf_dat eL_law_p3 52 rfl) ?_
  refine mf_sld (i' := j + 1) (mf_dat eL_law_p3 53 rfl) (w_id (by omega) (by omega)) (by omega) (by omega) ?_
  refine mf_aload_n (mf_dat eL_law_p3 54 rfl) rfl rfl ?_
  refine mf_iload_n (mf_dat eL_law_p3 55 rfl) rfl rfl ?_
  refine mf_iconst (v := 2) (mf_dat eL_law_p3 56 rfl) (by decide) ?_
  refine mf_iadd (mf_dat eL_law_p3 57 rfl) ?_
  refine mf_sld (i' := j + 2) (mf_dat eL_law_p3 58 rfl) (w_id (by omega) (by omega)) (by omega) (by omega) ?_
  refine mf_callV (Yc := YX11_kept) (r := (RX11, TX11, 20)) (ci := 11) (d := 200) (n2 := 319) (K := cX S (keptS S (lwV xs (j + 1)) (lwV xs (j + 2))) S) (mf_dat eL_law_p3 59 rfl) ml_L_51 okX11_kept im_X11_kept sl_X11_kept rfl rfl rfl rfl (Nat.le_of_ble_eq_true rfl) lw_room (Nat.le_refl _) is0 (toXB I (fun K hK => X_kept (by decide) I.2.2.1 hK)) (fun r g1 h1 J => ?_)
  refine mf_aload_n (mf_dat eL_law_p4 0 rfl) rfl rfl ?_
  refine mf_aload_n (mf_dat eL_law_p4 1 rfl) rfl rfl ?_
  refine mf_iload_n (mf_dat eL_law_p4 2 rfl) rfl rfl ?_
  refine mf_iconst (v := 1) (mf_dat eL_law_p4 3 rfl) (by decide) ?_
  refine mf_iadd (mf_dat eL_law_p4 4 rfl) ?_
  refine mf_sld (i' := j + 1) (mf_dat eL_law_p4 5 rfl) (w_id (by omega) (by omega)) (by omega) (by omega) ?_
  refine mf_aload_n (mf_dat eL_law_p4 6 rfl) rfl rfl ?_
  refine mf_iload_n (mf_dat eL_law_p4 7 rfl) rfl rfl ?_
  refine mf_iconst (v := 2) (mf_dat eL_law_p4 8 rfl) (by decide) ?_
  refine mf_iadd (mf_dat eL_law_p4 9 rfl) ?_
  refine mf_sld (i' := j + 2) (mf_dat eL_law_p4 10 rfl) (w_id (by omega) (by omega)) (by omega) (by omega) ?_
  refine mf_callV (Yc := YX12_kept) (r := (RX12, TX12, 106)) (ci := 12) (d := 200) (n2 := 319) (K := cM (keptS S (lwV xs (j + 1)) (lwV xs (j + 2))) S) (mf_dat eL_law_p4 11 rfl) ml_L_54 okX12_kept im_X12_kept sl_X12_kept rfl rfl rfl rfl (Nat.le_of_ble_eq_true rfl) lw_room (Nat.le_refl _) is245 (toMB J (fun K hK => M_kept (by decide) J.2.2.2.2 hK)) (fun r2 g2 h2 J2 => ?_)
  have er : r = r2 := J.2.2.1.trans J2.2.2.1.symm
  exact mf_icmp_eq (tgt := 1006) (mf_dat eL_law_p4 12 rfl) (by decide) (fun _ => k g2 h2 _ ⟨J2.1, J2.2.1, J2.2.2.2⟩) (fun ne => absurd er ne)
set_option maxRecDepth 100000 in
set_option maxHeartbeats 4000000 in
theorem lwC9 {j : Int} (j0 : 0 ≤ j) (j1 : j + 6 ≤ L) (L1 : L ≤ 3072) (I : lwI S g h) (k : ∀ g h S, lwI S g h → mf_AW C l YL_law room_1 0 lw_Z (lwX C b L xs) 1006 (lwL j) [] 319 g h) : mf_AW C l YL_law room_1 0 lw_Z (lwX C b L xs) 459 (lwL j) [] 319 g h := by
  refine mf_aload_n (mf_dat eL_law_p4 15 rfl) rfl rfl ?_
  refine mf_aload_n (mf_dat eL_law_p4 16 rfl) rfl rfl ?_
  refine mf_iload_n (mf_dat eL_law_p4 17 rfl) rfl rfl ?_
  refine mf_iconst (v := 1) (mf_dat eL_law_p4 18 rfl) (by decide) ?_
  refine mf_iadd (mf_dat eL_law_p4 19 rfl) ?_
  refine mf_sld (i' := j + 1) (mf_dat eL_law_p4 20 rfl) (w_id (by omega) (by omega)) (by omega) (by omega) ?_
  refine mf_aload_n (mf_dat eL_law_p4 21 rfl) rfl rfl ?_
  refine mf_iload_n (mf_dat eL_law_p4 22 rfl) rfl rfl ?_
  refine mf_iconst (v := 2) (mf_dat eL_law_p4 23 rfl) (by decide) ?_
  refine mf_iadd (mf_dat eL_law_p4 24 rfl) ?_
  refine mf_sld (i' := j + 2) (mf_dat eL_law_p4 25 rfl) (w_id (by omega) (by omega)) (by omega) (by omega) ?_
  refine mf_callV (Yc := YX11_meets) (r := (RX11, TX11, 20)) (ci := 11) (d := 200) (n2 := 319) (K := cX S (meetsS S (lwV xs (j + 1)) (lwV xs (j + 2))) S) (mf_dat eL_law_p4 26 rfl) ml_L_55 okX11_meets im_X11_meets sl_X11_meets rfl rfl rfl rfl (Nat.le_of_ble_eq_true rfl) lw_room (Nat.le_refl _) is0 (toXA I (fun K hK => X_meets (by decide) I.2.2.1 hK)) (fun r g1 h1 J => ?_)
  refine mf_aload_n (mf_dat eL_law_p4 27 rfl) rfl rfl ?_
  refine mf_aload_n (mf_dat eL_law_p4 28 rfl) rfl rfl ?_
  refine mf_iload_n (mf_dat eL_law_p4 29 rfl) rfl rfl ?_
  refine mf_iconst (v := 1) (mf_dat eL_law_p4 30 rfl) (by decide) ?_
  refine mf_iadd (mf_dat eL_law_p4 31 rfl) ?_
  refine mf_sld (i' := j + 1) (mf_dat eL_law_p4 32 rfl) (w_id (by omega) (by omega)) (by omega) (by omega) ?_
  refine mf_aload_n (mf_dat eL_law_p4 33 rfl) rfl rfl ?_
  refine mf_iload_n (mf_dat eL_law_p4 34 rfl) rfl rfl ?_
  refine mf_iconst (v := 2) (mf_dat eL_law_p4 35 rfl) (by decide) ?_
  refine mf_iadd (mf_dat eL_law_p4 36 rfl) ?_
  refine mf_sld (i' := j + 2) (mf_dat eL_law_p4 37 rfl) (w_id (by omega) (by omega)) (by omega) (by omega) ?_
  refine mf_callV (Yc := YX12_meets) (r := (RX12, TX12, 106)) (ci := 12) (d := 200) (n2 := 319) (K := cM (meetsS S (lwV xs (j + 1)) (lwV xs (j + 2))) S) (mf_dat eL_law_p4 38 rfl) ml_L_58 okX12_meets im_X12_meets sl_X12_meets rfl rfl rfl rfl (Nat.le_of_ble_eq_true rfl) lw_room (Nat.le_refl _) is245 (toMA J (fun K hK => M_meets (by decide) J.2.2.2.2 hK)) (fun r2 g2 h2 J2 => ?_)
  have er : r = r2 := J.2.2.1.trans J2.2.2.1.symm
  exact mf_icmp_eq (tgt := 1006) (mf_dat eL_law_p4 39 rfl) (by decide) (fun _ => k g2 h2 _ ⟨J2.1, J2.2.1, J2.2.2.2⟩) (fun ne => absurd er ne)
set_option maxRecDepth 100000 in
set_option maxHeartbeats 4000000 in
theorem lwC10 {j : Int} (j0 : 0 ≤ j) (j1 : j + 6 ≤ L) (L1 : L ≤ 3072) (I : lwI S g h) (k : ∀ g h S, lwI S g h → mf_AW C l YL_law room_1 0 lw_Z (lwX C b L xs) 1006 (lwL j) [] 319 g h) : mf_AW C l YL_law room_1 0 lw_Z (lwX C b L xs) 492 (lwL j) [] 319 g h := by
  refine mf_aload_n (mf_dat eL_law_p4 42 rfl) rfl rfl ?_
  refine mf_aload_n (mf_dat eL_law_p4 43 rfl) rfl rfl ?_
  refine mf_iload_n (mf_dat eL_law_p4 44 rfl) rfl rfl ?_
  refine mf_iconst (v := 1) (mf_dat eL_law_p4 45 rfl) (by decide) ?_
  refine mf_iadd (mf_dat eL_law_p4 46 rfl) ?_
  refine mf_sld (i' := j + 1) (mf_dat eL_law_p4 47 rfl) (w_id (by omega) (by omega)) (by omega) (by omega) ?_
  refine mf_callV (Yc := YX11_pairs) (r := (RX11, TX11, 20)) (ci := 11) (d := 200) (n2 := 319) (K := cX S (pairsS S (lwV xs (j + 1))) S) (mf_dat eL_law_p4 48 rfl) ml_L_59 okX11_pairs im_X11_pairs sl_X11_pairs rfl rfl rfl rfl (Nat.le_of_ble_eq_true rfl) lw_room (Nat.le_refl _) is0 (toXA I (fun K hK => X_pairs (by decide) I.2.2.1 hK)) (fun r g1 h1 J => ?_)
  refine mf_aload_n (mf_dat eL_law_p4 49 rfl) rfl rfl ?_
  refine mf_aload_n (mf_dat eL_law_p4 50 rfl) rfl rfl ?_
  refine mf_iload_n (mf_dat eL_law_p4 51 rfl) rfl rfl ?_
  refine mf_iconst (v := 1) (mf_dat eL_law_p4 52 rfl) (by decide) ?_
  refine mf_iadd (mf_dat eL_law_p4 53 rfl) ?_
  refine mf_sld (i' := j + 1) (mf_dat eL_law_p4 54 rfl) (w_id (by omega) (by omega)) (by omega) (by omega) ?_
  refine mf_callV (Yc := YX12_pairs) (r := (RX12, TX12, 106)) (ci := 12) (d := 200) (n2 := 319) (K := cM (pairsS S (lwV xs (j + 1))) S) (mf_dat eL_law_p4 55 rfl) ml_L_62 okX12_pairs im_X12_pairs sl_X12_pairs rfl rfl rfl rfl (Nat.le_of_ble_eq_true rfl) lw_room (Nat.le_refl _) is245 (toMA J (fun K hK => M_pairs (by decide) J.2.2.2.2 hK)) (fun r2 g2 h2 J2 => ?_)
  have er : r = r2 := J.2.2.1.trans J2.2.2.1.symm
  exact mf_icmp_eq (tgt := 1006) (mf_dat eL_law_p4 56 rfl) (by decide) (fun _ => k g2 h2 _ ⟨J2.1, J2.2.1, J2.2.2.2⟩) (fun ne => absurd er ne)
set_option maxRecDepth 100000 in
set_option maxHeartbeats 4000000 in
theorem lwC11 {j : Int} (j0 : 0 ≤ j) (j1 : j + 6 ≤ L) (L1 : L ≤ 3072) (I : lwI S g h) (k : ∀ g h S, lwI S g h → mf_AW C l YL_law room_1 0 lw_Z (lwX C b L xs) 1006 (lwL j) [] 319 g h) : mf_AW C l YL_law room_1 0 lw_Z (lwX C b L xs) 515 (lwL j) [] 319 g h := by
  refine mf_aload_n (mf_dat eL_law_p4 59 rfl) rfl rfl ?_
  refine mf_callV (Yc := YX11_apart) (r := (RX11, TX11, 20)) (ci := 11) (d := 200) (n2 := 319) (K := cX S (apartS S) S) (mf_dat eL_law_p5 0 rfl) ml_L_63 okX11_apart im_X11_apart sl_X11_apart rfl rfl rfl rfl (Nat.le_of_ble_eq_true rfl) lw_room (Nat.le_refl _) is0 (toXB I (fun K hK => X_apart (by decide) I.2.2.1 hK)) (fun r g1 h1 J => ?_)
  refine mf_aload_n (mf_dat eL_law_p5 1 rfl) rfl rfl ?_
  refine mf_callV (Yc := YX12_apart) (r := (RX12, TX12, 106)) (ci := 12) (d := 200) (n2 := 319) (K := cM (apartS S) S) (mf_dat eL_law_p5 2 rfl) ml_L_66 okX12_apart im_X12_apart sl_X12_apart rfl rfl rfl rfl (Nat.le_of_ble_eq_true rfl) lw_room (Nat.le_refl _) is245 (toMB J (fun K hK => M_apart (by decide) J.2.2.2.2 hK)) (fun r2 g2 h2 J2 => ?_)
  have er : r = r2 := J.2.2.1.trans J2.2.2.1.symm
  exact mf_icmp_eq (tgt := 1006) (mf_dat eL_law_p5 3 rfl) (by decide) (fun _ => k g2 h2 _ ⟨J2.1, J2.2.1, J2.2.2.2⟩) (fun ne => absurd er ne)
set_option maxRecDepth 100000 in
set_option maxHeartbeats 4000000 in
theorem lwC12 {j : Int} (j0 : 0 ≤ j) (j1 : j + 6 ≤ L) (L1 : L ≤ 3072) (I : lwI S g h) (k : ∀ g h S, lwI S g h → mf_AW C l YL_law room_1 0 lw_Z (lwX C b L xs) 1006 (lwL j) [] 319 g h) : mf_AW C l YL_law room_1 0 lw_Z (lwX C b L xs) 528 (lwL j) [] 319 g h := by
  refine mf_aload_n (mf_dat eL_law_p5 6 rfl) rfl rfl ?_
  refine mf_aload_n (mf_dat eL_law_p5 7 rfl) rfl rfl ?_
  refine mf_iload_n (mf_dat eL_law_p5 8 rfl) rfl rfl ?_
  refine mf_iconst (v := 1) (mf_dat eL_law_p5 9 rfl) (by decide) ?_
  refine mf_iadd (mf_dat eL_law_p5 10 rfl) ?_
  refine mf_sld (i' := j + 1) (mf_dat eL_law_p5 11 rfl) (w_id (by omega) (by omega)) (by omega) (by omega) ?_
  refine mf_aload_n (mf_dat eL_law_p5 12 rfl) rfl rfl ?_
  refine mf_iload_n (mf_dat eL_law_p5 13 rfl) rfl rfl ?_
  refine mf_iconst (v := 2) (mf_dat eL_law_p5 14 rfl) (by decide) ?_
  refine mf_iadd (mf_dat eL_law_p5 15 rfl) ?_
  refine mf_sld (i' := j + 2) (mf_dat eL_law_p5 16 rfl) (w_id (by omega) (by omega)) (by omega) (by omega) ?_
  refine mf_callV (Yc := YX11_reading) (r := (RX11, TX11, 20)) (ci := 11) (d := 200) (n2 := 319) (K := cX S (readS S (lwV xs (j + 1)) (lwV xs (j + 2))) S) (mf_dat eL_law_p5 17 rfl) ml_L_67 okX11_reading im_X11_reading sl_X11_reading rfl rfl rfl rfl (Nat.le_of_ble_eq_true rfl) lw_room (Nat.le_refl _) is0 (toXA I (fun K hK => X_reading (by decide) I.2.2.1 hK)) (fun r g1 h1 J => ?_)
  refine mf_aload_n (mf_dat eL_law_p5 18 rfl) rfl rfl ?_
  refine mf_aload_n (mf_dat eL_law_p5 19 rfl) rfl rfl ?_
  refine mf_iload_n (mf_dat eL_law_p5 20 rfl) rfl rfl ?_
  refine mf_iconst (v := 1) (mf_dat eL_law_p5 21 rfl) (by decide) ?_
  refine mf_iadd (mf_dat eL_law_p5 22 rfl) ?_
  refine mf_sld (i' := j + 1) (mf_dat eL_law_p5 23 rfl) (w_id (by omega) (by omega)) (by omega) (by omega) ?_
  refine mf_aload_n (mf_dat eL_law_p5 24 rfl) rfl rfl ?_
  refine mf_iload_n (mf_dat eL_law_p5 25 rfl) rfl rfl ?_
  refine mf_iconst (v := 2) (mf_dat eL_law_p5 26 rfl) (by decide) ?_
  refine mf_iadd (mf_dat eL_law_p5 27 rfl) ?_
  refine mf_sld (i' := j + 2) (mf_dat eL_law_p5 28 rfl) (w_id (by omega) (by omega)) (by omega) (by omega) ?_
  refine mf_callV (Yc := YX12_reading) (r := (RX12, TX12, 106)) (ci := 12) (d := 200) (n2 := 319) (K := cM (readS S (lwV xs (j + 1)) (lwV xs (j + 2))) S) (mf_dat eL_law_p5 29 rfl) ml_L_70 okX12_reading im_X12_reading sl_X12_reading rfl rfl rfl rfl (Nat.le_of_ble_eq_true rfl) lw_room (Nat.le_refl _) is245 (toMA J (fun K hK => M_reading (by decide) J.2.2.2.2 hK)) (fun r2 g2 h2 J2 => ?_)
  have er : r = r2 := J.2.2.1.trans J2.2.2.1.symm
  exact mf_icmp_eq (tgt := 1006) (mf_dat eL_law_p5 30 rfl) (by decide) (fun _ => k g2 h2 _ ⟨J2.1, J2.2.1, J2.2.2.2⟩) (fun ne => absurd er ne)
set_option maxRecDepth 100000 in
set_option maxHeartbeats 4000000 in
theorem lwC13 {j : Int} (j0 : 0 ≤ j) (j1 : j + 6 ≤ L) (L1 : L ≤ 3072) (I : lwI S g h) (k : ∀ g h S, lwI S g h → mf_AW C l YL_law room_1 0 lw_Z (lwX C b L xs) 1006 (lwL j) [] 319 g h) : mf_AW C l YL_law room_1 0 lw_Z (lwX C b L xs) 561 (lwL j) [] 319 g h := by
  refine mf_aload_n (mf_dat eL_law_p5 33 rfl) rfl rfl ?_
  refine mf_aload_n (mf_dat eL_law_p5 34 rfl) rfl rfl ?_
  refine mf_iload_n (mf_dat eL_law_p5 35 rfl) rfl rfl ?_
  refine mf_iconst (v := 1) (mf_dat eL_law_p5 36 rfl) (by decide) ?_
  refine mf_iadd (mf_dat eL_law_p5 37 rfl) ?_
  refine mf_sld (i' := j + 1) (mf_dat eL_law_p5 38 rfl) (w_id (by omega) (by omega)) (by omega) (by omega) ?_
  refine mf_aload_n (mf_dat eL_law_p5 39 rfl) rfl rfl ?_
  refine mf_iload_n (mf_dat eL_law_p5 40 rfl) rfl rfl ?_
  refine mf_iconst (v := 2) (mf_dat eL_law_p5 41 rfl) (by decide) ?_
  refine mf_iadd (mf_dat eL_law_p5 42 rfl) ?_
  refine mf_sld (i' := j + 2) (mf_dat eL_law_p5 43 rfl) (w_id (by omega) (by omega)) (by omega) (by omega) ?_
  refine mf_aload_n (mf_dat eL_law_p5 44 rfl) rfl rfl ?_
  refine mf_iload_n (mf_dat eL_law_p5 45 rfl) rfl rfl ?_
  refine mf_iconst (v := 3) (mf_dat eL_law_p5 46 rfl) (by decide) ?_
  refine mf_iadd (mf_dat eL_law_p5 47 rfl) ?_
  refine mf_sld (i' := j + 3) (mf_dat eL_law_p5 48 rfl) (w_id (by omega) (by omega)) (by omega) (by omega) ?_
  refine mf_callV (Yc := YX11_later) (r := (RX11, TX11, 20)) (ci := 11) (d := 200) (n2 := 319) (K := cX S (laterS S (lwV xs (j + 1)) (lwV xs (j + 2)) (lwV xs (j + 3))) S) (mf_dat eL_law_p5 49 rfl) ml_L_71 okX11_later im_X11_later sl_X11_later rfl rfl rfl rfl (Nat.le_of_ble_eq_true rfl) lw_room (Nat.le_refl _) is0 (toXA I (fun K hK => X_later (by decide) I.2.2.1 hK)) (fun r g1 h1 J => ?_)
  refine mf_aload_n (mf_dat eL_law_p5 50 rfl) rfl rfl ?_
  refine mf_aload_n (mf_dat eL_law_p5 51 rfl) rfl rfl ?_
  refine mf_iload_n (mf_dat eL_law_p5 52 rfl) rfl rfl ?_
  refine mf_iconst (v := 1) (mf_dat eL_law_p5 53 rfl) (by decide) ?_
  refine mf_iadd (mf_dat eL_law_p5 54 rfl) ?_
  refine mf_sld (i' := j + 1) (mf_dat eL_law_p5 55 rfl) (w_id (by omega) (by omega)) (by omega) (by omega) ?_
  refine mf_aload_n (mf_dat eL_law_p5 56 rfl) rfl rfl ?_
  refine mf_iload_n (mf_dat eL_law_p5 57 rfl) rfl rfl ?_
  refine mf_iconst (v := 2) (mf_dat eL_law_p5 58 rfl) (by decide) ?_
  refine mf_iadd (mf_dat eL_law_p5 59 rfl) ?_
  refine mf_sld (i' := j + 2) (mf_dat eL_law_p6 0 rfl) (w_id (by omega) (by omega)) (by omega) (by omega) ?_
  refine mf_aload_n (mf_dat eL_law_p6 1 rfl) rfl rfl ?_
  refine mf_iload_n (mf_dat eL_law_p6 2 rfl) rfl rfl ?_
  refine mf_iconst (v := 3) (mf_dat eL_law_p6 3 rfl) (by decide) ?_
  refine mf_iadd (mf_dat eL_law_p6 4 rfl) ?_
  refine mf_sld (i' := j + 3) (mf_dat eL_law_p6 5 rfl) (w_id (by omega) (by omega)) (by omega) (by omega) ?_
  refine mf_callV (Yc := YX12_later) (r := (RX12, TX12, 106)) (ci := 12) (d := 200) (n2 := 319) (K := cM (laterS S (lwV xs (j + 1)) (lwV xs (j + 2)) (lwV xs (j + 3))) S) (mf_dat eL_law_p6 6 rfl) ml_L_74 okX12_later im_X12_later sl_X12_later rfl rfl rfl rfl (Nat.le_of_ble_eq_true rfl) lw_room (Nat.le_refl _) is245 (toMA J (fun K hK => M_later (by decide) J.2.2.2.2 hK)) (fun r2 g2 h2 J2 => ?_)
  have er : r = r2 := J.2.2.1.trans J2.2.2.1.symm
  exact mf_icmp_eq (tgt := 1006) (mf_dat eL_law_p6 7 rfl) (by decide) (fun _ => k g2 h2 _ ⟨J2.1, J2.2.1, J2.2.2.2⟩) (fun ne => absurd er ne)
set_option maxRecDepth 100000 in
set_option maxHeartbeats 4000000 in
theorem lwC14 {j : Int} (j0 : 0 ≤ j) (j1 : j + 6 ≤ L) (L1 : L ≤ 3072) (I : lwI S g h) (k : ∀ g h S, lwI S g h → mf_AW C l YL_law room_1 0 lw_Z (lwX C b L xs) 1006 (lwL j) [] 319 g h) : mf_AW C l YL_law room_1 0 lw_Z (lwX C b L xs) 604 (lwL j) [] 319 g h := by
  refine mf_aload_n (mf_dat eL_law_p6 10 rfl) rfl rfl ?_
  refine mf_aload_n (mf_dat eL_law_p6 11 rfl) rfl rfl ?_
  refine mf_iload_n (mf_dat eL_law_p6 12 rfl) rfl rfl ?_
  refine mf_iconst (v := 1) (mf_dat eL_law_p6 13 rfl) (by decide) ?_
  refine mf_iadd (mf_dat eL_law_p6 14 rfl) ?_
  refine mf_sld (i' := j + 1) (mf_dat eL_law_p6 15 rfl) (w_id (by omega) (by omega)) (by omega) (by omega) ?_
  refine mf_callV (Yc := YX11_opening) (r := (RX11, TX11, 20)) (ci := 11) (d := 200) (n2 := 319) (K := cX S (openingS S (lwV xs (j + 1))) S) (mf_dat eL_law_p6 16 rfl) ml_L_75 okX11_opening im_X11_opening sl_X11_opening rfl rfl rfl rfl (Nat.le_of_ble_eq_true rfl) lw_room (Nat.le_refl _) is0 (toXA I (fun K hK => X_opening (by decide) I.2.2.1 hK)) (fun r g1 h1 J => ?_)
  refine mf_aload_n (mf_dat eL_law_p6 17 rfl) rfl rfl ?_
  refine mf_aload_n (mf_dat eL_law_p6 18 rfl) rfl rfl ?_
  refine mf_iload_n (mf_dat eL_law_p6 19 rfl) rfl rfl ?_
  refine mf_iconst (v := 1) (mf_dat eL_law_p6 20 rfl) (by decide) ?_
  refine mf_iadd (mf_dat eL_law_p6 21 rfl) ?_
  refine mf_sld (i' := j + 1) (mf_dat eL_law_p6 22 rfl) (w_id (by omega) (by omega)) (by omega) (by omega) ?_
  refine mf_callV (Yc := YX12_opening) (r := (RX12, TX12, 106)) (ci := 12) (d := 200) (n2 := 319) (K := cM (openingS S (lwV xs (j + 1))) S) (mf_dat eL_law_p6 23 rfl) ml_L_78 okX12_opening im_X12_opening sl_X12_opening rfl rfl rfl rfl (Nat.le_of_ble_eq_true rfl) lw_room (Nat.le_refl _) is245 (toMA J (fun K hK => M_opening (by decide) J.2.2.2.2 hK)) (fun r2 g2 h2 J2 => ?_)
  have er : r = r2 := J.2.2.1.trans J2.2.2.1.symm
  exact mf_icmp_eq (tgt := 1006) (mf_dat eL_law_p6 24 rfl) (by decide) (fun _ => k g2 h2 _ ⟨J2.1, J2.2.1, J2.2.2.2⟩) (fun ne => absurd er ne)
set_option maxRecDepth 100000 in
set_option maxHeartbeats 4000000 in
theorem lwC15 {j : Int} (j0 : 0 ≤ j) (j1 : j + 6 ≤ L) (L1 : L ≤ 3072) (I : lwI S g h) (k : ∀ g h S, lwI S g h → mf_AW C l YL_law room_1 0 lw_Z (lwX C b L xs) 1006 (lwL j) [] 319 g h) : mf_AW C l YL_law room_1 0 lw_Z (lwX C b L xs) 627 (lwL j) [] 319 g h := by
  refine mf_aload_n (mf_dat eL_law_p6 27 rfl) rfl rfl ?_
  refine mf_aload_n (mf_dat eL_law_p6 28 rfl) rfl rfl ?_
  refine mf_iload_n (mf_dat eL_law_p6 29 rfl) rfl rfl ?_
  refine mf_iconst (v := 1) (mf_dat eL_law_p6 30 rfl) (by decide) ?_
  refine mf_iadd (mf_dat eL_law_p6 31 rfl) ?_
  refine mf_sld (i' := j + 1) (mf_dat eL_law_p6 32 rfl) (w_id (by omega) (by omega)) (by omega) (by omega) ?_
  refine mf_aload_n (mf_dat eL_law_p6 33 rfl) rfl rfl ?_
  refine mf_iload_n (mf_dat eL_law_p6 34 rfl) rfl rfl ?_
  refine mf_iconst (v := 2) (mf_dat eL_law_p6 35 rfl) (by decide) ?_
  refine mf_iadd (mf_dat eL_law_p6 36 rfl) ?_
  refine mf_sld (i' := j + 2) (mf_dat eL_law_p6 37 rfl) (w_id (by omega) (by omega)) (by omega) (by omega) ?_
  refine mf_aload_n (mf_dat eL_law_p6 38 rfl) rfl rfl ?_
  refine mf_iload_n (mf_dat eL_law_p6 39 rfl) rfl rfl ?_
  refine mf_iconst (v := 3) (mf_dat eL_law_p6 40 rfl) (by decide) ?_
  refine mf_iadd (mf_dat eL_law_p6 41 rfl) ?_
  refine mf_sld (i' := j + 3) (mf_dat eL_law_p6 42 rfl) (w_id (by omega) (by omega)) (by omega) (by omega) ?_
  refine mf_callV (Yc := YX11_way) (r := (RX11, TX11, 20)) (ci := 11) (d := 200) (n2 := 319) (K := cX S (wayS S (lwV xs (j + 1)) (lwV xs (j + 2)) (lwV xs (j + 3))) S) (mf_dat eL_law_p6 43 rfl) ml_L_79 okX11_way im_X11_way sl_X11_way rfl rfl rfl rfl (Nat.le_of_ble_eq_true rfl) lw_room (Nat.le_refl _) is0 (toXA I (fun K hK => X_way (by decide) I.2.2.1 hK)) (fun r g1 h1 J => ?_)
  refine mf_aload_n (mf_dat eL_law_p6 44 rfl) rfl rfl ?_
  refine mf_aload_n (mf_dat eL_law_p6 45 rfl) rfl rfl ?_
  refine mf_iload_n (mf_dat eL_law_p6 46 rfl) rfl rfl ?_
  refine mf_iconst (v := 1) (mf_dat eL_law_p6 47 rfl) (by decide) ?_
  refine mf_iadd (mf_dat eL_law_p6 48 rfl) ?_
  refine mf_sld (i' := j + 1) (mf_dat eL_law_p6 49 rfl) (w_id (by omega) (by omega)) (by omega) (by omega) ?_
  refine mf_aload_n (mf_dat eL_law_p6 50 rfl) rfl rfl ?_
  refine mf_iload_n (mf_dat eL_law_p6 51 rfl) rfl rfl ?_
  refine mf_iconst (v := 2) (mf_dat eL_law_p6 52 rfl) (by decide) ?_
  refine mf_iadd (mf_dat eL_law_p6 53 rfl) ?_
  refine mf_sld (i' := j + 2) (mf_dat eL_law_p6 54 rfl) (w_id (by omega) (by omega)) (by omega) (by omega) ?_
  refine mf_aload_n (mf_dat eL_law_p6 55 rfl) rfl rfl ?_
  refine mf_iload_n (mf_dat eL_law_p6 56 rfl) rfl rfl ?_
  refine mf_iconst (v := 3) (mf_dat eL_law_p6 57 rfl) (by decide) ?_
  refine mf_iadd (mf_dat eL_law_p6 58 rfl) ?_
  refine mf_sld (i' := j + 3) (mf_dat eL_law_p6 59 rfl) (w_id (by omega) (by omega)) (by omega) (by omega) ?_
  refine mf_callV (Yc := YX12_way) (r := (RX12, TX12, 106)) (ci := 12) (d := 200) (n2 := 319) (K := cM (wayS S (lwV xs (j + 1)) (lwV xs (j + 2)) (lwV xs (j + 3))) S) (mf_dat eL_law_p7 0 rfl) ml_L_82 okX12_way im_X12_way sl_X12_way rfl rfl rfl rfl (Nat.le_of_ble_eq_true rfl) lw_room (Nat.le_refl _) is245 (toMA J (fun K hK => M_way (by decide) J.2.2.2.2 hK)) (fun r2 g2 h2 J2 => ?_)
  have er : r = r2 := J.2.2.1.trans J2.2.2.1.symm
  exact mf_icmp_eq (tgt := 1006) (mf_dat eL_law_p7 1 rfl) (by decide) (fun _ => k g2 h2 _ ⟨J2.1, J2.2.1, J2.2.2.2⟩) (fun ne => absurd er ne)
set_option maxRecDepth 100000 in
set_option maxHeartbeats 4000000 in
theorem lwC16 {j : Int} (j0 : 0 ≤ j) (j1 : j + 6 ≤ L) (L1 : L ≤ 3072) (I : lwI S g h) (k : ∀ g h S, lwI S g h → mf_AW C l YL_law room_1 0 lw_Z (lwX C b L xs) 1006 (lwL j) [] 319 g h) : mf_AW C l YL_law room_1 0 lw_Z (lwX C b L xs) 670 (lwL j) [] 319 g h := by
  refine mf_aload_n (mf_dat eL_law_p7 4 rfl) rfl rfl ?_
  refine mf_callV (Yc := YX11_see) (r := (RX11, TX11, 20)) (ci := 11) (d := 200) (n2 := 319) (K := cX S (seeS S).1 (seeS S).2) (mf_dat eL_law_p7 5 rfl) ml_L_83 okX11_see im_X11_see sl_X11_see rfl rfl rfl rfl (Nat.le_of_ble_eq_true rfl) lw_room (Nat.le_refl _) is0 (toXA I (fun K hK => X_see (by decide) I.2.2.1 hK)) (fun r g1 h1 J => ?_)
  refine mf_aload_n (mf_dat eL_law_p7 6 rfl) rfl rfl ?_
  refine mf_callV (Yc := YX12_see) (r := (RX12, TX12, 106)) (ci := 12) (d := 200) (n2 := 319) (K := cM (seeS S).1 (seeS S).2) (mf_dat eL_law_p7 7 rfl) ml_L_86 okX12_see im_X12_see sl_X12_see rfl rfl rfl rfl (Nat.le_of_ble_eq_true rfl) lw_room (Nat.le_refl _) is245 (toMA J (fun K hK => M_see (by decide) J.2.2.2.2 hK)) (fun r2 g2 h2 J2 => ?_)
  have er : r = r2 := J.2.2.1.trans J2.2.2.1.symm
  exact mf_icmp_eq (tgt := 1006) (mf_dat eL_law_p7 8 rfl) (by decide) (fun _ => k g2 h2 _ ⟨J2.1, J2.2.1, J2.2.2.2⟩) (fun ne => absurd er ne)
set_option maxRecDepth 100000 in
set_option maxHeartbeats 4000000 in
theorem lwC17 {j : Int} (j0 : 0 ≤ j) (j1 : j + 6 ≤ L) (L1 : L ≤ 3072) (I : lwI S g h) (k : ∀ g h S, lwI S g h → mf_AW C l YL_law room_1 0 lw_Z (lwX C b L xs) 1006 (lwL j) [] 319 g h) : mf_AW C l YL_law room_1 0 lw_Z (lwX C b L xs) 683 (lwL j) [] 319 g h := by
  refine mf_aload_n (mf_dat eL_law_p7 11 rfl) rfl rfl ?_
  refine mf_aload_n (mf_dat eL_law_p7 12 rfl) rfl rfl ?_
  refine mf_iload_n (mf_dat eL_law_p7 13 rfl) rfl rfl ?_
  refine mf_iconst (v := 1) (mf_dat eL_law_p7 14 rfl) (by decide) ?_
  refine mf_iadd (mf_dat eL_law_p7 15 rfl) ?_
  refine mf_sld (i' := j + 1) (mf_dat eL_law_p7 16 rfl) (w_id (by omega) (by omega)) (by omega) (by omega) ?_
  refine mf_callV (Yc := YX11_lay) (r := (RX11, TX11, 20)) (ci := 11) (d := 200) (n2 := 319) (K := cX S (layS S (lwV xs (j + 1))) S) (mf_dat eL_law_p7 17 rfl) ml_L_87 okX11_lay im_X11_lay sl_X11_lay rfl rfl rfl rfl (Nat.le_of_ble_eq_true rfl) lw_room (Nat.le_refl _) is0 (toXA I (fun K hK => X_lay (by decide) I.2.2.1 hK)) (fun r g1 h1 J => ?_)
  refine mf_aload_n (mf_dat eL_law_p7 18 rfl) rfl rfl ?_
  refine mf_aload_n (mf_dat eL_law_p7 19 rfl) rfl rfl ?_
  refine mf_iload_n (mf_dat eL_law_p7 20 rfl) rfl rfl ?_
  refine mf_iconst (v := 1) (mf_dat eL_law_p7 21 rfl) (by decide) ?_
  refine mf_iadd (mf_dat eL_law_p7 22 rfl) ?_
  refine mf_sld (i' := j + 1) (mf_dat eL_law_p7 23 rfl) (w_id (by omega) (by omega)) (by omega) (by omega) ?_
  refine mf_callV (Yc := YX12_lay) (r := (RX12, TX12, 106)) (ci := 12) (d := 200) (n2 := 319) (K := cM (layS S (lwV xs (j + 1))) S) (mf_dat eL_law_p7 24 rfl) ml_L_90 okX12_lay im_X12_lay sl_X12_lay rfl rfl rfl rfl (Nat.le_of_ble_eq_true rfl) lw_room (Nat.le_refl _) is245 (toMA J (fun K hK => M_lay (by decide) J.2.2.2.2 hK)) (fun r2 g2 h2 J2 => ?_)
  have er : r = r2 := J.2.2.1.trans J2.2.2.1.symm
  exact mf_icmp_eq (tgt := 1006) (mf_dat eL_law_p7 25 rfl) (by decide) (fun _ => k g2 h2 _ ⟨J2.1, J2.2.1, J2.2.2.2⟩) (fun ne => absurd er ne)
set_option maxRecDepth 100000 in
set_option maxHeartbeats 4000000 in
theorem lwC18 {j : Int} (j0 : 0 ≤ j) (j1 : j + 6 ≤ L) (L1 : L ≤ 3072) (I : lwI S g h) (k : ∀ g h S, lwI S g h → mf_AW C l YL_law room_1 0 lw_Z (lwX C b L xs) 1006 (lwL j) [] 319 g h) : mf_AW C l YL_law room_1 0 lw_Z (lwX C b L xs) 706 (lwL j) [] 319 g h := by
  refine mf_aload_n (mf_dat eL_law_p7 28 rfl) rfl rfl ?_
  refine mf_aload_n (mf_dat eL_law_p7 29 rfl) rfl rfl ?_
  refine mf_iload_n (mf_dat eL_law_p7 30 rfl) rfl rfl ?_
  refine mf_iconst (v := 1) (mf_dat eL_law_p7 31 rfl) (by decide) ?_
  refine mf_iadd (mf_dat eL_law_p7 32 rfl) ?_
  refine mf_sld (i' := j + 1) (mf_dat eL_law_p7 33 rfl) (w_id (by omega) (by omega)) (by omega) (by omega) ?_
  refine mf_callV (Yc := YX11_after) (r := (RX11, TX11, 20)) (ci := 11) (d := 200) (n2 := 319) (K := cX S (afterS S (lwV xs (j + 1))) S) (mf_dat eL_law_p7 34 rfl) ml_L_91 okX11_after im_X11_after sl_X11_after rfl rfl rfl rfl (Nat.le_of_ble_eq_true rfl) lw_room (Nat.le_refl _) is0 (toXA I (fun K hK => X_after (by decide) I.2.2.1 hK)) (fun r g1 h1 J => ?_)
  refine mf_aload_n (mf_dat eL_law_p7 35 rfl) rfl rfl ?_
  refine mf_aload_n (mf_dat eL_law_p7 36 rfl) rfl rfl ?_
  refine mf_iload_n (mf_dat eL_law_p7 37 rfl) rfl rfl ?_
  refine mf_iconst (v := 1) (mf_dat eL_law_p7 38 rfl) (by decide) ?_
  refine mf_iadd (mf_dat eL_law_p7 39 rfl) ?_
  refine mf_sld (i' := j + 1) (mf_dat eL_law_p7 40 rfl) (w_id (by omega) (by omega)) (by omega) (by omega) ?_
  refine mf_callV (Yc := YX12_after) (r := (RX12, TX12, 106)) (ci := 12) (d := 200) (n2 := 319) (K := cM (afterS S (lwV xs (j + 1))) S) (mf_dat eL_law_p7 41 rfl) ml_L_94 okX12_after im_X12_after sl_X12_after rfl rfl rfl rfl (Nat.le_of_ble_eq_true rfl) lw_room (Nat.le_refl _) is245 (toMA J (fun K hK => M_after (by decide) J.2.2.2.2 hK)) (fun r2 g2 h2 J2 => ?_)
  have er : r = r2 := J.2.2.1.trans J2.2.2.1.symm
  exact mf_icmp_eq (tgt := 1006) (mf_dat eL_law_p7 42 rfl) (by decide) (fun _ => k g2 h2 _ ⟨J2.1, J2.2.1, J2.2.2.2⟩) (fun ne => absurd er ne)
set_option maxRecDepth 100000 in
set_option maxHeartbeats 4000000 in
theorem lwC19 {j : Int} (j0 : 0 ≤ j) (j1 : j + 6 ≤ L) (L1 : L ≤ 3072) (I : lwI S g h) (k : ∀ g h S, lwI S g h → mf_AW C l YL_law room_1 0 lw_Z (lwX C b L xs) 1006 (lwL j) [] 319 g h) : mf_AW C l YL_law room_1 0 lw_Z (lwX C b L xs) 729 (lwL j) [] 319 g h := by
  refine mf_aload_n (mf_dat eL_law_p7 45 rfl) rfl rfl ?_
  refine mf_aload_n (mf_dat eL_law_p7 46 rfl) rfl rfl ?_
  refine mf_iload_n (mf_dat eL_law_p7 47 rfl) rfl rfl ?_
  refine mf_iconst (v := 1) (mf_dat eL_law_p7 48 rfl) (by decide) ?_
  refine mf_iadd (mf_dat eL_law_p7 49 rfl) ?_
  refine mf_sld (i' := j + 1) (mf_dat eL_law_p7 50 rfl) (w_id (by omega) (by omega)) (by omega) (by omega) ?_
  refine mf_aload_n (mf_dat eL_law_p7 51 rfl) rfl rfl ?_
  refine mf_iload_n (mf_dat eL_law_p7 52 rfl) rfl rfl ?_
  refine mf_iconst (v := 2) (mf_dat eL_law_p7 53 rfl) (by decide) ?_
  refine mf_iadd (mf_dat eL_law_p7 54 rfl) ?_
  refine mf_sld (i' := j + 2) (mf_dat eL_law_p7 55 rfl) (w_id (by omega) (by omega)) (by omega) (by omega) ?_
  refine mf_callV (Yc := YX11_trim) (r := (RX11, TX11, 20)) (ci := 11) (d := 200) (n2 := 319) (K := cX S (trimS S (lwV xs (j + 1)) (lwV xs (j + 2))) S) (mf_dat eL_law_p7 56 rfl) ml_L_95 okX11_trim im_X11_trim sl_X11_trim rfl rfl rfl rfl (Nat.le_of_ble_eq_true rfl) lw_room (Nat.le_refl _) is0 (toXB I (fun K hK => X_trim (by decide) I.2.2.1 hK)) (fun r g1 h1 J => ?_)
  refine mf_aload_n (mf_dat eL_law_p7 57 rfl) rfl rfl ?_
  refine mf_aload_n (mf_dat eL_law_p7 58 rfl) rfl rfl ?_
  refine mf_iload_n (mf_dat eL_law_p7 59 rfl) rfl rfl ?_
  refine mf_iconst (v := 1) (mf_dat eL_law_p8 0 rfl) (by decide) ?_
  refine mf_iadd (mf_dat eL_law_p8 1 rfl) ?_
  refine mf_sld (i' := j + 1) (mf_dat eL_law_p8 2 rfl) (w_id (by omega) (by omega)) (by omega) (by omega) ?_
  refine mf_aload_n (mf_dat eL_law_p8 3 rfl) rfl rfl ?_
  refine mf_iload_n (mf_dat eL_law_p8 4 rfl) rfl rfl ?_
  refine mf_iconst (v := 2) (mf_dat eL_law_p8 5 rfl) (by decide) ?_
  refine mf_iadd (mf_dat eL_law_p8 6 rfl) ?_
  refine mf_sld (i' := j + 2) (mf_dat eL_law_p8 7 rfl) (w_id (by omega) (by omega)) (by omega) (by omega) ?_
  refine mf_callV (Yc := YX12_trim) (r := (RX12, TX12, 106)) (ci := 12) (d := 200) (n2 := 319) (K := cM (trimS S (lwV xs (j + 1)) (lwV xs (j + 2))) S) (mf_dat eL_law_p8 8 rfl) ml_L_98 okX12_trim im_X12_trim sl_X12_trim rfl rfl rfl rfl (Nat.le_of_ble_eq_true rfl) lw_room (Nat.le_refl _) is245 (toMB J (fun K hK => M_trim (by decide) J.2.2.2.2 hK)) (fun r2 g2 h2 J2 => ?_)
  have er : r = r2 := J.2.2.1.trans J2.2.2.1.symm
  exact mf_icmp_eq (tgt := 1006) (mf_dat eL_law_p8 9 rfl) (by decide) (fun _ => k g2 h2 _ ⟨J2.1, J2.2.1, J2.2.2.2⟩) (fun ne => absurd er ne)
set_option maxRecDepth 100000 in
set_option maxHeartbeats 4000000 in
theorem lwC20 {j : Int} (j0 : 0 ≤ j) (j1 : j + 6 ≤ L) (L1 : L ≤ 3072) (I : lwI S g h) (k : ∀ g h S, lwI S g h → mf_AW C l YL_law room_1 0 lw_Z (lwX C b L xs) 1006 (lwL j) [] 319 g h) : mf_AW C l YL_law room_1 0 lw_Z (lwX C b L xs) 762 (lwL j) [] 319 g h := by
  refine mf_aload_n (mf_dat eL_law_p8 12 rfl) rfl rfl ?_
  refine mf_aload_n (mf_dat eL_law_p8 13 rfl) rfl rfl ?_
  refine mf_iload_n (mf_dat eL_law_p8 14 rfl) rfl rfl ?_
  refine mf_iconst (v := 1) (mf_dat eL_law_p8 15 rfl) (by decide) ?_
  refine mf_iadd (mf_dat eL_law_p8 16 rfl) ?_
  refine mf_sld (i' := j + 1) (mf_dat eL_law_p8 17 rfl) (w_id (by omega) (by omega)) (by omega) (by omega) ?_
  refine mf_aload_n (mf_dat eL_law_p8 18 rfl) rfl rfl ?_
  refine mf_iload_n (mf_dat eL_law_p8 19 rfl) rfl rfl ?_
  refine mf_iconst (v := 2) (mf_dat eL_law_p8 20 rfl) (by decide) ?_
  refine mf_iadd (mf_dat eL_law_p8 21 rfl) ?_
  refine mf_sld (i' := j + 2) (mf_dat eL_law_p8 22 rfl) (w_id (by omega) (by omega)) (by omega) (by omega) ?_
  refine mf_aload_n (mf_dat eL_law_p8 23 rfl) rfl rfl ?_
  refine mf_iload_n (mf_dat eL_law_p8 24 rfl) rfl rfl ?_
  refine mf_iconst (v := 3) (mf_dat eL_law_p8 25 rfl) (by decide) ?_
  refine mf_iadd (mf_dat eL_law_p8 26 rfl) ?_
  refine mf_sld (i' := j + 3) (mf_dat eL_law_p8 27 rfl) (w_id (by omega) (by omega)) (by omega) (by omega) ?_
  refine mf_callV (Yc := YX11_go) (r := (RX11, TX11, 20)) (ci := 11) (d := 200) (n2 := 319) (K := cX S (goS2 S (lwV xs (j + 1)) (lwV xs (j + 2)) (lwV xs (j + 3))).1 (goS2 S (lwV xs (j + 1)) (lwV xs (j + 2)) (lwV xs (j + 3))).2) (mf_dat eL_law_p8 28 rfl) ml_L_99 okX11_go im_X11_go sl_X11_go rfl rfl rfl rfl (Nat.le_of_ble_eq_true rfl) lw_room (Nat.le_refl _) is0 (toXA I (fun K hK => X_go (by decide) I.2.2.1 hK)) (fun r g1 h1 J => ?_)
  refine mf_aload_n (mf_dat eL_law_p8 29 rfl) rfl rfl ?_
  refine mf_aload_n (mf_dat eL_law_p8 30 rfl) rfl rfl ?_
  refine mf_iload_n (mf_dat eL_law_p8 31 rfl) rfl rfl ?_
  refine mf_iconst (v := 1) (mf_dat eL_law_p8 32 rfl) (by decide) ?_
  refine mf_iadd (mf_dat eL_law_p8 33 rfl) ?_
  refine mf_sld (i' := j + 1) (mf_dat eL_law_p8 34 rfl) (w_id (by omega) (by omega)) (by omega) (by omega) ?_
  refine mf_aload_n (mf_dat eL_law_p8 35 rfl) rfl rfl ?_
  refine mf_iload_n (mf_dat eL_law_p8 36 rfl) rfl rfl ?_
  refine mf_iconst (v := 2) (mf_dat eL_law_p8 37 rfl) (by decide) ?_
  refine mf_iadd (mf_dat eL_law_p8 38 rfl) ?_
  refine mf_sld (i' := j + 2) (mf_dat eL_law_p8 39 rfl) (w_id (by omega) (by omega)) (by omega) (by omega) ?_
  refine mf_aload_n (mf_dat eL_law_p8 40 rfl) rfl rfl ?_
  refine mf_iload_n (mf_dat eL_law_p8 41 rfl) rfl rfl ?_
  refine mf_iconst (v := 3) (mf_dat eL_law_p8 42 rfl) (by decide) ?_
  refine mf_iadd (mf_dat eL_law_p8 43 rfl) ?_
  refine mf_sld (i' := j + 3) (mf_dat eL_law_p8 44 rfl) (w_id (by omega) (by omega)) (by omega) (by omega) ?_
  refine mf_callV (Yc := YX12_go) (r := (RX12, TX12, 106)) (ci := 12) (d := 200) (n2 := 319) (K := cM (goS2 S (lwV xs (j + 1)) (lwV xs (j + 2)) (lwV xs (j + 3))).1 (goS2 S (lwV xs (j + 1)) (lwV xs (j + 2)) (lwV xs (j + 3))).2) (mf_dat eL_law_p8 45 rfl) ml_L_103 okX12_go im_X12_go sl_X12_go rfl rfl rfl rfl (Nat.le_of_ble_eq_true rfl) lw_room (Nat.le_refl _) is245 (toMA J (fun K hK => M_go (by decide) J.2.2.2.2 hK)) (fun r2 g2 h2 J2 => ?_)
  have er : r = r2 := J.2.2.1.trans J2.2.2.1.symm
  exact mf_icmp_eq (tgt := 1006) (mf_dat eL_law_p8 46 rfl) (by decide) (fun _ => k g2 h2 _ ⟨J2.1, J2.2.1, J2.2.2.2⟩) (fun ne => absurd er ne)
set_option maxRecDepth 100000 in
set_option maxHeartbeats 4000000 in
theorem lwC21 {j : Int} (j0 : 0 ≤ j) (j1 : j + 6 ≤ L) (L1 : L ≤ 3072) (I : lwI S g h) (k : ∀ g h S, lwI S g h → mf_AW C l YL_law room_1 0 lw_Z (lwX C b L xs) 1006 (lwL j) [] 319 g h) : mf_AW C l YL_law room_1 0 lw_Z (lwX C b L xs) 805 (lwL j) [] 319 g h := by
  refine mf_aload_n (mf_dat eL_law_p8 49 rfl) rfl rfl ?_
  refine mf_aload_n (mf_dat eL_law_p8 50 rfl) rfl rfl ?_
  refine mf_iload_n (mf_dat eL_law_p8 51 rfl) rfl rfl ?_
  refine mf_iconst (v := 1) (mf_dat eL_law_p8 52 rfl) (by decide) ?_
  refine mf_iadd (mf_dat eL_law_p8 53 rfl) ?_
  refine mf_sld (i' := j + 1) (mf_dat eL_law_p8 54 rfl) (w_id (by omega) (by omega)) (by omega) (by omega) ?_
  refine mf_aload_n (mf_dat eL_law_p8 55 rfl) rfl rfl ?_
  refine mf_iload_n (mf_dat eL_law_p8 56 rfl) rfl rfl ?_
  refine mf_iconst (v := 2) (mf_dat eL_law_p8 57 rfl) (by decide) ?_
  refine mf_iadd (mf_dat eL_law_p8 58 rfl) ?_
  refine mf_sld (i' := j + 2) (mf_dat eL_law_p8 59 rfl) (w_id (by omega) (by omega)) (by omega) (by omega) ?_
  refine mf_callV (Yc := YX11_gloss) (r := (RX11, TX11, 20)) (ci := 11) (d := 200) (n2 := 319) (K := cX S (glossS S (lwV xs (j + 1)) (lwV xs (j + 2))).1 (glossS S (lwV xs (j + 1)) (lwV xs (j + 2))).2) (mf_dat eL_law_p9 0 rfl) ml_L_104 okX11_gloss im_X11_gloss sl_X11_gloss rfl rfl rfl rfl (Nat.le_of_ble_eq_true rfl) lw_room (Nat.le_refl _) is0 (toXA I (fun K hK => X_gloss (by decide) I.2.2.1 hK)) (fun r g1 h1 J => ?_)
  refine mf_aload_n (mf_dat eL_law_p9 1 rfl) rfl rfl ?_
  refine mf_aload_n (mf_dat eL_law_p9 2 rfl) rfl rfl ?_
  refine mf_iload_n (mf_dat eL_law_p9 3 rfl) rfl rfl ?_
  refine mf_iconst (v := 1) (mf_dat eL_law_p9 4 rfl) (by decide) ?_
  refine mf_iadd (mf_dat eL_law_p9 5 rfl) ?_
  refine mf_sld (i' := j + 1) (mf_dat eL_law_p9 6 rfl) (w_id (by omega) (by omega)) (by omega) (by omega) ?_
  refine mf_aload_n (mf_dat eL_law_p9 7 rfl) rfl rfl ?_
  refine mf_iload_n (mf_dat eL_law_p9 8 rfl) rfl rfl ?_
  refine mf_iconst (v := 2) (mf_dat eL_law_p9 9 rfl) (by decide) ?_
  refine mf_iadd (mf_dat eL_law_p9 10 rfl) ?_
  refine mf_sld (i' := j + 2) (mf_dat eL_law_p9 11 rfl) (w_id (by omega) (by omega)) (by omega) (by omega) ?_
  refine mf_callV (Yc := YX12_gloss) (r := (RX12, TX12, 106)) (ci := 12) (d := 200) (n2 := 319) (K := cM (glossS S (lwV xs (j + 1)) (lwV xs (j + 2))).1 (glossS S (lwV xs (j + 1)) (lwV xs (j + 2))).2) (mf_dat eL_law_p9 12 rfl) ml_L_107 okX12_gloss im_X12_gloss sl_X12_gloss rfl rfl rfl rfl (Nat.le_of_ble_eq_true rfl) lw_room (Nat.le_refl _) is245 (toMA J (fun K hK => M_gloss (by decide) J.2.2.2.2 hK)) (fun r2 g2 h2 J2 => ?_)
  have er : r = r2 := J.2.2.1.trans J2.2.2.1.symm
  exact mf_icmp_eq (tgt := 1006) (mf_dat eL_law_p9 13 rfl) (by decide) (fun _ => k g2 h2 _ ⟨J2.1, J2.2.1, J2.2.2.2⟩) (fun ne => absurd er ne)
set_option maxRecDepth 100000 in
set_option maxHeartbeats 4000000 in
theorem lwC22 {j : Int} (j0 : 0 ≤ j) (j1 : j + 6 ≤ L) (L1 : L ≤ 3072) (I : lwI S g h) (k : ∀ g h S, lwI S g h → mf_AW C l YL_law room_1 0 lw_Z (lwX C b L xs) 1006 (lwL j) [] 319 g h) : mf_AW C l YL_law room_1 0 lw_Z (lwX C b L xs) 838 (lwL j) [] 319 g h := by
  refine mf_aload_n (mf_dat eL_law_p9 16 rfl) rfl rfl ?_
  refine mf_aload_n (mf_dat eL_law_p9 17 rfl) rfl rfl ?_
  refine mf_iload_n (mf_dat eL_law_p9 18 rfl) rfl rfl ?_
  refine mf_iconst (v := 1) (mf_dat eL_law_p9 19 rfl) (by decide) ?_
  refine mf_iadd (mf_dat eL_law_p9 20 rfl) ?_
  refine mf_sld (i' := j + 1) (mf_dat eL_law_p9 21 rfl) (w_id (by omega) (by omega)) (by omega) (by omega) ?_
  refine mf_callV (Yc := YX11_days) (r := (RX11, TX11, 20)) (ci := 11) (d := 200) (n2 := 319) (K := cX S (daysS S (lwV xs (j + 1))).1 (daysS S (lwV xs (j + 1))).2) (mf_dat eL_law_p9 22 rfl) ml_L_108 okX11_days im_X11_days sl_X11_days rfl rfl rfl rfl (Nat.le_of_ble_eq_true rfl) lw_room (Nat.le_refl _) is0 (toXA I (fun K hK => X_days (by decide) I.2.2.1 hK)) (fun r g1 h1 J => ?_)
  refine mf_aload_n (mf_dat eL_law_p9 23 rfl) rfl rfl ?_
  refine mf_aload_n (mf_dat eL_law_p9 24 rfl) rfl rfl ?_
  refine mf_iload_n (mf_dat eL_law_p9 25 rfl) rfl rfl ?_
  refine mf_iconst (v := 1) (mf_dat eL_law_p9 26 rfl) (by decide) ?_
  refine mf_iadd (mf_dat eL_law_p9 27 rfl) ?_
  refine mf_sld (i' := j + 1) (mf_dat eL_law_p9 28 rfl) (w_id (by omega) (by omega)) (by omega) (by omega) ?_
  refine mf_callV (Yc := YX12_days) (r := (RX12, TX12, 106)) (ci := 12) (d := 200) (n2 := 319) (K := cM (daysS S (lwV xs (j + 1))).1 (daysS S (lwV xs (j + 1))).2) (mf_dat eL_law_p9 29 rfl) ml_L_111 okX12_days im_X12_days sl_X12_days rfl rfl rfl rfl (Nat.le_of_ble_eq_true rfl) lw_room (Nat.le_refl _) is245 (toMA J (fun K hK => M_days (by decide) J.2.2.2.2 hK)) (fun r2 g2 h2 J2 => ?_)
  have er : r = r2 := J.2.2.1.trans J2.2.2.1.symm
  exact mf_icmp_eq (tgt := 1006) (mf_dat eL_law_p9 30 rfl) (by decide) (fun _ => k g2 h2 _ ⟨J2.1, J2.2.1, J2.2.2.2⟩) (fun ne => absurd er ne)
set_option maxRecDepth 100000 in
set_option maxHeartbeats 4000000 in
theorem lwC23 {j : Int} (j0 : 0 ≤ j) (j1 : j + 6 ≤ L) (L1 : L ≤ 3072) (I : lwI S g h) (k : ∀ g h S, lwI S g h → mf_AW C l YL_law room_1 0 lw_Z (lwX C b L xs) 1006 (lwL j) [] 319 g h) : mf_AW C l YL_law room_1 0 lw_Z (lwX C b L xs) 861 (lwL j) [] 319 g h := by
  refine mf_aload_n (mf_dat eL_law_p9 33 rfl) rfl rfl ?_
  refine mf_aload_n (mf_dat eL_law_p9 34 rfl) rfl rfl ?_
  refine mf_iload_n (mf_dat eL_law_p9 35 rfl) rfl rfl ?_
  refine mf_iconst (v := 1) (mf_dat eL_law_p9 36 rfl) (by decide) ?_
  refine mf_iadd (mf_dat eL_law_p9 37 rfl) ?_
  refine mf_sld (i' := j + 1) (mf_dat eL_law_p9 38 rfl) (w_id (by omega) (by omega)) (by omega) (by omega) ?_
  refine mf_callV (Yc := YX11_chance) (r := (RX11, TX11, 20)) (ci := 11) (d := 200) (n2 := 319) (K := cX S (chanceS S (lwV xs (j + 1))).1 (chanceS S (lwV xs (j + 1))).2) (mf_dat eL_law_p9 39 rfl) ml_L_112 okX11_chance im_X11_chance sl_X11_chance rfl rfl rfl rfl (Nat.le_of_ble_eq_true rfl) lw_room (Nat.le_refl _) is0 (toXA I (fun K hK => X_chance (by decide) I.2.2.1 hK)) (fun r g1 h1 J => ?_)
  refine mf_aload_n (mf_dat eL_law_p9 40 rfl) rfl rfl ?_
  refine mf_aload_n (mf_dat eL_law_p9 41 rfl) rfl rfl ?_
  refine mf_iload_n (mf_dat eL_law_p9 42 rfl) rfl rfl ?_
  refine mf_iconst (v := 1) (mf_dat eL_law_p9 43 rfl) (by decide) ?_
  refine mf_iadd (mf_dat eL_law_p9 44 rfl) ?_
  refine mf_sld (i' := j + 1) (mf_dat eL_law_p9 45 rfl) (w_id (by omega) (by omega)) (by omega) (by omega) ?_
  refine mf_callV (Yc := YX12_chance) (r := (RX12, TX12, 106)) (ci := 12) (d := 200) (n2 := 319) (K := cM (chanceS S (lwV xs (j + 1))).1 (chanceS S (lwV xs (j + 1))).2) (mf_dat eL_law_p9 46 rfl) ml_L_115 okX12_chance im_X12_chance sl_X12_chance rfl rfl rfl rfl (Nat.le_of_ble_eq_true rfl) lw_room (Nat.le_refl _) is245 (toMA J (fun K hK => M_chance (by decide) J.2.2.2.2 hK)) (fun r2 g2 h2 J2 => ?_)
  have er : r = r2 := J.2.2.1.trans J2.2.2.1.symm
  exact mf_icmp_eq (tgt := 1006) (mf_dat eL_law_p9 47 rfl) (by decide) (fun _ => k g2 h2 _ ⟨J2.1, J2.2.1, J2.2.2.2⟩) (fun ne => absurd er ne)
set_option maxRecDepth 100000 in
set_option maxHeartbeats 4000000 in
theorem lwC24 {j : Int} (j0 : 0 ≤ j) (j1 : j + 6 ≤ L) (L1 : L ≤ 3072) (I : lwI S g h) (k : ∀ g h S, lwI S g h → mf_AW C l YL_law room_1 0 lw_Z (lwX C b L xs) 1006 (lwL j) [] 319 g h) : mf_AW C l YL_law room_1 0 lw_Z (lwX C b L xs) 884 (lwL j) [] 319 g h := by
  refine mf_aload_n (mf_dat eL_law_p9 50 rfl) rfl rfl ?_
  refine mf_callV (Yc := YX11_undo) (r := (RX11, TX11, 20)) (ci := 11) (d := 200) (n2 := 319) (K := cX S (undoS S).1 (undoS S).2) (mf_dat eL_law_p9 51 rfl) ml_L_116 okX11_undo im_X11_undo sl_X11_undo rfl rfl rfl rfl (Nat.le_of_ble_eq_true rfl) lw_room (Nat.le_refl _) is0 (toXA I (fun K hK => X_undo (by decide) I.2.2.1 hK)) (fun r g1 h1 J => ?_)
  refine mf_aload_n (mf_dat eL_law_p9 52 rfl) rfl rfl ?_
  refine mf_callV (Yc := YX12_undo) (r := (RX12, TX12, 106)) (ci := 12) (d := 200) (n2 := 319) (K := cM (undoS S).1 (undoS S).2) (mf_dat eL_law_p9 53 rfl) ml_L_120 okX12_undo im_X12_undo sl_X12_undo rfl rfl rfl rfl (Nat.le_of_ble_eq_true rfl) lw_room (Nat.le_refl _) is245 (toMA J (fun K hK => M_undo J.2.2.2.2 hK)) (fun r2 g2 h2 J2 => ?_)
  have er : r = r2 := J.2.2.1.trans J2.2.2.1.symm
  exact mf_icmp_eq (tgt := 1006) (mf_dat eL_law_p9 54 rfl) (by decide) (fun _ => k g2 h2 _ ⟨J2.1, J2.2.1, J2.2.2.2⟩) (fun ne => absurd er ne)
set_option maxRecDepth 100000 in
set_option maxHeartbeats 4000000 in
theorem lwC25 {j : Int} (j0 : 0 ≤ j) (j1 : j + 6 ≤ L) (L1 : L ≤ 3072) (I : lwI S g h) (k : ∀ g h S, lwI S g h → mf_AW C l YL_law room_1 0 lw_Z (lwX C b L xs) 1006 (lwL j) [] 319 g h) : mf_AW C l YL_law room_1 0 lw_Z (lwX C b L xs) 897 (lwL j) [] 319 g h := by
  refine mf_aload_n (mf_dat eL_law_p9 57 rfl) rfl rfl ?_
  refine mf_aload_n (mf_dat eL_law_p9 58 rfl) rfl rfl ?_
  refine mf_iload_n (mf_dat eL_law_p9 59 rfl) rfl rfl ?_
  refine mf_iconst (v := 1) (mf_dat eL_law_p10 0 rfl) (by decide) ?_
  refine mf_iadd (mf_dat eL_law_p10 1 rfl) ?_
  refine mf_sld (i' := j + 1) (mf_dat eL_law_p10 2 rfl) (w_id (by omega) (by omega)) (by omega) (by omega) ?_
  refine mf_callV (Yc := YX11_seed) (r := (RX11, TX11, 20)) (ci := 11) (d := 200) (n2 := 319) (K := cX S (seedS S (lwV xs (j + 1))).1 (seedS S (lwV xs (j + 1))).2) (mf_dat eL_law_p10 3 rfl) ml_L_121 okX11_seed im_X11_seed sl_X11_seed rfl rfl rfl rfl (Nat.le_of_ble_eq_true rfl) lw_room (Nat.le_refl _) is0 (toXA I (fun K hK => X_seed (lwV_lt _ _) I.2.2.1 hK)) (fun r g1 h1 J => ?_)
  refine mf_aload_n (mf_dat eL_law_p10 4 rfl) rfl rfl ?_
  refine mf_aload_n (mf_dat eL_law_p10 5 rfl) rfl rfl ?_
  refine mf_iload_n (mf_dat eL_law_p10 6 rfl) rfl rfl ?_
  refine mf_iconst (v := 1) (mf_dat eL_law_p10 7 rfl) (by decide) ?_
  refine mf_iadd (mf_dat eL_law_p10 8 rfl) ?_
  refine mf_sld (i' := j + 1) (mf_dat eL_law_p10 9 rfl) (w_id (by omega) (by omega)) (by omega) (by omega) ?_
  refine mf_callV (Yc := YX12_seed) (r := (RX12, TX12, 106)) (ci := 12) (d := 200) (n2 := 319) (K := cM (seedS S (lwV xs (j + 1))).1 (seedS S (lwV xs (j + 1))).2) (mf_dat eL_law_p10 10 rfl) ml_L_124 okX12_seed im_X12_seed sl_X12_seed rfl rfl rfl rfl (Nat.le_of_ble_eq_true rfl) lw_room (Nat.le_refl _) is245 (toMA J (fun K hK => M_seed (lwV_lt _ _) J.2.2.2.2 hK)) (fun r2 g2 h2 J2 => ?_)
  have er : r = r2 := J.2.2.1.trans J2.2.2.1.symm
  exact mf_icmp_eq (tgt := 1006) (mf_dat eL_law_p10 11 rfl) (by decide) (fun _ => k g2 h2 _ ⟨J2.1, J2.2.1, J2.2.2.2⟩) (fun ne => absurd er ne)
set_option maxRecDepth 100000 in
set_option maxHeartbeats 4000000 in
theorem lwC26 {j : Int} (j0 : 0 ≤ j) (j1 : j + 6 ≤ L) (L1 : L ≤ 3072) (I : lwI S g h) (k : ∀ g h S, lwI S g h → mf_AW C l YL_law room_1 0 lw_Z (lwX C b L xs) 1006 (lwL j) [] 319 g h) : mf_AW C l YL_law room_1 0 lw_Z (lwX C b L xs) 920 (lwL j) [] 319 g h := by
  refine mf_aload_n (mf_dat eL_law_p10 14 rfl) rfl rfl ?_
  refine mf_callV (Yc := YX11_ask) (r := (RX11, TX11, 20)) (ci := 11) (d := 200) (n2 := 319) (K := cX S (askS S).1 (askS S).2) (mf_dat eL_law_p10 15 rfl) ml_L_125 okX11_ask im_X11_ask sl_X11_ask rfl rfl rfl rfl (Nat.le_of_ble_eq_true rfl) lw_room (Nat.le_refl _) is0 (toXC I (fun K hK => X_ask (by decide) I.2.2.1 hK)) (fun r g1 h1 J => ?_)
  refine mf_aload_n (mf_dat eL_law_p10 16 rfl) rfl rfl ?_
  refine mf_callV (Yc := YX12_ask) (r := (RX12, TX12, 106)) (ci := 12) (d := 200) (n2 := 319) (K := cM (askS S).1 (askS S).2) (mf_dat eL_law_p10 17 rfl) ml_L_129 okX12_ask im_X12_ask sl_X12_ask rfl rfl rfl rfl (Nat.le_of_ble_eq_true rfl) lw_room (Nat.le_refl _) is245 (toMA J (fun K hK => M_ask (by decide) J.2.2.2.2 hK)) (fun r2 g2 h2 J2 => ?_)
  have er : r = r2 := J.2.2.1.trans J2.2.2.1.symm
  exact mf_lcmp_eq (tgt := 1006) (mf_dat eL_law_p10 18 rfl) (mf_dat eL_law_p10 19 rfl) (by decide) (fun _ => k g2 h2 _ ⟨J2.1, J2.2.1, J2.2.2.2⟩) (fun ne => absurd er ne)
set_option maxRecDepth 100000 in
set_option maxHeartbeats 4000000 in
theorem lwC27 {j : Int} (j0 : 0 ≤ j) (j1 : j + 6 ≤ L) (L1 : L ≤ 3072) (I : lwI S g h) (k : ∀ g h S, lwI S g h → mf_AW C l YL_law room_1 0 lw_Z (lwX C b L xs) 1006 (lwL j) [] 319 g h) : mf_AW C l YL_law room_1 0 lw_Z (lwX C b L xs) 934 (lwL j) [] 319 g h := by
  refine mf_aload_n (mf_dat eL_law_p10 22 rfl) rfl rfl ?_
  refine mf_callV (Yc := YX11_image) (r := (RX11, TX11, 20)) (ci := 11) (d := 200) (n2 := 319) (K := cX S (imageS S).1 (imageS S).2) (mf_dat eL_law_p10 23 rfl) ml_L_130 okX11_image im_X11_image sl_X11_image rfl rfl rfl rfl (Nat.le_of_ble_eq_true rfl) lw_room (Nat.le_refl _) is0 (toXA I (fun K hK => X_image (by decide) I.2.2.1 hK)) (fun r g1 h1 J => ?_)
  refine mf_aload_n (mf_dat eL_law_p10 24 rfl) rfl rfl ?_
  refine mf_callV (Yc := YX12_image) (r := (RX12, TX12, 106)) (ci := 12) (d := 200) (n2 := 319) (K := cM (imageS S).1 (imageS S).2) (mf_dat eL_law_p10 25 rfl) ml_L_133 okX12_image im_X12_image sl_X12_image rfl rfl rfl rfl (Nat.le_of_ble_eq_true rfl) lw_room (Nat.le_refl _) is245 (toMA J (fun K hK => M_image (by decide) J.2.2.2.2 hK)) (fun r2 g2 h2 J2 => ?_)
  have er : r = r2 := J.2.2.1.trans J2.2.2.1.symm
  exact mf_icmp_eq (tgt := 1006) (mf_dat eL_law_p10 26 rfl) (by decide) (fun _ => k g2 h2 _ ⟨J2.1, J2.2.1, J2.2.2.2⟩) (fun ne => absurd er ne)
set_option maxRecDepth 100000 in
set_option maxHeartbeats 4000000 in
theorem lwC28 {j : Int} (j0 : 0 ≤ j) (j1 : j + 6 ≤ L) (L1 : L ≤ 3072) (I : lwI S g h) (k : ∀ g h S, lwI S g h → mf_AW C l YL_law room_1 0 lw_Z (lwX C b L xs) 1006 (lwL j) [] 319 g h) : mf_AW C l YL_law room_1 0 lw_Z (lwX C b L xs) 947 (lwL j) [] 319 g h := by
  refine mf_aload_n (mf_dat eL_law_p10 29 rfl) rfl rfl ?_
  refine mf_aload_n (mf_dat eL_law_p10 30 rfl) rfl rfl ?_
  refine mf_iload_n (mf_dat eL_law_p10 31 rfl) rfl rfl ?_
  refine mf_iconst (v := 1) (mf_dat eL_law_p10 32 rfl) (by decide) ?_
  refine mf_iadd (mf_dat eL_law_p10 33 rfl) ?_
  refine mf_sld (i' := j + 1) (mf_dat eL_law_p10 34 rfl) (w_id (by omega) (by omega)) (by omega) (by omega) ?_
  refine mf_callV (Yc := YX11_octet) (r := (RX11, TX11, 20)) (ci := 11) (d := 200) (n2 := 319) (K := cX S (octetS S (lwV xs (j + 1))) S) (mf_dat eL_law_p10 35 rfl) ml_L_134 okX11_octet im_X11_octet sl_X11_octet rfl rfl rfl rfl (Nat.le_of_ble_eq_true rfl) lw_room (Nat.le_refl _) is0 (toXB I (fun K hK => X_octet I.2.2.1 hK)) (fun r g1 h1 J => ?_)
  refine mf_aload_n (mf_dat eL_law_p10 36 rfl) rfl rfl ?_
  refine mf_aload_n (mf_dat eL_law_p10 37 rfl) rfl rfl ?_
  refine mf_iload_n (mf_dat eL_law_p10 38 rfl) rfl rfl ?_
  refine mf_iconst (v := 1) (mf_dat eL_law_p10 39 rfl) (by decide) ?_
  refine mf_iadd (mf_dat eL_law_p10 40 rfl) ?_
  refine mf_sld (i' := j + 1) (mf_dat eL_law_p10 41 rfl) (w_id (by omega) (by omega)) (by omega) (by omega) ?_
  refine mf_callV (Yc := YX12_octet) (r := (RX12, TX12, 106)) (ci := 12) (d := 200) (n2 := 319) (K := cM (octetS S (lwV xs (j + 1))) S) (mf_dat eL_law_p10 42 rfl) ml_L_137 okX12_octet im_X12_octet sl_X12_octet rfl rfl rfl rfl (Nat.le_of_ble_eq_true rfl) lw_room (Nat.le_refl _) is245 (toMB J (fun K hK => M_octet J.2.2.2.2 hK)) (fun r2 g2 h2 J2 => ?_)
  have er : r = r2 := J.2.2.1.trans J2.2.2.1.symm
  exact mf_icmp_eq (tgt := 1006) (mf_dat eL_law_p10 43 rfl) (by decide) (fun _ => k g2 h2 _ ⟨J2.1, J2.2.1, J2.2.2.2⟩) (fun ne => absurd er ne)
set_option maxRecDepth 100000 in
set_option maxHeartbeats 4000000 in
theorem lwC29 {j : Int} (j0 : 0 ≤ j) (j1 : j + 6 ≤ L) (L1 : L ≤ 3072) (I : lwI S g h) (k : ∀ g h S, lwI S g h → mf_AW C l YL_law room_1 0 lw_Z (lwX C b L xs) 1006 (lwL j) [] 319 g h) : mf_AW C l YL_law room_1 0 lw_Z (lwX C b L xs) 970 (lwL j) [] 319 g h := by
  refine mf_aload_n (mf_dat eL_law_p10 46 rfl) rfl rfl ?_
  refine mf_callV (Yc := YX11_on) (r := (RX11, TX11, 20)) (ci := 11) (d := 200) (n2 := 319) (K := cX S (onS3 S).1 (onS3 S).2) (mf_dat eL_law_p10 47 rfl) ml_L_138 okX11_on im_X11_on sl_X11_on rfl rfl rfl rfl (Nat.le_of_ble_eq_true rfl) lw_room (Nat.le_refl _) is0 (toXA I (fun K hK => X_on (by decide) I.2.2.1 hK)) (fun r g1 h1 J => ?_)
  refine mf_aload_n (mf_dat eL_law_p10 48 rfl) rfl rfl ?_
  refine mf_callV (Yc := YX12_on) (r := (RX12, TX12, 106)) (ci := 12) (d := 200) (n2 := 319) (K := cM (onS3 S).1 (onS3 S).2) (mf_dat eL_law_p10 49 rfl) ml_L_141 okX12_on im_X12_on sl_X12_on rfl rfl rfl rfl (Nat.le_of_ble_eq_true rfl) lw_room (Nat.le_refl _) is245 (toMA J (fun K hK => M_on (by decide) J.2.2.2.2 hK)) (fun r2 g2 h2 J2 => ?_)
  have er : r = r2 := J.2.2.1.trans J2.2.2.1.symm
  exact mf_icmp_eq (tgt := 1006) (mf_dat eL_law_p10 50 rfl) (by decide) (fun _ => k g2 h2 _ ⟨J2.1, J2.2.1, J2.2.2.2⟩) (fun ne => absurd er ne)
set_option maxRecDepth 100000 in
set_option maxHeartbeats 4000000 in
theorem lwC30 {j : Int} (j0 : 0 ≤ j) (j1 : j + 6 ≤ L) (L1 : L ≤ 3072) (I : lwI S g h) (k : ∀ g h S, lwI S g h → mf_AW C l YL_law room_1 0 lw_Z (lwX C b L xs) 1006 (lwL j) [] 319 g h) : mf_AW C l YL_law room_1 0 lw_Z (lwX C b L xs) 983 (lwL j) [] 319 g h := by
  refine mf_aload_n (mf_dat eL_law_p10 53 rfl) rfl rfl ?_
  refine mf_aload_n (mf_dat eL_law_p10 54 rfl) rfl rfl ?_
  refine mf_iload_n (mf_dat eL_law_p10 55 rfl) rfl rfl ?_
  refine mf_iconst (v := 1) (mf_dat eL_law_p10 56 rfl) (by decide) ?_
  refine mf_iadd (mf_dat eL_law_p10 57 rfl) ?_
  refine mf_sld (i' := j + 1) (mf_dat eL_law_p10 58 rfl) (w_id (by omega) (by omega)) (by omega) (by omega) ?_
  refine mf_callV (Yc := YX11_status) (r := (RX11, TX11, 20)) (ci := 11) (d := 200) (n2 := 319) (K := cX S (statusS S (lwV xs (j + 1))) S) (mf_dat eL_law_p10 59 rfl) ml_L_142 okX11_status im_X11_status sl_X11_status rfl rfl rfl rfl (Nat.le_of_ble_eq_true rfl) lw_room (Nat.le_refl _) is0 (toXB I (fun K hK => X_status I.2.2.1 hK)) (fun r g1 h1 J => ?_)
  refine mf_aload_n (mf_dat eL_law_p11 0 rfl) rfl rfl ?_
  refine mf_aload_n (mf_dat eL_law_p11 1 rfl) rfl rfl ?_
  refine mf_iload_n (mf_dat eL_law_p11 2 rfl) rfl rfl ?_
  refine mf_iconst (v := 1) (mf_dat eL_law_p11 3 rfl) (by decide) ?_
  refine mf_iadd (mf_dat eL_law_p11 4 rfl) ?_
  refine mf_sld (i' := j + 1) (mf_dat eL_law_p11 5 rfl) (w_id (by omega) (by omega)) (by omega) (by omega) ?_
  refine mf_callV (Yc := YX12_status) (r := (RX12, TX12, 106)) (ci := 12) (d := 200) (n2 := 319) (K := cM (statusS S (lwV xs (j + 1))) S) (mf_dat eL_law_p11 6 rfl) ml_L_145 okX12_status im_X12_status sl_X12_status rfl rfl rfl rfl (Nat.le_of_ble_eq_true rfl) lw_room (Nat.le_refl _) is245 (toMB J (fun K hK => M_status (by decide) J.2.2.2.2 hK)) (fun r2 g2 h2 J2 => ?_)
  have er : r = r2 := J.2.2.1.trans J2.2.2.1.symm
  exact mf_icmp_eq (tgt := 1006) (mf_dat eL_law_p11 7 rfl) (by decide) (fun _ => k g2 h2 _ ⟨J2.1, J2.2.1, J2.2.2.2⟩) (fun ne => absurd er ne)
end LawC
