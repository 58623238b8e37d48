set_option maxRecDepth 100000 in
set_option maxHeartbeats 4000000 in
theorem wX12_isIn {C : mf_G} {l : Launch} {d : Nat} {K : Int → mf_M → Prop} {x0 x2 x4 : Int} {h : mf_M} (hyp : ((x0 < x2 → K 0 h) ∧ (¬ x0 < x2 → ((x4 < x0 → K 0 h) ∧ (¬ x4 < x0 → K 1 h))))) : mM C l d YX12_isIn [(1, x0), (1, x2), (1, x4)] h K := by
  intro g hG
  refine mf_entry (by decide) (Nat.le_of_ble_eq_true rfl) ?_
  refine mf_lload_n (mf_dat eX12_isIn 0 rfl) rfl rfl ?_
  refine mf_lload_n (mf_dat eX12_isIn 1 rfl) rfl rfl ?_
  refine mf_lcmp_lt (tgt := 17) (mf_dat eX12_isIn 2 rfl) (mf_dat eX12_isIn 3 rfl) (by decide) (fun hc => ?_) (fun hc => ?_)
  · replace hyp := hyp.1 hc
    refine mf_iconst (v := 0) (mf_dat eX12_isIn 10 rfl) (by decide) ?_
    exact mf_ireturn (mf_dat eX12_isIn 11 rfl) rfl (Or.inr ⟨rfl, by decide⟩) ⟨rfl, hyp⟩
  · replace hyp := hyp.2 hc
    refine mf_lload_n (mf_dat eX12_isIn 4 rfl) rfl rfl ?_
    refine mf_lload (mf_dat eX12_isIn 5 rfl) rfl ?_
    refine mf_lcmp_gt (tgt := 17) (mf_dat eX12_isIn 6 rfl) (mf_dat eX12_isIn 7 rfl) (by decide) (fun hc => ?_) (fun hc => ?_)
    · replace hyp := hyp.1 hc
      refine mf_iconst (v := 0) (mf_dat eX12_isIn 10 rfl) (by decide) ?_
      exact mf_ireturn (mf_dat eX12_isIn 11 rfl) rfl (Or.inr ⟨rfl, by decide⟩) ⟨rfl, hyp⟩
    · replace hyp := hyp.2 hc
      refine mf_iconst (v := 1) (mf_dat eX12_isIn 8 rfl) (by decide) ?_
      refine mf_goto (tgt := 18) (mf_dat eX12_isIn 9 rfl) (by decide) ?_
      exact mf_ireturn (mf_dat eX12_isIn 11 rfl) rfl (Or.inr ⟨rfl, by decide⟩) ⟨rfl, hyp⟩
abbrev BX12_feed_28 (C : mf_G) (l : Launch) (d : Nat) (K : Int → mf_M → Prop) (x1 x2 x3 x4 x5 x6 : Int) (h : mf_M) : Prop := jM C l d YX12_feed K 28 [(0, (2, 245)), (1, (0, x1)), (2, (0, x2)), (3, (0, x3)), (4, (0, x4)), (5, (0, x5)), (6, (0, x6))] [] h
abbrev BX12_feed_81 (C : mf_G) (l : Launch) (d : Nat) (K : Int → mf_M → Prop) (x1 x2 x3 x4 x5 x6 s0 : Int) (h : mf_M) : Prop := jM C l d YX12_feed K 81 [(0, (2, 245)), (1, (0, x1)), (2, (0, x2)), (3, (0, x3)), (4, (0, x4)), (5, (0, x5)), (6, (0, x6))] [(0, s0)] h
set_option maxRecDepth 100000 in
set_option maxHeartbeats 4000000 in
theorem vX12_feed_28 {C : mf_G} {l : Launch} {d : Nat} {K : Int → mf_M → Prop} {x1 x2 x3 x4 x5 x6 : Int} {h : mf_M} (hyp : ((20 ≤ x6 → K (h 245 1) h) ∧ (¬ 20 ≤ x6 → ((4 ≤ x6 → ((8 ≤ x6 → ((12 ≤ x6 → ((16 ≤ x6 → BX12_feed_81 C l d K x1 x2 x3 x4 x5 x6 x5 h) ∧ (¬ 16 ≤ x6 → BX12_feed_81 C l d K x1 x2 x3 x4 x5 x6 x4 h))) ∧ (¬ 12 ≤ x6 → BX12_feed_81 C l d K x1 x2 x3 x4 x5 x6 x3 h))) ∧ (¬ 8 ≤ x6 → BX12_feed_81 C l d K x1 x2 x3 x4 x5 x6 x2 h))) ∧ (¬ 4 ≤ x6 → BX12_feed_81 C l d K x1 x2 x3 x4 x5 x6 x1 h))))) : BX12_feed_28 C l d K x1 x2 x3 x4 x5 x6 h := by
  intro g hG
  refine mf_iload (mf_dat eX12_feed_p0 18 rfl) rfl ?_
  refine mf_bipush (v := 20) (mf_dat eX12_feed_p0 19 rfl) (by decide) ?_
  refine mf_icmp_ge (tgt := 124) (mf_dat eX12_feed_p0 20 rfl) (by decide) (fun hc => ?_) (fun hc => ?_)
  · replace hyp := hyp.1 hc
    refine mf_aload_n (mf_dat eX12_feed_p1 7 rfl) rfl rfl ?_
    refine mf_getf (r := (RX12, TX12, 106)) (ci := 12) (k := 1) (t := 0) (v := h 245 1) (mf_dat eX12_feed_p1 8 rfl) fl_X12_240 rfl (by decide) rfl rfl is245 ?_
    exact mf_ireturn (mf_dat eX12_feed_p1 9 rfl) rfl (Or.inl rfl) ⟨rfl, hyp⟩
  · replace hyp := hyp.2 hc
    refine mf_iload (mf_dat eX12_feed_p0 21 rfl) rfl ?_
    refine mf_iconst (v := 4) (mf_dat eX12_feed_p0 22 rfl) (by decide) ?_
    refine mf_icmp_ge (tgt := 45) (mf_dat eX12_feed_p0 23 rfl) (by decide) (fun hc => ?_) (fun hc => ?_)
    · replace hyp := hyp.1 hc
      refine mf_iload (mf_dat eX12_feed_p0 26 rfl) rfl ?_
      refine mf_bipush (v := 8) (mf_dat eX12_feed_p0 27 rfl) (by decide) ?_
      refine mf_icmp_ge (tgt := 56) (mf_dat eX12_feed_p0 28 rfl) (by decide) (fun hc => ?_) (fun hc => ?_)
      · replace hyp := hyp.1 hc
        refine mf_iload (mf_dat eX12_feed_p0 31 rfl) rfl ?_
        refine mf_bipush (v := 12) (mf_dat eX12_feed_p0 32 rfl) (by decide) ?_
        refine mf_icmp_ge (tgt := 67) (mf_dat eX12_feed_p0 33 rfl) (by decide) (fun hc => ?_) (fun hc => ?_)
        · replace hyp := hyp.1 hc
          refine mf_iload (mf_dat eX12_feed_p0 36 rfl) rfl ?_
          refine mf_bipush (v := 16) (mf_dat eX12_feed_p0 37 rfl) (by decide) ?_
          refine mf_icmp_ge (tgt := 79) (mf_dat eX12_feed_p0 38 rfl) (by decide) (fun hc => ?_) (fun hc => ?_)
          · replace hyp := hyp.1 hc
            refine mf_iload (mf_dat eX12_feed_p0 41 rfl) rfl ?_
            exact mf_sub [0, 1, 2, 3, 4, 5, 6] rfl (hyp g hG)
          · replace hyp := hyp.2 hc
            refine mf_iload (mf_dat eX12_feed_p0 39 rfl) rfl ?_
            refine mf_goto (tgt := 81) (mf_dat eX12_feed_p0 40 rfl) (by decide) ?_
            exact mf_sub [0, 1, 2, 3, 4, 5, 6] rfl (hyp g hG)
        · replace hyp := hyp.2 hc
          refine mf_iload_n (mf_dat eX12_feed_p0 34 rfl) rfl rfl ?_
          refine mf_goto (tgt := 81) (mf_dat eX12_feed_p0 35 rfl) (by decide) ?_
          exact mf_sub [0, 1, 2, 3, 4, 5, 6] rfl (hyp g hG)
      · replace hyp := hyp.2 hc
        refine mf_iload_n (mf_dat eX12_feed_p0 29 rfl) rfl rfl ?_
        refine mf_goto (tgt := 81) (mf_dat eX12_feed_p0 30 rfl) (by decide) ?_
        exact mf_sub [0, 1, 2, 3, 4, 5, 6] rfl (hyp g hG)
    · replace hyp := hyp.2 hc
      refine mf_iload_n (mf_dat eX12_feed_p0 24 rfl) rfl rfl ?_
      refine mf_goto (tgt := 81) (mf_dat eX12_feed_p0 25 rfl) (by decide) ?_
      exact mf_sub [0, 1, 2, 3, 4, 5, 6] rfl (hyp g hG)
set_option maxRecDepth 100000 in
set_option maxHeartbeats 4000000 in
theorem vX12_feed_81 {C : mf_G} {l : Launch} {d : Nat} {K : Int → mf_M → Prop} {x1 x2 x3 x4 x5 x6 s0 : Int} {h : mf_M} (hyp : 0 ≤ h 245 1 ∧ h 245 1 < 1600 ∧ (∀ h3 : mf_M, h3 = mf_up h 246 (h 245 1) (mf_and (mf_shr s0 (mf_w32 (8 * (mf_w32 (3 - (x6.tmod 4)))))) 255) → (∀ h4 : mf_M, h4 = mf_up h3 245 1 (mf_w32 ((h3 245 1) + 1)) → (∀ v5 : Int, v5 = mf_w32 (x6 + 1) → BX12_feed_28 C l d K x1 x2 x3 x4 x5 v5 h4)))) : BX12_feed_81 C l d K x1 x2 x3 x4 x5 x6 s0 h := by
  intro g hG
  refine mf_istore (mf_dat eX12_feed_p0 42 rfl) (by decide) ?_
  refine mf_aload_n (mf_dat eX12_feed_p0 43 rfl) rfl rfl ?_
  refine mf_getf (r := (RX12, TX12, 106)) (ci := 12) (k := 0) (t := 2) (v := 246) (mf_dat eX12_feed_p0 44 rfl) fl_X12_7 rfl (by decide) rfl (gm_0 hG) is245 ?_
  refine mf_aload_n (mf_dat eX12_feed_p0 45 rfl) rfl rfl ?_
  refine mf_getf (r := (RX12, TX12, 106)) (ci := 12) (k := 1) (t := 0) (v := h 245 1) (mf_dat eX12_feed_p0 46 rfl) fl_X12_240 rfl (by decide) rfl rfl is245 ?_
  refine mf_iload (mf_dat eX12_feed_p0 47 rfl) rfl ?_
  refine mf_bipush (v := 8) (mf_dat eX12_feed_p0 48 rfl) (by decide) ?_
  refine mf_iconst (v := 3) (mf_dat eX12_feed_p0 49 rfl) (by decide) ?_
  refine mf_iload (mf_dat eX12_feed_p0 50 rfl) rfl ?_
  refine mf_iconst (v := 4) (mf_dat eX12_feed_p0 51 rfl) (by decide) ?_
  refine mf_irem (mf_dat eX12_feed_p0 52 rfl) (by decide) ?_
  refine mf_isub (mf_dat eX12_feed_p0 53 rfl) ?_
  refine mf_imul (mf_dat eX12_feed_p0 54 rfl) ?_
  refine mf_ishr (mf_dat eX12_feed_p0 55 rfl) ?_
  refine mf_sipush (v := 255) (mf_dat eX12_feed_p0 56 rfl) (by decide) ?_
  refine mf_iand (mf_dat eX12_feed_p0 57 rfl) ?_
  obtain ⟨ck1, hyp⟩ := hyp
  obtain ⟨ck2, hyp⟩ := hyp
  refine mf_iast (mf_dat eX12_feed_p0 58 rfl) is246 len246 ck1 ck2 ?_
  generalize qh3 : mf_up h 246 (h 245 1) (mf_and (mf_shr s0 (mf_w32 (8 * (mf_w32 (3 - (x6.tmod 4)))))) 255) = h3
  replace hyp := hyp _ qh3.symm
  refine mf_aload_n (mf_dat eX12_feed_p0 59 rfl) rfl rfl ?_
  refine mf_dup (mf_dat eX12_feed_p1 0 rfl) (by decide) ?_
  refine mf_getf (r := (RX12, TX12, 106)) (ci := 12) (k := 1) (t := 0) (v := h3 245 1) (mf_dat eX12_feed_p1 1 rfl) fl_X12_240 rfl (by decide) rfl rfl is245 ?_
  refine mf_iconst (v := 1) (mf_dat eX12_feed_p1 2 rfl) (by decide) ?_
  refine mf_iadd (mf_dat eX12_feed_p1 3 rfl) ?_
  refine mf_putI (r := (RX12, TX12, 106)) (ci := 12) (k := 1) (kI := 1) (t := 0) (mf_dat eX12_feed_p1 4 rfl) fl_X12_240 rfl rfl (by decide) rfl (by decide) rfl (by decide) (fun h9 => absurd h9 (by decide)) is245 ?_
  generalize qh4 : mf_up h3 245 1 (mf_w32 ((h3 245 1) + 1)) = h4
  replace hyp := hyp _ qh4.symm
  refine mf_iinc (mf_dat eX12_feed_p1 5 rfl) rfl (by decide) (by decide) ?_
  generalize qv5 : mf_w32 (x6 + 1) = v5
  replace hyp := hyp _ qv5.symm
  refine mf_goto (tgt := 28) (mf_dat eX12_feed_p1 6 rfl) (by decide) ?_
  exact mf_sub [2, 3, 4, 5, 6, 7, 0] rfl (hyp g hG)
set_option maxRecDepth 100000 in
set_option maxHeartbeats 4000000 in
theorem wX12_feed {C : mf_G} {l : Launch} {d : Nat} {K : Int → mf_M → Prop} {x1 x2 x3 x4 x5 : Int} {h : mf_M} (hyp : ((mf_w32 ((h 245 1) + 20) ≤ 1600 → BX12_feed_28 C l d K x1 x2 x3 x4 x5 0 h) ∧ (¬ mf_w32 ((h 245 1) + 20) ≤ 1600 → (∀ h1 : mf_M, h1 = mf_up h 247 0 (mf_w32 ((h 247 0) + 1)) → K (-1) h1)))) : mM C l d YX12_feed [(2, 245), (0, x1), (0, x2), (0, x3), (0, x4), (0, x5)] h K := by
  intro g hG
  refine mf_entry (by decide) (Nat.le_of_ble_eq_true rfl) ?_
  refine mf_aload_n (mf_dat eX12_feed_p0 0 rfl) rfl rfl ?_
  refine mf_getf (r := (RX12, TX12, 106)) (ci := 12) (k := 1) (t := 0) (v := h 245 1) (mf_dat eX12_feed_p0 1 rfl) fl_X12_240 rfl (by decide) rfl rfl is245 ?_
  refine mf_bipush (v := 20) (mf_dat eX12_feed_p0 2 rfl) (by decide) ?_
  refine mf_iadd (mf_dat eX12_feed_p0 3 rfl) ?_
  refine mf_sipush (v := 1600) (mf_dat eX12_feed_p0 4 rfl) (by decide) ?_
  refine mf_icmp_le (tgt := 25) (mf_dat eX12_feed_p0 5 rfl) (by decide) (fun hc => ?_) (fun hc => ?_)
  · replace hyp := hyp.1 hc
    refine mf_iconst (v := 0) (mf_dat eX12_feed_p0 16 rfl) (by decide) ?_
    refine mf_istore (mf_dat eX12_feed_p0 17 rfl) (by decide) ?_
    exact mf_sub [1, 2, 3, 4, 5, 6, 0] rfl (hyp g hG)
  · replace hyp := hyp.2 hc
    refine mf_aload_n (mf_dat eX12_feed_p0 6 rfl) rfl rfl ?_
    refine mf_getf (r := (RX12, TX12, 106)) (ci := 12) (k := 9) (t := 2) (v := 247) (mf_dat eX12_feed_p0 7 rfl) fl_X12_17 rfl (by decide) rfl (gm_9 hG) is245 ?_
    refine mf_iconst (v := 0) (mf_dat eX12_feed_p0 8 rfl) (by decide) ?_
    refine mf_dup2 (mf_dat eX12_feed_p0 9 rfl) (by decide) (by decide) ?_
    refine mf_iald (mf_dat eX12_feed_p0 10 rfl) is247 len247 (by decide) (by decide) ?_
    refine mf_iconst (v := 1) (mf_dat eX12_feed_p0 11 rfl) (by decide) ?_
    refine mf_iadd (mf_dat eX12_feed_p0 12 rfl) ?_
    refine mf_iast (mf_dat eX12_feed_p0 13 rfl) is247 len247 (by decide) (by decide) ?_
    generalize qh1 : mf_up h 247 0 (mf_w32 ((h 247 0) + 1)) = h1
    replace hyp := hyp _ qh1.symm
    refine mf_iconst (v := (-1)) (mf_dat eX12_feed_p0 14 rfl) (by decide) ?_
    exact mf_ireturn (mf_dat eX12_feed_p0 15 rfl) rfl (Or.inl rfl) ⟨rfl, hyp⟩
set_option maxRecDepth 100000 in
set_option maxHeartbeats 4000000 in
theorem wX12_end {C : mf_G} {l : Launch} {d : Nat} {K : Int → mf_M → Prop} {x1 : Int} {h : mf_M} (hyp : ((x1 < 0 → (∀ h1 : mf_M, h1 = mf_up h 247 0 (mf_w32 ((h 247 0) + 1)) → K 0 h1)) ∧ (¬ x1 < 0 → ((x1 ≤ h 245 1 → (∀ h2 : mf_M, h2 = mf_up h 245 1 x1 → K 1 h2)) ∧ (¬ x1 ≤ h 245 1 → (∀ h3 : mf_M, h3 = mf_up h 247 0 (mf_w32 ((h 247 0) + 1)) → K 0 h3)))))) : mM C l d YX12_end [(2, 245), (0, x1)] h K := by
  intro g hG
  refine mf_entry (by decide) (Nat.le_of_ble_eq_true rfl) ?_
  refine mf_iload_n (mf_dat eX12_end 0 rfl) rfl rfl ?_
  refine mf_if_lt (tgt := 12) (mf_dat eX12_end 1 rfl) (by decide) (fun hc => ?_) (fun hc => ?_)
  · replace hyp := hyp.1 hc
    refine mf_aload_n (mf_dat eX12_end 6 rfl) rfl rfl ?_
    refine mf_getf (r := (RX12, TX12, 106)) (ci := 12) (k := 9) (t := 2) (v := 247) (mf_dat eX12_end 7 rfl) fl_X12_17 rfl (by decide) rfl (gm_9 hG) is245 ?_
    refine mf_iconst (v := 0) (mf_dat eX12_end 8 rfl) (by decide) ?_
    refine mf_dup2 (mf_dat eX12_end 9 rfl) (by decide) (by decide) ?_
    refine mf_iald (mf_dat eX12_end 10 rfl) is247 len247 (by decide) (by decide) ?_
    refine mf_iconst (v := 1) (mf_dat eX12_end 11 rfl) (by decide) ?_
    refine mf_iadd (mf_dat eX12_end 12 rfl) ?_
    refine mf_iast (mf_dat eX12_end 13 rfl) is247 len247 (by decide) (by decide) ?_
    generalize qh1 : mf_up h 247 0 (mf_w32 ((h 247 0) + 1)) = h1
    replace hyp := hyp _ qh1.symm
    refine mf_iconst (v := 0) (mf_dat eX12_end 14 rfl) (by decide) ?_
    exact mf_ireturn (mf_dat eX12_end 15 rfl) rfl (Or.inr ⟨rfl, by decide⟩) ⟨rfl, hyp⟩
  · replace hyp := hyp.2 hc
    refine mf_iload_n (mf_dat eX12_end 2 rfl) rfl rfl ?_
    refine mf_aload_n (mf_dat eX12_end 3 rfl) rfl rfl ?_
    refine mf_getf (r := (RX12, TX12, 106)) (ci := 12) (k := 1) (t := 0) (v := h 245 1) (mf_dat eX12_end 4 rfl) fl_X12_240 rfl (by decide) rfl rfl is245 ?_
    refine mf_icmp_le (tgt := 24) (mf_dat eX12_end 5 rfl) (by decide) (fun hc => ?_) (fun hc => ?_)
    · replace hyp := hyp.1 hc
      refine mf_aload_n (mf_dat eX12_end 16 rfl) rfl rfl ?_
      refine mf_iload_n (mf_dat eX12_end 17 rfl) rfl rfl ?_
      refine mf_putI (r := (RX12, TX12, 106)) (ci := 12) (k := 1) (kI := 1) (t := 0) (mf_dat eX12_end 18 rfl) fl_X12_240 rfl rfl (by decide) rfl (by decide) rfl (by decide) (fun h9 => absurd h9 (by decide)) is245 ?_
      generalize qh2 : mf_up h 245 1 x1 = h2
      replace hyp := hyp _ qh2.symm
      refine mf_iconst (v := 1) (mf_dat eX12_end 19 rfl) (by decide) ?_
      exact mf_ireturn (mf_dat eX12_end 20 rfl) rfl (Or.inr ⟨rfl, by decide⟩) ⟨rfl, hyp⟩
    · replace hyp := hyp.2 hc
      refine mf_aload_n (mf_dat eX12_end 6 rfl) rfl rfl ?_
      refine mf_getf (r := (RX12, TX12, 106)) (ci := 12) (k := 9) (t := 2) (v := 247) (mf_dat eX12_end 7 rfl) fl_X12_17 rfl (by decide) rfl (gm_9 hG) is245 ?_
      refine mf_iconst (v := 0) (mf_dat eX12_end 8 rfl) (by decide) ?_
      refine mf_dup2 (mf_dat eX12_end 9 rfl) (by decide) (by decide) ?_
      refine mf_iald (mf_dat eX12_end 10 rfl) is247 len247 (by decide) (by decide) ?_
      refine mf_iconst (v := 1) (mf_dat eX12_end 11 rfl) (by decide) ?_
      refine mf_iadd (mf_dat eX12_end 12 rfl) ?_
      refine mf_iast (mf_dat eX12_end 13 rfl) is247 len247 (by decide) (by decide) ?_
      generalize qh3 : mf_up h 247 0 (mf_w32 ((h 247 0) + 1)) = h3
      replace hyp := hyp _ qh3.symm
      refine mf_iconst (v := 0) (mf_dat eX12_end 14 rfl) (by decide) ?_
      exact mf_ireturn (mf_dat eX12_end 15 rfl) rfl (Or.inr ⟨rfl, by decide⟩) ⟨rfl, hyp⟩
set_option maxRecDepth 100000 in
set_option maxHeartbeats 4000000 in
theorem wX12_fail {C : mf_G} {l : Launch} {d : Nat} {K : Int → mf_M → Prop} {x1 x2 : Int} {h : mf_M} (hyp : ((h 245 5 = 0 → (∀ h1 : mf_M, h1 = mf_up h 245 5 x1 → (∀ h2 : mf_M, h2 = mf_up h1 245 6 x2 → K 0 h2))) ∧ (¬ h 245 5 = 0 → K 0 h))) : mM C l d YX12_fail [(2, 245), (0, x1), (0, x2)] h K := by
  intro g hG
  refine mf_entry (by decide) (Nat.le_of_ble_eq_true rfl) ?_
  refine mf_aload_n (mf_dat eX12_fail 0 rfl) rfl rfl ?_
  refine mf_getf (r := (RX12, TX12, 106)) (ci := 12) (k := 5) (t := 0) (v := h 245 5) (mf_dat eX12_fail 1 rfl) fl_X12_243 rfl (by decide) rfl rfl is245 ?_
  refine mf_if_eq (tgt := 8) (mf_dat eX12_fail 2 rfl) (by decide) (fun hc => ?_) (fun hc => ?_)
  · replace hyp := hyp.1 hc
    refine mf_aload_n (mf_dat eX12_fail 4 rfl) rfl rfl ?_
    refine mf_iload_n (mf_dat eX12_fail 5 rfl) rfl rfl ?_
    refine mf_putI (r := (RX12, TX12, 106)) (ci := 12) (k := 5) (kI := 5) (t := 0) (mf_dat eX12_fail 6 rfl) fl_X12_243 rfl rfl (by decide) rfl (by decide) rfl (by decide) (fun h9 => absurd h9 (by decide)) is245 ?_
    generalize qh1 : mf_up h 245 5 x1 = h1
    replace hyp := hyp _ qh1.symm
    refine mf_aload_n (mf_dat eX12_fail 7 rfl) rfl rfl ?_
    refine mf_iload_n (mf_dat eX12_fail 8 rfl) rfl rfl ?_
    refine mf_putI (r := (RX12, TX12, 106)) (ci := 12) (k := 6) (kI := 6) (t := 0) (mf_dat eX12_fail 9 rfl) fl_X12_246 rfl rfl (by decide) rfl (by decide) rfl (by decide) (fun h9 => absurd h9 (by decide)) is245 ?_
    generalize qh2 : mf_up h1 245 6 x2 = h2
    replace hyp := hyp _ qh2.symm
    exact mf_return (mf_dat eX12_fail 10 rfl) rfl ⟨rfl, hyp⟩
  · replace hyp := hyp.2 hc
    exact mf_return (mf_dat eX12_fail 3 rfl) rfl ⟨rfl, hyp⟩
set_option maxRecDepth 100000 in
set_option maxHeartbeats 4000000 in
theorem wX12_isLetter {C : mf_G} {l : Launch} {d : Nat} {K : Int → mf_M → Prop} {x0 : Int} {h : mf_M} (hyp : ((x0 < 97 → K 0 h) ∧ (¬ x0 < 97 → ((122 < x0 → K 0 h) ∧ (¬ 122 < x0 → K 1 h))))) : mM C l d YX12_isLetter [(0, x0)] h K := by
  intro g hG
  refine mf_entry (by decide) (Nat.le_of_ble_eq_true rfl) ?_
  refine mf_iload_n (mf_dat eX12_isLetter 0 rfl) rfl rfl ?_
  refine mf_bipush (v := 97) (mf_dat eX12_isLetter 1 rfl) (by decide) ?_
  refine mf_icmp_lt (tgt := 16) (mf_dat eX12_isLetter 2 rfl) (by decide) (fun hc => ?_) (fun hc => ?_)
  · replace hyp := hyp.1 hc
    refine mf_iconst (v := 0) (mf_dat eX12_isLetter 8 rfl) (by decide) ?_
    exact mf_ireturn (mf_dat eX12_isLetter 9 rfl) rfl (Or.inr ⟨rfl, by decide⟩) ⟨rfl, hyp⟩
  · replace hyp := hyp.2 hc
    refine mf_iload_n (mf_dat eX12_isLetter 3 rfl) rfl rfl ?_
    refine mf_bipush (v := 122) (mf_dat eX12_isLetter 4 rfl) (by decide) ?_
    refine mf_icmp_gt (tgt := 16) (mf_dat eX12_isLetter 5 rfl) (by decide) (fun hc => ?_) (fun hc => ?_)
    · replace hyp := hyp.1 hc
      refine mf_iconst (v := 0) (mf_dat eX12_isLetter 8 rfl) (by decide) ?_
      exact mf_ireturn (mf_dat eX12_isLetter 9 rfl) rfl (Or.inr ⟨rfl, by decide⟩) ⟨rfl, hyp⟩
    · replace hyp := hyp.2 hc
      refine mf_iconst (v := 1) (mf_dat eX12_isLetter 6 rfl) (by decide) ?_
      refine mf_goto (tgt := 17) (mf_dat eX12_isLetter 7 rfl) (by decide) ?_
      exact mf_ireturn (mf_dat eX12_isLetter 9 rfl) rfl (Or.inr ⟨rfl, by decide⟩) ⟨rfl, hyp⟩
set_option maxRecDepth 100000 in
set_option maxHeartbeats 4000000 in
theorem wX12_isDigit {C : mf_G} {l : Launch} {d : Nat} {K : Int → mf_M → Prop} {x0 : Int} {h : mf_M} (hyp : ((x0 < 48 → K 0 h) ∧ (¬ x0 < 48 → ((57 < x0 → K 0 h) ∧ (¬ 57 < x0 → K 1 h))))) : mM C l d YX12_isDigit [(0, x0)] h K := by
  intro g hG
  refine mf_entry (by decide) (Nat.le_of_ble_eq_true rfl) ?_
  refine mf_iload_n (mf_dat eX12_isDigit 0 rfl) rfl rfl ?_
  refine mf_bipush (v := 48) (mf_dat eX12_isDigit 1 rfl) (by decide) ?_
  refine mf_icmp_lt (tgt := 16) (mf_dat eX12_isDigit 2 rfl) (by decide) (fun hc => ?_) (fun hc => ?_)
  · replace hyp := hyp.1 hc
    refine mf_iconst (v := 0) (mf_dat eX12_isDigit 8 rfl) (by decide) ?_
    exact mf_ireturn (mf_dat eX12_isDigit 9 rfl) rfl (Or.inr ⟨rfl, by decide⟩) ⟨rfl, hyp⟩
  · replace hyp := hyp.2 hc
    refine mf_iload_n (mf_dat eX12_isDigit 3 rfl) rfl rfl ?_
    refine mf_bipush (v := 57) (mf_dat eX12_isDigit 4 rfl) (by decide) ?_
    refine mf_icmp_gt (tgt := 16) (mf_dat eX12_isDigit 5 rfl) (by decide) (fun hc => ?_) (fun hc => ?_)
    · replace hyp := hyp.1 hc
      refine mf_iconst (v := 0) (mf_dat eX12_isDigit 8 rfl) (by decide) ?_
      exact mf_ireturn (mf_dat eX12_isDigit 9 rfl) rfl (Or.inr ⟨rfl, by decide⟩) ⟨rfl, hyp⟩
    · replace hyp := hyp.2 hc
      refine mf_iconst (v := 1) (mf_dat eX12_isDigit 6 rfl) (by decide) ?_
      refine mf_goto (tgt := 17) (mf_dat eX12_isDigit 7 rfl) (by decide) ?_
      exact mf_ireturn (mf_dat eX12_isDigit 9 rfl) rfl (Or.inr ⟨rfl, by decide⟩) ⟨rfl, hyp⟩
abbrev BX12_look_0 (C : mf_G) (l : Launch) (d : Nat) (K : Int → mf_M → Prop) (h : mf_M) : Prop := jM C l d YX12_look K 0 [(0, (2, 245))] [] h
set_option maxRecDepth 100000 in
set_option maxHeartbeats 4000000 in
theorem vX12_look_0 {C : mf_G} {l : Launch} {d : Nat} {K : Int → mf_M → Prop} {h : mf_M} (hyp : ((h 245 3 ≤ h 245 2 → ((h 245 3 ≤ h 245 2 → K (-1) h) ∧ (¬ h 245 3 ≤ h 245 2 → 0 ≤ h 245 2 ∧ h 245 2 < 1600 ∧ K (h 246 (h 245 2)) h))) ∧ (¬ h 245 3 ≤ h 245 2 → 0 ≤ h 245 2 ∧ h 245 2 < 1600 ∧ ((h 246 (h 245 2) = 10 → (∀ h5 : mf_M, h5 = mf_up h 245 2 (mf_w32 ((h 245 2) + 1)) → BX12_look_0 C l d K h5)) ∧ (¬ h 246 (h 245 2) = 10 → ((¬ h 246 (h 245 2) = 32 → ((h 245 3 ≤ h 245 2 → K (-1) h) ∧ (¬ h 245 3 ≤ h 245 2 → K (h 246 (h 245 2)) h))) ∧ (h 246 (h 245 2) = 32 → (∀ h6 : mf_M, h6 = mf_up h 245 2 (mf_w32 ((h 245 2) + 1)) → BX12_look_0 C l d K h6)))))))) : BX12_look_0 C l d K h := by
  intro g hG
  refine mf_aload_n (mf_dat eX12_look 0 rfl) rfl rfl ?_
  refine mf_getf (r := (RX12, TX12, 106)) (ci := 12) (k := 2) (t := 0) (v := h 245 2) (mf_dat eX12_look 1 rfl) fl_X12_249 rfl (by decide) rfl rfl is245 ?_
  refine mf_aload_n (mf_dat eX12_look 2 rfl) rfl rfl ?_
  refine mf_getf (r := (RX12, TX12, 106)) (ci := 12) (k := 3) (t := 0) (v := h 245 3) (mf_dat eX12_look 3 rfl) fl_X12_252 rfl (by decide) rfl rfl is245 ?_
  refine mf_icmp_ge (tgt := 52) (mf_dat eX12_look 4 rfl) (by decide) (fun hc => ?_) (fun hc => ?_)
  · replace hyp := hyp.1 hc
    refine mf_aload_n (mf_dat eX12_look 26 rfl) rfl rfl ?_
    refine mf_getf (r := (RX12, TX12, 106)) (ci := 12) (k := 2) (t := 0) (v := h 245 2) (mf_dat eX12_look 27 rfl) fl_X12_249 rfl (by decide) rfl rfl is245 ?_
    refine mf_aload_n (mf_dat eX12_look 28 rfl) rfl rfl ?_
    refine mf_getf (r := (RX12, TX12, 106)) (ci := 12) (k := 3) (t := 0) (v := h 245 3) (mf_dat eX12_look 29 rfl) fl_X12_252 rfl (by decide) rfl rfl is245 ?_
    refine mf_icmp_ge (tgt := 75) (mf_dat eX12_look 30 rfl) (by decide) (fun hc => ?_) (fun hc => ?_)
    · replace hyp := hyp.1 hc
      refine mf_iconst (v := (-1)) (mf_dat eX12_look 37 rfl) (by decide) ?_
      exact mf_ireturn (mf_dat eX12_look 38 rfl) rfl (Or.inl rfl) ⟨rfl, hyp⟩
    · replace hyp := hyp.2 hc
      refine mf_aload_n (mf_dat eX12_look 31 rfl) rfl rfl ?_
      refine mf_getf (r := (RX12, TX12, 106)) (ci := 12) (k := 0) (t := 2) (v := 246) (mf_dat eX12_look 32 rfl) fl_X12_7 rfl (by decide) rfl (gm_0 hG) is245 ?_
      refine mf_aload_n (mf_dat eX12_look 33 rfl) rfl rfl ?_
      refine mf_getf (r := (RX12, TX12, 106)) (ci := 12) (k := 2) (t := 0) (v := h 245 2) (mf_dat eX12_look 34 rfl) fl_X12_249 rfl (by decide) rfl rfl is245 ?_
      obtain ⟨ck1, hyp⟩ := hyp
      obtain ⟨ck2, hyp⟩ := hyp
      refine mf_iald (mf_dat eX12_look 35 rfl) is246 len246 ck1 ck2 ?_
      refine mf_goto (tgt := 76) (mf_dat eX12_look 36 rfl) (by decide) ?_
      exact mf_ireturn (mf_dat eX12_look 38 rfl) rfl (Or.inl rfl) ⟨rfl, hyp⟩
  · replace hyp := hyp.2 hc
    refine mf_aload_n (mf_dat eX12_look 5 rfl) rfl rfl ?_
    refine mf_getf (r := (RX12, TX12, 106)) (ci := 12) (k := 0) (t := 2) (v := 246) (mf_dat eX12_look 6 rfl) fl_X12_7 rfl (by decide) rfl (gm_0 hG) is245 ?_
    refine mf_aload_n (mf_dat eX12_look 7 rfl) rfl rfl ?_
    refine mf_getf (r := (RX12, TX12, 106)) (ci := 12) (k := 2) (t := 0) (v := h 245 2) (mf_dat eX12_look 8 rfl) fl_X12_249 rfl (by decide) rfl rfl is245 ?_
    obtain ⟨ck3, hyp⟩ := hyp
    obtain ⟨ck4, hyp⟩ := hyp
    refine mf_iald (mf_dat eX12_look 9 rfl) is246 len246 ck3 ck4 ?_
    refine mf_bipush (v := 10) (mf_dat eX12_look 10 rfl) (by decide) ?_
    refine mf_icmp_eq (tgt := 39) (mf_dat eX12_look 11 rfl) (by decide) (fun hc => ?_) (fun hc => ?_)
    · replace hyp := hyp.1 hc
      refine mf_aload_n (mf_dat eX12_look 19 rfl) rfl rfl ?_
      refine mf_dup (mf_dat eX12_look 20 rfl) (by decide) ?_
      refine mf_getf (r := (RX12, TX12, 106)) (ci := 12) (k := 2) (t := 0) (v := h 245 2) (mf_dat eX12_look 21 rfl) fl_X12_249 rfl (by decide) rfl rfl is245 ?_
      refine mf_iconst (v := 1) (mf_dat eX12_look 22 rfl) (by decide) ?_
      refine mf_iadd (mf_dat eX12_look 23 rfl) ?_
      refine mf_putI (r := (RX12, TX12, 106)) (ci := 12) (k := 2) (kI := 2) (t := 0) (mf_dat eX12_look 24 rfl) fl_X12_249 rfl rfl (by decide) rfl (by decide) rfl (by decide) (fun h9 => absurd h9 (by decide)) is245 ?_
      generalize qh5 : mf_up h 245 2 (mf_w32 ((h 245 2) + 1)) = h5
      replace hyp := hyp _ qh5.symm
      refine mf_goto (tgt := 0) (mf_dat eX12_look 25 rfl) (by decide) ?_
      exact mf_sub [0] rfl (hyp g hG)
    · replace hyp := hyp.2 hc
      refine mf_aload_n (mf_dat eX12_look 12 rfl) rfl rfl ?_
      refine mf_getf (r := (RX12, TX12, 106)) (ci := 12) (k := 0) (t := 2) (v := 246) (mf_dat eX12_look 13 rfl) fl_X12_7 rfl (by decide) rfl (gm_0 hG) is245 ?_
      refine mf_aload_n (mf_dat eX12_look 14 rfl) rfl rfl ?_
      refine mf_getf (r := (RX12, TX12, 106)) (ci := 12) (k := 2) (t := 0) (v := h 245 2) (mf_dat eX12_look 15 rfl) fl_X12_249 rfl (by decide) rfl rfl is245 ?_
      refine mf_iald (mf_dat eX12_look 16 rfl) is246 len246 ck3 ck4 ?_
      refine mf_bipush (v := 32) (mf_dat eX12_look 17 rfl) (by decide) ?_
      refine mf_icmp_ne (tgt := 52) (mf_dat eX12_look 18 rfl) (by decide) (fun hc => ?_) (fun hc => ?_)
      · replace hyp := hyp.1 hc
        refine mf_aload_n (mf_dat eX12_look 26 rfl) rfl rfl ?_
        refine mf_getf (r := (RX12, TX12, 106)) (ci := 12) (k := 2) (t := 0) (v := h 245 2) (mf_dat eX12_look 27 rfl) fl_X12_249 rfl (by decide) rfl rfl is245 ?_
        refine mf_aload_n (mf_dat eX12_look 28 rfl) rfl rfl ?_
        refine mf_getf (r := (RX12, TX12, 106)) (ci := 12) (k := 3) (t := 0) (v := h 245 3) (mf_dat eX12_look 29 rfl) fl_X12_252 rfl (by decide) rfl rfl is245 ?_
        refine mf_icmp_ge (tgt := 75) (mf_dat eX12_look 30 rfl) (by decide) (fun hc => ?_) (fun hc => ?_)
        · replace hyp := hyp.1 hc
          refine mf_iconst (v := (-1)) (mf_dat eX12_look 37 rfl) (by decide) ?_
          exact mf_ireturn (mf_dat eX12_look 38 rfl) rfl (Or.inl rfl) ⟨rfl, hyp⟩
        · replace hyp := hyp.2 hc
          refine mf_aload_n (mf_dat eX12_look 31 rfl) rfl rfl ?_
          refine mf_getf (r := (RX12, TX12, 106)) (ci := 12) (k := 0) (t := 2) (v := 246) (mf_dat eX12_look 32 rfl) fl_X12_7 rfl (by decide) rfl (gm_0 hG) is245 ?_
          refine mf_aload_n (mf_dat eX12_look 33 rfl) rfl rfl ?_
          refine mf_getf (r := (RX12, TX12, 106)) (ci := 12) (k := 2) (t := 0) (v := h 245 2) (mf_dat eX12_look 34 rfl) fl_X12_249 rfl (by decide) rfl rfl is245 ?_
          refine mf_iald (mf_dat eX12_look 35 rfl) is246 len246 ck3 ck4 ?_
          refine mf_goto (tgt := 76) (mf_dat eX12_look 36 rfl) (by decide) ?_
          exact mf_ireturn (mf_dat eX12_look 38 rfl) rfl (Or.inl rfl) ⟨rfl, hyp⟩
      · replace hyp := hyp.2 hc
        refine mf_aload_n (mf_dat eX12_look 19 rfl) rfl rfl ?_
        refine mf_dup (mf_dat eX12_look 20 rfl) (by decide) ?_
        refine mf_getf (r := (RX12, TX12, 106)) (ci := 12) (k := 2) (t := 0) (v := h 245 2) (mf_dat eX12_look 21 rfl) fl_X12_249 rfl (by decide) rfl rfl is245 ?_
        refine mf_iconst (v := 1) (mf_dat eX12_look 22 rfl) (by decide) ?_
        refine mf_iadd (mf_dat eX12_look 23 rfl) ?_
        refine mf_putI (r := (RX12, TX12, 106)) (ci := 12) (k := 2) (kI := 2) (t := 0) (mf_dat eX12_look 24 rfl) fl_X12_249 rfl rfl (by decide) rfl (by decide) rfl (by decide) (fun h9 => absurd h9 (by decide)) is245 ?_
        generalize qh6 : mf_up h 245 2 (mf_w32 ((h 245 2) + 1)) = h6
        replace hyp := hyp _ qh6.symm
        refine mf_goto (tgt := 0) (mf_dat eX12_look 25 rfl) (by decide) ?_
        exact mf_sub [0] rfl (hyp g hG)
set_option maxRecDepth 100000 in
set_option maxHeartbeats 4000000 in
theorem wX12_look {C : mf_G} {l : Launch} {d : Nat} {K : Int → mf_M → Prop} {h : mf_M} (hyp : BX12_look_0 C l d K h) : mM C l d YX12_look [(2, 245)] h K := by
  intro g hG
  refine mf_entry (by decide) (Nat.le_of_ble_eq_true rfl) ?_
  exact mf_sub [0] rfl (hyp g hG)
abbrev BX12_isHere_35 (C : mf_G) (l : Launch) (d : Nat) (K : Int → mf_M → Prop) (x1 x2 : Int) (h : mf_M) : Prop := jM C l d YX12_isHere K 35 [(0, (2, 245)), (1, (2, x1)), (2, (0, x2))] [] h
abbrev BX12_isHere_76 (C : mf_G) (l : Launch) (d : Nat) (K : Int → mf_M → Prop) (x1 x3 : Int) (h : mf_M) : Prop := jM C l d YX12_isHere K 76 [(0, (2, 245)), (1, (2, x1)), (3, (0, x3))] [] h
set_option maxRecDepth 100000 in
set_option maxHeartbeats 4000000 in
theorem vX12_isHere_35 {C : mf_G} {l : Launch} {d : Nat} {K : Int → mf_M → Prop} {x1 x2 : Int} {h : mf_M} (hd : 1 ≤ d) (hyp : ((h 245 3 ≤ x2 → mf_is 319 x1 23 ∧ ((mf_w32 (x2 - (h 245 2)) = mf_len x1 → BX12_isHere_76 C l d K x1 0 h) ∧ (¬ mf_w32 (x2 - (h 245 2)) = mf_len x1 → K 0 h))) ∧ (¬ h 245 3 ≤ x2 → 0 ≤ x2 ∧ x2 < 1600 ∧ mM C l 0 YX12_isLetter [(0, h 246 x2)] h (fun r4 h6 => ((r4 = 0 → mf_is 319 x1 23 ∧ ((mf_w32 (x2 - (h6 245 2)) = mf_len x1 → BX12_isHere_76 C l d K x1 0 h6) ∧ (¬ mf_w32 (x2 - (h6 245 2)) = mf_len x1 → K 0 h6))) ∧ (¬ r4 = 0 → (∀ v8 : Int, v8 = mf_w32 (x2 + 1) → BX12_isHere_35 C l d K x1 v8 h6))))))) : BX12_isHere_35 C l d K x1 x2 h := by
  intro g hG
  refine mf_iload_n (mf_dat eX12_isHere_p0 17 rfl) rfl rfl ?_
  refine mf_aload_n (mf_dat eX12_isHere_p0 18 rfl) rfl rfl ?_
  refine mf_getf (r := (RX12, TX12, 106)) (ci := 12) (k := 3) (t := 0) (v := h 245 3) (mf_dat eX12_isHere_p0 19 rfl) fl_X12_252 rfl (by decide) rfl rfl is245 ?_
  refine mf_icmp_ge (tgt := 61) (mf_dat eX12_isHere_p0 20 rfl) (by decide) (fun hc => ?_) (fun hc => ?_)
  · replace hyp := hyp.1 hc
    refine mf_iload_n (mf_dat eX12_isHere_p0 29 rfl) rfl rfl ?_
    refine mf_aload_n (mf_dat eX12_isHere_p0 30 rfl) rfl rfl ?_
    refine mf_getf (r := (RX12, TX12, 106)) (ci := 12) (k := 2) (t := 0) (v := h 245 2) (mf_dat eX12_isHere_p0 31 rfl) fl_X12_249 rfl (by decide) rfl rfl is245 ?_
    refine mf_isub (mf_dat eX12_isHere_p0 32 rfl) ?_
    refine mf_aload_n (mf_dat eX12_isHere_p0 33 rfl) rfl rfl ?_
    obtain ⟨ck1, hyp⟩ := hyp
    refine mf_alen (c := 23) (i := 3) (ty := .char) (v := mf_len x1) (mf_dat eX12_isHere_p0 34 rfl) (by decide) rfl ck1 rfl (mf_len_small _) ?_
    refine mf_icmp_eq (tgt := 74) (mf_dat eX12_isHere_p0 35 rfl) (by decide) (fun hc => ?_) (fun hc => ?_)
    · replace hyp := hyp.1 hc
      refine mf_iconst (v := 0) (mf_dat eX12_isHere_p0 38 rfl) (by decide) ?_
      refine mf_istore_n (mf_dat eX12_isHere_p0 39 rfl) rfl (by decide) ?_
      exact mf_sub [1, 2, 0] rfl (hyp g hG)
    · replace hyp := hyp.2 hc
      refine mf_iconst (v := 0) (mf_dat eX12_isHere_p0 36 rfl) (by decide) ?_
      exact mf_ireturn (mf_dat eX12_isHere_p0 37 rfl) rfl (Or.inr ⟨rfl, by decide⟩) ⟨rfl, hyp⟩
  · replace hyp := hyp.2 hc
    refine mf_aload_n (mf_dat eX12_isHere_p0 21 rfl) rfl rfl ?_
    refine mf_getf (r := (RX12, TX12, 106)) (ci := 12) (k := 0) (t := 2) (v := 246) (mf_dat eX12_isHere_p0 22 rfl) fl_X12_7 rfl (by decide) rfl (gm_0 hG) is245 ?_
    refine mf_iload_n (mf_dat eX12_isHere_p0 23 rfl) rfl rfl ?_
    obtain ⟨ck2, hyp⟩ := hyp
    obtain ⟨ck3, hyp⟩ := hyp
    refine mf_iald (mf_dat eX12_isHere_p0 24 rfl) is246 len246 ck2 ck3 ?_
    refine mf_callS (Yc := YX12_isLetter) (mf_dat eX12_isHere_p0 25 rfl) ml_X12_259 okX12_isLetter sm_X12_isLetter rfl rfl (Nat.le_of_ble_eq_true rfl) (mf_rr (Nat.le_trans (by decide) hd) (Nat.le_refl _)) (Nat.le_refl _) (hyp g hG) (fun r4 g5 h6 hyp => ?_)
    obtain ⟨hgg, hyp⟩ := hyp
    subst hgg
    refine mf_if_eq (tgt := 61) (mf_dat eX12_isHere_p0 26 rfl) (by decide) (fun hc => ?_) (fun hc => ?_)
    · replace hyp := hyp.1 hc
      refine mf_iload_n (mf_dat eX12_isHere_p0 29 rfl) rfl rfl ?_
      refine mf_aload_n (mf_dat eX12_isHere_p0 30 rfl) rfl rfl ?_
      refine mf_getf (r := (RX12, TX12, 106)) (ci := 12) (k := 2) (t := 0) (v := h6 245 2) (mf_dat eX12_isHere_p0 31 rfl) fl_X12_249 rfl (by decide) rfl rfl is245 ?_
      refine mf_isub (mf_dat eX12_isHere_p0 32 rfl) ?_
      refine mf_aload_n (mf_dat eX12_isHere_p0 33 rfl) rfl rfl ?_
      obtain ⟨ck7, hyp⟩ := hyp
      refine mf_alen (c := 23) (i := 3) (ty := .char) (v := mf_len x1) (mf_dat eX12_isHere_p0 34 rfl) (by decide) rfl ck7 rfl (mf_len_small _) ?_
      refine mf_icmp_eq (tgt := 74) (mf_dat eX12_isHere_p0 35 rfl) (by decide) (fun hc => ?_) (fun hc => ?_)
      · replace hyp := hyp.1 hc
        refine mf_iconst (v := 0) (mf_dat eX12_isHere_p0 38 rfl) (by decide) ?_
        refine mf_istore_n (mf_dat eX12_isHere_p0 39 rfl) rfl (by decide) ?_
        exact mf_sub [1, 2, 0] rfl (hyp g5 hG)
      · replace hyp := hyp.2 hc
        refine mf_iconst (v := 0) (mf_dat eX12_isHere_p0 36 rfl) (by decide) ?_
        exact mf_ireturn (mf_dat eX12_isHere_p0 37 rfl) rfl (Or.inr ⟨rfl, by decide⟩) ⟨rfl, hyp⟩
    · replace hyp := hyp.2 hc
      refine mf_iinc (mf_dat eX12_isHere_p0 27 rfl) rfl (by decide) (by decide) ?_
      generalize qv8 : mf_w32 (x2 + 1) = v8
      replace hyp := hyp _ qv8.symm
      refine mf_goto (tgt := 35) (mf_dat eX12_isHere_p0 28 rfl) (by decide) ?_
      exact mf_sub [1, 2, 0] rfl (hyp g5 hG)
set_option maxRecDepth 100000 in
set_option maxHeartbeats 4000000 in
theorem vX12_isHere_76 {C : mf_G} {l : Launch} {d : Nat} {K : Int → mf_M → Prop} {x1 x3 : Int} {h : mf_M} (hyp : mf_is 319 x1 23 ∧ ((mf_len x1 ≤ x3 → K 1 h) ∧ (¬ mf_len x1 ≤ x3 → 0 ≤ mf_w32 ((h 245 2) + x3) ∧ mf_w32 ((h 245 2) + x3) < 1600 ∧ 0 ≤ x3 ∧ x3 < mf_len x1 ∧ ((h 246 (mf_w32 ((h 245 2) + x3)) = h x1 x3 → (∀ v6 : Int, v6 = mf_w32 (x3 + 1) → BX12_isHere_76 C l d K x1 v6 h)) ∧ (¬ h 246 (mf_w32 ((h 245 2) + x3)) = h x1 x3 → K 0 h))))) : BX12_isHere_76 C l d K x1 x3 h := by
  intro g hG
  refine mf_iload_n (mf_dat eX12_isHere_p0 40 rfl) rfl rfl ?_
  refine mf_aload_n (mf_dat eX12_isHere_p0 41 rfl) rfl rfl ?_
  obtain ⟨ck1, hyp⟩ := hyp
  refine mf_alen (c := 23) (i := 3) (ty := .char) (v := mf_len x1) (mf_dat eX12_isHere_p0 42 rfl) (by decide) rfl ck1 rfl (mf_len_small _) ?_
  refine mf_icmp_ge (tgt := 107) (mf_dat eX12_isHere_p0 43 rfl) (by decide) (fun hc => ?_) (fun hc => ?_)
  · replace hyp := hyp.1 hc
    refine mf_iconst (v := 1) (mf_dat eX12_isHere_p0 59 rfl) (by decide) ?_
    exact mf_ireturn (mf_dat eX12_isHere_p1 0 rfl) rfl (Or.inr ⟨rfl, by decide⟩) ⟨rfl, hyp⟩
  · replace hyp := hyp.2 hc
    refine mf_aload_n (mf_dat eX12_isHere_p0 44 rfl) rfl rfl ?_
    refine mf_getf (r := (RX12, TX12, 106)) (ci := 12) (k := 0) (t := 2) (v := 246) (mf_dat eX12_isHere_p0 45 rfl) fl_X12_7 rfl (by decide) rfl (gm_0 hG) is245 ?_
    refine mf_aload_n (mf_dat eX12_isHere_p0 46 rfl) rfl rfl ?_
    refine mf_getf (r := (RX12, TX12, 106)) (ci := 12) (k := 2) (t := 0) (v := h 245 2) (mf_dat eX12_isHere_p0 47 rfl) fl_X12_249 rfl (by decide) rfl rfl is245 ?_
    refine mf_iload_n (mf_dat eX12_isHere_p0 48 rfl) rfl rfl ?_
    refine mf_iadd (mf_dat eX12_isHere_p0 49 rfl) ?_
    obtain ⟨ck2, hyp⟩ := hyp
    obtain ⟨ck3, hyp⟩ := hyp
    refine mf_iald (mf_dat eX12_isHere_p0 50 rfl) is246 len246 ck2 ck3 ?_
    refine mf_aload_n (mf_dat eX12_isHere_p0 51 rfl) rfl rfl ?_
    refine mf_iload_n (mf_dat eX12_isHere_p0 52 rfl) rfl rfl ?_
    obtain ⟨ck4, hyp⟩ := hyp
    obtain ⟨ck5, hyp⟩ := hyp
    refine mf_cald (mf_dat eX12_isHere_p0 53 rfl) ck1 rfl ck4 ck5 ?_
    refine mf_icmp_eq (tgt := 101) (mf_dat eX12_isHere_p0 54 rfl) (by decide) (fun hc => ?_) (fun hc => ?_)
    · replace hyp := hyp.1 hc
      refine mf_iinc (mf_dat eX12_isHere_p0 57 rfl) rfl (by decide) (by decide) ?_
      generalize qv6 : mf_w32 (x3 + 1) = v6
      replace hyp := hyp _ qv6.symm
      refine mf_goto (tgt := 76) (mf_dat eX12_isHere_p0 58 rfl) (by decide) ?_
      exact mf_sub [1, 2, 0] rfl (hyp g hG)
    · replace hyp := hyp.2 hc
      refine mf_iconst (v := 0) (mf_dat eX12_isHere_p0 55 rfl) (by decide) ?_
      exact mf_ireturn (mf_dat eX12_isHere_p0 56 rfl) rfl (Or.inr ⟨rfl, by decide⟩) ⟨rfl, hyp⟩
set_option maxRecDepth 100000 in
set_option maxHeartbeats 4000000 in
theorem wX12_isHere {C : mf_G} {l : Launch} {d : Nat} {K : Int → mf_M → Prop} {x1 : Int} {h : mf_M} (hd : 1 ≤ d) (hyp : ((¬ h 245 5 = 0 → K 0 h) ∧ (h 245 5 = 0 → mM C l 0 YX12_look [(2, 245)] h (fun r1 h3 => mM C l 0 YX12_isLetter [(0, r1)] h3 (fun r4 h6 => ((r4 = 0 → K 0 h6) ∧ (¬ r4 = 0 → ((¬ h6 245 2 = h6 245 4 → (∀ v7 : Int, v7 = h6 245 2 → BX12_isHere_35 C l d K x1 v7 h6)) ∧ (h6 245 2 = h6 245 4 → K 0 h6))))))))) : mM C l d YX12_isHere [(2, 245), (2, x1)] h K := by
  intro g hG
  refine mf_entry (by decide) (Nat.le_of_ble_eq_true rfl) ?_
  refine mf_aload_n (mf_dat eX12_isHere_p0 0 rfl) rfl rfl ?_
  refine mf_getf (r := (RX12, TX12, 106)) (ci := 12) (k := 5) (t := 0) (v := h 245 5) (mf_dat eX12_isHere_p0 1 rfl) fl_X12_243 rfl (by decide) rfl rfl is245 ?_
  refine mf_if_ne (tgt := 28) (mf_dat eX12_isHere_p0 2 rfl) (by decide) (fun hc => ?_) (fun hc => ?_)
  · replace hyp := hyp.1 hc
    refine mf_iconst (v := 0) (mf_dat eX12_isHere_p0 12 rfl) (by decide) ?_
    exact mf_ireturn (mf_dat eX12_isHere_p0 13 rfl) rfl (Or.inr ⟨rfl, by decide⟩) ⟨rfl, hyp⟩
  · replace hyp := hyp.2 hc
    refine mf_aload_n (mf_dat eX12_isHere_p0 3 rfl) rfl rfl ?_
    refine mf_callV (Yc := YX12_look) (r := (RX12, TX12, 106)) (ci := 12) (mf_dat eX12_isHere_p0 4 rfl) ml_X12_255 okX12_look im_X12_look sl_X12_look rfl rfl rfl rfl (Nat.le_of_ble_eq_true rfl) (mf_rr (Nat.le_trans (by decide) hd) (Nat.le_refl _)) (Nat.le_refl _) is245 (hyp g hG) (fun r1 g2 h3 hyp => ?_)
    obtain ⟨hgg, hyp⟩ := hyp
    subst hgg
    refine mf_callS (Yc := YX12_isLetter) (mf_dat eX12_isHere_p0 5 rfl) ml_X12_259 okX12_isLetter sm_X12_isLetter rfl rfl (Nat.le_of_ble_eq_true rfl) (mf_rr (Nat.le_trans (by decide) hd) (Nat.le_refl _)) (Nat.le_refl _) (hyp g2 hG) (fun r4 g5 h6 hyp => ?_)
    obtain ⟨hgg, hyp⟩ := hyp
    subst hgg
    refine mf_if_eq (tgt := 28) (mf_dat eX12_isHere_p0 6 rfl) (by decide) (fun hc => ?_) (fun hc => ?_)
    · replace hyp := hyp.1 hc
      refine mf_iconst (v := 0) (mf_dat eX12_isHere_p0 12 rfl) (by decide) ?_
      exact mf_ireturn (mf_dat eX12_isHere_p0 13 rfl) rfl (Or.inr ⟨rfl, by decide⟩) ⟨rfl, hyp⟩
    · replace hyp := hyp.2 hc
      refine mf_aload_n (mf_dat eX12_isHere_p0 7 rfl) rfl rfl ?_
      refine mf_getf (r := (RX12, TX12, 106)) (ci := 12) (k := 2) (t := 0) (v := h6 245 2) (mf_dat eX12_isHere_p0 8 rfl) fl_X12_249 rfl (by decide) rfl rfl is245 ?_
      refine mf_aload_n (mf_dat eX12_isHere_p0 9 rfl) rfl rfl ?_
      refine mf_getf (r := (RX12, TX12, 106)) (ci := 12) (k := 4) (t := 0) (v := h6 245 4) (mf_dat eX12_isHere_p0 10 rfl) fl_X12_263 rfl (by decide) rfl rfl is245 ?_
      refine mf_icmp_ne (tgt := 30) (mf_dat eX12_isHere_p0 11 rfl) (by decide) (fun hc => ?_) (fun hc => ?_)
      · replace hyp := hyp.1 hc
        refine mf_aload_n (mf_dat eX12_isHere_p0 14 rfl) rfl rfl ?_
        refine mf_getf (r := (RX12, TX12, 106)) (ci := 12) (k := 2) (t := 0) (v := h6 245 2) (mf_dat eX12_isHere_p0 15 rfl) fl_X12_249 rfl (by decide) rfl rfl is245 ?_
        generalize qv7 : h6 245 2 = v7
        replace hyp := hyp _ qv7.symm
        refine mf_istore_n (mf_dat eX12_isHere_p0 16 rfl) rfl (by decide) ?_
        exact mf_sub [1, 2, 0] rfl (hyp g5 hG)
      · replace hyp := hyp.2 hc
        refine mf_iconst (v := 0) (mf_dat eX12_isHere_p0 12 rfl) (by decide) ?_
        exact mf_ireturn (mf_dat eX12_isHere_p0 13 rfl) rfl (Or.inr ⟨rfl, by decide⟩) ⟨rfl, hyp⟩
set_option maxRecDepth 100000 in
set_option maxHeartbeats 4000000 in
theorem wX12_takes {C : mf_G} {l : Launch} {d : Nat} {K : Int → mf_M → Prop} {x1 : Int} {h : mf_M} (hd : 2 ≤ d) (hyp : mM C l 1 YX12_isHere [(2, 245), (2, x1)] h (fun r1 h3 => ((¬ r1 = 0 → mf_is 319 x1 23 ∧ (∀ h5 : mf_M, h5 = mf_up h3 245 2 (mf_w32 ((h3 245 2) + (mf_len x1))) → (∀ h6 : mf_M, h6 = mf_up h5 245 4 (h5 245 2) → K 1 h6))) ∧ (r1 = 0 → K 0 h3)))) : mM C l d YX12_takes [(2, 245), (2, x1)] h K := by
  intro g hG
  refine mf_entry (by decide) (Nat.le_of_ble_eq_true rfl) ?_
  refine mf_aload_n (mf_dat eX12_takes 0 rfl) rfl rfl ?_
  refine mf_aload_n (mf_dat eX12_takes 1 rfl) rfl rfl ?_
  refine mf_callV (Yc := YX12_isHere) (r := (RX12, TX12, 106)) (ci := 12) (mf_dat eX12_takes 2 rfl) ml_X12_266 okX12_isHere im_X12_isHere sl_X12_isHere rfl rfl rfl rfl (Nat.le_of_ble_eq_true rfl) (mf_rr (Nat.le_trans (by decide) hd) (Nat.le_refl _)) (Nat.le_refl _) is245 (hyp g hG) (fun r1 g2 h3 hyp => ?_)
  obtain ⟨hgg, hyp⟩ := hyp
  subst hgg
  refine mf_if_ne (tgt := 10) (mf_dat eX12_takes 3 rfl) (by decide) (fun hc => ?_) (fun hc => ?_)
  · replace hyp := hyp.1 hc
    refine mf_aload_n (mf_dat eX12_takes 6 rfl) rfl rfl ?_
    refine mf_dup (mf_dat eX12_takes 7 rfl) (by decide) ?_
    refine mf_getf (r := (RX12, TX12, 106)) (ci := 12) (k := 2) (t := 0) (v := h3 245 2) (mf_dat eX12_takes 8 rfl) fl_X12_249 rfl (by decide) rfl rfl is245 ?_
    refine mf_aload_n (mf_dat eX12_takes 9 rfl) rfl rfl ?_
    obtain ⟨ck4, hyp⟩ := hyp
    refine mf_alen (c := 23) (i := 3) (ty := .char) (v := mf_len x1) (mf_dat eX12_takes 10 rfl) (by decide) rfl ck4 rfl (mf_len_small _) ?_
    refine mf_iadd (mf_dat eX12_takes 11 rfl) ?_
    refine mf_putI (r := (RX12, TX12, 106)) (ci := 12) (k := 2) (kI := 2) (t := 0) (mf_dat eX12_takes 12 rfl) fl_X12_249 rfl rfl (by decide) rfl (by decide) rfl (by decide) (fun h9 => absurd h9 (by decide)) is245 ?_
    generalize qh5 : mf_up h3 245 2 (mf_w32 ((h3 245 2) + (mf_len x1))) = h5
    replace hyp := hyp _ qh5.symm
    refine mf_aload_n (mf_dat eX12_takes 13 rfl) rfl rfl ?_
    refine mf_aload_n (mf_dat eX12_takes 14 rfl) rfl rfl ?_
    refine mf_getf (r := (RX12, TX12, 106)) (ci := 12) (k := 2) (t := 0) (v := h5 245 2) (mf_dat eX12_takes 15 rfl) fl_X12_249 rfl (by decide) rfl rfl is245 ?_
    refine mf_putI (r := (RX12, TX12, 106)) (ci := 12) (k := 4) (kI := 4) (t := 0) (mf_dat eX12_takes 16 rfl) fl_X12_263 rfl rfl (by decide) rfl (by decide) rfl (by decide) (fun h9 => absurd h9 (by decide)) is245 ?_
    generalize qh6 : mf_up h5 245 4 (h5 245 2) = h6
    replace hyp := hyp _ qh6.symm
    refine mf_iconst (v := 1) (mf_dat eX12_takes 17 rfl) (by decide) ?_
    exact mf_ireturn (mf_dat eX12_takes 18 rfl) rfl (Or.inr ⟨rfl, by decide⟩) ⟨rfl, hyp⟩
  · replace hyp := hyp.2 hc
    refine mf_iconst (v := 0) (mf_dat eX12_takes 4 rfl) (by decide) ?_
    exact mf_ireturn (mf_dat eX12_takes 5 rfl) rfl (Or.inr ⟨rfl, by decide⟩) ⟨rfl, hyp⟩
set_option maxRecDepth 100000 in
set_option maxHeartbeats 4000000 in
theorem wX12_asks {C : mf_G} {l : Launch} {d : Nat} {K : Int → mf_M → Prop} {x1 : Int} {h : mf_M} (hd : 3 ≤ d) (hyp : ((¬ h 245 5 = 0 → K 0 h) ∧ (h 245 5 = 0 → mM C l 2 YX12_takes [(2, 245), (2, x1)] h (fun r1 h3 => ((¬ r1 = 0 → K 0 h3) ∧ (r1 = 0 → mM C l 0 YX12_fail [(2, 245), (0, 1), (0, h3 245 2)] h3 (fun r4 h6 => K 0 h6))))))) : mM C l d YX12_asks [(2, 245), (2, x1)] h K := by
  intro g hG
  refine mf_entry (by decide) (Nat.le_of_ble_eq_true rfl) ?_
  refine mf_aload_n (mf_dat eX12_asks 0 rfl) rfl rfl ?_
  refine mf_getf (r := (RX12, TX12, 106)) (ci := 12) (k := 5) (t := 0) (v := h 245 5) (mf_dat eX12_asks 1 rfl) fl_X12_243 rfl (by decide) rfl rfl is245 ?_
  refine mf_if_ne (tgt := 24) (mf_dat eX12_asks 2 rfl) (by decide) (fun hc => ?_) (fun hc => ?_)
  · replace hyp := hyp.1 hc
    exact mf_return (mf_dat eX12_asks 12 rfl) rfl ⟨rfl, hyp⟩
  · replace hyp := hyp.2 hc
    refine mf_aload_n (mf_dat eX12_asks 3 rfl) rfl rfl ?_
    refine mf_aload_n (mf_dat eX12_asks 4 rfl) rfl rfl ?_
    refine mf_callV (Yc := YX12_takes) (r := (RX12, TX12, 106)) (ci := 12) (mf_dat eX12_asks 5 rfl) ml_X12_270 okX12_takes im_X12_takes sl_X12_takes rfl rfl rfl rfl (Nat.le_of_ble_eq_true rfl) (mf_rr (Nat.le_trans (by decide) hd) (Nat.le_refl _)) (Nat.le_refl _) is245 (hyp g hG) (fun r1 g2 h3 hyp => ?_)
    obtain ⟨hgg, hyp⟩ := hyp
    subst hgg
    refine mf_if_ne (tgt := 24) (mf_dat eX12_asks 6 rfl) (by decide) (fun hc => ?_) (fun hc => ?_)
    · replace hyp := hyp.1 hc
      exact mf_return (mf_dat eX12_asks 12 rfl) rfl ⟨rfl, hyp⟩
    · replace hyp := hyp.2 hc
      refine mf_aload_n (mf_dat eX12_asks 7 rfl) rfl rfl ?_
      refine mf_iconst (v := 1) (mf_dat eX12_asks 8 rfl) (by decide) ?_
      refine mf_aload_n (mf_dat eX12_asks 9 rfl) rfl rfl ?_
      refine mf_getf (r := (RX12, TX12, 106)) (ci := 12) (k := 2) (t := 0) (v := h3 245 2) (mf_dat eX12_asks 10 rfl) fl_X12_249 rfl (by decide) rfl rfl is245 ?_
      refine mf_callV (Yc := YX12_fail) (r := (RX12, TX12, 106)) (ci := 12) (mf_dat eX12_asks 11 rfl) ml_X12_273 okX12_fail im_X12_fail sl_X12_fail rfl rfl rfl rfl (Nat.le_of_ble_eq_true rfl) (mf_rr (Nat.le_trans (by decide) hd) (Nat.le_refl _)) (Nat.le_refl _) is245 (hyp g2 hG) (fun r4 g5 h6 hyp => ?_)
      obtain ⟨hgg, hyp⟩ := hyp
      subst hgg
      exact mf_return (mf_dat eX12_asks 12 rfl) rfl ⟨rfl, hyp⟩
set_option maxRecDepth 100000 in
set_option maxHeartbeats 4000000 in
theorem wX12_takesSign {C : mf_G} {l : Launch} {d : Nat} {K : Int → mf_M → Prop} {x1 : Int} {h : mf_M} (hd : 1 ≤ d) (hyp : ((¬ h 245 5 = 0 → K 0 h) ∧ (h 245 5 = 0 → mM C l 0 YX12_look [(2, 245)] h (fun r1 h3 => ((r1 = x1 → (∀ h4 : mf_M, h4 = mf_up h3 245 2 (mf_w32 ((h3 245 2) + 1)) → K 1 h4)) ∧ (¬ r1 = x1 → K 0 h3)))))) : mM C l d YX12_takesSign [(2, 245), (0, x1)] h K := by
  intro g hG
  refine mf_entry (by decide) (Nat.le_of_ble_eq_true rfl) ?_
  refine mf_aload_n (mf_dat eX12_takesSign 0 rfl) rfl rfl ?_
  refine mf_getf (r := (RX12, TX12, 106)) (ci := 12) (k := 5) (t := 0) (v := h 245 5) (mf_dat eX12_takesSign 1 rfl) fl_X12_243 rfl (by decide) rfl rfl is245 ?_
  refine mf_if_ne (tgt := 15) (mf_dat eX12_takesSign 2 rfl) (by decide) (fun hc => ?_) (fun hc => ?_)
  · replace hyp := hyp.1 hc
    refine mf_iconst (v := 0) (mf_dat eX12_takesSign 7 rfl) (by decide) ?_
    exact mf_ireturn (mf_dat eX12_takesSign 8 rfl) rfl (Or.inr ⟨rfl, by decide⟩) ⟨rfl, hyp⟩
  · replace hyp := hyp.2 hc
    refine mf_aload_n (mf_dat eX12_takesSign 3 rfl) rfl rfl ?_
    refine mf_callV (Yc := YX12_look) (r := (RX12, TX12, 106)) (ci := 12) (mf_dat eX12_takesSign 4 rfl) ml_X12_255 okX12_look im_X12_look sl_X12_look rfl rfl rfl rfl (Nat.le_of_ble_eq_true rfl) (mf_rr (Nat.le_trans (by decide) hd) (Nat.le_refl _)) (Nat.le_refl _) is245 (hyp g hG) (fun r1 g2 h3 hyp => ?_)
    obtain ⟨hgg, hyp⟩ := hyp
    subst hgg
    refine mf_iload_n (mf_dat eX12_takesSign 5 rfl) rfl rfl ?_
    refine mf_icmp_eq (tgt := 17) (mf_dat eX12_takesSign 6 rfl) (by decide) (fun hc => ?_) (fun hc => ?_)
    · replace hyp := hyp.1 hc
      refine mf_aload_n (mf_dat eX12_takesSign 9 rfl) rfl rfl ?_
      refine mf_dup (mf_dat eX12_takesSign 10 rfl) (by decide) ?_
      refine mf_getf (r := (RX12, TX12, 106)) (ci := 12) (k := 2) (t := 0) (v := h3 245 2) (mf_dat eX12_takesSign 11 rfl) fl_X12_249 rfl (by decide) rfl rfl is245 ?_
      refine mf_iconst (v := 1) (mf_dat eX12_takesSign 12 rfl) (by decide) ?_
      refine mf_iadd (mf_dat eX12_takesSign 13 rfl) ?_
      refine mf_putI (r := (RX12, TX12, 106)) (ci := 12) (k := 2) (kI := 2) (t := 0) (mf_dat eX12_takesSign 14 rfl) fl_X12_249 rfl rfl (by decide) rfl (by decide) rfl (by decide) (fun h9 => absurd h9 (by decide)) is245 ?_
      generalize qh4 : mf_up h3 245 2 (mf_w32 ((h3 245 2) + 1)) = h4
      replace hyp := hyp _ qh4.symm
      refine mf_iconst (v := 1) (mf_dat eX12_takesSign 15 rfl) (by decide) ?_
      exact mf_ireturn (mf_dat eX12_takesSign 16 rfl) rfl (Or.inr ⟨rfl, by decide⟩) ⟨rfl, hyp⟩
    · replace hyp := hyp.2 hc
      refine mf_iconst (v := 0) (mf_dat eX12_takesSign 7 rfl) (by decide) ?_
      exact mf_ireturn (mf_dat eX12_takesSign 8 rfl) rfl (Or.inr ⟨rfl, by decide⟩) ⟨rfl, hyp⟩
set_option maxRecDepth 100000 in
set_option maxHeartbeats 4000000 in
theorem wX12_asksSign {C : mf_G} {l : Launch} {d : Nat} {K : Int → mf_M → Prop} {x1 : Int} {h : mf_M} (hd : 2 ≤ d) (hyp : ((¬ h 245 5 = 0 → K 0 h) ∧ (h 245 5 = 0 → mM C l 1 YX12_takesSign [(2, 245), (0, x1)] h (fun r1 h3 => ((¬ r1 = 0 → K 0 h3) ∧ (r1 = 0 → mM C l 0 YX12_fail [(2, 245), (0, 1), (0, h3 245 2)] h3 (fun r4 h6 => K 0 h6))))))) : mM C l d YX12_asksSign [(2, 245), (0, x1)] h K := by
  intro g hG
  refine mf_entry (by decide) (Nat.le_of_ble_eq_true rfl) ?_
  refine mf_aload_n (mf_dat eX12_asksSign 0 rfl) rfl rfl ?_
  refine mf_getf (r := (RX12, TX12, 106)) (ci := 12) (k := 5) (t := 0) (v := h 245 5) (mf_dat eX12_asksSign 1 rfl) fl_X12_243 rfl (by decide) rfl rfl is245 ?_
  refine mf_if_ne (tgt := 24) (mf_dat eX12_asksSign 2 rfl) (by decide) (fun hc => ?_) (fun hc => ?_)
  · replace hyp := hyp.1 hc
    exact mf_return (mf_dat eX12_asksSign 12 rfl) rfl ⟨rfl, hyp⟩
  · replace hyp := hyp.2 hc
    refine mf_aload_n (mf_dat eX12_asksSign 3 rfl) rfl rfl ?_
    refine mf_iload_n (mf_dat eX12_asksSign 4 rfl) rfl rfl ?_
    refine mf_callV (Yc := YX12_takesSign) (r := (RX12, TX12, 106)) (ci := 12) (mf_dat eX12_asksSign 5 rfl) ml_X12_277 okX12_takesSign im_X12_takesSign sl_X12_takesSign rfl rfl rfl rfl (Nat.le_of_ble_eq_true rfl) (mf_rr (Nat.le_trans (by decide) hd) (Nat.le_refl _)) (Nat.le_refl _) is245 (hyp g hG) (fun r1 g2 h3 hyp => ?_)
    obtain ⟨hgg, hyp⟩ := hyp
    subst hgg
    refine mf_if_ne (tgt := 24) (mf_dat eX12_asksSign 6 rfl) (by decide) (fun hc => ?_) (fun hc => ?_)
    · replace hyp := hyp.1 hc
      exact mf_return (mf_dat eX12_asksSign 12 rfl) rfl ⟨rfl, hyp⟩
    · replace hyp := hyp.2 hc
      refine mf_aload_n (mf_dat eX12_asksSign 7 rfl) rfl rfl ?_
      refine mf_iconst (v := 1) (mf_dat eX12_asksSign 8 rfl) (by decide) ?_
      refine mf_aload_n (mf_dat eX12_asksSign 9 rfl) rfl rfl ?_
      refine mf_getf (r := (RX12, TX12, 106)) (ci := 12) (k := 2) (t := 0) (v := h3 245 2) (mf_dat eX12_asksSign 10 rfl) fl_X12_249 rfl (by decide) rfl rfl is245 ?_
      refine mf_callV (Yc := YX12_fail) (r := (RX12, TX12, 106)) (ci := 12) (mf_dat eX12_asksSign 11 rfl) ml_X12_273 okX12_fail im_X12_fail sl_X12_fail rfl rfl rfl rfl (Nat.le_of_ble_eq_true rfl) (mf_rr (Nat.le_trans (by decide) hd) (Nat.le_refl _)) (Nat.le_refl _) is245 (hyp g2 hG) (fun r4 g5 h6 hyp => ?_)
      obtain ⟨hgg, hyp⟩ := hyp
      subst hgg
      exact mf_return (mf_dat eX12_asksSign 12 rfl) rfl ⟨rfl, hyp⟩
abbrev BX12_number_49 (C : mf_G) (l : Launch) (d : Nat) (K : Int → mf_M → Prop) (x1 x2 x3 x4 : Int) (h : mf_M) : Prop := jM C l d YX12_number K 49 [(0, (2, 245)), (1, (0, x1)), (2, (0, x2)), (3, (0, x3)), (4, (0, x4))] [] h
abbrev BX12_number_129 (C : mf_G) (l : Launch) (d : Nat) (K : Int → mf_M → Prop) (x1 x2 x3 x4 : Int) (h : mf_M) : Prop := jM C l d YX12_number K 129 [(0, (2, 245)), (1, (0, x1)), (2, (0, x2)), (3, (0, x3)), (4, (0, x4))] [] h
set_option maxRecDepth 100000 in
set_option maxHeartbeats 4000000 in
theorem vX12_number_49 {C : mf_G} {l : Launch} {d : Nat} {K : Int → mf_M → Prop} {x1 x2 x3 x4 : Int} {h : mf_M} (hd : 1 ≤ d) (hyp : ((h 245 3 ≤ h 245 2 → BX12_number_129 C l d K x1 x2 x3 x4 h) ∧ (¬ h 245 3 ≤ h 245 2 → 0 ≤ h 245 2 ∧ h 245 2 < 1600 ∧ mM C l 0 YX12_isDigit [(0, h 246 (h 245 2))] h (fun r3 h5 => ((r3 = 0 → BX12_number_129 C l d K x1 x2 x3 x4 h5) ∧ (¬ r3 = 0 → ((¬ mf_w32 ((h5 245 2) - x3) = 4 → 0 ≤ h5 245 2 ∧ h5 245 2 < 1600 ∧ (∀ v8 : Int, v8 = mf_w32 ((mf_w32 ((mf_w32 (10 * x4)) + (h5 246 (h5 245 2)))) - 48) → (∀ h9 : mf_M, h9 = mf_up h5 245 2 (mf_w32 ((h5 245 2) + 1)) → BX12_number_49 C l d K x1 x2 x3 v8 h9))) ∧ (mf_w32 ((h5 245 2) - x3) = 4 → mM C l 0 YX12_fail [(2, 245), (0, 1), (0, h5 245 2)] h5 (fun r10 h12 => K 0 h12))))))))) : BX12_number_49 C l d K x1 x2 x3 x4 h := by
  intro g hG
  refine mf_aload_n (mf_dat eX12_number_p0 26 rfl) rfl rfl ?_
  refine mf_getf (r := (RX12, TX12, 106)) (ci := 12) (k := 2) (t := 0) (v := h 245 2) (mf_dat eX12_number_p0 27 rfl) fl_X12_249 rfl (by decide) rfl rfl is245 ?_
  refine mf_aload_n (mf_dat eX12_number_p0 28 rfl) rfl rfl ?_
  refine mf_getf (r := (RX12, TX12, 106)) (ci := 12) (k := 3) (t := 0) (v := h 245 3) (mf_dat eX12_number_p0 29 rfl) fl_X12_252 rfl (by decide) rfl rfl is245 ?_
  refine mf_icmp_ge (tgt := 129) (mf_dat eX12_number_p0 30 rfl) (by decide) (fun hc => ?_) (fun hc => ?_)
  · replace hyp := hyp.1 hc
    exact mf_sub [0, 1, 2, 3, 4] rfl (hyp g hG)
  · replace hyp := hyp.2 hc
    refine mf_aload_n (mf_dat eX12_number_p0 31 rfl) rfl rfl ?_
    refine mf_getf (r := (RX12, TX12, 106)) (ci := 12) (k := 0) (t := 2) (v := 246) (mf_dat eX12_number_p0 32 rfl) fl_X12_7 rfl (by decide) rfl (gm_0 hG) is245 ?_
    refine mf_aload_n (mf_dat eX12_number_p0 33 rfl) rfl rfl ?_
    refine mf_getf (r := (RX12, TX12, 106)) (ci := 12) (k := 2) (t := 0) (v := h 245 2) (mf_dat eX12_number_p0 34 rfl) fl_X12_249 rfl (by decide) rfl rfl is245 ?_
    obtain ⟨ck1, hyp⟩ := hyp
    obtain ⟨ck2, hyp⟩ := hyp
    refine mf_iald (mf_dat eX12_number_p0 35 rfl) is246 len246 ck1 ck2 ?_
    refine mf_callS (Yc := YX12_isDigit) (mf_dat eX12_number_p0 36 rfl) ml_X12_280 okX12_isDigit sm_X12_isDigit rfl rfl (Nat.le_of_ble_eq_true rfl) (mf_rr (Nat.le_trans (by decide) hd) (Nat.le_refl _)) (Nat.le_refl _) (hyp g hG) (fun r3 g4 h5 hyp => ?_)
    obtain ⟨hgg, hyp⟩ := hyp
    subst hgg
    refine mf_if_eq (tgt := 129) (mf_dat eX12_number_p0 37 rfl) (by decide) (fun hc => ?_) (fun hc => ?_)
    · replace hyp := hyp.1 hc
      exact mf_sub [0, 1, 2, 3, 4] rfl (hyp g4 hG)
    · replace hyp := hyp.2 hc
      refine mf_aload_n (mf_dat eX12_number_p0 38 rfl) rfl rfl ?_
      refine mf_getf (r := (RX12, TX12, 106)) (ci := 12) (k := 2) (t := 0) (v := h5 245 2) (mf_dat eX12_number_p0 39 rfl) fl_X12_249 rfl (by decide) rfl rfl is245 ?_
      refine mf_iload_n (mf_dat eX12_number_p0 40 rfl) rfl rfl ?_
      refine mf_isub (mf_dat eX12_number_p0 41 rfl) ?_
      refine mf_iconst (v := 4) (mf_dat eX12_number_p0 42 rfl) (by decide) ?_
      refine mf_icmp_ne (tgt := 96) (mf_dat eX12_number_p0 43 rfl) (by decide) (fun hc => ?_) (fun hc => ?_)
      · replace hyp := hyp.1 hc
        refine mf_bipush (v := 10) (mf_dat eX12_number_p0 51 rfl) (by decide) ?_
        refine mf_iload (mf_dat eX12_number_p0 52 rfl) rfl ?_
        refine mf_imul (mf_dat eX12_number_p0 53 rfl) ?_
        refine mf_aload_n (mf_dat eX12_number_p0 54 rfl) rfl rfl ?_
        refine mf_getf (r := (RX12, TX12, 106)) (ci := 12) (k := 0) (t := 2) (v := 246) (mf_dat eX12_number_p0 55 rfl) fl_X12_7 rfl (by decide) rfl (gm_0 hG) is245 ?_
        refine mf_aload_n (mf_dat eX12_number_p0 56 rfl) rfl rfl ?_
        refine mf_getf (r := (RX12, TX12, 106)) (ci := 12) (k := 2) (t := 0) (v := h5 245 2) (mf_dat eX12_number_p0 57 rfl) fl_X12_249 rfl (by decide) rfl rfl is245 ?_
        obtain ⟨ck6, hyp⟩ := hyp
        obtain ⟨ck7, hyp⟩ := hyp
        refine mf_iald (mf_dat eX12_number_p0 58 rfl) is246 len246 ck6 ck7 ?_
        refine mf_iadd (mf_dat eX12_number_p0 59 rfl) ?_
        refine mf_bipush (v := 48) (mf_dat eX12_number_p1 0 rfl) (by decide) ?_
        refine mf_isub (mf_dat eX12_number_p1 1 rfl) ?_
        generalize qv8 : mf_w32 ((mf_w32 ((mf_w32 (10 * x4)) + (h5 246 (h5 245 2)))) - 48) = v8
        replace hyp := hyp _ qv8.symm
        refine mf_istore (mf_dat eX12_number_p1 2 rfl) (by decide) ?_
        refine mf_aload_n (mf_dat eX12_number_p1 3 rfl) rfl rfl ?_
        refine mf_dup (mf_dat eX12_number_p1 4 rfl) (by decide) ?_
        refine mf_getf (r := (RX12, TX12, 106)) (ci := 12) (k := 2) (t := 0) (v := h5 245 2) (mf_dat eX12_number_p1 5 rfl) fl_X12_249 rfl (by decide) rfl rfl is245 ?_
        refine mf_iconst (v := 1) (mf_dat eX12_number_p1 6 rfl) (by decide) ?_
        refine mf_iadd (mf_dat eX12_number_p1 7 rfl) ?_
        refine mf_putI (r := (RX12, TX12, 106)) (ci := 12) (k := 2) (kI := 2) (t := 0) (mf_dat eX12_number_p1 8 rfl) fl_X12_249 rfl rfl (by decide) rfl (by decide) rfl (by decide) (fun h9 => absurd h9 (by decide)) is245 ?_
        generalize qh9 : mf_up h5 245 2 (mf_w32 ((h5 245 2) + 1)) = h9
        replace hyp := hyp _ qh9.symm
        refine mf_goto (tgt := 49) (mf_dat eX12_number_p1 9 rfl) (by decide) ?_
        exact mf_sub [1, 2, 3, 4, 0] rfl (hyp g4 hG)
      · replace hyp := hyp.2 hc
        refine mf_aload_n (mf_dat eX12_number_p0 44 rfl) rfl rfl ?_
        refine mf_iconst (v := 1) (mf_dat eX12_number_p0 45 rfl) (by decide) ?_
        refine mf_aload_n (mf_dat eX12_number_p0 46 rfl) rfl rfl ?_
        refine mf_getf (r := (RX12, TX12, 106)) (ci := 12) (k := 2) (t := 0) (v := h5 245 2) (mf_dat eX12_number_p0 47 rfl) fl_X12_249 rfl (by decide) rfl rfl is245 ?_
        refine mf_callV (Yc := YX12_fail) (r := (RX12, TX12, 106)) (ci := 12) (mf_dat eX12_number_p0 48 rfl) ml_X12_273 okX12_fail im_X12_fail sl_X12_fail rfl rfl rfl rfl (Nat.le_of_ble_eq_true rfl) (mf_rr (Nat.le_trans (by decide) hd) (Nat.le_refl _)) (Nat.le_refl _) is245 (hyp g4 hG) (fun r10 g11 h12 hyp => ?_)
        obtain ⟨hgg, hyp⟩ := hyp
        subst hgg
        refine mf_iconst (v := 0) (mf_dat eX12_number_p0 49 rfl) (by decide) ?_
        exact mf_ireturn (mf_dat eX12_number_p0 50 rfl) rfl (Or.inl rfl) ⟨rfl, hyp⟩
set_option maxRecDepth 100000 in
set_option maxHeartbeats 4000000 in
theorem vX12_number_129 {C : mf_G} {l : Launch} {d : Nat} {K : Int → mf_M → Prop} {x1 x2 x3 x4 : Int} {h : mf_M} (hd : 1 ≤ d) (hyp : (∀ h1 : mf_M, h1 = mf_up h 245 4 (h 245 2) → (∀ h2 : mf_M, h2 = mf_up h1 245 10 x3 → mM C l 0 YX12_isIn [(1, x4), (1, x1), (1, x2)] h2 (fun r3 h5 => ((¬ r3 = 0 → K x4 h5) ∧ (r3 = 0 → mM C l 0 YX12_fail [(2, 245), (0, 2), (0, x3)] h5 (fun r6 h8 => K x4 h8))))))) : BX12_number_129 C l d K x1 x2 x3 x4 h := by
  intro g hG
  refine mf_aload_n (mf_dat eX12_number_p1 10 rfl) rfl rfl ?_
  refine mf_aload_n (mf_dat eX12_number_p1 11 rfl) rfl rfl ?_
  refine mf_getf (r := (RX12, TX12, 106)) (ci := 12) (k := 2) (t := 0) (v := h 245 2) (mf_dat eX12_number_p1 12 rfl) fl_X12_249 rfl (by decide) rfl rfl is245 ?_
  refine mf_putI (r := (RX12, TX12, 106)) (ci := 12) (k := 4) (kI := 4) (t := 0) (mf_dat eX12_number_p1 13 rfl) fl_X12_263 rfl rfl (by decide) rfl (by decide) rfl (by decide) (fun h9 => absurd h9 (by decide)) is245 ?_
  generalize qh1 : mf_up h 245 4 (h 245 2) = h1
  replace hyp := hyp _ qh1.symm
  refine mf_aload_n (mf_dat eX12_number_p1 14 rfl) rfl rfl ?_
  refine mf_iload_n (mf_dat eX12_number_p1 15 rfl) rfl rfl ?_
  refine mf_putI (r := (RX12, TX12, 106)) (ci := 12) (k := 10) (kI := 10) (t := 0) (mf_dat eX12_number_p1 16 rfl) fl_X12_283 rfl rfl (by decide) rfl (by decide) rfl (by decide) (fun h9 => absurd h9 (by decide)) is245 ?_
  generalize qh2 : mf_up h1 245 10 x3 = h2
  replace hyp := hyp _ qh2.symm
  refine mf_iload (mf_dat eX12_number_p1 17 rfl) rfl ?_
  refine mf_i2l (mf_dat eX12_number_p1 18 rfl) ?_
  refine mf_iload_n (mf_dat eX12_number_p1 19 rfl) rfl rfl ?_
  refine mf_i2l (mf_dat eX12_number_p1 20 rfl) ?_
  refine mf_iload_n (mf_dat eX12_number_p1 21 rfl) rfl rfl ?_
  refine mf_i2l (mf_dat eX12_number_p1 22 rfl) ?_
  refine mf_callS (Yc := YX12_isIn) (mf_dat eX12_number_p1 23 rfl) ml_X12_286 okX12_isIn sm_X12_isIn rfl rfl (Nat.le_of_ble_eq_true rfl) (mf_rr (Nat.le_trans (by decide) hd) (Nat.le_refl _)) (Nat.le_refl _) (hyp g hG) (fun r3 g4 h5 hyp => ?_)
  obtain ⟨hgg, hyp⟩ := hyp
  subst hgg
  refine mf_if_ne (tgt := 161) (mf_dat eX12_number_p1 24 rfl) (by decide) (fun hc => ?_) (fun hc => ?_)
  · replace hyp := hyp.1 hc
    refine mf_iload (mf_dat eX12_number_p1 29 rfl) rfl ?_
    exact mf_ireturn (mf_dat eX12_number_p1 30 rfl) rfl (Or.inl rfl) ⟨rfl, hyp⟩
  · replace hyp := hyp.2 hc
    refine mf_aload_n (mf_dat eX12_number_p1 25 rfl) rfl rfl ?_
    refine mf_iconst (v := 2) (mf_dat eX12_number_p1 26 rfl) (by decide) ?_
    refine mf_iload_n (mf_dat eX12_number_p1 27 rfl) rfl rfl ?_
    refine mf_callV (Yc := YX12_fail) (r := (RX12, TX12, 106)) (ci := 12) (mf_dat eX12_number_p1 28 rfl) ml_X12_273 okX12_fail im_X12_fail sl_X12_fail rfl rfl rfl rfl (Nat.le_of_ble_eq_true rfl) (mf_rr (Nat.le_trans (by decide) hd) (Nat.le_refl _)) (Nat.le_refl _) is245 (hyp g4 hG) (fun r6 g7 h8 hyp => ?_)
    obtain ⟨hgg, hyp⟩ := hyp
    subst hgg
    refine mf_iload (mf_dat eX12_number_p1 29 rfl) rfl ?_
    exact mf_ireturn (mf_dat eX12_number_p1 30 rfl) rfl (Or.inl rfl) ⟨rfl, hyp⟩
set_option maxRecDepth 100000 in
set_option maxHeartbeats 4000000 in
theorem wX12_number {C : mf_G} {l : Launch} {d : Nat} {K : Int → mf_M → Prop} {x1 x2 : Int} {h : mf_M} (hd : 1 ≤ d) (hyp : ((h 245 5 = 0 → mM C l 0 YX12_look [(2, 245)] h (fun r1 h3 => mM C l 0 YX12_isDigit [(0, r1)] h3 (fun r4 h6 => ((r4 = 0 → mM C l 0 YX12_fail [(2, 245), (0, 1), (0, h6 245 2)] h6 (fun r7 h9 => K 0 h9)) ∧ (¬ r4 = 0 → ((¬ h6 245 2 = h6 245 4 → (∀ v10 : Int, v10 = h6 245 2 → BX12_number_49 C l d K x1 x2 v10 0 h6)) ∧ (h6 245 2 = h6 245 4 → mM C l 0 YX12_fail [(2, 245), (0, 1), (0, h6 245 2)] h6 (fun r11 h13 => K 0 h13)))))))) ∧ (¬ h 245 5 = 0 → K 0 h))) : mM C l d YX12_number [(2, 245), (0, x1), (0, x2)] h K := by
  intro g hG
  refine mf_entry (by decide) (Nat.le_of_ble_eq_true rfl) ?_
  refine mf_aload_n (mf_dat eX12_number_p0 0 rfl) rfl rfl ?_
  refine mf_getf (r := (RX12, TX12, 106)) (ci := 12) (k := 5) (t := 0) (v := h 245 5) (mf_dat eX12_number_p0 1 rfl) fl_X12_243 rfl (by decide) rfl rfl is245 ?_
  refine mf_if_eq (tgt := 9) (mf_dat eX12_number_p0 2 rfl) (by decide) (fun hc => ?_) (fun hc => ?_)
  · replace hyp := hyp.1 hc
    refine mf_aload_n (mf_dat eX12_number_p0 5 rfl) rfl rfl ?_
    refine mf_callV (Yc := YX12_look) (r := (RX12, TX12, 106)) (ci := 12) (mf_dat eX12_number_p0 6 rfl) ml_X12_255 okX12_look im_X12_look sl_X12_look rfl rfl rfl rfl (Nat.le_of_ble_eq_true rfl) (mf_rr (Nat.le_trans (by decide) hd) (Nat.le_refl _)) (Nat.le_refl _) is245 (hyp g hG) (fun r1 g2 h3 hyp => ?_)
    obtain ⟨hgg, hyp⟩ := hyp
    subst hgg
    refine mf_callS (Yc := YX12_isDigit) (mf_dat eX12_number_p0 7 rfl) ml_X12_280 okX12_isDigit sm_X12_isDigit rfl rfl (Nat.le_of_ble_eq_true rfl) (mf_rr (Nat.le_trans (by decide) hd) (Nat.le_refl _)) (Nat.le_refl _) (hyp g2 hG) (fun r4 g5 h6 hyp => ?_)
    obtain ⟨hgg, hyp⟩ := hyp
    subst hgg
    refine mf_if_eq (tgt := 30) (mf_dat eX12_number_p0 8 rfl) (by decide) (fun hc => ?_) (fun hc => ?_)
    · replace hyp := hyp.1 hc
      refine mf_aload_n (mf_dat eX12_number_p0 14 rfl) rfl rfl ?_
      refine mf_iconst (v := 1) (mf_dat eX12_number_p0 15 rfl) (by decide) ?_
      refine mf_aload_n (mf_dat eX12_number_p0 16 rfl) rfl rfl ?_
      refine mf_getf (r := (RX12, TX12, 106)) (ci := 12) (k := 2) (t := 0) (v := h6 245 2) (mf_dat eX12_number_p0 17 rfl) fl_X12_249 rfl (by decide) rfl rfl is245 ?_
      refine mf_callV (Yc := YX12_fail) (r := (RX12, TX12, 106)) (ci := 12) (mf_dat eX12_number_p0 18 rfl) ml_X12_273 okX12_fail im_X12_fail sl_X12_fail rfl rfl rfl rfl (Nat.le_of_ble_eq_true rfl) (mf_rr (Nat.le_trans (by decide) hd) (Nat.le_refl _)) (Nat.le_refl _) is245 (hyp g5 hG) (fun r7 g8 h9 hyp => ?_)
      obtain ⟨hgg, hyp⟩ := hyp
      subst hgg
      refine mf_iconst (v := 0) (mf_dat eX12_number_p0 19 rfl) (by decide) ?_
      exact mf_ireturn (mf_dat eX12_number_p0 20 rfl) rfl (Or.inl rfl) ⟨rfl, hyp⟩
    · replace hyp := hyp.2 hc
      refine mf_aload_n (mf_dat eX12_number_p0 9 rfl) rfl rfl ?_
      refine mf_getf (r := (RX12, TX12, 106)) (ci := 12) (k := 2) (t := 0) (v := h6 245 2) (mf_dat eX12_number_p0 10 rfl) fl_X12_249 rfl (by decide) rfl rfl is245 ?_
      refine mf_aload_n (mf_dat eX12_number_p0 11 rfl) rfl rfl ?_
      refine mf_getf (r := (RX12, TX12, 106)) (ci := 12) (k := 4) (t := 0) (v := h6 245 4) (mf_dat eX12_number_p0 12 rfl) fl_X12_263 rfl (by decide) rfl rfl is245 ?_
      refine mf_icmp_ne (tgt := 41) (mf_dat eX12_number_p0 13 rfl) (by decide) (fun hc => ?_) (fun hc => ?_)
      · replace hyp := hyp.1 hc
        refine mf_aload_n (mf_dat eX12_number_p0 21 rfl) rfl rfl ?_
        refine mf_getf (r := (RX12, TX12, 106)) (ci := 12) (k := 2) (t := 0) (v := h6 245 2) (mf_dat eX12_number_p0 22 rfl) fl_X12_249 rfl (by decide) rfl rfl is245 ?_
        generalize qv10 : h6 245 2 = v10
        replace hyp := hyp _ qv10.symm
        refine mf_istore_n (mf_dat eX12_number_p0 23 rfl) rfl (by decide) ?_
        refine mf_iconst (v := 0) (mf_dat eX12_number_p0 24 rfl) (by decide) ?_
        refine mf_istore (mf_dat eX12_number_p0 25 rfl) (by decide) ?_
        exact mf_sub [2, 3, 4, 1, 0] rfl (hyp g5 hG)
      · replace hyp := hyp.2 hc
        refine mf_aload_n (mf_dat eX12_number_p0 14 rfl) rfl rfl ?_
        refine mf_iconst (v := 1) (mf_dat eX12_number_p0 15 rfl) (by decide) ?_
        refine mf_aload_n (mf_dat eX12_number_p0 16 rfl) rfl rfl ?_
        refine mf_getf (r := (RX12, TX12, 106)) (ci := 12) (k := 2) (t := 0) (v := h6 245 2) (mf_dat eX12_number_p0 17 rfl) fl_X12_249 rfl (by decide) rfl rfl is245 ?_
        refine mf_callV (Yc := YX12_fail) (r := (RX12, TX12, 106)) (ci := 12) (mf_dat eX12_number_p0 18 rfl) ml_X12_273 okX12_fail im_X12_fail sl_X12_fail rfl rfl rfl rfl (Nat.le_of_ble_eq_true rfl) (mf_rr (Nat.le_trans (by decide) hd) (Nat.le_refl _)) (Nat.le_refl _) is245 (hyp g5 hG) (fun r11 g12 h13 hyp => ?_)
        obtain ⟨hgg, hyp⟩ := hyp
        subst hgg
        refine mf_iconst (v := 0) (mf_dat eX12_number_p0 19 rfl) (by decide) ?_
        exact mf_ireturn (mf_dat eX12_number_p0 20 rfl) rfl (Or.inl rfl) ⟨rfl, hyp⟩
  · replace hyp := hyp.2 hc
    refine mf_iconst (v := 0) (mf_dat eX12_number_p0 3 rfl) (by decide) ?_
    exact mf_ireturn (mf_dat eX12_number_p0 4 rfl) rfl (Or.inl rfl) ⟨rfl, hyp⟩
abbrev BX12_isOwnHere_71 (C : mf_G) (l : Launch) (d : Nat) (K : Int → mf_M → Prop) (s0 : Int) (h : mf_M) : Prop := jM C l d YX12_isOwnHere K 71 [(0, (2, 245))] [(0, s0)] h
abbrev BX12_isOwnHere_147 (C : mf_G) (l : Launch) (d : Nat) (K : Int → mf_M → Prop) (s0 : Int) (h : mf_M) : Prop := jM C l d YX12_isOwnHere K 147 [(0, (2, 245))] [(0, s0)] h
abbrev BX12_isOwnHere_223 (C : mf_G) (l : Launch) (d : Nat) (K : Int → mf_M → Prop) (s0 : Int) (h : mf_M) : Prop := jM C l d YX12_isOwnHere K 223 [(0, (2, 245))] [(0, s0)] h
abbrev BX12_isOwnHere_299 (C : mf_G) (l : Launch) (d : Nat) (K : Int → mf_M → Prop) (s0 : Int) (h : mf_M) : Prop := jM C l d YX12_isOwnHere K 299 [(0, (2, 245))] [(0, s0)] h
set_option maxRecDepth 100000 in
set_option maxHeartbeats 4000000 in
theorem vX12_isOwnHere_71 {C : mf_G} {l : Launch} {d : Nat} {K : Int → mf_M → Prop} {s0 : Int} {h : mf_M} (hd : 2 ≤ d) (hyp : ((¬ s0 = 0 → BX12_isOwnHere_147 C l d K 1 h) ∧ (s0 = 0 → mM C l 1 YX12_isHere [(2, 245), (2, 254)] h (fun r1 h3 => ((¬ r1 = 0 → BX12_isOwnHere_147 C l d K 1 h3) ∧ (r1 = 0 → mM C l 1 YX12_isHere [(2, 245), (2, 255)] h3 (fun r4 h6 => ((¬ r4 = 0 → BX12_isOwnHere_147 C l d K 1 h6) ∧ (r4 = 0 → mM C l 1 YX12_isHere [(2, 245), (2, 256)] h6 (fun r7 h9 => ((¬ r7 = 0 → BX12_isOwnHere_147 C l d K 1 h9) ∧ (r7 = 0 → mM C l 1 YX12_isHere [(2, 245), (2, 257)] h9 (fun r10 h12 => ((¬ r10 = 0 → BX12_isOwnHere_147 C l d K 1 h12) ∧ (r10 = 0 → mM C l 1 YX12_isHere [(2, 245), (2, 258)] h12 (fun r13 h15 => ((¬ r13 = 0 → BX12_isOwnHere_147 C l d K 1 h15) ∧ (r13 = 0 → mM C l 1 YX12_isHere [(2, 245), (2, 259)] h15 (fun r16 h18 => ((r16 = 0 → BX12_isOwnHere_147 C l d K 0 h18) ∧ (¬ r16 = 0 → BX12_isOwnHere_147 C l d K 1 h18))))))))))))))))))))) : BX12_isOwnHere_71 C l d K s0 h := by
  intro g hG
  refine mf_istore_n (mf_dat eX12_isOwnHere_p0 33 rfl) rfl (by decide) ?_
  refine mf_iload_n (mf_dat eX12_isOwnHere_p0 34 rfl) rfl rfl ?_
  refine mf_if_ne (tgt := 142) (mf_dat eX12_isOwnHere_p0 35 rfl) (by decide) (fun hc => ?_) (fun hc => ?_)
  · replace hyp := hyp.1 hc
    refine mf_iconst (v := 1) (mf_dat eX12_isOwnHere_p1 6 rfl) (by decide) ?_
    refine mf_goto (tgt := 147) (mf_dat eX12_isOwnHere_p1 7 rfl) (by decide) ?_
    exact mf_sub [1] rfl (hyp g hG)
  · replace hyp := hyp.2 hc
    refine mf_aload_n (mf_dat eX12_isOwnHere_p0 36 rfl) rfl rfl ?_
    refine mf_aload_n (mf_dat eX12_isOwnHere_p0 37 rfl) rfl rfl ?_
    refine mf_getf (r := (RX12, TX12, 106)) (ci := 12) (k := 17) (t := 2) (v := 254) (mf_dat eX12_isOwnHere_p0 38 rfl) fl_X12_39 rfl (by decide) rfl (gm_17 hG) is245 ?_
    refine mf_callV (Yc := YX12_isHere) (r := (RX12, TX12, 106)) (ci := 12) (mf_dat eX12_isOwnHere_p0 39 rfl) ml_X12_266 okX12_isHere im_X12_isHere sl_X12_isHere rfl rfl rfl rfl (Nat.le_of_ble_eq_true rfl) (mf_rr (Nat.le_trans (by decide) hd) (Nat.le_refl _)) (Nat.le_refl _) is245 (hyp g hG) (fun r1 g2 h3 hyp => ?_)
    obtain ⟨hgg, hyp⟩ := hyp
    subst hgg
    refine mf_if_ne (tgt := 142) (mf_dat eX12_isOwnHere_p0 40 rfl) (by decide) (fun hc => ?_) (fun hc => ?_)
    · replace hyp := hyp.1 hc
      refine mf_iconst (v := 1) (mf_dat eX12_isOwnHere_p1 6 rfl) (by decide) ?_
      refine mf_goto (tgt := 147) (mf_dat eX12_isOwnHere_p1 7 rfl) (by decide) ?_
      exact mf_sub [1] rfl (hyp g2 hG)
    · replace hyp := hyp.2 hc
      refine mf_aload_n (mf_dat eX12_isOwnHere_p0 41 rfl) rfl rfl ?_
      refine mf_aload_n (mf_dat eX12_isOwnHere_p0 42 rfl) rfl rfl ?_
      refine mf_getf (r := (RX12, TX12, 106)) (ci := 12) (k := 18) (t := 2) (v := 255) (mf_dat eX12_isOwnHere_p0 43 rfl) fl_X12_42 rfl (by decide) rfl (gm_18 hG) is245 ?_
      refine mf_callV (Yc := YX12_isHere) (r := (RX12, TX12, 106)) (ci := 12) (mf_dat eX12_isOwnHere_p0 44 rfl) ml_X12_266 okX12_isHere im_X12_isHere sl_X12_isHere rfl rfl rfl rfl (Nat.le_of_ble_eq_true rfl) (mf_rr (Nat.le_trans (by decide) hd) (Nat.le_refl _)) (Nat.le_refl _) is245 (hyp g2 hG) (fun r4 g5 h6 hyp => ?_)
      obtain ⟨hgg, hyp⟩ := hyp
      subst hgg
      refine mf_if_ne (tgt := 142) (mf_dat eX12_isOwnHere_p0 45 rfl) (by decide) (fun hc => ?_) (fun hc => ?_)
      · replace hyp := hyp.1 hc
        refine mf_iconst (v := 1) (mf_dat eX12_isOwnHere_p1 6 rfl) (by decide) ?_
        refine mf_goto (tgt := 147) (mf_dat eX12_isOwnHere_p1 7 rfl) (by decide) ?_
        exact mf_sub [1] rfl (hyp g5 hG)
      · replace hyp := hyp.2 hc
        refine mf_aload_n (mf_dat eX12_isOwnHere_p0 46 rfl) rfl rfl ?_
        refine mf_aload_n (mf_dat eX12_isOwnHere_p0 47 rfl) rfl rfl ?_
        refine mf_getf (r := (RX12, TX12, 106)) (ci := 12) (k := 19) (t := 2) (v := 256) (mf_dat eX12_isOwnHere_p0 48 rfl) fl_X12_45 rfl (by decide) rfl (gm_19 hG) is245 ?_
        refine mf_callV (Yc := YX12_isHere) (r := (RX12, TX12, 106)) (ci := 12) (mf_dat eX12_isOwnHere_p0 49 rfl) ml_X12_266 okX12_isHere im_X12_isHere sl_X12_isHere rfl rfl rfl rfl (Nat.le_of_ble_eq_true rfl) (mf_rr (Nat.le_trans (by decide) hd) (Nat.le_refl _)) (Nat.le_refl _) is245 (hyp g5 hG) (fun r7 g8 h9 hyp => ?_)
        obtain ⟨hgg, hyp⟩ := hyp
        subst hgg
        refine mf_if_ne (tgt := 142) (mf_dat eX12_isOwnHere_p0 50 rfl) (by decide) (fun hc => ?_) (fun hc => ?_)
        · replace hyp := hyp.1 hc
          refine mf_iconst (v := 1) (mf_dat eX12_isOwnHere_p1 6 rfl) (by decide) ?_
          refine mf_goto (tgt := 147) (mf_dat eX12_isOwnHere_p1 7 rfl) (by decide) ?_
          exact mf_sub [1] rfl (hyp g8 hG)
        · replace hyp := hyp.2 hc
          refine mf_aload_n (mf_dat eX12_isOwnHere_p0 51 rfl) rfl rfl ?_
          refine mf_aload_n (mf_dat eX12_isOwnHere_p0 52 rfl) rfl rfl ?_
          refine mf_getf (r := (RX12, TX12, 106)) (ci := 12) (k := 20) (t := 2) (v := 257) (mf_dat eX12_isOwnHere_p0 53 rfl) fl_X12_48 rfl (by decide) rfl (gm_20 hG) is245 ?_
          refine mf_callV (Yc := YX12_isHere) (r := (RX12, TX12, 106)) (ci := 12) (mf_dat eX12_isOwnHere_p0 54 rfl) ml_X12_266 okX12_isHere im_X12_isHere sl_X12_isHere rfl rfl rfl rfl (Nat.le_of_ble_eq_true rfl) (mf_rr (Nat.le_trans (by decide) hd) (Nat.le_refl _)) (Nat.le_refl _) is245 (hyp g8 hG) (fun r10 g11 h12 hyp => ?_)
          obtain ⟨hgg, hyp⟩ := hyp
          subst hgg
          refine mf_if_ne (tgt := 142) (mf_dat eX12_isOwnHere_p0 55 rfl) (by decide) (fun hc => ?_) (fun hc => ?_)
          · replace hyp := hyp.1 hc
            refine mf_iconst (v := 1) (mf_dat eX12_isOwnHere_p1 6 rfl) (by decide) ?_
            refine mf_goto (tgt := 147) (mf_dat eX12_isOwnHere_p1 7 rfl) (by decide) ?_
            exact mf_sub [1] rfl (hyp g11 hG)
          · replace hyp := hyp.2 hc
            refine mf_aload_n (mf_dat eX12_isOwnHere_p0 56 rfl) rfl rfl ?_
            refine mf_aload_n (mf_dat eX12_isOwnHere_p0 57 rfl) rfl rfl ?_
            refine mf_getf (r := (RX12, TX12, 106)) (ci := 12) (k := 21) (t := 2) (v := 258) (mf_dat eX12_isOwnHere_p0 58 rfl) fl_X12_51 rfl (by decide) rfl (gm_21 hG) is245 ?_
            refine mf_callV (Yc := YX12_isHere) (r := (RX12, TX12, 106)) (ci := 12) (mf_dat eX12_isOwnHere_p0 59 rfl) ml_X12_266 okX12_isHere im_X12_isHere sl_X12_isHere rfl rfl rfl rfl (Nat.le_of_ble_eq_true rfl) (mf_rr (Nat.le_trans (by decide) hd) (Nat.le_refl _)) (Nat.le_refl _) is245 (hyp g11 hG) (fun r13 g14 h15 hyp => ?_)
            obtain ⟨hgg, hyp⟩ := hyp
            subst hgg
            refine mf_if_ne (tgt := 142) (mf_dat eX12_isOwnHere_p1 0 rfl) (by decide) (fun hc => ?_) (fun hc => ?_)
            · replace hyp := hyp.1 hc
              refine mf_iconst (v := 1) (mf_dat eX12_isOwnHere_p1 6 rfl) (by decide) ?_
              refine mf_goto (tgt := 147) (mf_dat eX12_isOwnHere_p1 7 rfl) (by decide) ?_
              exact mf_sub [1] rfl (hyp g14 hG)
            · replace hyp := hyp.2 hc
              refine mf_aload_n (mf_dat eX12_isOwnHere_p1 1 rfl) rfl rfl ?_
              refine mf_aload_n (mf_dat eX12_isOwnHere_p1 2 rfl) rfl rfl ?_
              refine mf_getf (r := (RX12, TX12, 106)) (ci := 12) (k := 22) (t := 2) (v := 259) (mf_dat eX12_isOwnHere_p1 3 rfl) fl_X12_54 rfl (by decide) rfl (gm_22 hG) is245 ?_
              refine mf_callV (Yc := YX12_isHere) (r := (RX12, TX12, 106)) (ci := 12) (mf_dat eX12_isOwnHere_p1 4 rfl) ml_X12_266 okX12_isHere im_X12_isHere sl_X12_isHere rfl rfl rfl rfl (Nat.le_of_ble_eq_true rfl) (mf_rr (Nat.le_trans (by decide) hd) (Nat.le_refl _)) (Nat.le_refl _) is245 (hyp g14 hG) (fun r16 g17 h18 hyp => ?_)
              obtain ⟨hgg, hyp⟩ := hyp
              subst hgg
              refine mf_if_eq (tgt := 146) (mf_dat eX12_isOwnHere_p1 5 rfl) (by decide) (fun hc => ?_) (fun hc => ?_)
              · replace hyp := hyp.1 hc
                refine mf_iconst (v := 0) (mf_dat eX12_isOwnHere_p1 8 rfl) (by decide) ?_
                exact mf_sub [1] rfl (hyp g17 hG)
              · replace hyp := hyp.2 hc
                refine mf_iconst (v := 1) (mf_dat eX12_isOwnHere_p1 6 rfl) (by decide) ?_
                refine mf_goto (tgt := 147) (mf_dat eX12_isOwnHere_p1 7 rfl) (by decide) ?_
                exact mf_sub [1] rfl (hyp g17 hG)
set_option maxRecDepth 100000 in
set_option maxHeartbeats 4000000 in
theorem vX12_isOwnHere_147 {C : mf_G} {l : Launch} {d : Nat} {K : Int → mf_M → Prop} {s0 : Int} {h : mf_M} (hd : 2 ≤ d) (hyp : ((¬ s0 = 0 → BX12_isOwnHere_223 C l d K 1 h) ∧ (s0 = 0 → mM C l 1 YX12_isHere [(2, 245), (2, 260)] h (fun r1 h3 => ((¬ r1 = 0 → BX12_isOwnHere_223 C l d K 1 h3) ∧ (r1 = 0 → mM C l 1 YX12_isHere [(2, 245), (2, 261)] h3 (fun r4 h6 => ((¬ r4 = 0 → BX12_isOwnHere_223 C l d K 1 h6) ∧ (r4 = 0 → mM C l 1 YX12_isHere [(2, 245), (2, 262)] h6 (fun r7 h9 => ((¬ r7 = 0 → BX12_isOwnHere_223 C l d K 1 h9) ∧ (r7 = 0 → mM C l 1 YX12_isHere [(2, 245), (2, 263)] h9 (fun r10 h12 => ((¬ r10 = 0 → BX12_isOwnHere_223 C l d K 1 h12) ∧ (r10 = 0 → mM C l 1 YX12_isHere [(2, 245), (2, 264)] h12 (fun r13 h15 => ((¬ r13 = 0 → BX12_isOwnHere_223 C l d K 1 h15) ∧ (r13 = 0 → mM C l 1 YX12_isHere [(2, 245), (2, 265)] h15 (fun r16 h18 => ((r16 = 0 → BX12_isOwnHere_223 C l d K 0 h18) ∧ (¬ r16 = 0 → BX12_isOwnHere_223 C l d K 1 h18))))))))))))))))))))) : BX12_isOwnHere_147 C l d K s0 h := by
  intro g hG
  refine mf_istore_n (mf_dat eX12_isOwnHere_p1 9 rfl) rfl (by decide) ?_
  refine mf_iload_n (mf_dat eX12_isOwnHere_p1 10 rfl) rfl rfl ?_
  refine mf_if_ne (tgt := 218) (mf_dat eX12_isOwnHere_p1 11 rfl) (by decide) (fun hc => ?_) (fun hc => ?_)
  · replace hyp := hyp.1 hc
    refine mf_iconst (v := 1) (mf_dat eX12_isOwnHere_p1 42 rfl) (by decide) ?_
    refine mf_goto (tgt := 223) (mf_dat eX12_isOwnHere_p1 43 rfl) (by decide) ?_
    exact mf_sub [1] rfl (hyp g hG)
  · replace hyp := hyp.2 hc
    refine mf_aload_n (mf_dat eX12_isOwnHere_p1 12 rfl) rfl rfl ?_
    refine mf_aload_n (mf_dat eX12_isOwnHere_p1 13 rfl) rfl rfl ?_
    refine mf_getf (r := (RX12, TX12, 106)) (ci := 12) (k := 23) (t := 2) (v := 260) (mf_dat eX12_isOwnHere_p1 14 rfl) fl_X12_57 rfl (by decide) rfl (gm_23 hG) is245 ?_
    refine mf_callV (Yc := YX12_isHere) (r := (RX12, TX12, 106)) (ci := 12) (mf_dat eX12_isOwnHere_p1 15 rfl) ml_X12_266 okX12_isHere im_X12_isHere sl_X12_isHere rfl rfl rfl rfl (Nat.le_of_ble_eq_true rfl) (mf_rr (Nat.le_trans (by decide) hd) (Nat.le_refl _)) (Nat.le_refl _) is245 (hyp g hG) (fun r1 g2 h3 hyp => ?_)
    obtain ⟨hgg, hyp⟩ := hyp
    subst hgg
    refine mf_if_ne (tgt := 218) (mf_dat eX12_isOwnHere_p1 16 rfl) (by decide) (fun hc => ?_) (fun hc => ?_)
    · replace hyp := hyp.1 hc
      refine mf_iconst (v := 1) (mf_dat eX12_isOwnHere_p1 42 rfl) (by decide) ?_
      refine mf_goto (tgt := 223) (mf_dat eX12_isOwnHere_p1 43 rfl) (by decide) ?_
      exact mf_sub [1] rfl (hyp g2 hG)
    · replace hyp := hyp.2 hc
      refine mf_aload_n (mf_dat eX12_isOwnHere_p1 17 rfl) rfl rfl ?_
      refine mf_aload_n (mf_dat eX12_isOwnHere_p1 18 rfl) rfl rfl ?_
      refine mf_getf (r := (RX12, TX12, 106)) (ci := 12) (k := 24) (t := 2) (v := 261) (mf_dat eX12_isOwnHere_p1 19 rfl) fl_X12_60 rfl (by decide) rfl (gm_24 hG) is245 ?_
      refine mf_callV (Yc := YX12_isHere) (r := (RX12, TX12, 106)) (ci := 12) (mf_dat eX12_isOwnHere_p1 20 rfl) ml_X12_266 okX12_isHere im_X12_isHere sl_X12_isHere rfl rfl rfl rfl (Nat.le_of_ble_eq_true rfl) (mf_rr (Nat.le_trans (by decide) hd) (Nat.le_refl _)) (Nat.le_refl _) is245 (hyp g2 hG) (fun r4 g5 h6 hyp => ?_)
      obtain ⟨hgg, hyp⟩ := hyp
      subst hgg
      refine mf_if_ne (tgt := 218) (mf_dat eX12_isOwnHere_p1 21 rfl) (by decide) (fun hc => ?_) (fun hc => ?_)
      · replace hyp := hyp.1 hc
        refine mf_iconst (v := 1) (mf_dat eX12_isOwnHere_p1 42 rfl) (by decide) ?_
        refine mf_goto (tgt := 223) (mf_dat eX12_isOwnHere_p1 43 rfl) (by decide) ?_
        exact mf_sub [1] rfl (hyp g5 hG)
      · replace hyp := hyp.2 hc
        refine mf_aload_n (mf_dat eX12_isOwnHere_p1 22 rfl) rfl rfl ?_
        refine mf_aload_n (mf_dat eX12_isOwnHere_p1 23 rfl) rfl rfl ?_
        refine mf_getf (r := (RX12, TX12, 106)) (ci := 12) (k := 25) (t := 2) (v := 262) (mf_dat eX12_isOwnHere_p1 24 rfl) fl_X12_63 rfl (by decide) rfl (gm_25 hG) is245 ?_
        refine mf_callV (Yc := YX12_isHere) (r := (RX12, TX12, 106)) (ci := 12) (mf_dat eX12_isOwnHere_p1 25 rfl) ml_X12_266 okX12_isHere im_X12_isHere sl_X12_isHere rfl rfl rfl rfl (Nat.le_of_ble_eq_true rfl) (mf_rr (Nat.le_trans (by decide) hd) (Nat.le_refl _)) (Nat.le_refl _) is245 (hyp g5 hG) (fun r7 g8 h9 hyp => ?_)
        obtain ⟨hgg, hyp⟩ := hyp
        subst hgg
        refine mf_if_ne (tgt := 218) (mf_dat eX12_isOwnHere_p1 26 rfl) (by decide) (fun hc => ?_) (fun hc => ?_)
        · replace hyp := hyp.1 hc
          refine mf_iconst (v := 1) (mf_dat eX12_isOwnHere_p1 42 rfl) (by decide) ?_
          refine mf_goto (tgt := 223) (mf_dat eX12_isOwnHere_p1 43 rfl) (by decide) ?_
          exact mf_sub [1] rfl (hyp g8 hG)
        · replace hyp := hyp.2 hc
          refine mf_aload_n (mf_dat eX12_isOwnHere_p1 27 rfl) rfl rfl ?_
          refine mf_aload_n (mf_dat eX12_isOwnHere_p1 28 rfl) rfl rfl ?_
          refine mf_getf (r := (RX12, TX12, 106)) (ci := 12) (k := 26) (t := 2) (v := 263) (mf_dat eX12_isOwnHere_p1 29 rfl) fl_X12_66 rfl (by decide) rfl (gm_26 hG) is245 ?_
          refine mf_callV (Yc := YX12_isHere) (r := (RX12, TX12, 106)) (ci := 12) (mf_dat eX12_isOwnHere_p1 30 rfl) ml_X12_266 okX12_isHere im_X12_isHere sl_X12_isHere rfl rfl rfl rfl (Nat.le_of_ble_eq_true rfl) (mf_rr (Nat.le_trans (by decide) hd) (Nat.le_refl _)) (Nat.le_refl _) is245 (hyp g8 hG) (fun r10 g11 h12 hyp => ?_)
          obtain ⟨hgg, hyp⟩ := hyp
          subst hgg
          refine mf_if_ne (tgt := 218) (mf_dat eX12_isOwnHere_p1 31 rfl) (by decide) (fun hc => ?_) (fun hc => ?_)
          · replace hyp := hyp.1 hc
            refine mf_iconst (v := 1) (mf_dat eX12_isOwnHere_p1 42 rfl) (by decide) ?_
            refine mf_goto (tgt := 223) (mf_dat eX12_isOwnHere_p1 43 rfl) (by decide) ?_
            exact mf_sub [1] rfl (hyp g11 hG)
          · replace hyp := hyp.2 hc
            refine mf_aload_n (mf_dat eX12_isOwnHere_p1 32 rfl) rfl rfl ?_
            refine mf_aload_n (mf_dat eX12_isOwnHere_p1 33 rfl) rfl rfl ?_
            refine mf_getf (r := (RX12, TX12, 106)) (ci := 12) (k := 27) (t := 2) (v := 264) (mf_dat eX12_isOwnHere_p1 34 rfl) fl_X12_69 rfl (by decide) rfl (gm_27 hG) is245 ?_
            refine mf_callV (Yc := YX12_isHere) (r := (RX12, TX12, 106)) (ci := 12) (mf_dat eX12_isOwnHere_p1 35 rfl) ml_X12_266 okX12_isHere im_X12_isHere sl_X12_isHere rfl rfl rfl rfl (Nat.le_of_ble_eq_true rfl) (mf_rr (Nat.le_trans (by decide) hd) (Nat.le_refl _)) (Nat.le_refl _) is245 (hyp g11 hG) (fun r13 g14 h15 hyp => ?_)
            obtain ⟨hgg, hyp⟩ := hyp
            subst hgg
            refine mf_if_ne (tgt := 218) (mf_dat eX12_isOwnHere_p1 36 rfl) (by decide) (fun hc => ?_) (fun hc => ?_)
            · replace hyp := hyp.1 hc
              refine mf_iconst (v := 1) (mf_dat eX12_isOwnHere_p1 42 rfl) (by decide) ?_
              refine mf_goto (tgt := 223) (mf_dat eX12_isOwnHere_p1 43 rfl) (by decide) ?_
              exact mf_sub [1] rfl (hyp g14 hG)
            · replace hyp := hyp.2 hc
              refine mf_aload_n (mf_dat eX12_isOwnHere_p1 37 rfl) rfl rfl ?_
              refine mf_aload_n (mf_dat eX12_isOwnHere_p1 38 rfl) rfl rfl ?_
              refine mf_getf (r := (RX12, TX12, 106)) (ci := 12) (k := 28) (t := 2) (v := 265) (mf_dat eX12_isOwnHere_p1 39 rfl) fl_X12_72 rfl (by decide) rfl (gm_28 hG) is245 ?_
              refine mf_callV (Yc := YX12_isHere) (r := (RX12, TX12, 106)) (ci := 12) (mf_dat eX12_isOwnHere_p1 40 rfl) ml_X12_266 okX12_isHere im_X12_isHere sl_X12_isHere rfl rfl rfl rfl (Nat.le_of_ble_eq_true rfl) (mf_rr (Nat.le_trans (by decide) hd) (Nat.le_refl _)) (Nat.le_refl _) is245 (hyp g14 hG) (fun r16 g17 h18 hyp => ?_)
              obtain ⟨hgg, hyp⟩ := hyp
              subst hgg
              refine mf_if_eq (tgt := 222) (mf_dat eX12_isOwnHere_p1 41 rfl) (by decide) (fun hc => ?_) (fun hc => ?_)
              · replace hyp := hyp.1 hc
                refine mf_iconst (v := 0) (mf_dat eX12_isOwnHere_p1 44 rfl) (by decide) ?_
                exact mf_sub [1] rfl (hyp g17 hG)
              · replace hyp := hyp.2 hc
                refine mf_iconst (v := 1) (mf_dat eX12_isOwnHere_p1 42 rfl) (by decide) ?_
                refine mf_goto (tgt := 223) (mf_dat eX12_isOwnHere_p1 43 rfl) (by decide) ?_
                exact mf_sub [1] rfl (hyp g17 hG)
set_option maxRecDepth 100000 in
set_option maxHeartbeats 4000000 in
theorem vX12_isOwnHere_223 {C : mf_G} {l : Launch} {d : Nat} {K : Int → mf_M → Prop} {s0 : Int} {h : mf_M} (hd : 2 ≤ d) (hyp : ((¬ s0 = 0 → BX12_isOwnHere_299 C l d K 1 h) ∧ (s0 = 0 → mM C l 1 YX12_isHere [(2, 245), (2, 266)] h (fun r1 h3 => ((¬ r1 = 0 → BX12_isOwnHere_299 C l d K 1 h3) ∧ (r1 = 0 → mM C l 1 YX12_isHere [(2, 245), (2, 267)] h3 (fun r4 h6 => ((¬ r4 = 0 → BX12_isOwnHere_299 C l d K 1 h6) ∧ (r4 = 0 → mM C l 1 YX12_isHere [(2, 245), (2, 268)] h6 (fun r7 h9 => ((¬ r7 = 0 → BX12_isOwnHere_299 C l d K 1 h9) ∧ (r7 = 0 → mM C l 1 YX12_isHere [(2, 245), (2, 269)] h9 (fun r10 h12 => ((¬ r10 = 0 → BX12_isOwnHere_299 C l d K 1 h12) ∧ (r10 = 0 → mM C l 1 YX12_isHere [(2, 245), (2, 270)] h12 (fun r13 h15 => ((¬ r13 = 0 → BX12_isOwnHere_299 C l d K 1 h15) ∧ (r13 = 0 → mM C l 1 YX12_isHere [(2, 245), (2, 271)] h15 (fun r16 h18 => ((r16 = 0 → BX12_isOwnHere_299 C l d K 0 h18) ∧ (¬ r16 = 0 → BX12_isOwnHere_299 C l d K 1 h18))))))))))))))))))))) : BX12_isOwnHere_223 C l d K s0 h := by
  intro g hG
  refine mf_istore_n (mf_dat eX12_isOwnHere_p1 45 rfl) rfl (by decide) ?_
  refine mf_iload_n (mf_dat eX12_isOwnHere_p1 46 rfl) rfl rfl ?_
  refine mf_if_ne (tgt := 294) (mf_dat eX12_isOwnHere_p1 47 rfl) (by decide) (fun hc => ?_) (fun hc => ?_)
  · replace hyp := hyp.1 hc
    refine mf_iconst (v := 1) (mf_dat eX12_isOwnHere_p2 18 rfl) (by decide) ?_
    refine mf_goto (tgt := 299) (mf_dat eX12_isOwnHere_p2 19 rfl) (by decide) ?_
    exact mf_sub [1] rfl (hyp g hG)
  · replace hyp := hyp.2 hc
    refine mf_aload_n (mf_dat eX12_isOwnHere_p1 48 rfl) rfl rfl ?_
    refine mf_aload_n (mf_dat eX12_isOwnHere_p1 49 rfl) rfl rfl ?_
    refine mf_getf (r := (RX12, TX12, 106)) (ci := 12) (k := 29) (t := 2) (v := 266) (mf_dat eX12_isOwnHere_p1 50 rfl) fl_X12_75 rfl (by decide) rfl (gm_29 hG) is245 ?_
    refine mf_callV (Yc := YX12_isHere) (r := (RX12, TX12, 106)) (ci := 12) (mf_dat eX12_isOwnHere_p1 51 rfl) ml_X12_266 okX12_isHere im_X12_isHere sl_X12_isHere rfl rfl rfl rfl (Nat.le_of_ble_eq_true rfl) (mf_rr (Nat.le_trans (by decide) hd) (Nat.le_refl _)) (Nat.le_refl _) is245 (hyp g hG) (fun r1 g2 h3 hyp => ?_)
    obtain ⟨hgg, hyp⟩ := hyp
    subst hgg
    refine mf_if_ne (tgt := 294) (mf_dat eX12_isOwnHere_p1 52 rfl) (by decide) (fun hc => ?_) (fun hc => ?_)
    · replace hyp := hyp.1 hc
      refine mf_iconst (v := 1) (mf_dat eX12_isOwnHere_p2 18 rfl) (by decide) ?_
      refine mf_goto (tgt := 299) (mf_dat eX12_isOwnHere_p2 19 rfl) (by decide) ?_
      exact mf_sub [1] rfl (hyp g2 hG)
    · replace hyp := hyp.2 hc
      refine mf_aload_n (mf_dat eX12_isOwnHere_p1 53 rfl) rfl rfl ?_
      refine mf_aload_n (mf_dat eX12_isOwnHere_p1 54 rfl) rfl rfl ?_
      refine mf_getf (r := (RX12, TX12, 106)) (ci := 12) (k := 30) (t := 2) (v := 267) (mf_dat eX12_isOwnHere_p1 55 rfl) fl_X12_78 rfl (by decide) rfl (gm_30 hG) is245 ?_
      refine mf_callV (Yc := YX12_isHere) (r := (RX12, TX12, 106)) (ci := 12) (mf_dat eX12_isOwnHere_p1 56 rfl) ml_X12_266 okX12_isHere im_X12_isHere sl_X12_isHere rfl rfl rfl rfl (Nat.le_of_ble_eq_true rfl) (mf_rr (Nat.le_trans (by decide) hd) (Nat.le_refl _)) (Nat.le_refl _) is245 (hyp g2 hG) (fun r4 g5 h6 hyp => ?_)
      obtain ⟨hgg, hyp⟩ := hyp
      subst hgg
      refine mf_if_ne (tgt := 294) (mf_dat eX12_isOwnHere_p1 57 rfl) (by decide) (fun hc => ?_) (fun hc => ?_)
      · replace hyp := hyp.1 hc
        refine mf_iconst (v := 1) (mf_dat eX12_isOwnHere_p2 18 rfl) (by decide) ?_
        refine mf_goto (tgt := 299) (mf_dat eX12_isOwnHere_p2 19 rfl) (by decide) ?_
        exact mf_sub [1] rfl (hyp g5 hG)
      · replace hyp := hyp.2 hc
        refine mf_aload_n (mf_dat eX12_isOwnHere_p1 58 rfl) rfl rfl ?_
        refine mf_aload_n (mf_dat eX12_isOwnHere_p1 59 rfl) rfl rfl ?_
        refine mf_getf (r := (RX12, TX12, 106)) (ci := 12) (k := 31) (t := 2) (v := 268) (mf_dat eX12_isOwnHere_p2 0 rfl) fl_X12_81 rfl (by decide) rfl (gm_31 hG) is245 ?_
        refine mf_callV (Yc := YX12_isHere) (r := (RX12, TX12, 106)) (ci := 12) (mf_dat eX12_isOwnHere_p2 1 rfl) ml_X12_266 okX12_isHere im_X12_isHere sl_X12_isHere rfl rfl rfl rfl (Nat.le_of_ble_eq_true rfl) (mf_rr (Nat.le_trans (by decide) hd) (Nat.le_refl _)) (Nat.le_refl _) is245 (hyp g5 hG) (fun r7 g8 h9 hyp => ?_)
        obtain ⟨hgg, hyp⟩ := hyp
        subst hgg
        refine mf_if_ne (tgt := 294) (mf_dat eX12_isOwnHere_p2 2 rfl) (by decide) (fun hc => ?_) (fun hc => ?_)
        · replace hyp := hyp.1 hc
          refine mf_iconst (v := 1) (mf_dat eX12_isOwnHere_p2 18 rfl) (by decide) ?_
          refine mf_goto (tgt := 299) (mf_dat eX12_isOwnHere_p2 19 rfl) (by decide) ?_
          exact mf_sub [1] rfl (hyp g8 hG)
        · replace hyp := hyp.2 hc
          refine mf_aload_n (mf_dat eX12_isOwnHere_p2 3 rfl) rfl rfl ?_
          refine mf_aload_n (mf_dat eX12_isOwnHere_p2 4 rfl) rfl rfl ?_
          refine mf_getf (r := (RX12, TX12, 106)) (ci := 12) (k := 32) (t := 2) (v := 269) (mf_dat eX12_isOwnHere_p2 5 rfl) fl_X12_84 rfl (by decide) rfl (gm_32 hG) is245 ?_
          refine mf_callV (Yc := YX12_isHere) (r := (RX12, TX12, 106)) (ci := 12) (mf_dat eX12_isOwnHere_p2 6 rfl) ml_X12_266 okX12_isHere im_X12_isHere sl_X12_isHere rfl rfl rfl rfl (Nat.le_of_ble_eq_true rfl) (mf_rr (Nat.le_trans (by decide) hd) (Nat.le_refl _)) (Nat.le_refl _) is245 (hyp g8 hG) (fun r10 g11 h12 hyp => ?_)
          obtain ⟨hgg, hyp⟩ := hyp
          subst hgg
          refine mf_if_ne (tgt := 294) (mf_dat eX12_isOwnHere_p2 7 rfl) (by decide) (fun hc => ?_) (fun hc => ?_)
          · replace hyp := hyp.1 hc
            refine mf_iconst (v := 1) (mf_dat eX12_isOwnHere_p2 18 rfl) (by decide) ?_
            refine mf_goto (tgt := 299) (mf_dat eX12_isOwnHere_p2 19 rfl) (by decide) ?_
            exact mf_sub [1] rfl (hyp g11 hG)
          · replace hyp := hyp.2 hc
            refine mf_aload_n (mf_dat eX12_isOwnHere_p2 8 rfl) rfl rfl ?_
            refine mf_aload_n (mf_dat eX12_isOwnHere_p2 9 rfl) rfl rfl ?_
            refine mf_getf (r := (RX12, TX12, 106)) (ci := 12) (k := 33) (t := 2) (v := 270) (mf_dat eX12_isOwnHere_p2 10 rfl) fl_X12_87 rfl (by decide) rfl (gm_33 hG) is245 ?_
            refine mf_callV (Yc := YX12_isHere) (r := (RX12, TX12, 106)) (ci := 12) (mf_dat eX12_isOwnHere_p2 11 rfl) ml_X12_266 okX12_isHere im_X12_isHere sl_X12_isHere rfl rfl rfl rfl (Nat.le_of_ble_eq_true rfl) (mf_rr (Nat.le_trans (by decide) hd) (Nat.le_refl _)) (Nat.le_refl _) is245 (hyp g11 hG) (fun r13 g14 h15 hyp => ?_)
            obtain ⟨hgg, hyp⟩ := hyp
            subst hgg
            refine mf_if_ne (tgt := 294) (mf_dat eX12_isOwnHere_p2 12 rfl) (by decide) (fun hc => ?_) (fun hc => ?_)
            · replace hyp := hyp.1 hc
              refine mf_iconst (v := 1) (mf_dat eX12_isOwnHere_p2 18 rfl) (by decide) ?_
              refine mf_goto (tgt := 299) (mf_dat eX12_isOwnHere_p2 19 rfl) (by decide) ?_
              exact mf_sub [1] rfl (hyp g14 hG)
            · replace hyp := hyp.2 hc
              refine mf_aload_n (mf_dat eX12_isOwnHere_p2 13 rfl) rfl rfl ?_
              refine mf_aload_n (mf_dat eX12_isOwnHere_p2 14 rfl) rfl rfl ?_
              refine mf_getf (r := (RX12, TX12, 106)) (ci := 12) (k := 34) (t := 2) (v := 271) (mf_dat eX12_isOwnHere_p2 15 rfl) fl_X12_90 rfl (by decide) rfl (gm_34 hG) is245 ?_
              refine mf_callV (Yc := YX12_isHere) (r := (RX12, TX12, 106)) (ci := 12) (mf_dat eX12_isOwnHere_p2 16 rfl) ml_X12_266 okX12_isHere im_X12_isHere sl_X12_isHere rfl rfl rfl rfl (Nat.le_of_ble_eq_true rfl) (mf_rr (Nat.le_trans (by decide) hd) (Nat.le_refl _)) (Nat.le_refl _) is245 (hyp g14 hG) (fun r16 g17 h18 hyp => ?_)
              obtain ⟨hgg, hyp⟩ := hyp
              subst hgg
              refine mf_if_eq (tgt := 298) (mf_dat eX12_isOwnHere_p2 17 rfl) (by decide) (fun hc => ?_) (fun hc => ?_)
              · replace hyp := hyp.1 hc
                refine mf_iconst (v := 0) (mf_dat eX12_isOwnHere_p2 20 rfl) (by decide) ?_
                exact mf_sub [1] rfl (hyp g17 hG)
              · replace hyp := hyp.2 hc
                refine mf_iconst (v := 1) (mf_dat eX12_isOwnHere_p2 18 rfl) (by decide) ?_
                refine mf_goto (tgt := 299) (mf_dat eX12_isOwnHere_p2 19 rfl) (by decide) ?_
                exact mf_sub [1] rfl (hyp g17 hG)
set_option maxRecDepth 100000 in
set_option maxHeartbeats 4000000 in
theorem vX12_isOwnHere_299 {C : mf_G} {l : Launch} {d : Nat} {K : Int → mf_M → Prop} {s0 : Int} {h : mf_M} (hd : 2 ≤ d) (hyp : ((¬ s0 = 0 → K 1 h) ∧ (s0 = 0 → mM C l 1 YX12_isHere [(2, 245), (2, 272)] h (fun r1 h3 => ((¬ r1 = 0 → K 1 h3) ∧ (r1 = 0 → mM C l 1 YX12_isHere [(2, 245), (2, 273)] h3 (fun r4 h6 => ((¬ r4 = 0 → K 1 h6) ∧ (r4 = 0 → mM C l 1 YX12_isHere [(2, 245), (2, 274)] h6 (fun r7 h9 => ((¬ r7 = 0 → K 1 h9) ∧ (r7 = 0 → mM C l 1 YX12_isHere [(2, 245), (2, 275)] h9 (fun r10 h12 => ((r10 = 0 → K 0 h12) ∧ (¬ r10 = 0 → K 1 h12))))))))))))))) : BX12_isOwnHere_299 C l d K s0 h := by
  intro g hG
  refine mf_istore_n (mf_dat eX12_isOwnHere_p2 21 rfl) rfl (by decide) ?_
  refine mf_iload_n (mf_dat eX12_isOwnHere_p2 22 rfl) rfl rfl ?_
  refine mf_if_ne (tgt := 348) (mf_dat eX12_isOwnHere_p2 23 rfl) (by decide) (fun hc => ?_) (fun hc => ?_)
  · replace hyp := hyp.1 hc
    refine mf_iconst (v := 1) (mf_dat eX12_isOwnHere_p2 44 rfl) (by decide) ?_
    refine mf_goto (tgt := 353) (mf_dat eX12_isOwnHere_p2 45 rfl) (by decide) ?_
    refine mf_istore_n (mf_dat eX12_isOwnHere_p2 47 rfl) rfl (by decide) ?_
    refine mf_iload_n (mf_dat eX12_isOwnHere_p2 48 rfl) rfl rfl ?_
    exact mf_ireturn (mf_dat eX12_isOwnHere_p2 49 rfl) rfl (Or.inr ⟨rfl, by decide⟩) ⟨rfl, hyp⟩
  · replace hyp := hyp.2 hc
    refine mf_aload_n (mf_dat eX12_isOwnHere_p2 24 rfl) rfl rfl ?_
    refine mf_aload_n (mf_dat eX12_isOwnHere_p2 25 rfl) rfl rfl ?_
    refine mf_getf (r := (RX12, TX12, 106)) (ci := 12) (k := 35) (t := 2) (v := 272) (mf_dat eX12_isOwnHere_p2 26 rfl) fl_X12_93 rfl (by decide) rfl (gm_35 hG) is245 ?_
    refine mf_callV (Yc := YX12_isHere) (r := (RX12, TX12, 106)) (ci := 12) (mf_dat eX12_isOwnHere_p2 27 rfl) ml_X12_266 okX12_isHere im_X12_isHere sl_X12_isHere rfl rfl rfl rfl (Nat.le_of_ble_eq_true rfl) (mf_rr (Nat.le_trans (by decide) hd) (Nat.le_refl _)) (Nat.le_refl _) is245 (hyp g hG) (fun r1 g2 h3 hyp => ?_)
    obtain ⟨hgg, hyp⟩ := hyp
    subst hgg
    refine mf_if_ne (tgt := 348) (mf_dat eX12_isOwnHere_p2 28 rfl) (by decide) (fun hc => ?_) (fun hc => ?_)
    · replace hyp := hyp.1 hc
      refine mf_iconst (v := 1) (mf_dat eX12_isOwnHere_p2 44 rfl) (by decide) ?_
      refine mf_goto (tgt := 353) (mf_dat eX12_isOwnHere_p2 45 rfl) (by decide) ?_
      refine mf_istore_n (mf_dat eX12_isOwnHere_p2 47 rfl) rfl (by decide) ?_
      refine mf_iload_n (mf_dat eX12_isOwnHere_p2 48 rfl) rfl rfl ?_
      exact mf_ireturn (mf_dat eX12_isOwnHere_p2 49 rfl) rfl (Or.inr ⟨rfl, by decide⟩) ⟨rfl, hyp⟩
    · replace hyp := hyp.2 hc
      refine mf_aload_n (mf_dat eX12_isOwnHere_p2 29 rfl) rfl rfl ?_
      refine mf_aload_n (mf_dat eX12_isOwnHere_p2 30 rfl) rfl rfl ?_
      refine mf_getf (r := (RX12, TX12, 106)) (ci := 12) (k := 36) (t := 2) (v := 273) (mf_dat eX12_isOwnHere_p2 31 rfl) fl_X12_96 rfl (by decide) rfl (gm_36 hG) is245 ?_
      refine mf_callV (Yc := YX12_isHere) (r := (RX12, TX12, 106)) (ci := 12) (mf_dat eX12_isOwnHere_p2 32 rfl) ml_X12_266 okX12_isHere im_X12_isHere sl_X12_isHere rfl rfl rfl rfl (Nat.le_of_ble_eq_true rfl) (mf_rr (Nat.le_trans (by decide) hd) (Nat.le_refl _)) (Nat.le_refl _) is245 (hyp g2 hG) (fun r4 g5 h6 hyp => ?_)
      obtain ⟨hgg, hyp⟩ := hyp
      subst hgg
      refine mf_if_ne (tgt := 348) (mf_dat eX12_isOwnHere_p2 33 rfl) (by decide) (fun hc => ?_) (fun hc => ?_)
      · replace hyp := hyp.1 hc
        refine mf_iconst (v := 1) (mf_dat eX12_isOwnHere_p2 44 rfl) (by decide) ?_
        refine mf_goto (tgt := 353) (mf_dat eX12_isOwnHere_p2 45 rfl) (by decide) ?_
        refine mf_istore_n (mf_dat eX12_isOwnHere_p2 47 rfl) rfl (by decide) ?_
        refine mf_iload_n (mf_dat eX12_isOwnHere_p2 48 rfl) rfl rfl ?_
        exact mf_ireturn (mf_dat eX12_isOwnHere_p2 49 rfl) rfl (Or.inr ⟨rfl, by decide⟩) ⟨rfl, hyp⟩
      · replace hyp := hyp.2 hc
        refine mf_aload_n (mf_dat eX12_isOwnHere_p2 34 rfl) rfl rfl ?_
        refine mf_aload_n (mf_dat eX12_isOwnHere_p2 35 rfl) rfl rfl ?_
        refine mf_getf (r := (RX12, TX12, 106)) (ci := 12) (k := 37) (t := 2) (v := 274) (mf_dat eX12_isOwnHere_p2 36 rfl) fl_X12_99 rfl (by decide) rfl (gm_37 hG) is245 ?_
        refine mf_callV (Yc := YX12_isHere) (r := (RX12, TX12, 106)) (ci := 12) (mf_dat eX12_isOwnHere_p2 37 rfl) ml_X12_266 okX12_isHere im_X12_isHere sl_X12_isHere rfl rfl rfl rfl (Nat.le_of_ble_eq_true rfl) (mf_rr (Nat.le_trans (by decide) hd) (Nat.le_refl _)) (Nat.le_refl _) is245 (hyp g5 hG) (fun r7 g8 h9 hyp => ?_)
        obtain ⟨hgg, hyp⟩ := hyp
        subst hgg
        refine mf_if_ne (tgt := 348) (mf_dat eX12_isOwnHere_p2 38 rfl) (by decide) (fun hc => ?_) (fun hc => ?_)
        · replace hyp := hyp.1 hc
          refine mf_iconst (v := 1) (mf_dat eX12_isOwnHere_p2 44 rfl) (by decide) ?_
          refine mf_goto (tgt := 353) (mf_dat eX12_isOwnHere_p2 45 rfl) (by decide) ?_
          refine mf_istore_n (mf_dat eX12_isOwnHere_p2 47 rfl) rfl (by decide) ?_
          refine mf_iload_n (mf_dat eX12_isOwnHere_p2 48 rfl) rfl rfl ?_
          exact mf_ireturn (mf_dat eX12_isOwnHere_p2 49 rfl) rfl (Or.inr ⟨rfl, by decide⟩) ⟨rfl, hyp⟩
        · replace hyp := hyp.2 hc
          refine mf_aload_n (mf_dat eX12_isOwnHere_p2 39 rfl) rfl rfl ?_
          refine mf_aload_n (mf_dat eX12_isOwnHere_p2 40 rfl) rfl rfl ?_
          refine mf_getf (r := (RX12, TX12, 106)) (ci := 12) (k := 38) (t := 2) (v := 275) (mf_dat eX12_isOwnHere_p2 41 rfl) fl_X12_102 rfl (by decide) rfl (gm_38 hG) is245 ?_
          refine mf_callV (Yc := YX12_isHere) (r := (RX12, TX12, 106)) (ci := 12) (mf_dat eX12_isOwnHere_p2 42 rfl) ml_X12_266 okX12_isHere im_X12_isHere sl_X12_isHere rfl rfl rfl rfl (Nat.le_of_ble_eq_true rfl) (mf_rr (Nat.le_trans (by decide) hd) (Nat.le_refl _)) (Nat.le_refl _) is245 (hyp g8 hG) (fun r10 g11 h12 hyp => ?_)
          obtain ⟨hgg, hyp⟩ := hyp
          subst hgg
          refine mf_if_eq (tgt := 352) (mf_dat eX12_isOwnHere_p2 43 rfl) (by decide) (fun hc => ?_) (fun hc => ?_)
          · replace hyp := hyp.1 hc
            refine mf_iconst (v := 0) (mf_dat eX12_isOwnHere_p2 46 rfl) (by decide) ?_
            refine mf_istore_n (mf_dat eX12_isOwnHere_p2 47 rfl) rfl (by decide) ?_
            refine mf_iload_n (mf_dat eX12_isOwnHere_p2 48 rfl) rfl rfl ?_
            exact mf_ireturn (mf_dat eX12_isOwnHere_p2 49 rfl) rfl (Or.inr ⟨rfl, by decide⟩) ⟨rfl, hyp⟩
          · replace hyp := hyp.2 hc
            refine mf_iconst (v := 1) (mf_dat eX12_isOwnHere_p2 44 rfl) (by decide) ?_
            refine mf_goto (tgt := 353) (mf_dat eX12_isOwnHere_p2 45 rfl) (by decide) ?_
            refine mf_istore_n (mf_dat eX12_isOwnHere_p2 47 rfl) rfl (by decide) ?_
            refine mf_iload_n (mf_dat eX12_isOwnHere_p2 48 rfl) rfl rfl ?_
            exact mf_ireturn (mf_dat eX12_isOwnHere_p2 49 rfl) rfl (Or.inr ⟨rfl, by decide⟩) ⟨rfl, hyp⟩
set_option maxRecDepth 100000 in
set_option maxHeartbeats 4000000 in
theorem wX12_isOwnHere {C : mf_G} {l : Launch} {d : Nat} {K : Int → mf_M → Prop} {h : mf_M} (hd : 2 ≤ d) (hyp : mM C l 1 YX12_isHere [(2, 245), (2, 248)] h (fun r1 h3 => ((¬ r1 = 0 → BX12_isOwnHere_71 C l d K 1 h3) ∧ (r1 = 0 → mM C l 1 YX12_isHere [(2, 245), (2, 249)] h3 (fun r4 h6 => ((¬ r4 = 0 → BX12_isOwnHere_71 C l d K 1 h6) ∧ (r4 = 0 → mM C l 1 YX12_isHere [(2, 245), (2, 250)] h6 (fun r7 h9 => ((¬ r7 = 0 → BX12_isOwnHere_71 C l d K 1 h9) ∧ (r7 = 0 → mM C l 1 YX12_isHere [(2, 245), (2, 251)] h9 (fun r10 h12 => ((¬ r10 = 0 → BX12_isOwnHere_71 C l d K 1 h12) ∧ (r10 = 0 → mM C l 1 YX12_isHere [(2, 245), (2, 252)] h12 (fun r13 h15 => ((¬ r13 = 0 → BX12_isOwnHere_71 C l d K 1 h15) ∧ (r13 = 0 → mM C l 1 YX12_isHere [(2, 245), (2, 253)] h15 (fun r16 h18 => ((r16 = 0 → BX12_isOwnHere_71 C l d K 0 h18) ∧ (¬ r16 = 0 → BX12_isOwnHere_71 C l d K 1 h18))))))))))))))))))) : mM C l d YX12_isOwnHere [(2, 245)] h K := by
  intro g hG
  refine mf_entry (by decide) (Nat.le_of_ble_eq_true rfl) ?_
  refine mf_aload_n (mf_dat eX12_isOwnHere_p0 0 rfl) rfl rfl ?_
  refine mf_aload_n (mf_dat eX12_isOwnHere_p0 1 rfl) rfl rfl ?_
  refine mf_getf (r := (RX12, TX12, 106)) (ci := 12) (k := 11) (t := 2) (v := 248) (mf_dat eX12_isOwnHere_p0 2 rfl) fl_X12_20 rfl (by decide) rfl (gm_11 hG) is245 ?_
  refine mf_callV (Yc := YX12_isHere) (r := (RX12, TX12, 106)) (ci := 12) (mf_dat eX12_isOwnHere_p0 3 rfl) ml_X12_266 okX12_isHere im_X12_isHere sl_X12_isHere rfl rfl rfl rfl (Nat.le_of_ble_eq_true rfl) (mf_rr (Nat.le_trans (by decide) hd) (Nat.le_refl _)) (Nat.le_refl _) is245 (hyp g hG) (fun r1 g2 h3 hyp => ?_)
  obtain ⟨hgg, hyp⟩ := hyp
  subst hgg
  refine mf_if_ne (tgt := 66) (mf_dat eX12_isOwnHere_p0 4 rfl) (by decide) (fun hc => ?_) (fun hc => ?_)
  · replace hyp := hyp.1 hc
    refine mf_iconst (v := 1) (mf_dat eX12_isOwnHere_p0 30 rfl) (by decide) ?_
    refine mf_goto (tgt := 71) (mf_dat eX12_isOwnHere_p0 31 rfl) (by decide) ?_
    exact mf_sub [0] rfl (hyp g2 hG)
  · replace hyp := hyp.2 hc
    refine mf_aload_n (mf_dat eX12_isOwnHere_p0 5 rfl) rfl rfl ?_
    refine mf_aload_n (mf_dat eX12_isOwnHere_p0 6 rfl) rfl rfl ?_
    refine mf_getf (r := (RX12, TX12, 106)) (ci := 12) (k := 12) (t := 2) (v := 249) (mf_dat eX12_isOwnHere_p0 7 rfl) fl_X12_24 rfl (by decide) rfl (gm_12 hG) is245 ?_
    refine mf_callV (Yc := YX12_isHere) (r := (RX12, TX12, 106)) (ci := 12) (mf_dat eX12_isOwnHere_p0 8 rfl) ml_X12_266 okX12_isHere im_X12_isHere sl_X12_isHere rfl rfl rfl rfl (Nat.le_of_ble_eq_true rfl) (mf_rr (Nat.le_trans (by decide) hd) (Nat.le_refl _)) (Nat.le_refl _) is245 (hyp g2 hG) (fun r4 g5 h6 hyp => ?_)
    obtain ⟨hgg, hyp⟩ := hyp
    subst hgg
    refine mf_if_ne (tgt := 66) (mf_dat eX12_isOwnHere_p0 9 rfl) (by decide) (fun hc => ?_) (fun hc => ?_)
    · replace hyp := hyp.1 hc
      refine mf_iconst (v := 1) (mf_dat eX12_isOwnHere_p0 30 rfl) (by decide) ?_
      refine mf_goto (tgt := 71) (mf_dat eX12_isOwnHere_p0 31 rfl) (by decide) ?_
      exact mf_sub [0] rfl (hyp g5 hG)
    · replace hyp := hyp.2 hc
      refine mf_aload_n (mf_dat eX12_isOwnHere_p0 10 rfl) rfl rfl ?_
      refine mf_aload_n (mf_dat eX12_isOwnHere_p0 11 rfl) rfl rfl ?_
      refine mf_getf (r := (RX12, TX12, 106)) (ci := 12) (k := 13) (t := 2) (v := 250) (mf_dat eX12_isOwnHere_p0 12 rfl) fl_X12_27 rfl (by decide) rfl (gm_13 hG) is245 ?_
      refine mf_callV (Yc := YX12_isHere) (r := (RX12, TX12, 106)) (ci := 12) (mf_dat eX12_isOwnHere_p0 13 rfl) ml_X12_266 okX12_isHere im_X12_isHere sl_X12_isHere rfl rfl rfl rfl (Nat.le_of_ble_eq_true rfl) (mf_rr (Nat.le_trans (by decide) hd) (Nat.le_refl _)) (Nat.le_refl _) is245 (hyp g5 hG) (fun r7 g8 h9 hyp => ?_)
      obtain ⟨hgg, hyp⟩ := hyp
      subst hgg
      refine mf_if_ne (tgt := 66) (mf_dat eX12_isOwnHere_p0 14 rfl) (by decide) (fun hc => ?_) (fun hc => ?_)
      · replace hyp := hyp.1 hc
        refine mf_iconst (v := 1) (mf_dat eX12_isOwnHere_p0 30 rfl) (by decide) ?_
        refine mf_goto (tgt := 71) (mf_dat eX12_isOwnHere_p0 31 rfl) (by decide) ?_
        exact mf_sub [0] rfl (hyp g8 hG)
      · replace hyp := hyp.2 hc
        refine mf_aload_n (mf_dat eX12_isOwnHere_p0 15 rfl) rfl rfl ?_
        refine mf_aload_n (mf_dat eX12_isOwnHere_p0 16 rfl) rfl rfl ?_
        refine mf_getf (r := (RX12, TX12, 106)) (ci := 12) (k := 14) (t := 2) (v := 251) (mf_dat eX12_isOwnHere_p0 17 rfl) fl_X12_30 rfl (by decide) rfl (gm_14 hG) is245 ?_
        refine mf_callV (Yc := YX12_isHere) (r := (RX12, TX12, 106)) (ci := 12) (mf_dat eX12_isOwnHere_p0 18 rfl) ml_X12_266 okX12_isHere im_X12_isHere sl_X12_isHere rfl rfl rfl rfl (Nat.le_of_ble_eq_true rfl) (mf_rr (Nat.le_trans (by decide) hd) (Nat.le_refl _)) (Nat.le_refl _) is245 (hyp g8 hG) (fun r10 g11 h12 hyp => ?_)
        obtain ⟨hgg, hyp⟩ := hyp
        subst hgg
        refine mf_if_ne (tgt := 66) (mf_dat eX12_isOwnHere_p0 19 rfl) (by decide) (fun hc => ?_) (fun hc => ?_)
        · replace hyp := hyp.1 hc
          refine mf_iconst (v := 1) (mf_dat eX12_isOwnHere_p0 30 rfl) (by decide) ?_
          refine mf_goto (tgt := 71) (mf_dat eX12_isOwnHere_p0 31 rfl) (by decide) ?_
          exact mf_sub [0] rfl (hyp g11 hG)
        · replace hyp := hyp.2 hc
          refine mf_aload_n (mf_dat eX12_isOwnHere_p0 20 rfl) rfl rfl ?_
          refine mf_aload_n (mf_dat eX12_isOwnHere_p0 21 rfl) rfl rfl ?_
          refine mf_getf (r := (RX12, TX12, 106)) (ci := 12) (k := 15) (t := 2) (v := 252) (mf_dat eX12_isOwnHere_p0 22 rfl) fl_X12_33 rfl (by decide) rfl (gm_15 hG) is245 ?_
          refine mf_callV (Yc := YX12_isHere) (r := (RX12, TX12, 106)) (ci := 12) (mf_dat eX12_isOwnHere_p0 23 rfl) ml_X12_266 okX12_isHere im_X12_isHere sl_X12_isHere rfl rfl rfl rfl (Nat.le_of_ble_eq_true rfl) (mf_rr (Nat.le_trans (by decide) hd) (Nat.le_refl _)) (Nat.le_refl _) is245 (hyp g11 hG) (fun r13 g14 h15 hyp => ?_)
          obtain ⟨hgg, hyp⟩ := hyp
          subst hgg
          refine mf_if_ne (tgt := 66) (mf_dat eX12_isOwnHere_p0 24 rfl) (by decide) (fun hc => ?_) (fun hc => ?_)
          · replace hyp := hyp.1 hc
            refine mf_iconst (v := 1) (mf_dat eX12_isOwnHere_p0 30 rfl) (by decide) ?_
            refine mf_goto (tgt := 71) (mf_dat eX12_isOwnHere_p0 31 rfl) (by decide) ?_
            exact mf_sub [0] rfl (hyp g14 hG)
          · replace hyp := hyp.2 hc
            refine mf_aload_n (mf_dat eX12_isOwnHere_p0 25 rfl) rfl rfl ?_
            refine mf_aload_n (mf_dat eX12_isOwnHere_p0 26 rfl) rfl rfl ?_
            refine mf_getf (r := (RX12, TX12, 106)) (ci := 12) (k := 16) (t := 2) (v := 253) (mf_dat eX12_isOwnHere_p0 27 rfl) fl_X12_36 rfl (by decide) rfl (gm_16 hG) is245 ?_
            refine mf_callV (Yc := YX12_isHere) (r := (RX12, TX12, 106)) (ci := 12) (mf_dat eX12_isOwnHere_p0 28 rfl) ml_X12_266 okX12_isHere im_X12_isHere sl_X12_isHere rfl rfl rfl rfl (Nat.le_of_ble_eq_true rfl) (mf_rr (Nat.le_trans (by decide) hd) (Nat.le_refl _)) (Nat.le_refl _) is245 (hyp g14 hG) (fun r16 g17 h18 hyp => ?_)
            obtain ⟨hgg, hyp⟩ := hyp
            subst hgg
            refine mf_if_eq (tgt := 70) (mf_dat eX12_isOwnHere_p0 29 rfl) (by decide) (fun hc => ?_) (fun hc => ?_)
            · replace hyp := hyp.1 hc
              refine mf_iconst (v := 0) (mf_dat eX12_isOwnHere_p0 32 rfl) (by decide) ?_
              exact mf_sub [0] rfl (hyp g17 hG)
            · replace hyp := hyp.2 hc
              refine mf_iconst (v := 1) (mf_dat eX12_isOwnHere_p0 30 rfl) (by decide) ?_
              refine mf_goto (tgt := 71) (mf_dat eX12_isOwnHere_p0 31 rfl) (by decide) ?_
              exact mf_sub [0] rfl (hyp g17 hG)
abbrev BX12_name_58 (C : mf_G) (l : Launch) (d : Nat) (K : Int → mf_M → Prop) (x1 : Int) (h : mf_M) : Prop := jM C l d YX12_name K 58 [(0, (2, 245)), (1, (1, x1))] [] h
set_option maxRecDepth 100000 in
set_option maxHeartbeats 4000000 in
theorem vX12_name_58 {C : mf_G} {l : Launch} {d : Nat} {K : Int → mf_M → Prop} {x1 : Int} {h : mf_M} (hd : 1 ≤ d) (hyp : ((h 245 3 ≤ h 245 2 → (∀ h1 : mf_M, h1 = mf_up h 245 4 (h 245 2) → K x1 h1)) ∧ (¬ h 245 3 ≤ h 245 2 → 0 ≤ h 245 2 ∧ h 245 2 < 1600 ∧ mM C l 0 YX12_isLetter [(0, h 246 (h 245 2))] h (fun r4 h6 => ((r4 = 0 → (∀ h7 : mf_M, h7 = mf_up h6 245 4 (h6 245 2) → K x1 h7)) ∧ (¬ r4 = 0 → ((¬ mf_w32 ((h6 245 2) - (h6 245 39)) = 6 → 0 ≤ h6 245 2 ∧ h6 245 2 < 1600 ∧ (∀ v10 : Int, v10 = mf_w64 ((mf_w64 ((mf_w64 ((mf_w64 (27 * x1)) + (h6 246 (h6 245 2)))) - 97)) + 1) → (∀ h11 : mf_M, h11 = mf_up h6 245 2 (mf_w32 ((h6 245 2) + 1)) → BX12_name_58 C l d K v10 h11))) ∧ (mf_w32 ((h6 245 2) - (h6 245 39)) = 6 → mM C l 0 YX12_fail [(2, 245), (0, 1), (0, h6 245 2)] h6 (fun r12 h14 => K 0 h14))))))))) : BX12_name_58 C l d K x1 h := by
  intro g hG
  refine mf_aload_n (mf_dat eX12_name_p0 30 rfl) rfl rfl ?_
  refine mf_getf (r := (RX12, TX12, 106)) (ci := 12) (k := 2) (t := 0) (v := h 245 2) (mf_dat eX12_name_p0 31 rfl) fl_X12_249 rfl (by decide) rfl rfl is245 ?_
  refine mf_aload_n (mf_dat eX12_name_p0 32 rfl) rfl rfl ?_
  refine mf_getf (r := (RX12, TX12, 106)) (ci := 12) (k := 3) (t := 0) (v := h 245 3) (mf_dat eX12_name_p0 33 rfl) fl_X12_252 rfl (by decide) rfl rfl is245 ?_
  refine mf_icmp_ge (tgt := 145) (mf_dat eX12_name_p0 34 rfl) (by decide) (fun hc => ?_) (fun hc => ?_)
  · replace hyp := hyp.1 hc
    refine mf_aload_n (mf_dat eX12_name_p1 18 rfl) rfl rfl ?_
    refine mf_aload_n (mf_dat eX12_name_p1 19 rfl) rfl rfl ?_
    refine mf_getf (r := (RX12, TX12, 106)) (ci := 12) (k := 2) (t := 0) (v := h 245 2) (mf_dat eX12_name_p1 20 rfl) fl_X12_249 rfl (by decide) rfl rfl is245 ?_
    refine mf_putI (r := (RX12, TX12, 106)) (ci := 12) (k := 4) (kI := 4) (t := 0) (mf_dat eX12_name_p1 21 rfl) fl_X12_263 rfl rfl (by decide) rfl (by decide) rfl (by decide) (fun h9 => absurd h9 (by decide)) is245 ?_
    generalize qh1 : mf_up h 245 4 (h 245 2) = h1
    replace hyp := hyp _ qh1.symm
    refine mf_lload_n (mf_dat eX12_name_p1 22 rfl) rfl rfl ?_
    exact mf_lreturn (mf_dat eX12_name_p1 23 rfl) rfl ⟨rfl, hyp⟩
  · replace hyp := hyp.2 hc
    refine mf_aload_n (mf_dat eX12_name_p0 35 rfl) rfl rfl ?_
    refine mf_getf (r := (RX12, TX12, 106)) (ci := 12) (k := 0) (t := 2) (v := 246) (mf_dat eX12_name_p0 36 rfl) fl_X12_7 rfl (by decide) rfl (gm_0 hG) is245 ?_
    refine mf_aload_n (mf_dat eX12_name_p0 37 rfl) rfl rfl ?_
    refine mf_getf (r := (RX12, TX12, 106)) (ci := 12) (k := 2) (t := 0) (v := h 245 2) (mf_dat eX12_name_p0 38 rfl) fl_X12_249 rfl (by decide) rfl rfl is245 ?_
    obtain ⟨ck2, hyp⟩ := hyp
    obtain ⟨ck3, hyp⟩ := hyp
    refine mf_iald (mf_dat eX12_name_p0 39 rfl) is246 len246 ck2 ck3 ?_
    refine mf_callS (Yc := YX12_isLetter) (mf_dat eX12_name_p0 40 rfl) ml_X12_259 okX12_isLetter sm_X12_isLetter rfl rfl (Nat.le_of_ble_eq_true rfl) (mf_rr (Nat.le_trans (by decide) hd) (Nat.le_refl _)) (Nat.le_refl _) (hyp g hG) (fun r4 g5 h6 hyp => ?_)
    obtain ⟨hgg, hyp⟩ := hyp
    subst hgg
    refine mf_if_eq (tgt := 145) (mf_dat eX12_name_p0 41 rfl) (by decide) (fun hc => ?_) (fun hc => ?_)
    · replace hyp := hyp.1 hc
      refine mf_aload_n (mf_dat eX12_name_p1 18 rfl) rfl rfl ?_
      refine mf_aload_n (mf_dat eX12_name_p1 19 rfl) rfl rfl ?_
      refine mf_getf (r := (RX12, TX12, 106)) (ci := 12) (k := 2) (t := 0) (v := h6 245 2) (mf_dat eX12_name_p1 20 rfl) fl_X12_249 rfl (by decide) rfl rfl is245 ?_
      refine mf_putI (r := (RX12, TX12, 106)) (ci := 12) (k := 4) (kI := 4) (t := 0) (mf_dat eX12_name_p1 21 rfl) fl_X12_263 rfl rfl (by decide) rfl (by decide) rfl (by decide) (fun h9 => absurd h9 (by decide)) is245 ?_
      generalize qh7 : mf_up h6 245 4 (h6 245 2) = h7
      replace hyp := hyp _ qh7.symm
      refine mf_lload_n (mf_dat eX12_name_p1 22 rfl) rfl rfl ?_
      exact mf_lreturn (mf_dat eX12_name_p1 23 rfl) rfl ⟨rfl, hyp⟩
    · replace hyp := hyp.2 hc
      refine mf_aload_n (mf_dat eX12_name_p0 42 rfl) rfl rfl ?_
      refine mf_getf (r := (RX12, TX12, 106)) (ci := 12) (k := 2) (t := 0) (v := h6 245 2) (mf_dat eX12_name_p0 43 rfl) fl_X12_249 rfl (by decide) rfl rfl is245 ?_
      refine mf_aload_n (mf_dat eX12_name_p0 44 rfl) rfl rfl ?_
      refine mf_getf (r := (RX12, TX12, 106)) (ci := 12) (k := 39) (t := 0) (v := h6 245 39) (mf_dat eX12_name_p0 45 rfl) fl_X12_294 rfl (by decide) rfl rfl is245 ?_
      refine mf_isub (mf_dat eX12_name_p0 46 rfl) ?_
      refine mf_bipush (v := 6) (mf_dat eX12_name_p0 47 rfl) (by decide) ?_
      refine mf_icmp_ne (tgt := 109) (mf_dat eX12_name_p0 48 rfl) (by decide) (fun hc => ?_) (fun hc => ?_)
      · replace hyp := hyp.1 hc
        refine mf_ldc2 (v := 27) cl_X12_297 (mf_dat eX12_name_p0 56 rfl) (by decide) ?_
        refine mf_lload_n (mf_dat eX12_name_p0 57 rfl) rfl rfl ?_
        refine mf_lmul (mf_dat eX12_name_p0 58 rfl) ?_
        refine mf_aload_n (mf_dat eX12_name_p0 59 rfl) rfl rfl ?_
        refine mf_getf (r := (RX12, TX12, 106)) (ci := 12) (k := 0) (t := 2) (v := 246) (mf_dat eX12_name_p1 0 rfl) fl_X12_7 rfl (by decide) rfl (gm_0 hG) is245 ?_
        refine mf_aload_n (mf_dat eX12_name_p1 1 rfl) rfl rfl ?_
        refine mf_getf (r := (RX12, TX12, 106)) (ci := 12) (k := 2) (t := 0) (v := h6 245 2) (mf_dat eX12_name_p1 2 rfl) fl_X12_249 rfl (by decide) rfl rfl is245 ?_
        obtain ⟨ck8, hyp⟩ := hyp
        obtain ⟨ck9, hyp⟩ := hyp
        refine mf_iald (mf_dat eX12_name_p1 3 rfl) is246 len246 ck8 ck9 ?_
        refine mf_i2l (mf_dat eX12_name_p1 4 rfl) ?_
        refine mf_ladd (mf_dat eX12_name_p1 5 rfl) ?_
        refine mf_ldc2 (v := 97) cl_X12_299 (mf_dat eX12_name_p1 6 rfl) (by decide) ?_
        refine mf_lsub (mf_dat eX12_name_p1 7 rfl) ?_
        refine mf_lconst (v := 1) (mf_dat eX12_name_p1 8 rfl) (by decide) ?_
        refine mf_ladd (mf_dat eX12_name_p1 9 rfl) ?_
        generalize qv10 : mf_w64 ((mf_w64 ((mf_w64 ((mf_w64 (27 * x1)) + (h6 246 (h6 245 2)))) - 97)) + 1) = v10
        replace hyp := hyp _ qv10.symm
        refine mf_lstore_n (mf_dat eX12_name_p1 10 rfl) rfl (by decide) ?_
        refine mf_aload_n (mf_dat eX12_name_p1 11 rfl) rfl rfl ?_
        refine mf_dup (mf_dat eX12_name_p1 12 rfl) (by decide) ?_
        refine mf_getf (r := (RX12, TX12, 106)) (ci := 12) (k := 2) (t := 0) (v := h6 245 2) (mf_dat eX12_name_p1 13 rfl) fl_X12_249 rfl (by decide) rfl rfl is245 ?_
        refine mf_iconst (v := 1) (mf_dat eX12_name_p1 14 rfl) (by decide) ?_
        refine mf_iadd (mf_dat eX12_name_p1 15 rfl) ?_
        refine mf_putI (r := (RX12, TX12, 106)) (ci := 12) (k := 2) (kI := 2) (t := 0) (mf_dat eX12_name_p1 16 rfl) fl_X12_249 rfl rfl (by decide) rfl (by decide) rfl (by decide) (fun h9 => absurd h9 (by decide)) is245 ?_
        generalize qh11 : mf_up h6 245 2 (mf_w32 ((h6 245 2) + 1)) = h11
        replace hyp := hyp _ qh11.symm
        refine mf_goto (tgt := 58) (mf_dat eX12_name_p1 17 rfl) (by decide) ?_
        exact mf_sub [1, 0] rfl (hyp g5 hG)
      · replace hyp := hyp.2 hc
        refine mf_aload_n (mf_dat eX12_name_p0 49 rfl) rfl rfl ?_
        refine mf_iconst (v := 1) (mf_dat eX12_name_p0 50 rfl) (by decide) ?_
        refine mf_aload_n (mf_dat eX12_name_p0 51 rfl) rfl rfl ?_
        refine mf_getf (r := (RX12, TX12, 106)) (ci := 12) (k := 2) (t := 0) (v := h6 245 2) (mf_dat eX12_name_p0 52 rfl) fl_X12_249 rfl (by decide) rfl rfl is245 ?_
        refine mf_callV (Yc := YX12_fail) (r := (RX12, TX12, 106)) (ci := 12) (mf_dat eX12_name_p0 53 rfl) ml_X12_273 okX12_fail im_X12_fail sl_X12_fail rfl rfl rfl rfl (Nat.le_of_ble_eq_true rfl) (mf_rr (Nat.le_trans (by decide) hd) (Nat.le_refl _)) (Nat.le_refl _) is245 (hyp g5 hG) (fun r12 g13 h14 hyp => ?_)
        obtain ⟨hgg, hyp⟩ := hyp
        subst hgg
        refine mf_lconst (v := 0) (mf_dat eX12_name_p0 54 rfl) (by decide) ?_
        exact mf_lreturn (mf_dat eX12_name_p0 55 rfl) rfl ⟨rfl, hyp⟩
set_option maxRecDepth 100000 in
set_option maxHeartbeats 4000000 in
theorem wX12_name {C : mf_G} {l : Launch} {d : Nat} {K : Int → mf_M → Prop} {h : mf_M} (hd : 3 ≤ d) (hyp : ((h 245 5 = 0 → mM C l 0 YX12_look [(2, 245)] h (fun r1 h3 => mM C l 0 YX12_isLetter [(0, r1)] h3 (fun r4 h6 => ((r4 = 0 → mM C l 0 YX12_fail [(2, 245), (0, 1), (0, h6 245 2)] h6 (fun r7 h9 => K 0 h9)) ∧ (¬ r4 = 0 → ((h6 245 2 = h6 245 4 → mM C l 0 YX12_fail [(2, 245), (0, 1), (0, h6 245 2)] h6 (fun r10 h12 => K 0 h12)) ∧ (¬ h6 245 2 = h6 245 4 → mM C l 2 YX12_isOwnHere [(2, 245)] h6 (fun r13 h15 => ((r13 = 0 → (∀ h16 : mf_M, h16 = mf_up h15 245 39 (h15 245 2) → BX12_name_58 C l d K 0 h16)) ∧ (¬ r13 = 0 → mM C l 0 YX12_fail [(2, 245), (0, 1), (0, h15 245 2)] h15 (fun r17 h19 => K 0 h19))))))))))) ∧ (¬ h 245 5 = 0 → K 0 h))) : mM C l d YX12_name [(2, 245)] h K := by
  intro g hG
  refine mf_entry (by decide) (Nat.le_of_ble_eq_true rfl) ?_
  refine mf_aload_n (mf_dat eX12_name_p0 0 rfl) rfl rfl ?_
  refine mf_getf (r := (RX12, TX12, 106)) (ci := 12) (k := 5) (t := 0) (v := h 245 5) (mf_dat eX12_name_p0 1 rfl) fl_X12_243 rfl (by decide) rfl rfl is245 ?_
  refine mf_if_eq (tgt := 9) (mf_dat eX12_name_p0 2 rfl) (by decide) (fun hc => ?_) (fun hc => ?_)
  · replace hyp := hyp.1 hc
    refine mf_aload_n (mf_dat eX12_name_p0 5 rfl) rfl rfl ?_
    refine mf_callV (Yc := YX12_look) (r := (RX12, TX12, 106)) (ci := 12) (mf_dat eX12_name_p0 6 rfl) ml_X12_255 okX12_look im_X12_look sl_X12_look rfl rfl rfl rfl (Nat.le_of_ble_eq_true rfl) (mf_rr (Nat.le_trans (by decide) hd) (Nat.le_refl _)) (Nat.le_refl _) is245 (hyp g hG) (fun r1 g2 h3 hyp => ?_)
    obtain ⟨hgg, hyp⟩ := hyp
    subst hgg
    refine mf_callS (Yc := YX12_isLetter) (mf_dat eX12_name_p0 7 rfl) ml_X12_259 okX12_isLetter sm_X12_isLetter rfl rfl (Nat.le_of_ble_eq_true rfl) (mf_rr (Nat.le_trans (by decide) hd) (Nat.le_refl _)) (Nat.le_refl _) (hyp g2 hG) (fun r4 g5 h6 hyp => ?_)
    obtain ⟨hgg, hyp⟩ := hyp
    subst hgg
    refine mf_if_eq (tgt := 37) (mf_dat eX12_name_p0 8 rfl) (by decide) (fun hc => ?_) (fun hc => ?_)
    · replace hyp := hyp.1 hc
      refine mf_aload_n (mf_dat eX12_name_p0 17 rfl) rfl rfl ?_
      refine mf_iconst (v := 1) (mf_dat eX12_name_p0 18 rfl) (by decide) ?_
      refine mf_aload_n (mf_dat eX12_name_p0 19 rfl) rfl rfl ?_
      refine mf_getf (r := (RX12, TX12, 106)) (ci := 12) (k := 2) (t := 0) (v := h6 245 2) (mf_dat eX12_name_p0 20 rfl) fl_X12_249 rfl (by decide) rfl rfl is245 ?_
      refine mf_callV (Yc := YX12_fail) (r := (RX12, TX12, 106)) (ci := 12) (mf_dat eX12_name_p0 21 rfl) ml_X12_273 okX12_fail im_X12_fail sl_X12_fail rfl rfl rfl rfl (Nat.le_of_ble_eq_true rfl) (mf_rr (Nat.le_trans (by decide) hd) (Nat.le_refl _)) (Nat.le_refl _) is245 (hyp g5 hG) (fun r7 g8 h9 hyp => ?_)
      obtain ⟨hgg, hyp⟩ := hyp
      subst hgg
      refine mf_lconst (v := 0) (mf_dat eX12_name_p0 22 rfl) (by decide) ?_
      exact mf_lreturn (mf_dat eX12_name_p0 23 rfl) rfl ⟨rfl, hyp⟩
    · replace hyp := hyp.2 hc
      refine mf_aload_n (mf_dat eX12_name_p0 9 rfl) rfl rfl ?_
      refine mf_getf (r := (RX12, TX12, 106)) (ci := 12) (k := 2) (t := 0) (v := h6 245 2) (mf_dat eX12_name_p0 10 rfl) fl_X12_249 rfl (by decide) rfl rfl is245 ?_
      refine mf_aload_n (mf_dat eX12_name_p0 11 rfl) rfl rfl ?_
      refine mf_getf (r := (RX12, TX12, 106)) (ci := 12) (k := 4) (t := 0) (v := h6 245 4) (mf_dat eX12_name_p0 12 rfl) fl_X12_263 rfl (by decide) rfl rfl is245 ?_
      refine mf_icmp_eq (tgt := 37) (mf_dat eX12_name_p0 13 rfl) (by decide) (fun hc => ?_) (fun hc => ?_)
      · replace hyp := hyp.1 hc
        refine mf_aload_n (mf_dat eX12_name_p0 17 rfl) rfl rfl ?_
        refine mf_iconst (v := 1) (mf_dat eX12_name_p0 18 rfl) (by decide) ?_
        refine mf_aload_n (mf_dat eX12_name_p0 19 rfl) rfl rfl ?_
        refine mf_getf (r := (RX12, TX12, 106)) (ci := 12) (k := 2) (t := 0) (v := h6 245 2) (mf_dat eX12_name_p0 20 rfl) fl_X12_249 rfl (by decide) rfl rfl is245 ?_
        refine mf_callV (Yc := YX12_fail) (r := (RX12, TX12, 106)) (ci := 12) (mf_dat eX12_name_p0 21 rfl) ml_X12_273 okX12_fail im_X12_fail sl_X12_fail rfl rfl rfl rfl (Nat.le_of_ble_eq_true rfl) (mf_rr (Nat.le_trans (by decide) hd) (Nat.le_refl _)) (Nat.le_refl _) is245 (hyp g5 hG) (fun r10 g11 h12 hyp => ?_)
        obtain ⟨hgg, hyp⟩ := hyp
        subst hgg
        refine mf_lconst (v := 0) (mf_dat eX12_name_p0 22 rfl) (by decide) ?_
        exact mf_lreturn (mf_dat eX12_name_p0 23 rfl) rfl ⟨rfl, hyp⟩
      · replace hyp := hyp.2 hc
        refine mf_aload_n (mf_dat eX12_name_p0 14 rfl) rfl rfl ?_
        refine mf_callV (Yc := YX12_isOwnHere) (r := (RX12, TX12, 106)) (ci := 12) (mf_dat eX12_name_p0 15 rfl) ml_X12_290 okX12_isOwnHere im_X12_isOwnHere sl_X12_isOwnHere rfl rfl rfl rfl (Nat.le_of_ble_eq_true rfl) (mf_rr (Nat.le_trans (by decide) hd) (Nat.le_refl _)) (Nat.le_refl _) is245 (hyp g5 hG) (fun r13 g14 h15 hyp => ?_)
        obtain ⟨hgg, hyp⟩ := hyp
        subst hgg
        refine mf_if_eq (tgt := 48) (mf_dat eX12_name_p0 16 rfl) (by decide) (fun hc => ?_) (fun hc => ?_)
        · replace hyp := hyp.1 hc
          refine mf_aload_n (mf_dat eX12_name_p0 24 rfl) rfl rfl ?_
          refine mf_aload_n (mf_dat eX12_name_p0 25 rfl) rfl rfl ?_
          refine mf_getf (r := (RX12, TX12, 106)) (ci := 12) (k := 2) (t := 0) (v := h15 245 2) (mf_dat eX12_name_p0 26 rfl) fl_X12_249 rfl (by decide) rfl rfl is245 ?_
          refine mf_putI (r := (RX12, TX12, 106)) (ci := 12) (k := 39) (kI := 39) (t := 0) (mf_dat eX12_name_p0 27 rfl) fl_X12_294 rfl rfl (by decide) rfl (by decide) rfl (by decide) (fun h9 => absurd h9 (by decide)) is245 ?_
          generalize qh16 : mf_up h15 245 39 (h15 245 2) = h16
          replace hyp := hyp _ qh16.symm
          refine mf_lconst (v := 0) (mf_dat eX12_name_p0 28 rfl) (by decide) ?_
          refine mf_lstore_n (mf_dat eX12_name_p0 29 rfl) rfl (by decide) ?_
          exact mf_sub [1, 0] rfl (hyp g14 hG)
        · replace hyp := hyp.2 hc
          refine mf_aload_n (mf_dat eX12_name_p0 17 rfl) rfl rfl ?_
          refine mf_iconst (v := 1) (mf_dat eX12_name_p0 18 rfl) (by decide) ?_
          refine mf_aload_n (mf_dat eX12_name_p0 19 rfl) rfl rfl ?_
          refine mf_getf (r := (RX12, TX12, 106)) (ci := 12) (k := 2) (t := 0) (v := h15 245 2) (mf_dat eX12_name_p0 20 rfl) fl_X12_249 rfl (by decide) rfl rfl is245 ?_
          refine mf_callV (Yc := YX12_fail) (r := (RX12, TX12, 106)) (ci := 12) (mf_dat eX12_name_p0 21 rfl) ml_X12_273 okX12_fail im_X12_fail sl_X12_fail rfl rfl rfl rfl (Nat.le_of_ble_eq_true rfl) (mf_rr (Nat.le_trans (by decide) hd) (Nat.le_refl _)) (Nat.le_refl _) is245 (hyp g14 hG) (fun r17 g18 h19 hyp => ?_)
          obtain ⟨hgg, hyp⟩ := hyp
          subst hgg
          refine mf_lconst (v := 0) (mf_dat eX12_name_p0 22 rfl) (by decide) ?_
          exact mf_lreturn (mf_dat eX12_name_p0 23 rfl) rfl ⟨rfl, hyp⟩
  · replace hyp := hyp.2 hc
    refine mf_lconst (v := 0) (mf_dat eX12_name_p0 3 rfl) (by decide) ?_
    exact mf_lreturn (mf_dat eX12_name_p0 4 rfl) rfl ⟨rfl, hyp⟩
set_option maxRecDepth 100000 in
set_option maxHeartbeats 4000000 in
theorem wX12_kindBy {C : mf_G} {l : Launch} {d : Nat} {K : Int → mf_M → Prop} {x0 : Int} {h : mf_M} (hyp : ((¬ x0 = 0 → ((¬ x0 = 2 → K 1 h) ∧ (x0 = 2 → K 2 h))) ∧ (x0 = 0 → K 0 h))) : mM C l d YX12_kindBy [(0, x0)] h K := by
  intro g hG
  refine mf_entry (by decide) (Nat.le_of_ble_eq_true rfl) ?_
  refine mf_iload_n (mf_dat eX12_kindBy 0 rfl) rfl rfl ?_
  refine mf_if_ne (tgt := 8) (mf_dat eX12_kindBy 1 rfl) (by decide) (fun hc => ?_) (fun hc => ?_)
  · replace hyp := hyp.1 hc
    refine mf_iload_n (mf_dat eX12_kindBy 4 rfl) rfl rfl ?_
    refine mf_iconst (v := 2) (mf_dat eX12_kindBy 5 rfl) (by decide) ?_
    refine mf_icmp_ne (tgt := 17) (mf_dat eX12_kindBy 6 rfl) (by decide) (fun hc => ?_) (fun hc => ?_)
    · replace hyp := hyp.1 hc
      refine mf_iconst (v := 1) (mf_dat eX12_kindBy 9 rfl) (by decide) ?_
      exact mf_ireturn (mf_dat eX12_kindBy 10 rfl) rfl (Or.inl rfl) ⟨rfl, hyp⟩
    · replace hyp := hyp.2 hc
      refine mf_iconst (v := 2) (mf_dat eX12_kindBy 7 rfl) (by decide) ?_
      refine mf_goto (tgt := 18) (mf_dat eX12_kindBy 8 rfl) (by decide) ?_
      exact mf_ireturn (mf_dat eX12_kindBy 10 rfl) rfl (Or.inl rfl) ⟨rfl, hyp⟩
  · replace hyp := hyp.2 hc
    refine mf_iconst (v := 0) (mf_dat eX12_kindBy 2 rfl) (by decide) ?_
    refine mf_goto (tgt := 18) (mf_dat eX12_kindBy 3 rfl) (by decide) ?_
    exact mf_ireturn (mf_dat eX12_kindBy 10 rfl) rfl (Or.inl rfl) ⟨rfl, hyp⟩
set_option maxRecDepth 100000 in
set_option maxHeartbeats 4000000 in
theorem wX12_isAllowed {C : mf_G} {l : Launch} {d : Nat} {K : Int → mf_M → Prop} {x1 : Int} {h : mf_M} (hyp : ((¬ h 245 55 = 0 → ((¬ h 245 55 = 1 → ((¬ h 245 55 = 2 → ((x1 = 6 → K 0 h) ∧ (¬ x1 = 6 → K 1 h))) ∧ (h 245 55 = 2 → ((7 ≤ x1 → K 0 h) ∧ (¬ 7 ≤ x1 → K 1 h))))) ∧ (h 245 55 = 1 → ((6 ≤ x1 → K 0 h) ∧ (¬ 6 ≤ x1 → K 1 h))))) ∧ (h 245 55 = 0 → ((¬ x1 = 0 → K 0 h) ∧ (x1 = 0 → K 1 h))))) : mM C l d YX12_isAllowed [(2, 245), (0, x1)] h K := by
  intro g hG
  refine mf_entry (by decide) (Nat.le_of_ble_eq_true rfl) ?_
  refine mf_aload_n (mf_dat eX12_isAllowed 0 rfl) rfl rfl ?_
  refine mf_getf (r := (RX12, TX12, 106)) (ci := 12) (k := 55) (t := 0) (v := h 245 55) (mf_dat eX12_isAllowed 1 rfl) fl_X12_301 rfl (by decide) rfl rfl is245 ?_
  refine mf_if_ne (tgt := 19) (mf_dat eX12_isAllowed 2 rfl) (by decide) (fun hc => ?_) (fun hc => ?_)
  · replace hyp := hyp.1 hc
    refine mf_aload_n (mf_dat eX12_isAllowed 9 rfl) rfl rfl ?_
    refine mf_getf (r := (RX12, TX12, 106)) (ci := 12) (k := 55) (t := 0) (v := h 245 55) (mf_dat eX12_isAllowed 10 rfl) fl_X12_301 rfl (by decide) rfl rfl is245 ?_
    refine mf_iconst (v := 1) (mf_dat eX12_isAllowed 11 rfl) (by decide) ?_
    refine mf_icmp_ne (tgt := 41) (mf_dat eX12_isAllowed 12 rfl) (by decide) (fun hc => ?_) (fun hc => ?_)
    · replace hyp := hyp.1 hc
      refine mf_aload_n (mf_dat eX12_isAllowed 20 rfl) rfl rfl ?_
      refine mf_getf (r := (RX12, TX12, 106)) (ci := 12) (k := 55) (t := 0) (v := h 245 55) (mf_dat eX12_isAllowed 21 rfl) fl_X12_301 rfl (by decide) rfl rfl is245 ?_
      refine mf_iconst (v := 2) (mf_dat eX12_isAllowed 22 rfl) (by decide) ?_
      refine mf_icmp_ne (tgt := 63) (mf_dat eX12_isAllowed 23 rfl) (by decide) (fun hc => ?_) (fun hc => ?_)
      · replace hyp := hyp.1 hc
        refine mf_iload_n (mf_dat eX12_isAllowed 31 rfl) rfl rfl ?_
        refine mf_bipush (v := 6) (mf_dat eX12_isAllowed 32 rfl) (by decide) ?_
        refine mf_icmp_eq (tgt := 73) (mf_dat eX12_isAllowed 33 rfl) (by decide) (fun hc => ?_) (fun hc => ?_)
        · replace hyp := hyp.1 hc
          refine mf_iconst (v := 0) (mf_dat eX12_isAllowed 36 rfl) (by decide) ?_
          exact mf_ireturn (mf_dat eX12_isAllowed 37 rfl) rfl (Or.inr ⟨rfl, by decide⟩) ⟨rfl, hyp⟩
        · replace hyp := hyp.2 hc
          refine mf_iconst (v := 1) (mf_dat eX12_isAllowed 34 rfl) (by decide) ?_
          refine mf_goto (tgt := 74) (mf_dat eX12_isAllowed 35 rfl) (by decide) ?_
          exact mf_ireturn (mf_dat eX12_isAllowed 37 rfl) rfl (Or.inr ⟨rfl, by decide⟩) ⟨rfl, hyp⟩
      · replace hyp := hyp.2 hc
        refine mf_iload_n (mf_dat eX12_isAllowed 24 rfl) rfl rfl ?_
        refine mf_bipush (v := 7) (mf_dat eX12_isAllowed 25 rfl) (by decide) ?_
        refine mf_icmp_ge (tgt := 59) (mf_dat eX12_isAllowed 26 rfl) (by decide) (fun hc => ?_) (fun hc => ?_)
        · replace hyp := hyp.1 hc
          refine mf_iconst (v := 0) (mf_dat eX12_isAllowed 29 rfl) (by decide) ?_
          refine mf_goto (tgt := 74) (mf_dat eX12_isAllowed 30 rfl) (by decide) ?_
          exact mf_ireturn (mf_dat eX12_isAllowed 37 rfl) rfl (Or.inr ⟨rfl, by decide⟩) ⟨rfl, hyp⟩
        · replace hyp := hyp.2 hc
          refine mf_iconst (v := 1) (mf_dat eX12_isAllowed 27 rfl) (by decide) ?_
          refine mf_goto (tgt := 74) (mf_dat eX12_isAllowed 28 rfl) (by decide) ?_
          exact mf_ireturn (mf_dat eX12_isAllowed 37 rfl) rfl (Or.inr ⟨rfl, by decide⟩) ⟨rfl, hyp⟩
    · replace hyp := hyp.2 hc
      refine mf_iload_n (mf_dat eX12_isAllowed 13 rfl) rfl rfl ?_
      refine mf_bipush (v := 6) (mf_dat eX12_isAllowed 14 rfl) (by decide) ?_
      refine mf_icmp_ge (tgt := 37) (mf_dat eX12_isAllowed 15 rfl) (by decide) (fun hc => ?_) (fun hc => ?_)
      · replace hyp := hyp.1 hc
        refine mf_iconst (v := 0) (mf_dat eX12_isAllowed 18 rfl) (by decide) ?_
        refine mf_goto (tgt := 74) (mf_dat eX12_isAllowed 19 rfl) (by decide) ?_
        exact mf_ireturn (mf_dat eX12_isAllowed 37 rfl) rfl (Or.inr ⟨rfl, by decide⟩) ⟨rfl, hyp⟩
      · replace hyp := hyp.2 hc
        refine mf_iconst (v := 1) (mf_dat eX12_isAllowed 16 rfl) (by decide) ?_
        refine mf_goto (tgt := 74) (mf_dat eX12_isAllowed 17 rfl) (by decide) ?_
        exact mf_ireturn (mf_dat eX12_isAllowed 37 rfl) rfl (Or.inr ⟨rfl, by decide⟩) ⟨rfl, hyp⟩
  · replace hyp := hyp.2 hc
    refine mf_iload_n (mf_dat eX12_isAllowed 3 rfl) rfl rfl ?_
    refine mf_if_ne (tgt := 15) (mf_dat eX12_isAllowed 4 rfl) (by decide) (fun hc => ?_) (fun hc => ?_)
    · replace hyp := hyp.1 hc
      refine mf_iconst (v := 0) (mf_dat eX12_isAllowed 7 rfl) (by decide) ?_
      refine mf_goto (tgt := 74) (mf_dat eX12_isAllowed 8 rfl) (by decide) ?_
      exact mf_ireturn (mf_dat eX12_isAllowed 37 rfl) rfl (Or.inr ⟨rfl, by decide⟩) ⟨rfl, hyp⟩
    · replace hyp := hyp.2 hc
      refine mf_iconst (v := 1) (mf_dat eX12_isAllowed 5 rfl) (by decide) ?_
      refine mf_goto (tgt := 74) (mf_dat eX12_isAllowed 6 rfl) (by decide) ?_
      exact mf_ireturn (mf_dat eX12_isAllowed 37 rfl) rfl (Or.inr ⟨rfl, by decide⟩) ⟨rfl, hyp⟩
set_option maxRecDepth 100000 in
set_option maxHeartbeats 4000000 in
theorem wX12_isFull {C : mf_G} {l : Launch} {d : Nat} {K : Int → mf_M → Prop} {x1 x2 x3 : Int} {h : mf_M} (hd : 1 ≤ d) (hyp : ((¬ h 245 5 = 0 → ((h 245 5 = 0 → K 0 h) ∧ (¬ h 245 5 = 0 → K 1 h))) ∧ (h 245 5 = 0 → 0 ≤ x1 ∧ x1 < 6 ∧ ((¬ h 277 x1 = x2 → ((h 245 5 = 0 → K 0 h) ∧ (¬ h 245 5 = 0 → K 1 h))) ∧ (h 277 x1 = x2 → mM C l 0 YX12_fail [(2, 245), (0, 5), (0, x3)] h (fun r3 h5 => ((h5 245 5 = 0 → K 0 h5) ∧ (¬ h5 245 5 = 0 → K 1 h5)))))))) : mM C l d YX12_isFull [(2, 245), (0, x1), (0, x2), (0, x3)] h K := by
  intro g hG
  refine mf_entry (by decide) (Nat.le_of_ble_eq_true rfl) ?_
  refine mf_aload_n (mf_dat eX12_isFull 0 rfl) rfl rfl ?_
  refine mf_getf (r := (RX12, TX12, 106)) (ci := 12) (k := 5) (t := 0) (v := h 245 5) (mf_dat eX12_isFull 1 rfl) fl_X12_243 rfl (by decide) rfl rfl is245 ?_
  refine mf_if_ne (tgt := 23) (mf_dat eX12_isFull 2 rfl) (by decide) (fun hc => ?_) (fun hc => ?_)
  · replace hyp := hyp.1 hc
    refine mf_aload_n (mf_dat eX12_isFull 13 rfl) rfl rfl ?_
    refine mf_getf (r := (RX12, TX12, 106)) (ci := 12) (k := 5) (t := 0) (v := h 245 5) (mf_dat eX12_isFull 14 rfl) fl_X12_243 rfl (by decide) rfl rfl is245 ?_
    refine mf_if_eq (tgt := 34) (mf_dat eX12_isFull 15 rfl) (by decide) (fun hc => ?_) (fun hc => ?_)
    · replace hyp := hyp.1 hc
      refine mf_iconst (v := 0) (mf_dat eX12_isFull 18 rfl) (by decide) ?_
      exact mf_ireturn (mf_dat eX12_isFull 19 rfl) rfl (Or.inr ⟨rfl, by decide⟩) ⟨rfl, hyp⟩
    · replace hyp := hyp.2 hc
      refine mf_iconst (v := 1) (mf_dat eX12_isFull 16 rfl) (by decide) ?_
      refine mf_goto (tgt := 35) (mf_dat eX12_isFull 17 rfl) (by decide) ?_
      exact mf_ireturn (mf_dat eX12_isFull 19 rfl) rfl (Or.inr ⟨rfl, by decide⟩) ⟨rfl, hyp⟩
  · replace hyp := hyp.2 hc
    refine mf_aload_n (mf_dat eX12_isFull 3 rfl) rfl rfl ?_
    refine mf_getf (r := (RX12, TX12, 106)) (ci := 12) (k := 41) (t := 2) (v := 277) (mf_dat eX12_isFull 4 rfl) fl_X12_108 rfl (by decide) rfl (gm_41 hG) is245 ?_
    refine mf_iload_n (mf_dat eX12_isFull 5 rfl) rfl rfl ?_
    obtain ⟨ck1, hyp⟩ := hyp
    obtain ⟨ck2, hyp⟩ := hyp
    refine mf_iald (mf_dat eX12_isFull 6 rfl) is277 len277 ck1 ck2 ?_
    refine mf_iload_n (mf_dat eX12_isFull 7 rfl) rfl rfl ?_
    refine mf_icmp_ne (tgt := 23) (mf_dat eX12_isFull 8 rfl) (by decide) (fun hc => ?_) (fun hc => ?_)
    · replace hyp := hyp.1 hc
      refine mf_aload_n (mf_dat eX12_isFull 13 rfl) rfl rfl ?_
      refine mf_getf (r := (RX12, TX12, 106)) (ci := 12) (k := 5) (t := 0) (v := h 245 5) (mf_dat eX12_isFull 14 rfl) fl_X12_243 rfl (by decide) rfl rfl is245 ?_
      refine mf_if_eq (tgt := 34) (mf_dat eX12_isFull 15 rfl) (by decide) (fun hc => ?_) (fun hc => ?_)
      · replace hyp := hyp.1 hc
        refine mf_iconst (v := 0) (mf_dat eX12_isFull 18 rfl) (by decide) ?_
        exact mf_ireturn (mf_dat eX12_isFull 19 rfl) rfl (Or.inr ⟨rfl, by decide⟩) ⟨rfl, hyp⟩
      · replace hyp := hyp.2 hc
        refine mf_iconst (v := 1) (mf_dat eX12_isFull 16 rfl) (by decide) ?_
        refine mf_goto (tgt := 35) (mf_dat eX12_isFull 17 rfl) (by decide) ?_
        exact mf_ireturn (mf_dat eX12_isFull 19 rfl) rfl (Or.inr ⟨rfl, by decide⟩) ⟨rfl, hyp⟩
    · replace hyp := hyp.2 hc
      refine mf_aload_n (mf_dat eX12_isFull 9 rfl) rfl rfl ?_
      refine mf_iconst (v := 5) (mf_dat eX12_isFull 10 rfl) (by decide) ?_
      refine mf_iload_n (mf_dat eX12_isFull 11 rfl) rfl rfl ?_
      refine mf_callV (Yc := YX12_fail) (r := (RX12, TX12, 106)) (ci := 12) (mf_dat eX12_isFull 12 rfl) ml_X12_273 okX12_fail im_X12_fail sl_X12_fail rfl rfl rfl rfl (Nat.le_of_ble_eq_true rfl) (mf_rr (Nat.le_trans (by decide) hd) (Nat.le_refl _)) (Nat.le_refl _) is245 (hyp g hG) (fun r3 g4 h5 hyp => ?_)
      obtain ⟨hgg, hyp⟩ := hyp
      subst hgg
      refine mf_aload_n (mf_dat eX12_isFull 13 rfl) rfl rfl ?_
      refine mf_getf (r := (RX12, TX12, 106)) (ci := 12) (k := 5) (t := 0) (v := h5 245 5) (mf_dat eX12_isFull 14 rfl) fl_X12_243 rfl (by decide) rfl rfl is245 ?_
      refine mf_if_eq (tgt := 34) (mf_dat eX12_isFull 15 rfl) (by decide) (fun hc => ?_) (fun hc => ?_)
      · replace hyp := hyp.1 hc
        refine mf_iconst (v := 0) (mf_dat eX12_isFull 18 rfl) (by decide) ?_
        exact mf_ireturn (mf_dat eX12_isFull 19 rfl) rfl (Or.inr ⟨rfl, by decide⟩) ⟨rfl, hyp⟩
      · replace hyp := hyp.2 hc
        refine mf_iconst (v := 1) (mf_dat eX12_isFull 16 rfl) (by decide) ?_
        refine mf_goto (tgt := 35) (mf_dat eX12_isFull 17 rfl) (by decide) ?_
        exact mf_ireturn (mf_dat eX12_isFull 19 rfl) rfl (Or.inr ⟨rfl, by decide⟩) ⟨rfl, hyp⟩
set_option maxRecDepth 100000 in
set_option maxHeartbeats 4000000 in
theorem wX12_folioTold {C : mf_G} {l : Launch} {d : Nat} {K : Int → mf_M → Prop} {h : mf_M} (hd : 4 ≤ d) (hyp : mM C l 3 YX12_asks [(2, 245), (2, 248)] h (fun r1 h3 => mM C l 1 YX12_number [(2, 245), (0, 1), (0, 6)] h3 (fun r4 h6 => (∀ h7 : mf_M, h7 = mf_up h6 276 0 r4 → mM C l 3 YX12_asks [(2, 245), (2, 249)] h7 (fun r8 h10 => mM C l 1 YX12_number [(2, 245), (0, 2), (0, 8)] h10 (fun r11 h13 => (∀ h14 : mf_M, h14 = mf_up h13 276 1 r11 → mM C l 2 YX12_asksSign [(2, 245), (0, 59)] h14 (fun r15 h17 => K 0 h17)))))))) : mM C l d YX12_folioTold [(2, 245)] h K := by
  intro g hG
  refine mf_entry (by decide) (Nat.le_of_ble_eq_true rfl) ?_
  refine mf_aload_n (mf_dat eX12_folioTold 0 rfl) rfl rfl ?_
  refine mf_aload_n (mf_dat eX12_folioTold 1 rfl) rfl rfl ?_
  refine mf_getf (r := (RX12, TX12, 106)) (ci := 12) (k := 11) (t := 2) (v := 248) (mf_dat eX12_folioTold 2 rfl) fl_X12_20 rfl (by decide) rfl (gm_11 hG) is245 ?_
  refine mf_callV (Yc := YX12_asks) (r := (RX12, TX12, 106)) (ci := 12) (mf_dat eX12_folioTold 3 rfl) ml_X12_304 okX12_asks im_X12_asks sl_X12_asks rfl rfl rfl rfl (Nat.le_of_ble_eq_true rfl) (mf_rr (Nat.le_trans (by decide) hd) (Nat.le_refl _)) (Nat.le_refl _) is245 (hyp g hG) (fun r1 g2 h3 hyp => ?_)
  obtain ⟨hgg, hyp⟩ := hyp
  subst hgg
  refine mf_aload_n (mf_dat eX12_folioTold 4 rfl) rfl rfl ?_
  refine mf_getf (r := (RX12, TX12, 106)) (ci := 12) (k := 40) (t := 2) (v := 276) (mf_dat eX12_folioTold 5 rfl) fl_X12_105 rfl (by decide) rfl (gm_40 hG) is245 ?_
  refine mf_iconst (v := 0) (mf_dat eX12_folioTold 6 rfl) (by decide) ?_
  refine mf_aload_n (mf_dat eX12_folioTold 7 rfl) rfl rfl ?_
  refine mf_iconst (v := 1) (mf_dat eX12_folioTold 8 rfl) (by decide) ?_
  refine mf_bipush (v := 6) (mf_dat eX12_folioTold 9 rfl) (by decide) ?_
  refine mf_callV (Yc := YX12_number) (r := (RX12, TX12, 106)) (ci := 12) (mf_dat eX12_folioTold 10 rfl) ml_X12_308 okX12_number im_X12_number sl_X12_number rfl rfl rfl rfl (Nat.le_of_ble_eq_true rfl) (mf_rr (Nat.le_trans (by decide) hd) (Nat.le_refl _)) (Nat.le_refl _) is245 (hyp g2 hG) (fun r4 g5 h6 hyp => ?_)
  obtain ⟨hgg, hyp⟩ := hyp
  subst hgg
  refine mf_iast (mf_dat eX12_folioTold 11 rfl) is276 len276 (by decide) (by decide) ?_
  generalize qh7 : mf_up h6 276 0 r4 = h7
  replace hyp := hyp _ qh7.symm
  refine mf_aload_n (mf_dat eX12_folioTold 12 rfl) rfl rfl ?_
  refine mf_aload_n (mf_dat eX12_folioTold 13 rfl) rfl rfl ?_
  refine mf_getf (r := (RX12, TX12, 106)) (ci := 12) (k := 12) (t := 2) (v := 249) (mf_dat eX12_folioTold 14 rfl) fl_X12_24 rfl (by decide) rfl (gm_12 hG) is245 ?_
  refine mf_callV (Yc := YX12_asks) (r := (RX12, TX12, 106)) (ci := 12) (mf_dat eX12_folioTold 15 rfl) ml_X12_304 okX12_asks im_X12_asks sl_X12_asks rfl rfl rfl rfl (Nat.le_of_ble_eq_true rfl) (mf_rr (Nat.le_trans (by decide) hd) (Nat.le_refl _)) (Nat.le_refl _) is245 (hyp g5 hG) (fun r8 g9 h10 hyp => ?_)
  obtain ⟨hgg, hyp⟩ := hyp
  subst hgg
  refine mf_aload_n (mf_dat eX12_folioTold 16 rfl) rfl rfl ?_
  refine mf_getf (r := (RX12, TX12, 106)) (ci := 12) (k := 40) (t := 2) (v := 276) (mf_dat eX12_folioTold 17 rfl) fl_X12_105 rfl (by decide) rfl (gm_40 hG) is245 ?_
  refine mf_iconst (v := 1) (mf_dat eX12_folioTold 18 rfl) (by decide) ?_
  refine mf_aload_n (mf_dat eX12_folioTold 19 rfl) rfl rfl ?_
  refine mf_iconst (v := 2) (mf_dat eX12_folioTold 20 rfl) (by decide) ?_
  refine mf_bipush (v := 8) (mf_dat eX12_folioTold 21 rfl) (by decide) ?_
  refine mf_callV (Yc := YX12_number) (r := (RX12, TX12, 106)) (ci := 12) (mf_dat eX12_folioTold 22 rfl) ml_X12_308 okX12_number im_X12_number sl_X12_number rfl rfl rfl rfl (Nat.le_of_ble_eq_true rfl) (mf_rr (Nat.le_trans (by decide) hd) (Nat.le_refl _)) (Nat.le_refl _) is245 (hyp g9 hG) (fun r11 g12 h13 hyp => ?_)
  obtain ⟨hgg, hyp⟩ := hyp
  subst hgg
  refine mf_iast (mf_dat eX12_folioTold 23 rfl) is276 len276 (by decide) (by decide) ?_
  generalize qh14 : mf_up h13 276 1 r11 = h14
  replace hyp := hyp _ qh14.symm
  refine mf_aload_n (mf_dat eX12_folioTold 24 rfl) rfl rfl ?_
  refine mf_bipush (v := 59) (mf_dat eX12_folioTold 25 rfl) (by decide) ?_
  refine mf_callV (Yc := YX12_asksSign) (r := (RX12, TX12, 106)) (ci := 12) (mf_dat eX12_folioTold 26 rfl) ml_X12_312 okX12_asksSign im_X12_asksSign sl_X12_asksSign rfl rfl rfl rfl (Nat.le_of_ble_eq_true rfl) (mf_rr (Nat.le_trans (by decide) hd) (Nat.le_refl _)) (Nat.le_refl _) is245 (hyp g12 hG) (fun r15 g16 h17 hyp => ?_)
  obtain ⟨hgg, hyp⟩ := hyp
  subst hgg
  exact mf_return (mf_dat eX12_folioTold 27 rfl) rfl ⟨rfl, hyp⟩
set_option maxRecDepth 100000 in
set_option maxHeartbeats 4000000 in
theorem wX12_leafTold {C : mf_G} {l : Launch} {d : Nat} {K : Int → mf_M → Prop} {h : mf_M} (hd : 2 ≤ d) (hyp : mM C l 1 YX12_number [(2, 245), (0, 0), (0, mf_w32 ((h 276 0) - 1))] h (fun r1 h3 => ((¬ h3 245 5 = 0 → K 0 h3) ∧ (h3 245 5 = 0 → K r1 h3)))) : mM C l d YX12_leafTold [(2, 245)] h K := by
  intro g hG
  refine mf_entry (by decide) (Nat.le_of_ble_eq_true rfl) ?_
  refine mf_aload_n (mf_dat eX12_leafTold 0 rfl) rfl rfl ?_
  refine mf_iconst (v := 0) (mf_dat eX12_leafTold 1 rfl) (by decide) ?_
  refine mf_aload_n (mf_dat eX12_leafTold 2 rfl) rfl rfl ?_
  refine mf_getf (r := (RX12, TX12, 106)) (ci := 12) (k := 40) (t := 2) (v := 276) (mf_dat eX12_leafTold 3 rfl) fl_X12_105 rfl (by decide) rfl (gm_40 hG) is245 ?_
  refine mf_iconst (v := 0) (mf_dat eX12_leafTold 4 rfl) (by decide) ?_
  refine mf_iald (mf_dat eX12_leafTold 5 rfl) is276 len276 (by decide) (by decide) ?_
  refine mf_iconst (v := 1) (mf_dat eX12_leafTold 6 rfl) (by decide) ?_
  refine mf_isub (mf_dat eX12_leafTold 7 rfl) ?_
  refine mf_callV (Yc := YX12_number) (r := (RX12, TX12, 106)) (ci := 12) (mf_dat eX12_leafTold 8 rfl) ml_X12_308 okX12_number im_X12_number sl_X12_number rfl rfl rfl rfl (Nat.le_of_ble_eq_true rfl) (mf_rr (Nat.le_trans (by decide) hd) (Nat.le_refl _)) (Nat.le_refl _) is245 (hyp g hG) (fun r1 g2 h3 hyp => ?_)
  obtain ⟨hgg, hyp⟩ := hyp
  subst hgg
  refine mf_istore_n (mf_dat eX12_leafTold 9 rfl) rfl (by decide) ?_
  refine mf_aload_n (mf_dat eX12_leafTold 10 rfl) rfl rfl ?_
  refine mf_getf (r := (RX12, TX12, 106)) (ci := 12) (k := 5) (t := 0) (v := h3 245 5) (mf_dat eX12_leafTold 11 rfl) fl_X12_243 rfl (by decide) rfl rfl is245 ?_
  refine mf_if_ne (tgt := 25) (mf_dat eX12_leafTold 12 rfl) (by decide) (fun hc => ?_) (fun hc => ?_)
  · replace hyp := hyp.1 hc
    refine mf_iconst (v := 0) (mf_dat eX12_leafTold 15 rfl) (by decide) ?_
    exact mf_ireturn (mf_dat eX12_leafTold 16 rfl) rfl (Or.inl rfl) ⟨rfl, hyp⟩
  · replace hyp := hyp.2 hc
    refine mf_iload_n (mf_dat eX12_leafTold 13 rfl) rfl rfl ?_
    refine mf_goto (tgt := 26) (mf_dat eX12_leafTold 14 rfl) (by decide) ?_
    exact mf_ireturn (mf_dat eX12_leafTold 16 rfl) rfl (Or.inl rfl) ⟨rfl, hyp⟩
abbrev BX12_standsTold_2 (C : mf_G) (l : Launch) (d : Nat) (K : Int → mf_M → Prop) (x1 x2 x3 : Int) (h : mf_M) : Prop := jM C l d YX12_standsTold K 2 [(0, (2, 245)), (1, (0, x1)), (2, (0, x2)), (3, (0, x3))] [] h
set_option maxRecDepth 100000 in
set_option maxHeartbeats 4000000 in
theorem vX12_standsTold_2 {C : mf_G} {l : Launch} {d : Nat} {K : Int → mf_M → Prop} {x1 x2 x3 : Int} {h : mf_M} (hyp : ((h 277 0 ≤ x3 → K 0 h) ∧ (¬ h 277 0 ≤ x3 → 0 ≤ mf_w32 (2 * x3) ∧ mf_w32 (2 * x3) < 16 ∧ ((¬ h 281 (mf_w32 (2 * x3)) = x1 → (∀ v3 : Int, v3 = mf_w32 (x3 + 1) → BX12_standsTold_2 C l d K x1 x2 v3 h)) ∧ (h 281 (mf_w32 (2 * x3)) = x1 → 0 ≤ mf_w32 ((mf_w32 (2 * x3)) + 1) ∧ mf_w32 ((mf_w32 (2 * x3)) + 1) < 16 ∧ ((¬ h 281 (mf_w32 ((mf_w32 (2 * x3)) + 1)) = x2 → (∀ v6 : Int, v6 = mf_w32 (x3 + 1) → BX12_standsTold_2 C l d K x1 x2 v6 h)) ∧ (h 281 (mf_w32 ((mf_w32 (2 * x3)) + 1)) = x2 → K 1 h))))))) : BX12_standsTold_2 C l d K x1 x2 x3 h := by
  intro g hG
  refine mf_iload_n (mf_dat eX12_standsTold 2 rfl) rfl rfl ?_
  refine mf_aload_n (mf_dat eX12_standsTold 3 rfl) rfl rfl ?_
  refine mf_getf (r := (RX12, TX12, 106)) (ci := 12) (k := 41) (t := 2) (v := 277) (mf_dat eX12_standsTold 4 rfl) fl_X12_108 rfl (by decide) rfl (gm_41 hG) is245 ?_
  refine mf_iconst (v := 0) (mf_dat eX12_standsTold 5 rfl) (by decide) ?_
  refine mf_iald (mf_dat eX12_standsTold 6 rfl) is277 len277 (by decide) (by decide) ?_
  refine mf_icmp_ge (tgt := 46) (mf_dat eX12_standsTold 7 rfl) (by decide) (fun hc => ?_) (fun hc => ?_)
  · replace hyp := hyp.1 hc
    refine mf_iconst (v := 0) (mf_dat eX12_standsTold 30 rfl) (by decide) ?_
    exact mf_ireturn (mf_dat eX12_standsTold 31 rfl) rfl (Or.inr ⟨rfl, by decide⟩) ⟨rfl, hyp⟩
  · replace hyp := hyp.2 hc
    refine mf_aload_n (mf_dat eX12_standsTold 8 rfl) rfl rfl ?_
    refine mf_getf (r := (RX12, TX12, 106)) (ci := 12) (k := 45) (t := 2) (v := 281) (mf_dat eX12_standsTold 9 rfl) fl_X12_121 rfl (by decide) rfl (gm_45 hG) is245 ?_
    refine mf_iconst (v := 2) (mf_dat eX12_standsTold 10 rfl) (by decide) ?_
    refine mf_iload_n (mf_dat eX12_standsTold 11 rfl) rfl rfl ?_
    refine mf_imul (mf_dat eX12_standsTold 12 rfl) ?_
    obtain ⟨ck1, hyp⟩ := hyp
    obtain ⟨ck2, hyp⟩ := hyp
    refine mf_iald (mf_dat eX12_standsTold 13 rfl) is281 len281 ck1 ck2 ?_
    refine mf_iload_n (mf_dat eX12_standsTold 14 rfl) rfl rfl ?_
    refine mf_icmp_ne (tgt := 40) (mf_dat eX12_standsTold 15 rfl) (by decide) (fun hc => ?_) (fun hc => ?_)
    · replace hyp := hyp.1 hc
      refine mf_iinc (mf_dat eX12_standsTold 28 rfl) rfl (by decide) (by decide) ?_
      generalize qv3 : mf_w32 (x3 + 1) = v3
      replace hyp := hyp _ qv3.symm
      refine mf_goto (tgt := 2) (mf_dat eX12_standsTold 29 rfl) (by decide) ?_
      exact mf_sub [1, 2, 3, 0] rfl (hyp g hG)
    · replace hyp := hyp.2 hc
      refine mf_aload_n (mf_dat eX12_standsTold 16 rfl) rfl rfl ?_
      refine mf_getf (r := (RX12, TX12, 106)) (ci := 12) (k := 45) (t := 2) (v := 281) (mf_dat eX12_standsTold 17 rfl) fl_X12_121 rfl (by decide) rfl (gm_45 hG) is245 ?_
      refine mf_iconst (v := 2) (mf_dat eX12_standsTold 18 rfl) (by decide) ?_
      refine mf_iload_n (mf_dat eX12_standsTold 19 rfl) rfl rfl ?_
      refine mf_imul (mf_dat eX12_standsTold 20 rfl) ?_
      refine mf_iconst (v := 1) (mf_dat eX12_standsTold 21 rfl) (by decide) ?_
      refine mf_iadd (mf_dat eX12_standsTold 22 rfl) ?_
      obtain ⟨ck4, hyp⟩ := hyp
      obtain ⟨ck5, hyp⟩ := hyp
      refine mf_iald (mf_dat eX12_standsTold 23 rfl) is281 len281 ck4 ck5 ?_
      refine mf_iload_n (mf_dat eX12_standsTold 24 rfl) rfl rfl ?_
      refine mf_icmp_ne (tgt := 40) (mf_dat eX12_standsTold 25 rfl) (by decide) (fun hc => ?_) (fun hc => ?_)
      · replace hyp := hyp.1 hc
        refine mf_iinc (mf_dat eX12_standsTold 28 rfl) rfl (by decide) (by decide) ?_
        generalize qv6 : mf_w32 (x3 + 1) = v6
        replace hyp := hyp _ qv6.symm
        refine mf_goto (tgt := 2) (mf_dat eX12_standsTold 29 rfl) (by decide) ?_
        exact mf_sub [1, 2, 3, 0] rfl (hyp g hG)
      · replace hyp := hyp.2 hc
        refine mf_iconst (v := 1) (mf_dat eX12_standsTold 26 rfl) (by decide) ?_
        exact mf_ireturn (mf_dat eX12_standsTold 27 rfl) rfl (Or.inr ⟨rfl, by decide⟩) ⟨rfl, hyp⟩
set_option maxRecDepth 100000 in
set_option maxHeartbeats 4000000 in
theorem wX12_standsTold {C : mf_G} {l : Launch} {d : Nat} {K : Int → mf_M → Prop} {x1 x2 : Int} {h : mf_M} (hyp : BX12_standsTold_2 C l d K x1 x2 0 h) : mM C l d YX12_standsTold [(2, 245), (0, x1), (0, x2)] h K := by
  intro g hG
  refine mf_entry (by decide) (Nat.le_of_ble_eq_true rfl) ?_
  refine mf_iconst (v := 0) (mf_dat eX12_standsTold 0 rfl) (by decide) ?_
  refine mf_istore_n (mf_dat eX12_standsTold 1 rfl) rfl (by decide) ?_
  exact mf_sub [1, 2, 3, 0] rfl (hyp g hG)
set_option maxRecDepth 100000 in
set_option maxHeartbeats 4000000 in
theorem wX12_cellTold {C : mf_G} {l : Launch} {d : Nat} {K : Int → mf_M → Prop} {x1 : Int} {h : mf_M} (hd : 2 ≤ d) (hyp : mM C l 1 YX12_number [(2, 245), (0, 0), (0, mf_w32 ((h 276 1) - 1))] h (fun r1 h3 => ((¬ h3 245 5 = 0 → ((¬ h3 245 5 = 0 → K 0 h3) ∧ (h3 245 5 = 0 → K r1 h3))) ∧ (h3 245 5 = 0 → 0 ≤ x1 ∧ x1 < 6 ∧ ((mf_and (mf_shr (h3 279 x1) r1) 1 = 1 → mM C l 0 YX12_fail [(2, 245), (0, 2), (0, h3 245 10)] h3 (fun r6 h8 => ((¬ h8 245 5 = 0 → K 0 h8) ∧ (h8 245 5 = 0 → K r1 h8)))) ∧ (¬ mf_and (mf_shr (h3 279 x1) r1) 1 = 1 → mM C l 0 YX12_standsTold [(2, 245), (0, x1), (0, r1)] h3 (fun r9 h11 => ((r9 = 0 → ((¬ h11 245 5 = 0 → K 0 h11) ∧ (h11 245 5 = 0 → K r1 h11))) ∧ (¬ r9 = 0 → mM C l 0 YX12_fail [(2, 245), (0, 2), (0, h11 245 10)] h11 (fun r12 h14 => ((¬ h14 245 5 = 0 → K 0 h14) ∧ (h14 245 5 = 0 → K r1 h14)))))))))))) : mM C l d YX12_cellTold [(2, 245), (0, x1)] h K := by
  intro g hG
  refine mf_entry (by decide) (Nat.le_of_ble_eq_true rfl) ?_
  refine mf_aload_n (mf_dat eX12_cellTold 0 rfl) rfl rfl ?_
  refine mf_iconst (v := 0) (mf_dat eX12_cellTold 1 rfl) (by decide) ?_
  refine mf_aload_n (mf_dat eX12_cellTold 2 rfl) rfl rfl ?_
  refine mf_getf (r := (RX12, TX12, 106)) (ci := 12) (k := 40) (t := 2) (v := 276) (mf_dat eX12_cellTold 3 rfl) fl_X12_105 rfl (by decide) rfl (gm_40 hG) is245 ?_
  refine mf_iconst (v := 1) (mf_dat eX12_cellTold 4 rfl) (by decide) ?_
  refine mf_iald (mf_dat eX12_cellTold 5 rfl) is276 len276 (by decide) (by decide) ?_
  refine mf_iconst (v := 1) (mf_dat eX12_cellTold 6 rfl) (by decide) ?_
  refine mf_isub (mf_dat eX12_cellTold 7 rfl) ?_
  refine mf_callV (Yc := YX12_number) (r := (RX12, TX12, 106)) (ci := 12) (mf_dat eX12_cellTold 8 rfl) ml_X12_308 okX12_number im_X12_number sl_X12_number rfl rfl rfl rfl (Nat.le_of_ble_eq_true rfl) (mf_rr (Nat.le_trans (by decide) hd) (Nat.le_refl _)) (Nat.le_refl _) is245 (hyp g hG) (fun r1 g2 h3 hyp => ?_)
  obtain ⟨hgg, hyp⟩ := hyp
  subst hgg
  refine mf_istore_n (mf_dat eX12_cellTold 9 rfl) rfl (by decide) ?_
  refine mf_aload_n (mf_dat eX12_cellTold 10 rfl) rfl rfl ?_
  refine mf_getf (r := (RX12, TX12, 106)) (ci := 12) (k := 5) (t := 0) (v := h3 245 5) (mf_dat eX12_cellTold 11 rfl) fl_X12_243 rfl (by decide) rfl rfl is245 ?_
  refine mf_if_ne (tgt := 53) (mf_dat eX12_cellTold 12 rfl) (by decide) (fun hc => ?_) (fun hc => ?_)
  · replace hyp := hyp.1 hc
    refine mf_aload_n (mf_dat eX12_cellTold 33 rfl) rfl rfl ?_
    refine mf_getf (r := (RX12, TX12, 106)) (ci := 12) (k := 5) (t := 0) (v := h3 245 5) (mf_dat eX12_cellTold 34 rfl) fl_X12_243 rfl (by decide) rfl rfl is245 ?_
    refine mf_if_ne (tgt := 64) (mf_dat eX12_cellTold 35 rfl) (by decide) (fun hc => ?_) (fun hc => ?_)
    · replace hyp := hyp.1 hc
      refine mf_iconst (v := 0) (mf_dat eX12_cellTold 38 rfl) (by decide) ?_
      exact mf_ireturn (mf_dat eX12_cellTold 39 rfl) rfl (Or.inl rfl) ⟨rfl, hyp⟩
    · replace hyp := hyp.2 hc
      refine mf_iload_n (mf_dat eX12_cellTold 36 rfl) rfl rfl ?_
      refine mf_goto (tgt := 65) (mf_dat eX12_cellTold 37 rfl) (by decide) ?_
      exact mf_ireturn (mf_dat eX12_cellTold 39 rfl) rfl (Or.inl rfl) ⟨rfl, hyp⟩
  · replace hyp := hyp.2 hc
    refine mf_aload_n (mf_dat eX12_cellTold 13 rfl) rfl rfl ?_
    refine mf_getf (r := (RX12, TX12, 106)) (ci := 12) (k := 43) (t := 2) (v := 279) (mf_dat eX12_cellTold 14 rfl) fl_X12_115 rfl (by decide) rfl (gm_43 hG) is245 ?_
    refine mf_iload_n (mf_dat eX12_cellTold 15 rfl) rfl rfl ?_
    obtain ⟨ck4, hyp⟩ := hyp
    obtain ⟨ck5, hyp⟩ := hyp
    refine mf_iald (mf_dat eX12_cellTold 16 rfl) is279 len279 ck4 ck5 ?_
    refine mf_iload_n (mf_dat eX12_cellTold 17 rfl) rfl rfl ?_
    refine mf_ishr (mf_dat eX12_cellTold 18 rfl) ?_
    refine mf_iconst (v := 1) (mf_dat eX12_cellTold 19 rfl) (by decide) ?_
    refine mf_iand (mf_dat eX12_cellTold 20 rfl) ?_
    refine mf_iconst (v := 1) (mf_dat eX12_cellTold 21 rfl) (by decide) ?_
    refine mf_icmp_eq (tgt := 44) (mf_dat eX12_cellTold 22 rfl) (by decide) (fun hc => ?_) (fun hc => ?_)
    · replace hyp := hyp.1 hc
      refine mf_aload_n (mf_dat eX12_cellTold 28 rfl) rfl rfl ?_
      refine mf_iconst (v := 2) (mf_dat eX12_cellTold 29 rfl) (by decide) ?_
      refine mf_aload_n (mf_dat eX12_cellTold 30 rfl) rfl rfl ?_
      refine mf_getf (r := (RX12, TX12, 106)) (ci := 12) (k := 10) (t := 0) (v := h3 245 10) (mf_dat eX12_cellTold 31 rfl) fl_X12_283 rfl (by decide) rfl rfl is245 ?_
      refine mf_callV (Yc := YX12_fail) (r := (RX12, TX12, 106)) (ci := 12) (mf_dat eX12_cellTold 32 rfl) ml_X12_273 okX12_fail im_X12_fail sl_X12_fail rfl rfl rfl rfl (Nat.le_of_ble_eq_true rfl) (mf_rr (Nat.le_trans (by decide) hd) (Nat.le_refl _)) (Nat.le_refl _) is245 (hyp g2 hG) (fun r6 g7 h8 hyp => ?_)
      obtain ⟨hgg, hyp⟩ := hyp
      subst hgg
      refine mf_aload_n (mf_dat eX12_cellTold 33 rfl) rfl rfl ?_
      refine mf_getf (r := (RX12, TX12, 106)) (ci := 12) (k := 5) (t := 0) (v := h8 245 5) (mf_dat eX12_cellTold 34 rfl) fl_X12_243 rfl (by decide) rfl rfl is245 ?_
      refine mf_if_ne (tgt := 64) (mf_dat eX12_cellTold 35 rfl) (by decide) (fun hc => ?_) (fun hc => ?_)
      · replace hyp := hyp.1 hc
        refine mf_iconst (v := 0) (mf_dat eX12_cellTold 38 rfl) (by decide) ?_
        exact mf_ireturn (mf_dat eX12_cellTold 39 rfl) rfl (Or.inl rfl) ⟨rfl, hyp⟩
      · replace hyp := hyp.2 hc
        refine mf_iload_n (mf_dat eX12_cellTold 36 rfl) rfl rfl ?_
        refine mf_goto (tgt := 65) (mf_dat eX12_cellTold 37 rfl) (by decide) ?_
        exact mf_ireturn (mf_dat eX12_cellTold 39 rfl) rfl (Or.inl rfl) ⟨rfl, hyp⟩
    · replace hyp := hyp.2 hc
      refine mf_aload_n (mf_dat eX12_cellTold 23 rfl) rfl rfl ?_
      refine mf_iload_n (mf_dat eX12_cellTold 24 rfl) rfl rfl ?_
      refine mf_iload_n (mf_dat eX12_cellTold 25 rfl) rfl rfl ?_
      refine mf_callV (Yc := YX12_standsTold) (r := (RX12, TX12, 106)) (ci := 12) (mf_dat eX12_cellTold 26 rfl) ml_X12_316 okX12_standsTold im_X12_standsTold sl_X12_standsTold rfl rfl rfl rfl (Nat.le_of_ble_eq_true rfl) (mf_rr (Nat.le_trans (by decide) hd) (Nat.le_refl _)) (Nat.le_refl _) is245 (hyp g2 hG) (fun r9 g10 h11 hyp => ?_)
      obtain ⟨hgg, hyp⟩ := hyp
      subst hgg
      refine mf_if_eq (tgt := 53) (mf_dat eX12_cellTold 27 rfl) (by decide) (fun hc => ?_) (fun hc => ?_)
      · replace hyp := hyp.1 hc
        refine mf_aload_n (mf_dat eX12_cellTold 33 rfl) rfl rfl ?_
        refine mf_getf (r := (RX12, TX12, 106)) (ci := 12) (k := 5) (t := 0) (v := h11 245 5) (mf_dat eX12_cellTold 34 rfl) fl_X12_243 rfl (by decide) rfl rfl is245 ?_
        refine mf_if_ne (tgt := 64) (mf_dat eX12_cellTold 35 rfl) (by decide) (fun hc => ?_) (fun hc => ?_)
        · replace hyp := hyp.1 hc
          refine mf_iconst (v := 0) (mf_dat eX12_cellTold 38 rfl) (by decide) ?_
          exact mf_ireturn (mf_dat eX12_cellTold 39 rfl) rfl (Or.inl rfl) ⟨rfl, hyp⟩
        · replace hyp := hyp.2 hc
          refine mf_iload_n (mf_dat eX12_cellTold 36 rfl) rfl rfl ?_
          refine mf_goto (tgt := 65) (mf_dat eX12_cellTold 37 rfl) (by decide) ?_
          exact mf_ireturn (mf_dat eX12_cellTold 39 rfl) rfl (Or.inl rfl) ⟨rfl, hyp⟩
      · replace hyp := hyp.2 hc
        refine mf_aload_n (mf_dat eX12_cellTold 28 rfl) rfl rfl ?_
        refine mf_iconst (v := 2) (mf_dat eX12_cellTold 29 rfl) (by decide) ?_
        refine mf_aload_n (mf_dat eX12_cellTold 30 rfl) rfl rfl ?_
        refine mf_getf (r := (RX12, TX12, 106)) (ci := 12) (k := 10) (t := 0) (v := h11 245 10) (mf_dat eX12_cellTold 31 rfl) fl_X12_283 rfl (by decide) rfl rfl is245 ?_
        refine mf_callV (Yc := YX12_fail) (r := (RX12, TX12, 106)) (ci := 12) (mf_dat eX12_cellTold 32 rfl) ml_X12_273 okX12_fail im_X12_fail sl_X12_fail rfl rfl rfl rfl (Nat.le_of_ble_eq_true rfl) (mf_rr (Nat.le_trans (by decide) hd) (Nat.le_refl _)) (Nat.le_refl _) is245 (hyp g10 hG) (fun r12 g13 h14 hyp => ?_)
        obtain ⟨hgg, hyp⟩ := hyp
        subst hgg
        refine mf_aload_n (mf_dat eX12_cellTold 33 rfl) rfl rfl ?_
        refine mf_getf (r := (RX12, TX12, 106)) (ci := 12) (k := 5) (t := 0) (v := h14 245 5) (mf_dat eX12_cellTold 34 rfl) fl_X12_243 rfl (by decide) rfl rfl is245 ?_
        refine mf_if_ne (tgt := 64) (mf_dat eX12_cellTold 35 rfl) (by decide) (fun hc => ?_) (fun hc => ?_)
        · replace hyp := hyp.1 hc
          refine mf_iconst (v := 0) (mf_dat eX12_cellTold 38 rfl) (by decide) ?_
          exact mf_ireturn (mf_dat eX12_cellTold 39 rfl) rfl (Or.inl rfl) ⟨rfl, hyp⟩
        · replace hyp := hyp.2 hc
          refine mf_iload_n (mf_dat eX12_cellTold 36 rfl) rfl rfl ?_
          refine mf_goto (tgt := 65) (mf_dat eX12_cellTold 37 rfl) (by decide) ?_
          exact mf_ireturn (mf_dat eX12_cellTold 39 rfl) rfl (Or.inl rfl) ⟨rfl, hyp⟩
set_option maxRecDepth 100000 in
set_option maxHeartbeats 4000000 in
theorem wX12_glossTold {C : mf_G} {l : Launch} {d : Nat} {K : Int → mf_M → Prop} {x1 : Int} {h : mf_M} (hd : 3 ≤ d) (hyp : mM C l 1 YX12_isFull [(2, 245), (0, 2), (0, 20), (0, x1)] h (fun r1 h3 => ((r1 = 0 → mM C l 2 YX12_leafTold [(2, 245)] h3 (fun r4 h6 => mM C l 2 YX12_cellTold [(2, 245), (0, r4)] h6 (fun r7 h9 => ((h9 245 5 = 0 → 0 ≤ r4 ∧ r4 < 6 ∧ (∀ h12 : mf_M, h12 = mf_up h9 279 r4 (mf_or (h9 279 r4) (mf_shl 1 r7)) → (∀ h13 : mf_M, h13 = mf_up h12 277 2 (mf_w32 ((h12 277 2) + 1)) → K 0 h13))) ∧ (¬ h9 245 5 = 0 → K 0 h9))))) ∧ (¬ r1 = 0 → K 0 h3)))) : mM C l d YX12_glossTold [(2, 245), (0, x1)] h K := by
  intro g hG
  refine mf_entry (by decide) (Nat.le_of_ble_eq_true rfl) ?_
  refine mf_aload_n (mf_dat eX12_glossTold 0 rfl) rfl rfl ?_
  refine mf_iconst (v := 2) (mf_dat eX12_glossTold 1 rfl) (by decide) ?_
  refine mf_bipush (v := 20) (mf_dat eX12_glossTold 2 rfl) (by decide) ?_
  refine mf_iload_n (mf_dat eX12_glossTold 3 rfl) rfl rfl ?_
  refine mf_callV (Yc := YX12_isFull) (r := (RX12, TX12, 106)) (ci := 12) (mf_dat eX12_glossTold 4 rfl) ml_X12_320 okX12_isFull im_X12_isFull sl_X12_isFull rfl rfl rfl rfl (Nat.le_of_ble_eq_true rfl) (mf_rr (Nat.le_trans (by decide) hd) (Nat.le_refl _)) (Nat.le_refl _) is245 (hyp g hG) (fun r1 g2 h3 hyp => ?_)
  obtain ⟨hgg, hyp⟩ := hyp
  subst hgg
  refine mf_if_eq (tgt := 12) (mf_dat eX12_glossTold 5 rfl) (by decide) (fun hc => ?_) (fun hc => ?_)
  · replace hyp := hyp.1 hc
    refine mf_aload_n (mf_dat eX12_glossTold 7 rfl) rfl rfl ?_
    refine mf_callV (Yc := YX12_leafTold) (r := (RX12, TX12, 106)) (ci := 12) (mf_dat eX12_glossTold 8 rfl) ml_X12_324 okX12_leafTold im_X12_leafTold sl_X12_leafTold rfl rfl rfl rfl (Nat.le_of_ble_eq_true rfl) (mf_rr (Nat.le_trans (by decide) hd) (Nat.le_refl _)) (Nat.le_refl _) is245 (hyp g2 hG) (fun r4 g5 h6 hyp => ?_)
    obtain ⟨hgg, hyp⟩ := hyp
    subst hgg
    refine mf_istore_n (mf_dat eX12_glossTold 9 rfl) rfl (by decide) ?_
    refine mf_aload_n (mf_dat eX12_glossTold 10 rfl) rfl rfl ?_
    refine mf_iload_n (mf_dat eX12_glossTold 11 rfl) rfl rfl ?_
    refine mf_callV (Yc := YX12_cellTold) (r := (RX12, TX12, 106)) (ci := 12) (mf_dat eX12_glossTold 12 rfl) ml_X12_327 okX12_cellTold im_X12_cellTold sl_X12_cellTold rfl rfl rfl rfl (Nat.le_of_ble_eq_true rfl) (mf_rr (Nat.le_trans (by decide) hd) (Nat.le_refl _)) (Nat.le_refl _) is245 (hyp g5 hG) (fun r7 g8 h9 hyp => ?_)
    obtain ⟨hgg, hyp⟩ := hyp
    subst hgg
    refine mf_istore_n (mf_dat eX12_glossTold 13 rfl) rfl (by decide) ?_
    refine mf_aload_n (mf_dat eX12_glossTold 14 rfl) rfl rfl ?_
    refine mf_getf (r := (RX12, TX12, 106)) (ci := 12) (k := 5) (t := 0) (v := h9 245 5) (mf_dat eX12_glossTold 15 rfl) fl_X12_243 rfl (by decide) rfl rfl is245 ?_
    refine mf_if_eq (tgt := 31) (mf_dat eX12_glossTold 16 rfl) (by decide) (fun hc => ?_) (fun hc => ?_)
    · replace hyp := hyp.1 hc
      refine mf_aload_n (mf_dat eX12_glossTold 18 rfl) rfl rfl ?_
      refine mf_getf (r := (RX12, TX12, 106)) (ci := 12) (k := 43) (t := 2) (v := 279) (mf_dat eX12_glossTold 19 rfl) fl_X12_115 rfl (by decide) rfl (gm_43 hG) is245 ?_
      refine mf_iload_n (mf_dat eX12_glossTold 20 rfl) rfl rfl ?_
      refine mf_dup2 (mf_dat eX12_glossTold 21 rfl) (by decide) (by decide) ?_
      obtain ⟨ck10, hyp⟩ := hyp
      obtain ⟨ck11, hyp⟩ := hyp
      refine mf_iald (mf_dat eX12_glossTold 22 rfl) is279 len279 ck10 ck11 ?_
      refine mf_iconst (v := 1) (mf_dat eX12_glossTold 23 rfl) (by decide) ?_
      refine mf_iload_n (mf_dat eX12_glossTold 24 rfl) rfl rfl ?_
      refine mf_ishl (mf_dat eX12_glossTold 25 rfl) ?_
      refine mf_ior (mf_dat eX12_glossTold 26 rfl) ?_
      refine mf_iast (mf_dat eX12_glossTold 27 rfl) is279 len279 ck10 ck11 ?_
      generalize qh12 : mf_up h9 279 r4 (mf_or (h9 279 r4) (mf_shl 1 r7)) = h12
      replace hyp := hyp _ qh12.symm
      refine mf_aload_n (mf_dat eX12_glossTold 28 rfl) rfl rfl ?_
      refine mf_getf (r := (RX12, TX12, 106)) (ci := 12) (k := 41) (t := 2) (v := 277) (mf_dat eX12_glossTold 29 rfl) fl_X12_108 rfl (by decide) rfl (gm_41 hG) is245 ?_
      refine mf_iconst (v := 2) (mf_dat eX12_glossTold 30 rfl) (by decide) ?_
      refine mf_dup2 (mf_dat eX12_glossTold 31 rfl) (by decide) (by decide) ?_
      refine mf_iald (mf_dat eX12_glossTold 32 rfl) is277 len277 (by decide) (by decide) ?_
      refine mf_iconst (v := 1) (mf_dat eX12_glossTold 33 rfl) (by decide) ?_
      refine mf_iadd (mf_dat eX12_glossTold 34 rfl) ?_
      refine mf_iast (mf_dat eX12_glossTold 35 rfl) is277 len277 (by decide) (by decide) ?_
      generalize qh13 : mf_up h12 277 2 (mf_w32 ((h12 277 2) + 1)) = h13
      replace hyp := hyp _ qh13.symm
      exact mf_return (mf_dat eX12_glossTold 36 rfl) rfl ⟨rfl, hyp⟩
    · replace hyp := hyp.2 hc
      exact mf_return (mf_dat eX12_glossTold 17 rfl) rfl ⟨rfl, hyp⟩
  · replace hyp := hyp.2 hc
    exact mf_return (mf_dat eX12_glossTold 6 rfl) rfl ⟨rfl, hyp⟩
abbrev BX12_wormTold_43 (C : mf_G) (l : Launch) (d : Nat) (K : Int → mf_M → Prop) (x2 x3 : Int) (h : mf_M) : Prop := jM C l d YX12_wormTold K 43 [(0, (2, 245)), (2, (0, x2)), (3, (0, x3))] [] h
set_option maxRecDepth 100000 in
set_option maxHeartbeats 4000000 in
theorem vX12_wormTold_43 {C : mf_G} {l : Launch} {d : Nat} {K : Int → mf_M → Prop} {x2 x3 : Int} {h : mf_M} (hd : 2 ≤ d) (hyp : mM C l 1 YX12_number [(2, 245), (0, 0), (0, mf_w32 ((h 276 1) - 1))] h (fun r1 h3 => ((h3 245 5 = 0 → (∀ v4 : Int, v4 = mf_w32 (3 * (h3 277 1)) → 0 ≤ v4 ∧ v4 < 72 ∧ (∀ h7 : mf_M, h7 = mf_up h3 280 v4 x2 → 0 ≤ mf_w32 (v4 + 1) ∧ mf_w32 (v4 + 1) < 72 ∧ (∀ h10 : mf_M, h10 = mf_up h7 280 (mf_w32 (v4 + 1)) x3 → 0 ≤ mf_w32 (v4 + 2) ∧ mf_w32 (v4 + 2) < 72 ∧ (∀ h13 : mf_M, h13 = mf_up h10 280 (mf_w32 (v4 + 2)) r1 → (∀ h14 : mf_M, h14 = mf_up h13 277 1 (mf_w32 ((h13 277 1) + 1)) → K 0 h14)))))) ∧ (¬ h3 245 5 = 0 → K 0 h3)))) : BX12_wormTold_43 C l d K x2 x3 h := by
  intro g hG
  refine mf_aload_n (mf_dat eX12_wormTold_p0 24 rfl) rfl rfl ?_
  refine mf_iconst (v := 0) (mf_dat eX12_wormTold_p0 25 rfl) (by decide) ?_
  refine mf_aload_n (mf_dat eX12_wormTold_p0 26 rfl) rfl rfl ?_
  refine mf_getf (r := (RX12, TX12, 106)) (ci := 12) (k := 40) (t := 2) (v := 276) (mf_dat eX12_wormTold_p0 27 rfl) fl_X12_105 rfl (by decide) rfl (gm_40 hG) is245 ?_
  refine mf_iconst (v := 1) (mf_dat eX12_wormTold_p0 28 rfl) (by decide) ?_
  refine mf_iald (mf_dat eX12_wormTold_p0 29 rfl) is276 len276 (by decide) (by decide) ?_
  refine mf_iconst (v := 1) (mf_dat eX12_wormTold_p0 30 rfl) (by decide) ?_
  refine mf_isub (mf_dat eX12_wormTold_p0 31 rfl) ?_
  refine mf_callV (Yc := YX12_number) (r := (RX12, TX12, 106)) (ci := 12) (mf_dat eX12_wormTold_p0 32 rfl) ml_X12_308 okX12_number im_X12_number sl_X12_number rfl rfl rfl rfl (Nat.le_of_ble_eq_true rfl) (mf_rr (Nat.le_trans (by decide) hd) (Nat.le_refl _)) (Nat.le_refl _) is245 (hyp g hG) (fun r1 g2 h3 hyp => ?_)
  obtain ⟨hgg, hyp⟩ := hyp
  subst hgg
  refine mf_istore (mf_dat eX12_wormTold_p0 33 rfl) (by decide) ?_
  refine mf_aload_n (mf_dat eX12_wormTold_p0 34 rfl) rfl rfl ?_
  refine mf_getf (r := (RX12, TX12, 106)) (ci := 12) (k := 5) (t := 0) (v := h3 245 5) (mf_dat eX12_wormTold_p0 35 rfl) fl_X12_243 rfl (by decide) rfl rfl is245 ?_
  refine mf_if_eq (tgt := 66) (mf_dat eX12_wormTold_p0 36 rfl) (by decide) (fun hc => ?_) (fun hc => ?_)
  · replace hyp := hyp.1 hc
    refine mf_iconst (v := 3) (mf_dat eX12_wormTold_p0 38 rfl) (by decide) ?_
    refine mf_aload_n (mf_dat eX12_wormTold_p0 39 rfl) rfl rfl ?_
    refine mf_getf (r := (RX12, TX12, 106)) (ci := 12) (k := 41) (t := 2) (v := 277) (mf_dat eX12_wormTold_p0 40 rfl) fl_X12_108 rfl (by decide) rfl (gm_41 hG) is245 ?_
    refine mf_iconst (v := 1) (mf_dat eX12_wormTold_p0 41 rfl) (by decide) ?_
    refine mf_iald (mf_dat eX12_wormTold_p0 42 rfl) is277 len277 (by decide) (by decide) ?_
    refine mf_imul (mf_dat eX12_wormTold_p0 43 rfl) ?_
    generalize qv4 : mf_w32 (3 * (h3 277 1)) = v4
    replace hyp := hyp _ qv4.symm
    refine mf_istore (mf_dat eX12_wormTold_p0 44 rfl) (by decide) ?_
    refine mf_aload_n (mf_dat eX12_wormTold_p0 45 rfl) rfl rfl ?_
    refine mf_getf (r := (RX12, TX12, 106)) (ci := 12) (k := 44) (t := 2) (v := 280) (mf_dat eX12_wormTold_p0 46 rfl) fl_X12_118 rfl (by decide) rfl (gm_44 hG) is245 ?_
    refine mf_iload (mf_dat eX12_wormTold_p0 47 rfl) rfl ?_
    refine mf_iload_n (mf_dat eX12_wormTold_p0 48 rfl) rfl rfl ?_
    obtain ⟨ck5, hyp⟩ := hyp
    obtain ⟨ck6, hyp⟩ := hyp
    refine mf_iast (mf_dat eX12_wormTold_p0 49 rfl) is280 len280 ck5 ck6 ?_
    generalize qh7 : mf_up h3 280 v4 x2 = h7
    replace hyp := hyp _ qh7.symm
    refine mf_aload_n (mf_dat eX12_wormTold_p0 50 rfl) rfl rfl ?_
    refine mf_getf (r := (RX12, TX12, 106)) (ci := 12) (k := 44) (t := 2) (v := 280) (mf_dat eX12_wormTold_p0 51 rfl) fl_X12_118 rfl (by decide) rfl (gm_44 hG) is245 ?_
    refine mf_iload (mf_dat eX12_wormTold_p0 52 rfl) rfl ?_
    refine mf_iconst (v := 1) (mf_dat eX12_wormTold_p0 53 rfl) (by decide) ?_
    refine mf_iadd (mf_dat eX12_wormTold_p0 54 rfl) ?_
    refine mf_iload_n (mf_dat eX12_wormTold_p0 55 rfl) rfl rfl ?_
    obtain ⟨ck8, hyp⟩ := hyp
    obtain ⟨ck9, hyp⟩ := hyp
    refine mf_iast (mf_dat eX12_wormTold_p0 56 rfl) is280 len280 ck8 ck9 ?_
    generalize qh10 : mf_up h7 280 (mf_w32 (v4 + 1)) x3 = h10
    replace hyp := hyp _ qh10.symm
    refine mf_aload_n (mf_dat eX12_wormTold_p0 57 rfl) rfl rfl ?_
    refine mf_getf (r := (RX12, TX12, 106)) (ci := 12) (k := 44) (t := 2) (v := 280) (mf_dat eX12_wormTold_p0 58 rfl) fl_X12_118 rfl (by decide) rfl (gm_44 hG) is245 ?_
    refine mf_iload (mf_dat eX12_wormTold_p0 59 rfl) rfl ?_
    refine mf_iconst (v := 2) (mf_dat eX12_wormTold_p1 0 rfl) (by decide) ?_
    refine mf_iadd (mf_dat eX12_wormTold_p1 1 rfl) ?_
    refine mf_iload (mf_dat eX12_wormTold_p1 2 rfl) rfl ?_
    obtain ⟨ck11, hyp⟩ := hyp
    obtain ⟨ck12, hyp⟩ := hyp
    refine mf_iast (mf_dat eX12_wormTold_p1 3 rfl) is280 len280 ck11 ck12 ?_
    generalize qh13 : mf_up h10 280 (mf_w32 (v4 + 2)) r1 = h13
    replace hyp := hyp _ qh13.symm
    refine mf_aload_n (mf_dat eX12_wormTold_p1 4 rfl) rfl rfl ?_
    refine mf_getf (r := (RX12, TX12, 106)) (ci := 12) (k := 41) (t := 2) (v := 277) (mf_dat eX12_wormTold_p1 5 rfl) fl_X12_108 rfl (by decide) rfl (gm_41 hG) is245 ?_
    refine mf_iconst (v := 1) (mf_dat eX12_wormTold_p1 6 rfl) (by decide) ?_
    refine mf_dup2 (mf_dat eX12_wormTold_p1 7 rfl) (by decide) (by decide) ?_
    refine mf_iald (mf_dat eX12_wormTold_p1 8 rfl) is277 len277 (by decide) (by decide) ?_
    refine mf_iconst (v := 1) (mf_dat eX12_wormTold_p1 9 rfl) (by decide) ?_
    refine mf_iadd (mf_dat eX12_wormTold_p1 10 rfl) ?_
    refine mf_iast (mf_dat eX12_wormTold_p1 11 rfl) is277 len277 (by decide) (by decide) ?_
    generalize qh14 : mf_up h13 277 1 (mf_w32 ((h13 277 1) + 1)) = h14
    replace hyp := hyp _ qh14.symm
    exact mf_return (mf_dat eX12_wormTold_p1 12 rfl) rfl ⟨rfl, hyp⟩
  · replace hyp := hyp.2 hc
    exact mf_return (mf_dat eX12_wormTold_p0 37 rfl) rfl ⟨rfl, hyp⟩
set_option maxRecDepth 100000 in
set_option maxHeartbeats 4000000 in
theorem wX12_wormTold {C : mf_G} {l : Launch} {d : Nat} {K : Int → mf_M → Prop} {x1 : Int} {h : mf_M} (hd : 3 ≤ d) (hyp : mM C l 1 YX12_isFull [(2, 245), (0, 1), (0, 12), (0, x1)] h (fun r1 h3 => ((r1 = 0 → mM C l 2 YX12_leafTold [(2, 245)] h3 (fun r4 h6 => mM C l 2 YX12_leafTold [(2, 245)] h6 (fun r7 h9 => ((¬ h9 245 5 = 0 → BX12_wormTold_43 C l d K r4 r7 h9) ∧ (h9 245 5 = 0 → ((¬ r4 = r7 → BX12_wormTold_43 C l d K r4 r7 h9) ∧ (r4 = r7 → mM C l 0 YX12_fail [(2, 245), (0, 2), (0, h9 245 10)] h9 (fun r10 h12 => BX12_wormTold_43 C l d K r4 r7 h12)))))))) ∧ (¬ r1 = 0 → K 0 h3)))) : mM C l d YX12_wormTold [(2, 245), (0, x1)] h K := by
  intro g hG
  refine mf_entry (by decide) (Nat.le_of_ble_eq_true rfl) ?_
  refine mf_aload_n (mf_dat eX12_wormTold_p0 0 rfl) rfl rfl ?_
  refine mf_iconst (v := 1) (mf_dat eX12_wormTold_p0 1 rfl) (by decide) ?_
  refine mf_bipush (v := 12) (mf_dat eX12_wormTold_p0 2 rfl) (by decide) ?_
  refine mf_iload_n (mf_dat eX12_wormTold_p0 3 rfl) rfl rfl ?_
  refine mf_callV (Yc := YX12_isFull) (r := (RX12, TX12, 106)) (ci := 12) (mf_dat eX12_wormTold_p0 4 rfl) ml_X12_320 okX12_isFull im_X12_isFull sl_X12_isFull rfl rfl rfl rfl (Nat.le_of_ble_eq_true rfl) (mf_rr (Nat.le_trans (by decide) hd) (Nat.le_refl _)) (Nat.le_refl _) is245 (hyp g hG) (fun r1 g2 h3 hyp => ?_)
  obtain ⟨hgg, hyp⟩ := hyp
  subst hgg
  refine mf_if_eq (tgt := 12) (mf_dat eX12_wormTold_p0 5 rfl) (by decide) (fun hc => ?_) (fun hc => ?_)
  · replace hyp := hyp.1 hc
    refine mf_aload_n (mf_dat eX12_wormTold_p0 7 rfl) rfl rfl ?_
    refine mf_callV (Yc := YX12_leafTold) (r := (RX12, TX12, 106)) (ci := 12) (mf_dat eX12_wormTold_p0 8 rfl) ml_X12_324 okX12_leafTold im_X12_leafTold sl_X12_leafTold rfl rfl rfl rfl (Nat.le_of_ble_eq_true rfl) (mf_rr (Nat.le_trans (by decide) hd) (Nat.le_refl _)) (Nat.le_refl _) is245 (hyp g2 hG) (fun r4 g5 h6 hyp => ?_)
    obtain ⟨hgg, hyp⟩ := hyp
    subst hgg
    refine mf_istore_n (mf_dat eX12_wormTold_p0 9 rfl) rfl (by decide) ?_
    refine mf_aload_n (mf_dat eX12_wormTold_p0 10 rfl) rfl rfl ?_
    refine mf_callV (Yc := YX12_leafTold) (r := (RX12, TX12, 106)) (ci := 12) (mf_dat eX12_wormTold_p0 11 rfl) ml_X12_324 okX12_leafTold im_X12_leafTold sl_X12_leafTold rfl rfl rfl rfl (Nat.le_of_ble_eq_true rfl) (mf_rr (Nat.le_trans (by decide) hd) (Nat.le_refl _)) (Nat.le_refl _) is245 (hyp g5 hG) (fun r7 g8 h9 hyp => ?_)
    obtain ⟨hgg, hyp⟩ := hyp
    subst hgg
    refine mf_istore_n (mf_dat eX12_wormTold_p0 12 rfl) rfl (by decide) ?_
    refine mf_aload_n (mf_dat eX12_wormTold_p0 13 rfl) rfl rfl ?_
    refine mf_getf (r := (RX12, TX12, 106)) (ci := 12) (k := 5) (t := 0) (v := h9 245 5) (mf_dat eX12_wormTold_p0 14 rfl) fl_X12_243 rfl (by decide) rfl rfl is245 ?_
    refine mf_if_ne (tgt := 43) (mf_dat eX12_wormTold_p0 15 rfl) (by decide) (fun hc => ?_) (fun hc => ?_)
    · replace hyp := hyp.1 hc
      exact mf_sub [2, 1, 0] rfl (hyp g8 hG)
    · replace hyp := hyp.2 hc
      refine mf_iload_n (mf_dat eX12_wormTold_p0 16 rfl) rfl rfl ?_
      refine mf_iload_n (mf_dat eX12_wormTold_p0 17 rfl) rfl rfl ?_
      refine mf_icmp_ne (tgt := 43) (mf_dat eX12_wormTold_p0 18 rfl) (by decide) (fun hc => ?_) (fun hc => ?_)
      · replace hyp := hyp.1 hc
        exact mf_sub [2, 1, 0] rfl (hyp g8 hG)
      · replace hyp := hyp.2 hc
        refine mf_aload_n (mf_dat eX12_wormTold_p0 19 rfl) rfl rfl ?_
        refine mf_iconst (v := 2) (mf_dat eX12_wormTold_p0 20 rfl) (by decide) ?_
        refine mf_aload_n (mf_dat eX12_wormTold_p0 21 rfl) rfl rfl ?_
        refine mf_getf (r := (RX12, TX12, 106)) (ci := 12) (k := 10) (t := 0) (v := h9 245 10) (mf_dat eX12_wormTold_p0 22 rfl) fl_X12_283 rfl (by decide) rfl rfl is245 ?_
        refine mf_callV (Yc := YX12_fail) (r := (RX12, TX12, 106)) (ci := 12) (mf_dat eX12_wormTold_p0 23 rfl) ml_X12_273 okX12_fail im_X12_fail sl_X12_fail rfl rfl rfl rfl (Nat.le_of_ble_eq_true rfl) (mf_rr (Nat.le_trans (by decide) hd) (Nat.le_refl _)) (Nat.le_refl _) is245 (hyp g8 hG) (fun r10 g11 h12 hyp => ?_)
        obtain ⟨hgg, hyp⟩ := hyp
        subst hgg
        exact mf_sub [2, 1, 0] rfl (hyp g11 hG)
  · replace hyp := hyp.2 hc
    exact mf_return (mf_dat eX12_wormTold_p0 6 rfl) rfl ⟨rfl, hyp⟩
abbrev BX12_beingTold_20 (C : mf_G) (l : Launch) (d : Nat) (K : Int → mf_M → Prop) (x2 x4 : Int) (h : mf_M) : Prop := jM C l d YX12_beingTold K 20 [(0, (2, 245)), (2, (1, x2)), (4, (0, x4))] [] h
set_option maxRecDepth 100000 in
set_option maxHeartbeats 4000000 in
theorem vX12_beingTold_20 {C : mf_G} {l : Launch} {d : Nat} {K : Int → mf_M → Prop} {x2 x4 : Int} {h : mf_M} (hd : 4 ≤ d) (hyp : ((h 277 0 ≤ x4 → mM C l 3 YX12_asks [(2, 245), (2, 253)] h (fun r1 h3 => mM C l 2 YX12_leafTold [(2, 245)] h3 (fun r4 h6 => mM C l 3 YX12_asks [(2, 245), (2, 254)] h6 (fun r7 h9 => mM C l 2 YX12_cellTold [(2, 245), (0, r4)] h9 (fun r10 h12 => mM C l 3 YX12_asks [(2, 245), (2, 255)] h12 (fun r13 h15 => mM C l 1 YX12_number [(2, 245), (0, 0), (0, 9)] h15 (fun r16 h18 => ((h18 245 5 = 0 → 0 ≤ h18 277 0 ∧ h18 277 0 < 16 ∧ (∀ h21 : mf_M, h21 = mf_up h18 278 (h18 277 0) x2 → 0 ≤ mf_w32 (2 * (h21 277 0)) ∧ mf_w32 (2 * (h21 277 0)) < 16 ∧ (∀ h24 : mf_M, h24 = mf_up h21 281 (mf_w32 (2 * (h21 277 0))) r4 → 0 ≤ mf_w32 ((mf_w32 (2 * (h24 277 0))) + 1) ∧ mf_w32 ((mf_w32 (2 * (h24 277 0))) + 1) < 16 ∧ (∀ h27 : mf_M, h27 = mf_up h24 281 (mf_w32 ((mf_w32 (2 * (h24 277 0))) + 1)) r10 → 0 ≤ h27 277 0 ∧ h27 277 0 < 16 ∧ (∀ h30 : mf_M, h30 = mf_up h27 282 (h27 277 0) r16 → (∀ h31 : mf_M, h31 = mf_up h30 277 0 (mf_w32 ((h30 277 0) + 1)) → K 0 h31)))))) ∧ (¬ h18 245 5 = 0 → K 0 h18))))))))) ∧ (¬ h 277 0 ≤ x4 → ((¬ h 245 5 = 0 → (∀ v32 : Int, v32 = mf_w32 (x4 + 1) → BX12_beingTold_20 C l d K x2 v32 h)) ∧ (h 245 5 = 0 → 0 ≤ x4 ∧ x4 < 16 ∧ ((¬ h 278 x4 = x2 → (∀ v35 : Int, v35 = mf_w32 (x4 + 1) → BX12_beingTold_20 C l d K x2 v35 h)) ∧ (h 278 x4 = x2 → mM C l 0 YX12_fail [(2, 245), (0, 3), (0, h 245 39)] h (fun r36 h38 => (∀ v39 : Int, v39 = mf_w32 (x4 + 1) → BX12_beingTold_20 C l d K x2 v39 h38))))))))) : BX12_beingTold_20 C l d K x2 x4 h := by
  intro g hG
  refine mf_iload (mf_dat eX12_beingTold_p0 12 rfl) rfl ?_
  refine mf_aload_n (mf_dat eX12_beingTold_p0 13 rfl) rfl rfl ?_
  refine mf_getf (r := (RX12, TX12, 106)) (ci := 12) (k := 41) (t := 2) (v := 277) (mf_dat eX12_beingTold_p0 14 rfl) fl_X12_108 rfl (by decide) rfl (gm_41 hG) is245 ?_
  refine mf_iconst (v := 0) (mf_dat eX12_beingTold_p0 15 rfl) (by decide) ?_
  refine mf_iald (mf_dat eX12_beingTold_p0 16 rfl) is277 len277 (by decide) (by decide) ?_
  refine mf_icmp_ge (tgt := 65) (mf_dat eX12_beingTold_p0 17 rfl) (by decide) (fun hc => ?_) (fun hc => ?_)
  · replace hyp := hyp.1 hc
    refine mf_aload_n (mf_dat eX12_beingTold_p0 35 rfl) rfl rfl ?_
    refine mf_aload_n (mf_dat eX12_beingTold_p0 36 rfl) rfl rfl ?_
    refine mf_getf (r := (RX12, TX12, 106)) (ci := 12) (k := 16) (t := 2) (v := 253) (mf_dat eX12_beingTold_p0 37 rfl) fl_X12_36 rfl (by decide) rfl (gm_16 hG) is245 ?_
    refine mf_callV (Yc := YX12_asks) (r := (RX12, TX12, 106)) (ci := 12) (mf_dat eX12_beingTold_p0 38 rfl) ml_X12_304 okX12_asks im_X12_asks sl_X12_asks rfl rfl rfl rfl (Nat.le_of_ble_eq_true rfl) (mf_rr (Nat.le_trans (by decide) hd) (Nat.le_refl _)) (Nat.le_refl _) is245 (hyp g hG) (fun r1 g2 h3 hyp => ?_)
    obtain ⟨hgg, hyp⟩ := hyp
    subst hgg
    refine mf_aload_n (mf_dat eX12_beingTold_p0 39 rfl) rfl rfl ?_
    refine mf_callV (Yc := YX12_leafTold) (r := (RX12, TX12, 106)) (ci := 12) (mf_dat eX12_beingTold_p0 40 rfl) ml_X12_324 okX12_leafTold im_X12_leafTold sl_X12_leafTold rfl rfl rfl rfl (Nat.le_of_ble_eq_true rfl) (mf_rr (Nat.le_trans (by decide) hd) (Nat.le_refl _)) (Nat.le_refl _) is245 (hyp g2 hG) (fun r4 g5 h6 hyp => ?_)
    obtain ⟨hgg, hyp⟩ := hyp
    subst hgg
    refine mf_istore (mf_dat eX12_beingTold_p0 41 rfl) (by decide) ?_
    refine mf_aload_n (mf_dat eX12_beingTold_p0 42 rfl) rfl rfl ?_
    refine mf_aload_n (mf_dat eX12_beingTold_p0 43 rfl) rfl rfl ?_
    refine mf_getf (r := (RX12, TX12, 106)) (ci := 12) (k := 17) (t := 2) (v := 254) (mf_dat eX12_beingTold_p0 44 rfl) fl_X12_39 rfl (by decide) rfl (gm_17 hG) is245 ?_
    refine mf_callV (Yc := YX12_asks) (r := (RX12, TX12, 106)) (ci := 12) (mf_dat eX12_beingTold_p0 45 rfl) ml_X12_304 okX12_asks im_X12_asks sl_X12_asks rfl rfl rfl rfl (Nat.le_of_ble_eq_true rfl) (mf_rr (Nat.le_trans (by decide) hd) (Nat.le_refl _)) (Nat.le_refl _) is245 (hyp g5 hG) (fun r7 g8 h9 hyp => ?_)
    obtain ⟨hgg, hyp⟩ := hyp
    subst hgg
    refine mf_aload_n (mf_dat eX12_beingTold_p0 46 rfl) rfl rfl ?_
    refine mf_iload (mf_dat eX12_beingTold_p0 47 rfl) rfl ?_
    refine mf_callV (Yc := YX12_cellTold) (r := (RX12, TX12, 106)) (ci := 12) (mf_dat eX12_beingTold_p0 48 rfl) ml_X12_327 okX12_cellTold im_X12_cellTold sl_X12_cellTold rfl rfl rfl rfl (Nat.le_of_ble_eq_true rfl) (mf_rr (Nat.le_trans (by decide) hd) (Nat.le_refl _)) (Nat.le_refl _) is245 (hyp g8 hG) (fun r10 g11 h12 hyp => ?_)
    obtain ⟨hgg, hyp⟩ := hyp
    subst hgg
    refine mf_istore (mf_dat eX12_beingTold_p0 49 rfl) (by decide) ?_
    refine mf_aload_n (mf_dat eX12_beingTold_p0 50 rfl) rfl rfl ?_
    refine mf_aload_n (mf_dat eX12_beingTold_p0 51 rfl) rfl rfl ?_
    refine mf_getf (r := (RX12, TX12, 106)) (ci := 12) (k := 18) (t := 2) (v := 255) (mf_dat eX12_beingTold_p0 52 rfl) fl_X12_42 rfl (by decide) rfl (gm_18 hG) is245 ?_
    refine mf_callV (Yc := YX12_asks) (r := (RX12, TX12, 106)) (ci := 12) (mf_dat eX12_beingTold_p0 53 rfl) ml_X12_304 okX12_asks im_X12_asks sl_X12_asks rfl rfl rfl rfl (Nat.le_of_ble_eq_true rfl) (mf_rr (Nat.le_trans (by decide) hd) (Nat.le_refl _)) (Nat.le_refl _) is245 (hyp g11 hG) (fun r13 g14 h15 hyp => ?_)
    obtain ⟨hgg, hyp⟩ := hyp
    subst hgg
    refine mf_aload_n (mf_dat eX12_beingTold_p0 54 rfl) rfl rfl ?_
    refine mf_iconst (v := 0) (mf_dat eX12_beingTold_p0 55 rfl) (by decide) ?_
    refine mf_bipush (v := 9) (mf_dat eX12_beingTold_p0 56 rfl) (by decide) ?_
    refine mf_callV (Yc := YX12_number) (r := (RX12, TX12, 106)) (ci := 12) (mf_dat eX12_beingTold_p0 57 rfl) ml_X12_308 okX12_number im_X12_number sl_X12_number rfl rfl rfl rfl (Nat.le_of_ble_eq_true rfl) (mf_rr (Nat.le_trans (by decide) hd) (Nat.le_refl _)) (Nat.le_refl _) is245 (hyp g14 hG) (fun r16 g17 h18 hyp => ?_)
    obtain ⟨hgg, hyp⟩ := hyp
    subst hgg
    refine mf_istore (mf_dat eX12_beingTold_p0 58 rfl) (by decide) ?_
    refine mf_aload_n (mf_dat eX12_beingTold_p0 59 rfl) rfl rfl ?_
    refine mf_getf (r := (RX12, TX12, 106)) (ci := 12) (k := 5) (t := 0) (v := h18 245 5) (mf_dat eX12_beingTold_p1 0 rfl) fl_X12_243 rfl (by decide) rfl rfl is245 ?_
    refine mf_if_eq (tgt := 120) (mf_dat eX12_beingTold_p1 1 rfl) (by decide) (fun hc => ?_) (fun hc => ?_)
    · replace hyp := hyp.1 hc
      refine mf_aload_n (mf_dat eX12_beingTold_p1 3 rfl) rfl rfl ?_
      refine mf_getf (r := (RX12, TX12, 106)) (ci := 12) (k := 42) (t := 2) (v := 278) (mf_dat eX12_beingTold_p1 4 rfl) fl_X12_111 rfl (by decide) rfl (gm_42 hG) is245 ?_
      refine mf_aload_n (mf_dat eX12_beingTold_p1 5 rfl) rfl rfl ?_
      refine mf_getf (r := (RX12, TX12, 106)) (ci := 12) (k := 41) (t := 2) (v := 277) (mf_dat eX12_beingTold_p1 6 rfl) fl_X12_108 rfl (by decide) rfl (gm_41 hG) is245 ?_
      refine mf_iconst (v := 0) (mf_dat eX12_beingTold_p1 7 rfl) (by decide) ?_
      refine mf_iald (mf_dat eX12_beingTold_p1 8 rfl) is277 len277 (by decide) (by decide) ?_
      refine mf_lload_n (mf_dat eX12_beingTold_p1 9 rfl) rfl rfl ?_
      obtain ⟨ck19, hyp⟩ := hyp
      obtain ⟨ck20, hyp⟩ := hyp
      refine mf_last (mf_dat eX12_beingTold_p1 10 rfl) is278 len278 ck19 ck20 ?_
      generalize qh21 : mf_up h18 278 (h18 277 0) x2 = h21
      replace hyp := hyp _ qh21.symm
      refine mf_aload_n (mf_dat eX12_beingTold_p1 11 rfl) rfl rfl ?_
      refine mf_getf (r := (RX12, TX12, 106)) (ci := 12) (k := 45) (t := 2) (v := 281) (mf_dat eX12_beingTold_p1 12 rfl) fl_X12_121 rfl (by decide) rfl (gm_45 hG) is245 ?_
      refine mf_iconst (v := 2) (mf_dat eX12_beingTold_p1 13 rfl) (by decide) ?_
      refine mf_aload_n (mf_dat eX12_beingTold_p1 14 rfl) rfl rfl ?_
      refine mf_getf (r := (RX12, TX12, 106)) (ci := 12) (k := 41) (t := 2) (v := 277) (mf_dat eX12_beingTold_p1 15 rfl) fl_X12_108 rfl (by decide) rfl (gm_41 hG) is245 ?_
      refine mf_iconst (v := 0) (mf_dat eX12_beingTold_p1 16 rfl) (by decide) ?_
      refine mf_iald (mf_dat eX12_beingTold_p1 17 rfl) is277 len277 (by decide) (by decide) ?_
      refine mf_imul (mf_dat eX12_beingTold_p1 18 rfl) ?_
      refine mf_iload (mf_dat eX12_beingTold_p1 19 rfl) rfl ?_
      obtain ⟨ck22, hyp⟩ := hyp
      obtain ⟨ck23, hyp⟩ := hyp
      refine mf_iast (mf_dat eX12_beingTold_p1 20 rfl) is281 len281 ck22 ck23 ?_
      generalize qh24 : mf_up h21 281 (mf_w32 (2 * (h21 277 0))) r4 = h24
      replace hyp := hyp _ qh24.symm
      refine mf_aload_n (mf_dat eX12_beingTold_p1 21 rfl) rfl rfl ?_
      refine mf_getf (r := (RX12, TX12, 106)) (ci := 12) (k := 45) (t := 2) (v := 281) (mf_dat eX12_beingTold_p1 22 rfl) fl_X12_121 rfl (by decide) rfl (gm_45 hG) is245 ?_
      refine mf_iconst (v := 2) (mf_dat eX12_beingTold_p1 23 rfl) (by decide) ?_
      refine mf_aload_n (mf_dat eX12_beingTold_p1 24 rfl) rfl rfl ?_
      refine mf_getf (r := (RX12, TX12, 106)) (ci := 12) (k := 41) (t := 2) (v := 277) (mf_dat eX12_beingTold_p1 25 rfl) fl_X12_108 rfl (by decide) rfl (gm_41 hG) is245 ?_
      refine mf_iconst (v := 0) (mf_dat eX12_beingTold_p1 26 rfl) (by decide) ?_
      refine mf_iald (mf_dat eX12_beingTold_p1 27 rfl) is277 len277 (by decide) (by decide) ?_
      refine mf_imul (mf_dat eX12_beingTold_p1 28 rfl) ?_
      refine mf_iconst (v := 1) (mf_dat eX12_beingTold_p1 29 rfl) (by decide) ?_
      refine mf_iadd (mf_dat eX12_beingTold_p1 30 rfl) ?_
      refine mf_iload (mf_dat eX12_beingTold_p1 31 rfl) rfl ?_
      obtain ⟨ck25, hyp⟩ := hyp
      obtain ⟨ck26, hyp⟩ := hyp
      refine mf_iast (mf_dat eX12_beingTold_p1 32 rfl) is281 len281 ck25 ck26 ?_
      generalize qh27 : mf_up h24 281 (mf_w32 ((mf_w32 (2 * (h24 277 0))) + 1)) r10 = h27
      replace hyp := hyp _ qh27.symm
      refine mf_aload_n (mf_dat eX12_beingTold_p1 33 rfl) rfl rfl ?_
      refine mf_getf (r := (RX12, TX12, 106)) (ci := 12) (k := 46) (t := 2) (v := 282) (mf_dat eX12_beingTold_p1 34 rfl) fl_X12_124 rfl (by decide) rfl (gm_46 hG) is245 ?_
      refine mf_aload_n (mf_dat eX12_beingTold_p1 35 rfl) rfl rfl ?_
      refine mf_getf (r := (RX12, TX12, 106)) (ci := 12) (k := 41) (t := 2) (v := 277) (mf_dat eX12_beingTold_p1 36 rfl) fl_X12_108 rfl (by decide) rfl (gm_41 hG) is245 ?_
      refine mf_iconst (v := 0) (mf_dat eX12_beingTold_p1 37 rfl) (by decide) ?_
      refine mf_iald (mf_dat eX12_beingTold_p1 38 rfl) is277 len277 (by decide) (by decide) ?_
      refine mf_iload (mf_dat eX12_beingTold_p1 39 rfl) rfl ?_
      obtain ⟨ck28, hyp⟩ := hyp
      obtain ⟨ck29, hyp⟩ := hyp
      refine mf_iast (mf_dat eX12_beingTold_p1 40 rfl) is282 len282 ck28 ck29 ?_
      generalize qh30 : mf_up h27 282 (h27 277 0) r16 = h30
      replace hyp := hyp _ qh30.symm
      refine mf_aload_n (mf_dat eX12_beingTold_p1 41 rfl) rfl rfl ?_
      refine mf_getf (r := (RX12, TX12, 106)) (ci := 12) (k := 41) (t := 2) (v := 277) (mf_dat eX12_beingTold_p1 42 rfl) fl_X12_108 rfl (by decide) rfl (gm_41 hG) is245 ?_
      refine mf_iconst (v := 0) (mf_dat eX12_beingTold_p1 43 rfl) (by decide) ?_
      refine mf_dup2 (mf_dat eX12_beingTold_p1 44 rfl) (by decide) (by decide) ?_
      refine mf_iald (mf_dat eX12_beingTold_p1 45 rfl) is277 len277 (by decide) (by decide) ?_
      refine mf_iconst (v := 1) (mf_dat eX12_beingTold_p1 46 rfl) (by decide) ?_
      refine mf_iadd (mf_dat eX12_beingTold_p1 47 rfl) ?_
      refine mf_iast (mf_dat eX12_beingTold_p1 48 rfl) is277 len277 (by decide) (by decide) ?_
      generalize qh31 : mf_up h30 277 0 (mf_w32 ((h30 277 0) + 1)) = h31
      replace hyp := hyp _ qh31.symm
      exact mf_return (mf_dat eX12_beingTold_p1 49 rfl) rfl ⟨rfl, hyp⟩
    · replace hyp := hyp.2 hc
      exact mf_return (mf_dat eX12_beingTold_p1 2 rfl) rfl ⟨rfl, hyp⟩
  · replace hyp := hyp.2 hc
    refine mf_aload_n (mf_dat eX12_beingTold_p0 18 rfl) rfl rfl ?_
    refine mf_getf (r := (RX12, TX12, 106)) (ci := 12) (k := 5) (t := 0) (v := h 245 5) (mf_dat eX12_beingTold_p0 19 rfl) fl_X12_243 rfl (by decide) rfl rfl is245 ?_
    refine mf_if_ne (tgt := 59) (mf_dat eX12_beingTold_p0 20 rfl) (by decide) (fun hc => ?_) (fun hc => ?_)
    · replace hyp := hyp.1 hc
      refine mf_iinc (mf_dat eX12_beingTold_p0 33 rfl) rfl (by decide) (by decide) ?_
      generalize qv32 : mf_w32 (x4 + 1) = v32
      replace hyp := hyp _ qv32.symm
      refine mf_goto (tgt := 20) (mf_dat eX12_beingTold_p0 34 rfl) (by decide) ?_
      exact mf_sub [1, 2, 0] rfl (hyp g hG)
    · replace hyp := hyp.2 hc
      refine mf_aload_n (mf_dat eX12_beingTold_p0 21 rfl) rfl rfl ?_
      refine mf_getf (r := (RX12, TX12, 106)) (ci := 12) (k := 42) (t := 2) (v := 278) (mf_dat eX12_beingTold_p0 22 rfl) fl_X12_111 rfl (by decide) rfl (gm_42 hG) is245 ?_
      refine mf_iload (mf_dat eX12_beingTold_p0 23 rfl) rfl ?_
      obtain ⟨ck33, hyp⟩ := hyp
      obtain ⟨ck34, hyp⟩ := hyp
      refine mf_lald (mf_dat eX12_beingTold_p0 24 rfl) is278 len278 ck33 ck34 ?_
      refine mf_lload_n (mf_dat eX12_beingTold_p0 25 rfl) rfl rfl ?_
      refine mf_lcmp_ne (tgt := 59) (mf_dat eX12_beingTold_p0 26 rfl) (mf_dat eX12_beingTold_p0 27 rfl) (by decide) (fun hc => ?_) (fun hc => ?_)
      · replace hyp := hyp.1 hc
        refine mf_iinc (mf_dat eX12_beingTold_p0 33 rfl) rfl (by decide) (by decide) ?_
        generalize qv35 : mf_w32 (x4 + 1) = v35
        replace hyp := hyp _ qv35.symm
        refine mf_goto (tgt := 20) (mf_dat eX12_beingTold_p0 34 rfl) (by decide) ?_
        exact mf_sub [1, 2, 0] rfl (hyp g hG)
      · replace hyp := hyp.2 hc
        refine mf_aload_n (mf_dat eX12_beingTold_p0 28 rfl) rfl rfl ?_
        refine mf_iconst (v := 3) (mf_dat eX12_beingTold_p0 29 rfl) (by decide) ?_
        refine mf_aload_n (mf_dat eX12_beingTold_p0 30 rfl) rfl rfl ?_
        refine mf_getf (r := (RX12, TX12, 106)) (ci := 12) (k := 39) (t := 0) (v := h 245 39) (mf_dat eX12_beingTold_p0 31 rfl) fl_X12_294 rfl (by decide) rfl rfl is245 ?_
        refine mf_callV (Yc := YX12_fail) (r := (RX12, TX12, 106)) (ci := 12) (mf_dat eX12_beingTold_p0 32 rfl) ml_X12_273 okX12_fail im_X12_fail sl_X12_fail rfl rfl rfl rfl (Nat.le_of_ble_eq_true rfl) (mf_rr (Nat.le_trans (by decide) hd) (Nat.le_refl _)) (Nat.le_refl _) is245 (hyp g hG) (fun r36 g37 h38 hyp => ?_)
        obtain ⟨hgg, hyp⟩ := hyp
        subst hgg
        refine mf_iinc (mf_dat eX12_beingTold_p0 33 rfl) rfl (by decide) (by decide) ?_
        generalize qv39 : mf_w32 (x4 + 1) = v39
        replace hyp := hyp _ qv39.symm
        refine mf_goto (tgt := 20) (mf_dat eX12_beingTold_p0 34 rfl) (by decide) ?_
        exact mf_sub [1, 2, 0] rfl (hyp g37 hG)
set_option maxRecDepth 100000 in
set_option maxHeartbeats 4000000 in
theorem wX12_beingTold {C : mf_G} {l : Launch} {d : Nat} {K : Int → mf_M → Prop} {x1 : Int} {h : mf_M} (hd : 4 ≤ d) (hyp : mM C l 1 YX12_isFull [(2, 245), (0, 0), (0, 8), (0, x1)] h (fun r1 h3 => ((r1 = 0 → mM C l 3 YX12_name [(2, 245)] h3 (fun r4 h6 => BX12_beingTold_20 C l d K r4 0 h6)) ∧ (¬ r1 = 0 → K 0 h3)))) : mM C l d YX12_beingTold [(2, 245), (0, x1)] h K := by
  intro g hG
  refine mf_entry (by decide) (Nat.le_of_ble_eq_true rfl) ?_
  refine mf_aload_n (mf_dat eX12_beingTold_p0 0 rfl) rfl rfl ?_
  refine mf_iconst (v := 0) (mf_dat eX12_beingTold_p0 1 rfl) (by decide) ?_
  refine mf_bipush (v := 8) (mf_dat eX12_beingTold_p0 2 rfl) (by decide) ?_
  refine mf_iload_n (mf_dat eX12_beingTold_p0 3 rfl) rfl rfl ?_
  refine mf_callV (Yc := YX12_isFull) (r := (RX12, TX12, 106)) (ci := 12) (mf_dat eX12_beingTold_p0 4 rfl) ml_X12_320 okX12_isFull im_X12_isFull sl_X12_isFull rfl rfl rfl rfl (Nat.le_of_ble_eq_true rfl) (mf_rr (Nat.le_trans (by decide) hd) (Nat.le_refl _)) (Nat.le_refl _) is245 (hyp g hG) (fun r1 g2 h3 hyp => ?_)
  obtain ⟨hgg, hyp⟩ := hyp
  subst hgg
  refine mf_if_eq (tgt := 12) (mf_dat eX12_beingTold_p0 5 rfl) (by decide) (fun hc => ?_) (fun hc => ?_)
  · replace hyp := hyp.1 hc
    refine mf_aload_n (mf_dat eX12_beingTold_p0 7 rfl) rfl rfl ?_
    refine mf_callV (Yc := YX12_name) (r := (RX12, TX12, 106)) (ci := 12) (mf_dat eX12_beingTold_p0 8 rfl) ml_X12_331 okX12_name im_X12_name sl_X12_name rfl rfl rfl rfl (Nat.le_of_ble_eq_true rfl) (mf_rr (Nat.le_trans (by decide) hd) (Nat.le_refl _)) (Nat.le_refl _) is245 (hyp g2 hG) (fun r4 g5 h6 hyp => ?_)
    obtain ⟨hgg, hyp⟩ := hyp
    subst hgg
    refine mf_lstore_n (mf_dat eX12_beingTold_p0 9 rfl) rfl (by decide) ?_
    refine mf_iconst (v := 0) (mf_dat eX12_beingTold_p0 10 rfl) (by decide) ?_
    refine mf_istore (mf_dat eX12_beingTold_p0 11 rfl) (by decide) ?_
    exact mf_sub [2, 1, 0] rfl (hyp g5 hG)
  · replace hyp := hyp.2 hc
    exact mf_return (mf_dat eX12_beingTold_p0 6 rfl) rfl ⟨rfl, hyp⟩
abbrev BX12_codesTold_23 (C : mf_G) (l : Launch) (d : Nat) (K : Int → mf_M → Prop) (x1 : Int) (h : mf_M) : Prop := jM C l d YX12_codesTold K 23 [(0, (2, 245)), (1, (0, x1))] [] h
abbrev BX12_codesTold_95 (C : mf_G) (l : Launch) (d : Nat) (K : Int → mf_M → Prop) (x1 x3 : Int) (h : mf_M) : Prop := jM C l d YX12_codesTold K 95 [(0, (2, 245)), (1, (0, x1)), (3, (0, x3))] [] h
set_option maxRecDepth 100000 in
set_option maxHeartbeats 4000000 in
theorem vX12_codesTold_23 {C : mf_G} {l : Launch} {d : Nat} {K : Int → mf_M → Prop} {x1 : Int} {h : mf_M} (hd : 9 ≤ d) (hyp : ((h 245 5 = 0 → mM C l 0 YX12_kindBy [(0, x1)] h (fun r1 h3 => (∀ h4 : mf_M, h4 = mf_up h3 245 55 r1 → (∀ h5 : mf_M, h5 = mf_up h4 245 95 0 → (∀ h6 : mf_M, h6 = mf_up h5 245 97 0 → (∀ h7 : mf_M, h7 = mf_up h6 245 98 0 → (∀ h8 : mf_M, h8 = mf_up h7 245 99 0 → ((¬ x1 = 3 → mM C l 6 YX12_qSums [(2, 245)] h8 (fun r9 h11 => ((h11 245 5 = 0 → 0 ≤ x1 ∧ x1 < 8 ∧ (∀ h14 : mf_M, h14 = mf_up h11 283 x1 (h11 245 52) → BX12_codesTold_95 C l d K x1 0 h14)) ∧ (¬ h11 245 5 = 0 → K 0 h11)))) ∧ (x1 = 3 → mM C l 8 YX12_qTest [(2, 245)] h8 (fun r15 h17 => ((h17 245 5 = 0 → 0 ≤ x1 ∧ x1 < 8 ∧ (∀ h20 : mf_M, h20 = mf_up h17 283 x1 (h17 245 52) → BX12_codesTold_95 C l d K x1 0 h20)) ∧ (¬ h17 245 5 = 0 → K 0 h17)))))))))))) ∧ (¬ h 245 5 = 0 → K 0 h))) : BX12_codesTold_23 C l d K x1 h := by
  intro g hG
  refine mf_aload_n (mf_dat eX12_codesTold_p0 13 rfl) rfl rfl ?_
  refine mf_getf (r := (RX12, TX12, 106)) (ci := 12) (k := 5) (t := 0) (v := h 245 5) (mf_dat eX12_codesTold_p0 14 rfl) fl_X12_243 rfl (by decide) rfl rfl is245 ?_
  refine mf_if_eq (tgt := 31) (mf_dat eX12_codesTold_p0 15 rfl) (by decide) (fun hc => ?_) (fun hc => ?_)
  · replace hyp := hyp.1 hc
    refine mf_aload_n (mf_dat eX12_codesTold_p0 17 rfl) rfl rfl ?_
    refine mf_iload_n (mf_dat eX12_codesTold_p0 18 rfl) rfl rfl ?_
    refine mf_callS (Yc := YX12_kindBy) (mf_dat eX12_codesTold_p0 19 rfl) ml_X12_335 okX12_kindBy sm_X12_kindBy rfl rfl (Nat.le_of_ble_eq_true rfl) (mf_rr (Nat.le_trans (by decide) hd) (Nat.le_refl _)) (Nat.le_refl _) (hyp g hG) (fun r1 g2 h3 hyp => ?_)
    obtain ⟨hgg, hyp⟩ := hyp
    subst hgg
    refine mf_putI (r := (RX12, TX12, 106)) (ci := 12) (k := 55) (kI := 55) (t := 0) (mf_dat eX12_codesTold_p0 20 rfl) fl_X12_301 rfl rfl (by decide) rfl (by decide) rfl (by decide) (fun h9 => absurd h9 (by decide)) is245 ?_
    generalize qh4 : mf_up h3 245 55 r1 = h4
    replace hyp := hyp _ qh4.symm
    refine mf_aload_n (mf_dat eX12_codesTold_p0 21 rfl) rfl rfl ?_
    refine mf_iconst (v := 0) (mf_dat eX12_codesTold_p0 22 rfl) (by decide) ?_
    refine mf_putI (r := (RX12, TX12, 106)) (ci := 12) (k := 95) (kI := 95) (t := 0) (mf_dat eX12_codesTold_p0 23 rfl) fl_X12_338 rfl rfl (by decide) rfl (by decide) rfl (by decide) (fun h9 => absurd h9 (by decide)) is245 ?_
    generalize qh5 : mf_up h4 245 95 0 = h5
    replace hyp := hyp _ qh5.symm
    refine mf_aload_n (mf_dat eX12_codesTold_p0 24 rfl) rfl rfl ?_
    refine mf_iconst (v := 0) (mf_dat eX12_codesTold_p0 25 rfl) (by decide) ?_
    refine mf_putI (r := (RX12, TX12, 106)) (ci := 12) (k := 97) (kI := 97) (t := 0) (mf_dat eX12_codesTold_p0 26 rfl) fl_X12_341 rfl rfl (by decide) rfl (by decide) rfl (by decide) (fun h9 => absurd h9 (by decide)) is245 ?_
    generalize qh6 : mf_up h5 245 97 0 = h6
    replace hyp := hyp _ qh6.symm
    refine mf_aload_n (mf_dat eX12_codesTold_p0 27 rfl) rfl rfl ?_
    refine mf_iconst (v := 0) (mf_dat eX12_codesTold_p0 28 rfl) (by decide) ?_
    refine mf_putI (r := (RX12, TX12, 106)) (ci := 12) (k := 98) (kI := 98) (t := 0) (mf_dat eX12_codesTold_p0 29 rfl) fl_X12_344 rfl rfl (by decide) rfl (by decide) rfl (by decide) (fun h9 => absurd h9 (by decide)) is245 ?_
    generalize qh7 : mf_up h6 245 98 0 = h7
    replace hyp := hyp _ qh7.symm
    refine mf_aload_n (mf_dat eX12_codesTold_p0 30 rfl) rfl rfl ?_
    refine mf_iconst (v := 0) (mf_dat eX12_codesTold_p0 31 rfl) (by decide) ?_
    refine mf_putI (r := (RX12, TX12, 106)) (ci := 12) (k := 99) (kI := 99) (t := 0) (mf_dat eX12_codesTold_p0 32 rfl) fl_X12_347 rfl rfl (by decide) rfl (by decide) rfl (by decide) (fun h9 => absurd h9 (by decide)) is245 ?_
    generalize qh8 : mf_up h7 245 99 0 = h8
    replace hyp := hyp _ qh8.symm
    refine mf_iload_n (mf_dat eX12_codesTold_p0 33 rfl) rfl rfl ?_
    refine mf_iconst (v := 3) (mf_dat eX12_codesTold_p0 34 rfl) (by decide) ?_
    refine mf_icmp_ne (tgt := 71) (mf_dat eX12_codesTold_p0 35 rfl) (by decide) (fun hc => ?_) (fun hc => ?_)
    · replace hyp := hyp.1 hc
      refine mf_aload_n (mf_dat eX12_codesTold_p0 39 rfl) rfl rfl ?_
      refine mf_callV (Yc := YX12_qSums) (r := (RX12, TX12, 106)) (ci := 12) (mf_dat eX12_codesTold_p0 40 rfl) ml_X12_353 okX12_qSums im_X12_qSums sl_X12_qSums rfl rfl rfl rfl (Nat.le_of_ble_eq_true rfl) (mf_rr (Nat.le_trans (by decide) hd) (Nat.le_refl _)) (Nat.le_refl _) is245 (hyp g2 hG) (fun r9 g10 h11 hyp => ?_)
      obtain ⟨hgg, hyp⟩ := hyp
      subst hgg
      refine mf_aload_n (mf_dat eX12_codesTold_p0 41 rfl) rfl rfl ?_
      refine mf_getf (r := (RX12, TX12, 106)) (ci := 12) (k := 5) (t := 0) (v := h11 245 5) (mf_dat eX12_codesTold_p0 42 rfl) fl_X12_243 rfl (by decide) rfl rfl is245 ?_
      refine mf_if_eq (tgt := 83) (mf_dat eX12_codesTold_p0 43 rfl) (by decide) (fun hc => ?_) (fun hc => ?_)
      · replace hyp := hyp.1 hc
        refine mf_aload_n (mf_dat eX12_codesTold_p0 45 rfl) rfl rfl ?_
        refine mf_getf (r := (RX12, TX12, 106)) (ci := 12) (k := 49) (t := 2) (v := 283) (mf_dat eX12_codesTold_p0 46 rfl) fl_X12_127 rfl (by decide) rfl (gm_49 hG) is245 ?_
        refine mf_iload_n (mf_dat eX12_codesTold_p0 47 rfl) rfl rfl ?_
        refine mf_aload_n (mf_dat eX12_codesTold_p0 48 rfl) rfl rfl ?_
        refine mf_getf (r := (RX12, TX12, 106)) (ci := 12) (k := 52) (t := 0) (v := h11 245 52) (mf_dat eX12_codesTold_p0 49 rfl) fl_X12_356 rfl (by decide) rfl rfl is245 ?_
        obtain ⟨ck12, hyp⟩ := hyp
        obtain ⟨ck13, hyp⟩ := hyp
        refine mf_iast (mf_dat eX12_codesTold_p0 50 rfl) is283 len283 ck12 ck13 ?_
        generalize qh14 : mf_up h11 283 x1 (h11 245 52) = h14
        replace hyp := hyp _ qh14.symm
        refine mf_iconst (v := 0) (mf_dat eX12_codesTold_p0 51 rfl) (by decide) ?_
        refine mf_istore_n (mf_dat eX12_codesTold_p0 52 rfl) rfl (by decide) ?_
        exact mf_sub [1, 2, 0] rfl (hyp g10 hG)
      · replace hyp := hyp.2 hc
        exact mf_return (mf_dat eX12_codesTold_p0 44 rfl) rfl ⟨rfl, hyp⟩
    · replace hyp := hyp.2 hc
      refine mf_aload_n (mf_dat eX12_codesTold_p0 36 rfl) rfl rfl ?_
      refine mf_callV (Yc := YX12_qTest) (r := (RX12, TX12, 106)) (ci := 12) (mf_dat eX12_codesTold_p0 37 rfl) ml_X12_350 okX12_qTest im_X12_qTest sl_X12_qTest rfl rfl rfl rfl (Nat.le_of_ble_eq_true rfl) (mf_rr (Nat.le_trans (by decide) hd) (Nat.le_refl _)) (Nat.le_refl _) is245 (hyp g2 hG) (fun r15 g16 h17 hyp => ?_)
      obtain ⟨hgg, hyp⟩ := hyp
      subst hgg
      refine mf_goto (tgt := 75) (mf_dat eX12_codesTold_p0 38 rfl) (by decide) ?_
      refine mf_aload_n (mf_dat eX12_codesTold_p0 41 rfl) rfl rfl ?_
      refine mf_getf (r := (RX12, TX12, 106)) (ci := 12) (k := 5) (t := 0) (v := h17 245 5) (mf_dat eX12_codesTold_p0 42 rfl) fl_X12_243 rfl (by decide) rfl rfl is245 ?_
      refine mf_if_eq (tgt := 83) (mf_dat eX12_codesTold_p0 43 rfl) (by decide) (fun hc => ?_) (fun hc => ?_)
      · replace hyp := hyp.1 hc
        refine mf_aload_n (mf_dat eX12_codesTold_p0 45 rfl) rfl rfl ?_
        refine mf_getf (r := (RX12, TX12, 106)) (ci := 12) (k := 49) (t := 2) (v := 283) (mf_dat eX12_codesTold_p0 46 rfl) fl_X12_127 rfl (by decide) rfl (gm_49 hG) is245 ?_
        refine mf_iload_n (mf_dat eX12_codesTold_p0 47 rfl) rfl rfl ?_
        refine mf_aload_n (mf_dat eX12_codesTold_p0 48 rfl) rfl rfl ?_
        refine mf_getf (r := (RX12, TX12, 106)) (ci := 12) (k := 52) (t := 0) (v := h17 245 52) (mf_dat eX12_codesTold_p0 49 rfl) fl_X12_356 rfl (by decide) rfl rfl is245 ?_
        obtain ⟨ck18, hyp⟩ := hyp
        obtain ⟨ck19, hyp⟩ := hyp
        refine mf_iast (mf_dat eX12_codesTold_p0 50 rfl) is283 len283 ck18 ck19 ?_
        generalize qh20 : mf_up h17 283 x1 (h17 245 52) = h20
        replace hyp := hyp _ qh20.symm
        refine mf_iconst (v := 0) (mf_dat eX12_codesTold_p0 51 rfl) (by decide) ?_
        refine mf_istore_n (mf_dat eX12_codesTold_p0 52 rfl) rfl (by decide) ?_
        exact mf_sub [1, 2, 0] rfl (hyp g16 hG)
      · replace hyp := hyp.2 hc
        exact mf_return (mf_dat eX12_codesTold_p0 44 rfl) rfl ⟨rfl, hyp⟩
  · replace hyp := hyp.2 hc
    exact mf_return (mf_dat eX12_codesTold_p0 16 rfl) rfl ⟨rfl, hyp⟩
set_option maxRecDepth 100000 in
set_option maxHeartbeats 4000000 in
theorem vX12_codesTold_95 {C : mf_G} {l : Launch} {d : Nat} {K : Int → mf_M → Prop} {x1 x3 : Int} {h : mf_M} (hyp : ((h 245 95 ≤ x3 → 0 ≤ x1 ∧ x1 < 8 ∧ (∀ h3 : mf_M, h3 = mf_up h 284 x1 (h 245 52) → K 0 h3)) ∧ (¬ h 245 95 ≤ x3 → 0 ≤ x3 ∧ x3 < 1700 ∧ 0 ≤ h 245 52 ∧ h 245 52 < 3200 ∧ (∀ h8 : mf_M, h8 = mf_up h 285 (h 245 52) (h 315 x3) → (∀ h9 : mf_M, h9 = mf_up h8 245 52 (mf_w32 ((h8 245 52) + 1)) → (∀ v10 : Int, v10 = mf_w32 (x3 + 1) → BX12_codesTold_95 C l d K x1 v10 h9)))))) : BX12_codesTold_95 C l d K x1 x3 h := by
  intro g hG
  refine mf_iload_n (mf_dat eX12_codesTold_p0 53 rfl) rfl rfl ?_
  refine mf_aload_n (mf_dat eX12_codesTold_p0 54 rfl) rfl rfl ?_
  refine mf_getf (r := (RX12, TX12, 106)) (ci := 12) (k := 95) (t := 0) (v := h 245 95) (mf_dat eX12_codesTold_p0 55 rfl) fl_X12_338 rfl (by decide) rfl rfl is245 ?_
  refine mf_icmp_ge (tgt := 134) (mf_dat eX12_codesTold_p0 56 rfl) (by decide) (fun hc => ?_) (fun hc => ?_)
  · replace hyp := hyp.1 hc
    refine mf_aload_n (mf_dat eX12_codesTold_p1 14 rfl) rfl rfl ?_
    refine mf_getf (r := (RX12, TX12, 106)) (ci := 12) (k := 50) (t := 2) (v := 284) (mf_dat eX12_codesTold_p1 15 rfl) fl_X12_130 rfl (by decide) rfl (gm_50 hG) is245 ?_
    refine mf_iload_n (mf_dat eX12_codesTold_p1 16 rfl) rfl rfl ?_
    refine mf_aload_n (mf_dat eX12_codesTold_p1 17 rfl) rfl rfl ?_
    refine mf_getf (r := (RX12, TX12, 106)) (ci := 12) (k := 52) (t := 0) (v := h 245 52) (mf_dat eX12_codesTold_p1 18 rfl) fl_X12_356 rfl (by decide) rfl rfl is245 ?_
    obtain ⟨ck1, hyp⟩ := hyp
    obtain ⟨ck2, hyp⟩ := hyp
    refine mf_iast (mf_dat eX12_codesTold_p1 19 rfl) is284 len284 ck1 ck2 ?_
    generalize qh3 : mf_up h 284 x1 (h 245 52) = h3
    replace hyp := hyp _ qh3.symm
    exact mf_return (mf_dat eX12_codesTold_p1 20 rfl) rfl ⟨rfl, hyp⟩
  · replace hyp := hyp.2 hc
    refine mf_aload_n (mf_dat eX12_codesTold_p0 57 rfl) rfl rfl ?_
    refine mf_getf (r := (RX12, TX12, 106)) (ci := 12) (k := 51) (t := 2) (v := 285) (mf_dat eX12_codesTold_p0 58 rfl) fl_X12_133 rfl (by decide) rfl (gm_51 hG) is245 ?_
    refine mf_aload_n (mf_dat eX12_codesTold_p0 59 rfl) rfl rfl ?_
    refine mf_getf (r := (RX12, TX12, 106)) (ci := 12) (k := 52) (t := 0) (v := h 245 52) (mf_dat eX12_codesTold_p1 0 rfl) fl_X12_356 rfl (by decide) rfl rfl is245 ?_
    refine mf_aload_n (mf_dat eX12_codesTold_p1 1 rfl) rfl rfl ?_
    refine mf_getf (r := (RX12, TX12, 106)) (ci := 12) (k := 94) (t := 2) (v := 315) (mf_dat eX12_codesTold_p1 2 rfl) fl_X12_228 rfl (by decide) rfl (gm_94 hG) is245 ?_
    refine mf_iload_n (mf_dat eX12_codesTold_p1 3 rfl) rfl rfl ?_
    obtain ⟨ck4, hyp⟩ := hyp
    obtain ⟨ck5, hyp⟩ := hyp
    refine mf_iald (mf_dat eX12_codesTold_p1 4 rfl) is315 len315 ck4 ck5 ?_
    obtain ⟨ck6, hyp⟩ := hyp
    obtain ⟨ck7, hyp⟩ := hyp
    refine mf_iast (mf_dat eX12_codesTold_p1 5 rfl) is285 len285 ck6 ck7 ?_
    generalize qh8 : mf_up h 285 (h 245 52) (h 315 x3) = h8
    replace hyp := hyp _ qh8.symm
    refine mf_aload_n (mf_dat eX12_codesTold_p1 6 rfl) rfl rfl ?_
    refine mf_dup (mf_dat eX12_codesTold_p1 7 rfl) (by decide) ?_
    refine mf_getf (r := (RX12, TX12, 106)) (ci := 12) (k := 52) (t := 0) (v := h8 245 52) (mf_dat eX12_codesTold_p1 8 rfl) fl_X12_356 rfl (by decide) rfl rfl is245 ?_
    refine mf_iconst (v := 1) (mf_dat eX12_codesTold_p1 9 rfl) (by decide) ?_
    refine mf_iadd (mf_dat eX12_codesTold_p1 10 rfl) ?_
    refine mf_putI (r := (RX12, TX12, 106)) (ci := 12) (k := 52) (kI := 52) (t := 0) (mf_dat eX12_codesTold_p1 11 rfl) fl_X12_356 rfl rfl (by decide) rfl (by decide) rfl (by decide) (fun h9 => absurd h9 (by decide)) is245 ?_
    generalize qh9 : mf_up h8 245 52 (mf_w32 ((h8 245 52) + 1)) = h9
    replace hyp := hyp _ qh9.symm
    refine mf_iinc (mf_dat eX12_codesTold_p1 12 rfl) rfl (by decide) (by decide) ?_
    generalize qv10 : mf_w32 (x3 + 1) = v10
    replace hyp := hyp _ qv10.symm
    refine mf_goto (tgt := 95) (mf_dat eX12_codesTold_p1 13 rfl) (by decide) ?_
    exact mf_sub [1, 2, 0] rfl (hyp g hG)
set_option maxRecDepth 100000 in
set_option maxHeartbeats 4000000 in
theorem wX12_codesTold {C : mf_G} {l : Launch} {d : Nat} {K : Int → mf_M → Prop} {x1 x2 : Int} {h : mf_M} (hd : 1 ≤ d) (hyp : ((¬ h 245 5 = 0 → BX12_codesTold_23 C l d K x1 h) ∧ (h 245 5 = 0 → 0 ≤ x1 ∧ x1 < 8 ∧ ((h 283 x1 = (-1) → BX12_codesTold_23 C l d K x1 h) ∧ (¬ h 283 x1 = (-1) → mM C l 0 YX12_fail [(2, 245), (0, 5), (0, x2)] h (fun r3 h5 => BX12_codesTold_23 C l d K x1 h5)))))) : mM C l d YX12_codesTold [(2, 245), (0, x1), (0, x2)] h K := by
  intro g hG
  refine mf_entry (by decide) (Nat.le_of_ble_eq_true rfl) ?_
  refine mf_aload_n (mf_dat eX12_codesTold_p0 0 rfl) rfl rfl ?_
  refine mf_getf (r := (RX12, TX12, 106)) (ci := 12) (k := 5) (t := 0) (v := h 245 5) (mf_dat eX12_codesTold_p0 1 rfl) fl_X12_243 rfl (by decide) rfl rfl is245 ?_
  refine mf_if_ne (tgt := 23) (mf_dat eX12_codesTold_p0 2 rfl) (by decide) (fun hc => ?_) (fun hc => ?_)
  · replace hyp := hyp.1 hc
    exact mf_sub [0, 1] rfl (hyp g hG)
  · replace hyp := hyp.2 hc
    refine mf_aload_n (mf_dat eX12_codesTold_p0 3 rfl) rfl rfl ?_
    refine mf_getf (r := (RX12, TX12, 106)) (ci := 12) (k := 49) (t := 2) (v := 283) (mf_dat eX12_codesTold_p0 4 rfl) fl_X12_127 rfl (by decide) rfl (gm_49 hG) is245 ?_
    refine mf_iload_n (mf_dat eX12_codesTold_p0 5 rfl) rfl rfl ?_
    obtain ⟨ck1, hyp⟩ := hyp
    obtain ⟨ck2, hyp⟩ := hyp
    refine mf_iald (mf_dat eX12_codesTold_p0 6 rfl) is283 len283 ck1 ck2 ?_
    refine mf_iconst (v := (-1)) (mf_dat eX12_codesTold_p0 7 rfl) (by decide) ?_
    refine mf_icmp_eq (tgt := 23) (mf_dat eX12_codesTold_p0 8 rfl) (by decide) (fun hc => ?_) (fun hc => ?_)
    · replace hyp := hyp.1 hc
      exact mf_sub [0, 1] rfl (hyp g hG)
    · replace hyp := hyp.2 hc
      refine mf_aload_n (mf_dat eX12_codesTold_p0 9 rfl) rfl rfl ?_
      refine mf_iconst (v := 5) (mf_dat eX12_codesTold_p0 10 rfl) (by decide) ?_
      refine mf_iload_n (mf_dat eX12_codesTold_p0 11 rfl) rfl rfl ?_
      refine mf_callV (Yc := YX12_fail) (r := (RX12, TX12, 106)) (ci := 12) (mf_dat eX12_codesTold_p0 12 rfl) ml_X12_273 okX12_fail im_X12_fail sl_X12_fail rfl rfl rfl rfl (Nat.le_of_ble_eq_true rfl) (mf_rr (Nat.le_trans (by decide) hd) (Nat.le_refl _)) (Nat.le_refl _) is245 (hyp g hG) (fun r3 g4 h5 hyp => ?_)
      obtain ⟨hgg, hyp⟩ := hyp
      subst hgg
      exact mf_sub [0, 1] rfl (hyp g4 hG)
set_option maxRecDepth 100000 in
set_option maxHeartbeats 4000000 in
theorem wX12_statementTold {C : mf_G} {l : Launch} {d : Nat} {K : Int → mf_M → Prop} {h : mf_M} (hd : 10 ≤ d) (hyp : (∀ v1 : Int, v1 = h 245 2 → ((¬ h 245 53 = 80 → mM C l 2 YX12_takes [(2, 245), (2, 250)] h (fun r2 h4 => ((r2 = 0 → mM C l 2 YX12_takes [(2, 245), (2, 251)] h4 (fun r5 h7 => ((r5 = 0 → mM C l 2 YX12_takes [(2, 245), (2, 252)] h7 (fun r8 h10 => ((r8 = 0 → mM C l 2 YX12_takes [(2, 245), (2, 256)] h10 (fun r11 h13 => ((r11 = 0 → mM C l 2 YX12_takes [(2, 245), (2, 257)] h13 (fun r14 h16 => ((r14 = 0 → mM C l 2 YX12_takes [(2, 245), (2, 258)] h16 (fun r17 h19 => ((r17 = 0 → mM C l 2 YX12_takes [(2, 245), (2, 259)] h19 (fun r20 h22 => ((r20 = 0 → mM C l 3 YX12_asks [(2, 245), (2, 260)] h22 (fun r23 h25 => mM C l 1 YX12_number [(2, 245), (0, 0), (0, 100)] h25 (fun r26 h28 => (∀ h29 : mf_M, h29 = mf_up h28 245 47 r26 → mM C l 2 YX12_asksSign [(2, 245), (0, 59)] h29 (fun r30 h32 => (∀ h33 : mf_M, h33 = mf_up h32 245 53 (mf_w32 ((h32 245 53) + 1)) → K 0 h33)))))) ∧ (¬ r20 = 0 → mM C l 9 YX12_codesTold [(2, 245), (0, 3), (0, v1)] h22 (fun r34 h36 => mM C l 2 YX12_asksSign [(2, 245), (0, 59)] h36 (fun r37 h39 => (∀ h40 : mf_M, h40 = mf_up h39 245 53 (mf_w32 ((h39 245 53) + 1)) → K 0 h40))))))) ∧ (¬ r17 = 0 → mM C l 9 YX12_codesTold [(2, 245), (0, 2), (0, v1)] h19 (fun r41 h43 => mM C l 2 YX12_asksSign [(2, 245), (0, 59)] h43 (fun r44 h46 => (∀ h47 : mf_M, h47 = mf_up h46 245 53 (mf_w32 ((h46 245 53) + 1)) → K 0 h47))))))) ∧ (¬ r14 = 0 → mM C l 9 YX12_codesTold [(2, 245), (0, 1), (0, v1)] h16 (fun r48 h50 => mM C l 2 YX12_asksSign [(2, 245), (0, 59)] h50 (fun r51 h53 => (∀ h54 : mf_M, h54 = mf_up h53 245 53 (mf_w32 ((h53 245 53) + 1)) → K 0 h54))))))) ∧ (¬ r11 = 0 → mM C l 9 YX12_codesTold [(2, 245), (0, 0), (0, v1)] h13 (fun r55 h57 => mM C l 2 YX12_asksSign [(2, 245), (0, 59)] h57 (fun r58 h60 => (∀ h61 : mf_M, h61 = mf_up h60 245 53 (mf_w32 ((h60 245 53) + 1)) → K 0 h61))))))) ∧ (¬ r8 = 0 → mM C l 4 YX12_beingTold [(2, 245), (0, v1)] h10 (fun r62 h64 => mM C l 2 YX12_asksSign [(2, 245), (0, 59)] h64 (fun r65 h67 => (∀ h68 : mf_M, h68 = mf_up h67 245 53 (mf_w32 ((h67 245 53) + 1)) → K 0 h68))))))) ∧ (¬ r5 = 0 → mM C l 3 YX12_wormTold [(2, 245), (0, v1)] h7 (fun r69 h71 => mM C l 2 YX12_asksSign [(2, 245), (0, 59)] h71 (fun r72 h74 => (∀ h75 : mf_M, h75 = mf_up h74 245 53 (mf_w32 ((h74 245 53) + 1)) → K 0 h75))))))) ∧ (¬ r2 = 0 → mM C l 3 YX12_glossTold [(2, 245), (0, v1)] h4 (fun r76 h78 => mM C l 2 YX12_asksSign [(2, 245), (0, 59)] h78 (fun r79 h81 => (∀ h82 : mf_M, h82 = mf_up h81 245 53 (mf_w32 ((h81 245 53) + 1)) → K 0 h82))))))) ∧ (h 245 53 = 80 → mM C l 0 YX12_fail [(2, 245), (0, 5), (0, v1)] h (fun r83 h85 => K 0 h85))))) : mM C l d YX12_statementTold [(2, 245)] h K := by
  intro g hG
  refine mf_entry (by decide) (Nat.le_of_ble_eq_true rfl) ?_
  refine mf_aload_n (mf_dat eX12_statementTold_p0 0 rfl) rfl rfl ?_
  refine mf_getf (r := (RX12, TX12, 106)) (ci := 12) (k := 2) (t := 0) (v := h 245 2) (mf_dat eX12_statementTold_p0 1 rfl) fl_X12_249 rfl (by decide) rfl rfl is245 ?_
  generalize qv1 : h 245 2 = v1
  replace hyp := hyp _ qv1.symm
  refine mf_istore_n (mf_dat eX12_statementTold_p0 2 rfl) rfl (by decide) ?_
  refine mf_aload_n (mf_dat eX12_statementTold_p0 3 rfl) rfl rfl ?_
  refine mf_getf (r := (RX12, TX12, 106)) (ci := 12) (k := 53) (t := 0) (v := h 245 53) (mf_dat eX12_statementTold_p0 4 rfl) fl_X12_359 rfl (by decide) rfl rfl is245 ?_
  refine mf_bipush (v := 80) (mf_dat eX12_statementTold_p0 5 rfl) (by decide) ?_
  refine mf_icmp_ne (tgt := 21) (mf_dat eX12_statementTold_p0 6 rfl) (by decide) (fun hc => ?_) (fun hc => ?_)
  · replace hyp := hyp.1 hc
    refine mf_aload_n (mf_dat eX12_statementTold_p0 12 rfl) rfl rfl ?_
    refine mf_aload_n (mf_dat eX12_statementTold_p0 13 rfl) rfl rfl ?_
    refine mf_getf (r := (RX12, TX12, 106)) (ci := 12) (k := 13) (t := 2) (v := 250) (mf_dat eX12_statementTold_p0 14 rfl) fl_X12_27 rfl (by decide) rfl (gm_13 hG) is245 ?_
    refine mf_callV (Yc := YX12_takes) (r := (RX12, TX12, 106)) (ci := 12) (mf_dat eX12_statementTold_p0 15 rfl) ml_X12_270 okX12_takes im_X12_takes sl_X12_takes rfl rfl rfl rfl (Nat.le_of_ble_eq_true rfl) (mf_rr (Nat.le_trans (by decide) hd) (Nat.le_refl _)) (Nat.le_refl _) is245 (hyp g hG) (fun r2 g3 h4 hyp => ?_)
    obtain ⟨hgg, hyp⟩ := hyp
    subst hgg
    refine mf_if_eq (tgt := 40) (mf_dat eX12_statementTold_p0 16 rfl) (by decide) (fun hc => ?_) (fun hc => ?_)
    · replace hyp := hyp.1 hc
      refine mf_aload_n (mf_dat eX12_statementTold_p0 21 rfl) rfl rfl ?_
      refine mf_aload_n (mf_dat eX12_statementTold_p0 22 rfl) rfl rfl ?_
      refine mf_getf (r := (RX12, TX12, 106)) (ci := 12) (k := 14) (t := 2) (v := 251) (mf_dat eX12_statementTold_p0 23 rfl) fl_X12_30 rfl (by decide) rfl (gm_14 hG) is245 ?_
      refine mf_callV (Yc := YX12_takes) (r := (RX12, TX12, 106)) (ci := 12) (mf_dat eX12_statementTold_p0 24 rfl) ml_X12_270 okX12_takes im_X12_takes sl_X12_takes rfl rfl rfl rfl (Nat.le_of_ble_eq_true rfl) (mf_rr (Nat.le_trans (by decide) hd) (Nat.le_refl _)) (Nat.le_refl _) is245 (hyp g3 hG) (fun r5 g6 h7 hyp => ?_)
      obtain ⟨hgg, hyp⟩ := hyp
      subst hgg
      refine mf_if_eq (tgt := 59) (mf_dat eX12_statementTold_p0 25 rfl) (by decide) (fun hc => ?_) (fun hc => ?_)
      · replace hyp := hyp.1 hc
        refine mf_aload_n (mf_dat eX12_statementTold_p0 30 rfl) rfl rfl ?_
        refine mf_aload_n (mf_dat eX12_statementTold_p0 31 rfl) rfl rfl ?_
        refine mf_getf (r := (RX12, TX12, 106)) (ci := 12) (k := 15) (t := 2) (v := 252) (mf_dat eX12_statementTold_p0 32 rfl) fl_X12_33 rfl (by decide) rfl (gm_15 hG) is245 ?_
        refine mf_callV (Yc := YX12_takes) (r := (RX12, TX12, 106)) (ci := 12) (mf_dat eX12_statementTold_p0 33 rfl) ml_X12_270 okX12_takes im_X12_takes sl_X12_takes rfl rfl rfl rfl (Nat.le_of_ble_eq_true rfl) (mf_rr (Nat.le_trans (by decide) hd) (Nat.le_refl _)) (Nat.le_refl _) is245 (hyp g6 hG) (fun r8 g9 h10 hyp => ?_)
        obtain ⟨hgg, hyp⟩ := hyp
        subst hgg
        refine mf_if_eq (tgt := 78) (mf_dat eX12_statementTold_p0 34 rfl) (by decide) (fun hc => ?_) (fun hc => ?_)
        · replace hyp := hyp.1 hc
          refine mf_aload_n (mf_dat eX12_statementTold_p0 39 rfl) rfl rfl ?_
          refine mf_aload_n (mf_dat eX12_statementTold_p0 40 rfl) rfl rfl ?_
          refine mf_getf (r := (RX12, TX12, 106)) (ci := 12) (k := 19) (t := 2) (v := 256) (mf_dat eX12_statementTold_p0 41 rfl) fl_X12_45 rfl (by decide) rfl (gm_19 hG) is245 ?_
          refine mf_callV (Yc := YX12_takes) (r := (RX12, TX12, 106)) (ci := 12) (mf_dat eX12_statementTold_p0 42 rfl) ml_X12_270 okX12_takes im_X12_takes sl_X12_takes rfl rfl rfl rfl (Nat.le_of_ble_eq_true rfl) (mf_rr (Nat.le_trans (by decide) hd) (Nat.le_refl _)) (Nat.le_refl _) is245 (hyp g9 hG) (fun r11 g12 h13 hyp => ?_)
          obtain ⟨hgg, hyp⟩ := hyp
          subst hgg
          refine mf_if_eq (tgt := 98) (mf_dat eX12_statementTold_p0 43 rfl) (by decide) (fun hc => ?_) (fun hc => ?_)
          · replace hyp := hyp.1 hc
            refine mf_aload_n (mf_dat eX12_statementTold_p0 49 rfl) rfl rfl ?_
            refine mf_aload_n (mf_dat eX12_statementTold_p0 50 rfl) rfl rfl ?_
            refine mf_getf (r := (RX12, TX12, 106)) (ci := 12) (k := 20) (t := 2) (v := 257) (mf_dat eX12_statementTold_p0 51 rfl) fl_X12_48 rfl (by decide) rfl (gm_20 hG) is245 ?_
            refine mf_callV (Yc := YX12_takes) (r := (RX12, TX12, 106)) (ci := 12) (mf_dat eX12_statementTold_p0 52 rfl) ml_X12_270 okX12_takes im_X12_takes sl_X12_takes rfl rfl rfl rfl (Nat.le_of_ble_eq_true rfl) (mf_rr (Nat.le_trans (by decide) hd) (Nat.le_refl _)) (Nat.le_refl _) is245 (hyp g12 hG) (fun r14 g15 h16 hyp => ?_)
            obtain ⟨hgg, hyp⟩ := hyp
            subst hgg
            refine mf_if_eq (tgt := 118) (mf_dat eX12_statementTold_p0 53 rfl) (by decide) (fun hc => ?_) (fun hc => ?_)
            · replace hyp := hyp.1 hc
              refine mf_aload_n (mf_dat eX12_statementTold_p0 59 rfl) rfl rfl ?_
              refine mf_aload_n (mf_dat eX12_statementTold_p1 0 rfl) rfl rfl ?_
              refine mf_getf (r := (RX12, TX12, 106)) (ci := 12) (k := 21) (t := 2) (v := 258) (mf_dat eX12_statementTold_p1 1 rfl) fl_X12_51 rfl (by decide) rfl (gm_21 hG) is245 ?_
              refine mf_callV (Yc := YX12_takes) (r := (RX12, TX12, 106)) (ci := 12) (mf_dat eX12_statementTold_p1 2 rfl) ml_X12_270 okX12_takes im_X12_takes sl_X12_takes rfl rfl rfl rfl (Nat.le_of_ble_eq_true rfl) (mf_rr (Nat.le_trans (by decide) hd) (Nat.le_refl _)) (Nat.le_refl _) is245 (hyp g15 hG) (fun r17 g18 h19 hyp => ?_)
              obtain ⟨hgg, hyp⟩ := hyp
              subst hgg
              refine mf_if_eq (tgt := 138) (mf_dat eX12_statementTold_p1 3 rfl) (by decide) (fun hc => ?_) (fun hc => ?_)
              · replace hyp := hyp.1 hc
                refine mf_aload_n (mf_dat eX12_statementTold_p1 9 rfl) rfl rfl ?_
                refine mf_aload_n (mf_dat eX12_statementTold_p1 10 rfl) rfl rfl ?_
                refine mf_getf (r := (RX12, TX12, 106)) (ci := 12) (k := 22) (t := 2) (v := 259) (mf_dat eX12_statementTold_p1 11 rfl) fl_X12_54 rfl (by decide) rfl (gm_22 hG) is245 ?_
                refine mf_callV (Yc := YX12_takes) (r := (RX12, TX12, 106)) (ci := 12) (mf_dat eX12_statementTold_p1 12 rfl) ml_X12_270 okX12_takes im_X12_takes sl_X12_takes rfl rfl rfl rfl (Nat.le_of_ble_eq_true rfl) (mf_rr (Nat.le_trans (by decide) hd) (Nat.le_refl _)) (Nat.le_refl _) is245 (hyp g18 hG) (fun r20 g21 h22 hyp => ?_)
                obtain ⟨hgg, hyp⟩ := hyp
                subst hgg
                refine mf_if_eq (tgt := 158) (mf_dat eX12_statementTold_p1 13 rfl) (by decide) (fun hc => ?_) (fun hc => ?_)
                · replace hyp := hyp.1 hc
                  refine mf_aload_n (mf_dat eX12_statementTold_p1 19 rfl) rfl rfl ?_
                  refine mf_aload_n (mf_dat eX12_statementTold_p1 20 rfl) rfl rfl ?_
                  refine mf_getf (r := (RX12, TX12, 106)) (ci := 12) (k := 23) (t := 2) (v := 260) (mf_dat eX12_statementTold_p1 21 rfl) fl_X12_57 rfl (by decide) rfl (gm_23 hG) is245 ?_
                  refine mf_callV (Yc := YX12_asks) (r := (RX12, TX12, 106)) (ci := 12) (mf_dat eX12_statementTold_p1 22 rfl) ml_X12_304 okX12_asks im_X12_asks sl_X12_asks rfl rfl rfl rfl (Nat.le_of_ble_eq_true rfl) (mf_rr (Nat.le_trans (by decide) hd) (Nat.le_refl _)) (Nat.le_refl _) is245 (hyp g21 hG) (fun r23 g24 h25 hyp => ?_)
                  obtain ⟨hgg, hyp⟩ := hyp
                  subst hgg
                  refine mf_aload_n (mf_dat eX12_statementTold_p1 23 rfl) rfl rfl ?_
                  refine mf_aload_n (mf_dat eX12_statementTold_p1 24 rfl) rfl rfl ?_
                  refine mf_iconst (v := 0) (mf_dat eX12_statementTold_p1 25 rfl) (by decide) ?_
                  refine mf_bipush (v := 100) (mf_dat eX12_statementTold_p1 26 rfl) (by decide) ?_
                  refine mf_callV (Yc := YX12_number) (r := (RX12, TX12, 106)) (ci := 12) (mf_dat eX12_statementTold_p1 27 rfl) ml_X12_308 okX12_number im_X12_number sl_X12_number rfl rfl rfl rfl (Nat.le_of_ble_eq_true rfl) (mf_rr (Nat.le_trans (by decide) hd) (Nat.le_refl _)) (Nat.le_refl _) is245 (hyp g24 hG) (fun r26 g27 h28 hyp => ?_)
                  obtain ⟨hgg, hyp⟩ := hyp
                  subst hgg
                  refine mf_putI (r := (RX12, TX12, 106)) (ci := 12) (k := 47) (kI := 47) (t := 0) (mf_dat eX12_statementTold_p1 28 rfl) fl_X12_374 rfl rfl (by decide) rfl (by decide) rfl (by decide) (fun h9 => absurd h9 (by decide)) is245 ?_
                  generalize qh29 : mf_up h28 245 47 r26 = h29
                  replace hyp := hyp _ qh29.symm
                  refine mf_aload_n (mf_dat eX12_statementTold_p1 29 rfl) rfl rfl ?_
                  refine mf_bipush (v := 59) (mf_dat eX12_statementTold_p1 30 rfl) (by decide) ?_
                  refine mf_callV (Yc := YX12_asksSign) (r := (RX12, TX12, 106)) (ci := 12) (mf_dat eX12_statementTold_p1 31 rfl) ml_X12_312 okX12_asksSign im_X12_asksSign sl_X12_asksSign rfl rfl rfl rfl (Nat.le_of_ble_eq_true rfl) (mf_rr (Nat.le_trans (by decide) hd) (Nat.le_refl _)) (Nat.le_refl _) is245 (hyp g27 hG) (fun r30 g31 h32 hyp => ?_)
                  obtain ⟨hgg, hyp⟩ := hyp
                  subst hgg
                  refine mf_aload_n (mf_dat eX12_statementTold_p1 32 rfl) rfl rfl ?_
                  refine mf_dup (mf_dat eX12_statementTold_p1 33 rfl) (by decide) ?_
                  refine mf_getf (r := (RX12, TX12, 106)) (ci := 12) (k := 53) (t := 0) (v := h32 245 53) (mf_dat eX12_statementTold_p1 34 rfl) fl_X12_359 rfl (by decide) rfl rfl is245 ?_
                  refine mf_iconst (v := 1) (mf_dat eX12_statementTold_p1 35 rfl) (by decide) ?_
                  refine mf_iadd (mf_dat eX12_statementTold_p1 36 rfl) ?_
                  refine mf_putI (r := (RX12, TX12, 106)) (ci := 12) (k := 53) (kI := 53) (t := 0) (mf_dat eX12_statementTold_p1 37 rfl) fl_X12_359 rfl rfl (by decide) rfl (by decide) rfl (by decide) (fun h9 => absurd h9 (by decide)) is245 ?_
                  generalize qh33 : mf_up h32 245 53 (mf_w32 ((h32 245 53) + 1)) = h33
                  replace hyp := hyp _ qh33.symm
                  exact mf_return (mf_dat eX12_statementTold_p1 38 rfl) rfl ⟨rfl, hyp⟩
                · replace hyp := hyp.2 hc
                  refine mf_aload_n (mf_dat eX12_statementTold_p1 14 rfl) rfl rfl ?_
                  refine mf_iconst (v := 3) (mf_dat eX12_statementTold_p1 15 rfl) (by decide) ?_
                  refine mf_iload_n (mf_dat eX12_statementTold_p1 16 rfl) rfl rfl ?_
                  refine mf_callV (Yc := YX12_codesTold) (r := (RX12, TX12, 106)) (ci := 12) (mf_dat eX12_statementTold_p1 17 rfl) ml_X12_371 okX12_codesTold im_X12_codesTold sl_X12_codesTold rfl rfl rfl rfl (Nat.le_of_ble_eq_true rfl) (mf_rr (Nat.le_trans (by decide) hd) (Nat.le_refl _)) (Nat.le_refl _) is245 (hyp g21 hG) (fun r34 g35 h36 hyp => ?_)
                  obtain ⟨hgg, hyp⟩ := hyp
                  subst hgg
                  refine mf_goto (tgt := 177) (mf_dat eX12_statementTold_p1 18 rfl) (by decide) ?_
                  refine mf_aload_n (mf_dat eX12_statementTold_p1 29 rfl) rfl rfl ?_
                  refine mf_bipush (v := 59) (mf_dat eX12_statementTold_p1 30 rfl) (by decide) ?_
                  refine mf_callV (Yc := YX12_asksSign) (r := (RX12, TX12, 106)) (ci := 12) (mf_dat eX12_statementTold_p1 31 rfl) ml_X12_312 okX12_asksSign im_X12_asksSign sl_X12_asksSign rfl rfl rfl rfl (Nat.le_of_ble_eq_true rfl) (mf_rr (Nat.le_trans (by decide) hd) (Nat.le_refl _)) (Nat.le_refl _) is245 (hyp g35 hG) (fun r37 g38 h39 hyp => ?_)
                  obtain ⟨hgg, hyp⟩ := hyp
                  subst hgg
                  refine mf_aload_n (mf_dat eX12_statementTold_p1 32 rfl) rfl rfl ?_
                  refine mf_dup (mf_dat eX12_statementTold_p1 33 rfl) (by decide) ?_
                  refine mf_getf (r := (RX12, TX12, 106)) (ci := 12) (k := 53) (t := 0) (v := h39 245 53) (mf_dat eX12_statementTold_p1 34 rfl) fl_X12_359 rfl (by decide) rfl rfl is245 ?_
                  refine mf_iconst (v := 1) (mf_dat eX12_statementTold_p1 35 rfl) (by decide) ?_
                  refine mf_iadd (mf_dat eX12_statementTold_p1 36 rfl) ?_
                  refine mf_putI (r := (RX12, TX12, 106)) (ci := 12) (k := 53) (kI := 53) (t := 0) (mf_dat eX12_statementTold_p1 37 rfl) fl_X12_359 rfl rfl (by decide) rfl (by decide) rfl (by decide) (fun h9 => absurd h9 (by decide)) is245 ?_
                  generalize qh40 : mf_up h39 245 53 (mf_w32 ((h39 245 53) + 1)) = h40
                  replace hyp := hyp _ qh40.symm
                  exact mf_return (mf_dat eX12_statementTold_p1 38 rfl) rfl ⟨rfl, hyp⟩
              · replace hyp := hyp.2 hc
                refine mf_aload_n (mf_dat eX12_statementTold_p1 4 rfl) rfl rfl ?_
                refine mf_iconst (v := 2) (mf_dat eX12_statementTold_p1 5 rfl) (by decide) ?_
                refine mf_iload_n (mf_dat eX12_statementTold_p1 6 rfl) rfl rfl ?_
                refine mf_callV (Yc := YX12_codesTold) (r := (RX12, TX12, 106)) (ci := 12) (mf_dat eX12_statementTold_p1 7 rfl) ml_X12_371 okX12_codesTold im_X12_codesTold sl_X12_codesTold rfl rfl rfl rfl (Nat.le_of_ble_eq_true rfl) (mf_rr (Nat.le_trans (by decide) hd) (Nat.le_refl _)) (Nat.le_refl _) is245 (hyp g18 hG) (fun r41 g42 h43 hyp => ?_)
                obtain ⟨hgg, hyp⟩ := hyp
                subst hgg
                refine mf_goto (tgt := 177) (mf_dat eX12_statementTold_p1 8 rfl) (by decide) ?_
                refine mf_aload_n (mf_dat eX12_statementTold_p1 29 rfl) rfl rfl ?_
                refine mf_bipush (v := 59) (mf_dat eX12_statementTold_p1 30 rfl) (by decide) ?_
                refine mf_callV (Yc := YX12_asksSign) (r := (RX12, TX12, 106)) (ci := 12) (mf_dat eX12_statementTold_p1 31 rfl) ml_X12_312 okX12_asksSign im_X12_asksSign sl_X12_asksSign rfl rfl rfl rfl (Nat.le_of_ble_eq_true rfl) (mf_rr (Nat.le_trans (by decide) hd) (Nat.le_refl _)) (Nat.le_refl _) is245 (hyp g42 hG) (fun r44 g45 h46 hyp => ?_)
                obtain ⟨hgg, hyp⟩ := hyp
                subst hgg
                refine mf_aload_n (mf_dat eX12_statementTold_p1 32 rfl) rfl rfl ?_
                refine mf_dup (mf_dat eX12_statementTold_p1 33 rfl) (by decide) ?_
                refine mf_getf (r := (RX12, TX12, 106)) (ci := 12) (k := 53) (t := 0) (v := h46 245 53) (mf_dat eX12_statementTold_p1 34 rfl) fl_X12_359 rfl (by decide) rfl rfl is245 ?_
                refine mf_iconst (v := 1) (mf_dat eX12_statementTold_p1 35 rfl) (by decide) ?_
                refine mf_iadd (mf_dat eX12_statementTold_p1 36 rfl) ?_
                refine mf_putI (r := (RX12, TX12, 106)) (ci := 12) (k := 53) (kI := 53) (t := 0) (mf_dat eX12_statementTold_p1 37 rfl) fl_X12_359 rfl rfl (by decide) rfl (by decide) rfl (by decide) (fun h9 => absurd h9 (by decide)) is245 ?_
                generalize qh47 : mf_up h46 245 53 (mf_w32 ((h46 245 53) + 1)) = h47
                replace hyp := hyp _ qh47.symm
                exact mf_return (mf_dat eX12_statementTold_p1 38 rfl) rfl ⟨rfl, hyp⟩
            · replace hyp := hyp.2 hc
              refine mf_aload_n (mf_dat eX12_statementTold_p0 54 rfl) rfl rfl ?_
              refine mf_iconst (v := 1) (mf_dat eX12_statementTold_p0 55 rfl) (by decide) ?_
              refine mf_iload_n (mf_dat eX12_statementTold_p0 56 rfl) rfl rfl ?_
              refine mf_callV (Yc := YX12_codesTold) (r := (RX12, TX12, 106)) (ci := 12) (mf_dat eX12_statementTold_p0 57 rfl) ml_X12_371 okX12_codesTold im_X12_codesTold sl_X12_codesTold rfl rfl rfl rfl (Nat.le_of_ble_eq_true rfl) (mf_rr (Nat.le_trans (by decide) hd) (Nat.le_refl _)) (Nat.le_refl _) is245 (hyp g15 hG) (fun r48 g49 h50 hyp => ?_)
              obtain ⟨hgg, hyp⟩ := hyp
              subst hgg
              refine mf_goto (tgt := 177) (mf_dat eX12_statementTold_p0 58 rfl) (by decide) ?_
              refine mf_aload_n (mf_dat eX12_statementTold_p1 29 rfl) rfl rfl ?_
              refine mf_bipush (v := 59) (mf_dat eX12_statementTold_p1 30 rfl) (by decide) ?_
              refine mf_callV (Yc := YX12_asksSign) (r := (RX12, TX12, 106)) (ci := 12) (mf_dat eX12_statementTold_p1 31 rfl) ml_X12_312 okX12_asksSign im_X12_asksSign sl_X12_asksSign rfl rfl rfl rfl (Nat.le_of_ble_eq_true rfl) (mf_rr (Nat.le_trans (by decide) hd) (Nat.le_refl _)) (Nat.le_refl _) is245 (hyp g49 hG) (fun r51 g52 h53 hyp => ?_)
              obtain ⟨hgg, hyp⟩ := hyp
              subst hgg
              refine mf_aload_n (mf_dat eX12_statementTold_p1 32 rfl) rfl rfl ?_
              refine mf_dup (mf_dat eX12_statementTold_p1 33 rfl) (by decide) ?_
              refine mf_getf (r := (RX12, TX12, 106)) (ci := 12) (k := 53) (t := 0) (v := h53 245 53) (mf_dat eX12_statementTold_p1 34 rfl) fl_X12_359 rfl (by decide) rfl rfl is245 ?_
              refine mf_iconst (v := 1) (mf_dat eX12_statementTold_p1 35 rfl) (by decide) ?_
              refine mf_iadd (mf_dat eX12_statementTold_p1 36 rfl) ?_
              refine mf_putI (r := (RX12, TX12, 106)) (ci := 12) (k := 53) (kI := 53) (t := 0) (mf_dat eX12_statementTold_p1 37 rfl) fl_X12_359 rfl rfl (by decide) rfl (by decide) rfl (by decide) (fun h9 => absurd h9 (by decide)) is245 ?_
              generalize qh54 : mf_up h53 245 53 (mf_w32 ((h53 245 53) + 1)) = h54
              replace hyp := hyp _ qh54.symm
              exact mf_return (mf_dat eX12_statementTold_p1 38 rfl) rfl ⟨rfl, hyp⟩
          · replace hyp := hyp.2 hc
            refine mf_aload_n (mf_dat eX12_statementTold_p0 44 rfl) rfl rfl ?_
            refine mf_iconst (v := 0) (mf_dat eX12_statementTold_p0 45 rfl) (by decide) ?_
            refine mf_iload_n (mf_dat eX12_statementTold_p0 46 rfl) rfl rfl ?_
            refine mf_callV (Yc := YX12_codesTold) (r := (RX12, TX12, 106)) (ci := 12) (mf_dat eX12_statementTold_p0 47 rfl) ml_X12_371 okX12_codesTold im_X12_codesTold sl_X12_codesTold rfl rfl rfl rfl (Nat.le_of_ble_eq_true rfl) (mf_rr (Nat.le_trans (by decide) hd) (Nat.le_refl _)) (Nat.le_refl _) is245 (hyp g12 hG) (fun r55 g56 h57 hyp => ?_)
            obtain ⟨hgg, hyp⟩ := hyp
            subst hgg
            refine mf_goto (tgt := 177) (mf_dat eX12_statementTold_p0 48 rfl) (by decide) ?_
            refine mf_aload_n (mf_dat eX12_statementTold_p1 29 rfl) rfl rfl ?_
            refine mf_bipush (v := 59) (mf_dat eX12_statementTold_p1 30 rfl) (by decide) ?_
            refine mf_callV (Yc := YX12_asksSign) (r := (RX12, TX12, 106)) (ci := 12) (mf_dat eX12_statementTold_p1 31 rfl) ml_X12_312 okX12_asksSign im_X12_asksSign sl_X12_asksSign rfl rfl rfl rfl (Nat.le_of_ble_eq_true rfl) (mf_rr (Nat.le_trans (by decide) hd) (Nat.le_refl _)) (Nat.le_refl _) is245 (hyp g56 hG) (fun r58 g59 h60 hyp => ?_)
            obtain ⟨hgg, hyp⟩ := hyp
            subst hgg
            refine mf_aload_n (mf_dat eX12_statementTold_p1 32 rfl) rfl rfl ?_
            refine mf_dup (mf_dat eX12_statementTold_p1 33 rfl) (by decide) ?_
            refine mf_getf (r := (RX12, TX12, 106)) (ci := 12) (k := 53) (t := 0) (v := h60 245 53) (mf_dat eX12_statementTold_p1 34 rfl) fl_X12_359 rfl (by decide) rfl rfl is245 ?_
            refine mf_iconst (v := 1) (mf_dat eX12_statementTold_p1 35 rfl) (by decide) ?_
            refine mf_iadd (mf_dat eX12_statementTold_p1 36 rfl) ?_
            refine mf_putI (r := (RX12, TX12, 106)) (ci := 12) (k := 53) (kI := 53) (t := 0) (mf_dat eX12_statementTold_p1 37 rfl) fl_X12_359 rfl rfl (by decide) rfl (by decide) rfl (by decide) (fun h9 => absurd h9 (by decide)) is245 ?_
            generalize qh61 : mf_up h60 245 53 (mf_w32 ((h60 245 53) + 1)) = h61
            replace hyp := hyp _ qh61.symm
            exact mf_return (mf_dat eX12_statementTold_p1 38 rfl) rfl ⟨rfl, hyp⟩
        · replace hyp := hyp.2 hc
          refine mf_aload_n (mf_dat eX12_statementTold_p0 35 rfl) rfl rfl ?_
          refine mf_iload_n (mf_dat eX12_statementTold_p0 36 rfl) rfl rfl ?_
          refine mf_callV (Yc := YX12_beingTold) (r := (RX12, TX12, 106)) (ci := 12) (mf_dat eX12_statementTold_p0 37 rfl) ml_X12_368 okX12_beingTold im_X12_beingTold sl_X12_beingTold rfl rfl rfl rfl (Nat.le_of_ble_eq_true rfl) (mf_rr (Nat.le_trans (by decide) hd) (Nat.le_refl _)) (Nat.le_refl _) is245 (hyp g9 hG) (fun r62 g63 h64 hyp => ?_)
          obtain ⟨hgg, hyp⟩ := hyp
          subst hgg
          refine mf_goto (tgt := 177) (mf_dat eX12_statementTold_p0 38 rfl) (by decide) ?_
          refine mf_aload_n (mf_dat eX12_statementTold_p1 29 rfl) rfl rfl ?_
          refine mf_bipush (v := 59) (mf_dat eX12_statementTold_p1 30 rfl) (by decide) ?_
          refine mf_callV (Yc := YX12_asksSign) (r := (RX12, TX12, 106)) (ci := 12) (mf_dat eX12_statementTold_p1 31 rfl) ml_X12_312 okX12_asksSign im_X12_asksSign sl_X12_asksSign rfl rfl rfl rfl (Nat.le_of_ble_eq_true rfl) (mf_rr (Nat.le_trans (by decide) hd) (Nat.le_refl _)) (Nat.le_refl _) is245 (hyp g63 hG) (fun r65 g66 h67 hyp => ?_)
          obtain ⟨hgg, hyp⟩ := hyp
          subst hgg
          refine mf_aload_n (mf_dat eX12_statementTold_p1 32 rfl) rfl rfl ?_
          refine mf_dup (mf_dat eX12_statementTold_p1 33 rfl) (by decide) ?_
          refine mf_getf (r := (RX12, TX12, 106)) (ci := 12) (k := 53) (t := 0) (v := h67 245 53) (mf_dat eX12_statementTold_p1 34 rfl) fl_X12_359 rfl (by decide) rfl rfl is245 ?_
          refine mf_iconst (v := 1) (mf_dat eX12_statementTold_p1 35 rfl) (by decide) ?_
          refine mf_iadd (mf_dat eX12_statementTold_p1 36 rfl) ?_
          refine mf_putI (r := (RX12, TX12, 106)) (ci := 12) (k := 53) (kI := 53) (t := 0) (mf_dat eX12_statementTold_p1 37 rfl) fl_X12_359 rfl rfl (by decide) rfl (by decide) rfl (by decide) (fun h9 => absurd h9 (by decide)) is245 ?_
          generalize qh68 : mf_up h67 245 53 (mf_w32 ((h67 245 53) + 1)) = h68
          replace hyp := hyp _ qh68.symm
          exact mf_return (mf_dat eX12_statementTold_p1 38 rfl) rfl ⟨rfl, hyp⟩
      · replace hyp := hyp.2 hc
        refine mf_aload_n (mf_dat eX12_statementTold_p0 26 rfl) rfl rfl ?_
        refine mf_iload_n (mf_dat eX12_statementTold_p0 27 rfl) rfl rfl ?_
        refine mf_callV (Yc := YX12_wormTold) (r := (RX12, TX12, 106)) (ci := 12) (mf_dat eX12_statementTold_p0 28 rfl) ml_X12_365 okX12_wormTold im_X12_wormTold sl_X12_wormTold rfl rfl rfl rfl (Nat.le_of_ble_eq_true rfl) (mf_rr (Nat.le_trans (by decide) hd) (Nat.le_refl _)) (Nat.le_refl _) is245 (hyp g6 hG) (fun r69 g70 h71 hyp => ?_)
        obtain ⟨hgg, hyp⟩ := hyp
        subst hgg
        refine mf_goto (tgt := 177) (mf_dat eX12_statementTold_p0 29 rfl) (by decide) ?_
        refine mf_aload_n (mf_dat eX12_statementTold_p1 29 rfl) rfl rfl ?_
        refine mf_bipush (v := 59) (mf_dat eX12_statementTold_p1 30 rfl) (by decide) ?_
        refine mf_callV (Yc := YX12_asksSign) (r := (RX12, TX12, 106)) (ci := 12) (mf_dat eX12_statementTold_p1 31 rfl) ml_X12_312 okX12_asksSign im_X12_asksSign sl_X12_asksSign rfl rfl rfl rfl (Nat.le_of_ble_eq_true rfl) (mf_rr (Nat.le_trans (by decide) hd) (Nat.le_refl _)) (Nat.le_refl _) is245 (hyp g70 hG) (fun r72 g73 h74 hyp => ?_)
        obtain ⟨hgg, hyp⟩ := hyp
        subst hgg
        refine mf_aload_n (mf_dat eX12_statementTold_p1 32 rfl) rfl rfl ?_
        refine mf_dup (mf_dat eX12_statementTold_p1 33 rfl) (by decide) ?_
        refine mf_getf (r := (RX12, TX12, 106)) (ci := 12) (k := 53) (t := 0) (v := h74 245 53) (mf_dat eX12_statementTold_p1 34 rfl) fl_X12_359 rfl (by decide) rfl rfl is245 ?_
        refine mf_iconst (v := 1) (mf_dat eX12_statementTold_p1 35 rfl) (by decide) ?_
        refine mf_iadd (mf_dat eX12_statementTold_p1 36 rfl) ?_
        refine mf_putI (r := (RX12, TX12, 106)) (ci := 12) (k := 53) (kI := 53) (t := 0) (mf_dat eX12_statementTold_p1 37 rfl) fl_X12_359 rfl rfl (by decide) rfl (by decide) rfl (by decide) (fun h9 => absurd h9 (by decide)) is245 ?_
        generalize qh75 : mf_up h74 245 53 (mf_w32 ((h74 245 53) + 1)) = h75
        replace hyp := hyp _ qh75.symm
        exact mf_return (mf_dat eX12_statementTold_p1 38 rfl) rfl ⟨rfl, hyp⟩
    · replace hyp := hyp.2 hc
      refine mf_aload_n (mf_dat eX12_statementTold_p0 17 rfl) rfl rfl ?_
      refine mf_iload_n (mf_dat eX12_statementTold_p0 18 rfl) rfl rfl ?_
      refine mf_callV (Yc := YX12_glossTold) (r := (RX12, TX12, 106)) (ci := 12) (mf_dat eX12_statementTold_p0 19 rfl) ml_X12_362 okX12_glossTold im_X12_glossTold sl_X12_glossTold rfl rfl rfl rfl (Nat.le_of_ble_eq_true rfl) (mf_rr (Nat.le_trans (by decide) hd) (Nat.le_refl _)) (Nat.le_refl _) is245 (hyp g3 hG) (fun r76 g77 h78 hyp => ?_)
      obtain ⟨hgg, hyp⟩ := hyp
      subst hgg
      refine mf_goto (tgt := 177) (mf_dat eX12_statementTold_p0 20 rfl) (by decide) ?_
      refine mf_aload_n (mf_dat eX12_statementTold_p1 29 rfl) rfl rfl ?_
      refine mf_bipush (v := 59) (mf_dat eX12_statementTold_p1 30 rfl) (by decide) ?_
      refine mf_callV (Yc := YX12_asksSign) (r := (RX12, TX12, 106)) (ci := 12) (mf_dat eX12_statementTold_p1 31 rfl) ml_X12_312 okX12_asksSign im_X12_asksSign sl_X12_asksSign rfl rfl rfl rfl (Nat.le_of_ble_eq_true rfl) (mf_rr (Nat.le_trans (by decide) hd) (Nat.le_refl _)) (Nat.le_refl _) is245 (hyp g77 hG) (fun r79 g80 h81 hyp => ?_)
      obtain ⟨hgg, hyp⟩ := hyp
      subst hgg
      refine mf_aload_n (mf_dat eX12_statementTold_p1 32 rfl) rfl rfl ?_
      refine mf_dup (mf_dat eX12_statementTold_p1 33 rfl) (by decide) ?_
      refine mf_getf (r := (RX12, TX12, 106)) (ci := 12) (k := 53) (t := 0) (v := h81 245 53) (mf_dat eX12_statementTold_p1 34 rfl) fl_X12_359 rfl (by decide) rfl rfl is245 ?_
      refine mf_iconst (v := 1) (mf_dat eX12_statementTold_p1 35 rfl) (by decide) ?_
      refine mf_iadd (mf_dat eX12_statementTold_p1 36 rfl) ?_
      refine mf_putI (r := (RX12, TX12, 106)) (ci := 12) (k := 53) (kI := 53) (t := 0) (mf_dat eX12_statementTold_p1 37 rfl) fl_X12_359 rfl rfl (by decide) rfl (by decide) rfl (by decide) (fun h9 => absurd h9 (by decide)) is245 ?_
      generalize qh82 : mf_up h81 245 53 (mf_w32 ((h81 245 53) + 1)) = h82
      replace hyp := hyp _ qh82.symm
      exact mf_return (mf_dat eX12_statementTold_p1 38 rfl) rfl ⟨rfl, hyp⟩
  · replace hyp := hyp.2 hc
    refine mf_aload_n (mf_dat eX12_statementTold_p0 7 rfl) rfl rfl ?_
    refine mf_iconst (v := 5) (mf_dat eX12_statementTold_p0 8 rfl) (by decide) ?_
    refine mf_iload_n (mf_dat eX12_statementTold_p0 9 rfl) rfl rfl ?_
    refine mf_callV (Yc := YX12_fail) (r := (RX12, TX12, 106)) (ci := 12) (mf_dat eX12_statementTold_p0 10 rfl) ml_X12_273 okX12_fail im_X12_fail sl_X12_fail rfl rfl rfl rfl (Nat.le_of_ble_eq_true rfl) (mf_rr (Nat.le_trans (by decide) hd) (Nat.le_refl _)) (Nat.le_refl _) is245 (hyp g hG) (fun r83 g84 h85 hyp => ?_)
    obtain ⟨hgg, hyp⟩ := hyp
    subst hgg
    exact mf_return (mf_dat eX12_statementTold_p0 11 rfl) rfl ⟨rfl, hyp⟩
