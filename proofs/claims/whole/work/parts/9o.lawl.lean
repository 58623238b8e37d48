/-! the law: its loop -/
section LawL
variable {C : mf_G} {l : Launch} {b L : Nat} {xs : Nat → Int32}
set_option maxRecDepth 100000 in
set_option maxHeartbeats 4000000 in
theorem lw_body {S : aS} {g h : mf_M} {j : Int} (j0 : 0 ≤ j) (j1 : j + 6 ≤ L) (L1 : L ≤ 3072) (I : lwI S g h) (k : ∀ g h S, lwI S g h → mf_AW C l YL_law room_1 0 lw_Z (lwX C b L xs) 1006 (lwL j) [] 319 g h) : mf_AW C l YL_law room_1 0 lw_Z (lwX C b L xs) 27 (lwL j) [] 319 g h := by
  refine mf_aload_n (mf_dat eL_law_p0 16 rfl) rfl rfl ?_
  refine mf_iload_n (mf_dat eL_law_p0 17 rfl) rfl rfl ?_
  refine mf_sld (i' := j) (mf_dat eL_law_p0 18 rfl) rfl (by omega) (by omega) ?_
  refine mf_bipush (v := 31) (mf_dat eL_law_p0 19 rfl) (by decide) ?_
  refine mf_iand (mf_dat eL_law_p0 20 rfl) ?_
  generalize mf_and (lwV xs j) 31 = o
  refine mf_tsw1 (v := 0) (off := 139) (tgt := 172) (mf_dat eL_law_p0 21 rfl) (by decide) (by decide) rfl (by decide) (fun _ => lwC0 j0 j1 L1 I k) (fun n0 => ?_)
  refine mf_tsw1 (v := 1) (off := 202) (tgt := 235) (mf_dat eL_law_p0 21 rfl) (by decide) (by decide) rfl (by decide) (fun _ => lwC1 j0 j1 L1 I k) (fun n1 => ?_)
  refine mf_tsw1 (v := 2) (off := 225) (tgt := 258) (mf_dat eL_law_p0 21 rfl) (by decide) (by decide) rfl (by decide) (fun _ => lwC2 j0 j1 L1 I k) (fun n2 => ?_)
  refine mf_tsw1 (v := 3) (off := 238) (tgt := 271) (mf_dat eL_law_p0 21 rfl) (by decide) (by decide) rfl (by decide) (fun _ => lwC3 j0 j1 L1 I k) (fun n3 => ?_)
  refine mf_tsw1 (v := 4) (off := 261) (tgt := 294) (mf_dat eL_law_p0 21 rfl) (by decide) (by decide) rfl (by decide) (fun _ => lwC4 j0 j1 L1 I k) (fun n4 => ?_)
  refine mf_tsw1 (v := 5) (off := 284) (tgt := 317) (mf_dat eL_law_p0 21 rfl) (by decide) (by decide) rfl (by decide) (fun _ => lwC5 j0 j1 L1 I k) (fun n5 => ?_)
  refine mf_tsw1 (v := 6) (off := 317) (tgt := 350) (mf_dat eL_law_p0 21 rfl) (by decide) (by decide) rfl (by decide) (fun _ => lwC6 j0 j1 L1 I k) (fun n6 => ?_)
  refine mf_tsw1 (v := 7) (off := 350) (tgt := 383) (mf_dat eL_law_p0 21 rfl) (by decide) (by decide) rfl (by decide) (fun _ => lwC7 j0 j1 L1 I k) (fun n7 => ?_)
  refine mf_tsw1 (v := 8) (off := 393) (tgt := 426) (mf_dat eL_law_p0 21 rfl) (by decide) (by decide) rfl (by decide) (fun _ => lwC8 j0 j1 L1 I k) (fun n8 => ?_)
  refine mf_tsw1 (v := 9) (off := 426) (tgt := 459) (mf_dat eL_law_p0 21 rfl) (by decide) (by decide) rfl (by decide) (fun _ => lwC9 j0 j1 L1 I k) (fun n9 => ?_)
  refine mf_tsw1 (v := 10) (off := 459) (tgt := 492) (mf_dat eL_law_p0 21 rfl) (by decide) (by decide) rfl (by decide) (fun _ => lwC10 j0 j1 L1 I k) (fun n10 => ?_)
  refine mf_tsw1 (v := 11) (off := 482) (tgt := 515) (mf_dat eL_law_p0 21 rfl) (by decide) (by decide) rfl (by decide) (fun _ => lwC11 j0 j1 L1 I k) (fun n11 => ?_)
  refine mf_tsw1 (v := 12) (off := 495) (tgt := 528) (mf_dat eL_law_p0 21 rfl) (by decide) (by decide) rfl (by decide) (fun _ => lwC12 j0 j1 L1 I k) (fun n12 => ?_)
  refine mf_tsw1 (v := 13) (off := 528) (tgt := 561) (mf_dat eL_law_p0 21 rfl) (by decide) (by decide) rfl (by decide) (fun _ => lwC13 j0 j1 L1 I k) (fun n13 => ?_)
  refine mf_tsw1 (v := 14) (off := 571) (tgt := 604) (mf_dat eL_law_p0 21 rfl) (by decide) (by decide) rfl (by decide) (fun _ => lwC14 j0 j1 L1 I k) (fun n14 => ?_)
  refine mf_tsw1 (v := 15) (off := 594) (tgt := 627) (mf_dat eL_law_p0 21 rfl) (by decide) (by decide) rfl (by decide) (fun _ => lwC15 j0 j1 L1 I k) (fun n15 => ?_)
  refine mf_tsw1 (v := 16) (off := 637) (tgt := 670) (mf_dat eL_law_p0 21 rfl) (by decide) (by decide) rfl (by decide) (fun _ => lwC16 j0 j1 L1 I k) (fun n16 => ?_)
  refine mf_tsw1 (v := 17) (off := 650) (tgt := 683) (mf_dat eL_law_p0 21 rfl) (by decide) (by decide) rfl (by decide) (fun _ => lwC17 j0 j1 L1 I k) (fun n17 => ?_)
  refine mf_tsw1 (v := 18) (off := 673) (tgt := 706) (mf_dat eL_law_p0 21 rfl) (by decide) (by decide) rfl (by decide) (fun _ => lwC18 j0 j1 L1 I k) (fun n18 => ?_)
  refine mf_tsw1 (v := 19) (off := 696) (tgt := 729) (mf_dat eL_law_p0 21 rfl) (by decide) (by decide) rfl (by decide) (fun _ => lwC19 j0 j1 L1 I k) (fun n19 => ?_)
  refine mf_tsw1 (v := 20) (off := 729) (tgt := 762) (mf_dat eL_law_p0 21 rfl) (by decide) (by decide) rfl (by decide) (fun _ => lwC20 j0 j1 L1 I k) (fun n20 => ?_)
  refine mf_tsw1 (v := 21) (off := 772) (tgt := 805) (mf_dat eL_law_p0 21 rfl) (by decide) (by decide) rfl (by decide) (fun _ => lwC21 j0 j1 L1 I k) (fun n21 => ?_)
  refine mf_tsw1 (v := 22) (off := 805) (tgt := 838) (mf_dat eL_law_p0 21 rfl) (by decide) (by decide) rfl (by decide) (fun _ => lwC22 j0 j1 L1 I k) (fun n22 => ?_)
  refine mf_tsw1 (v := 23) (off := 828) (tgt := 861) (mf_dat eL_law_p0 21 rfl) (by decide) (by decide) rfl (by decide) (fun _ => lwC23 j0 j1 L1 I k) (fun n23 => ?_)
  refine mf_tsw1 (v := 24) (off := 851) (tgt := 884) (mf_dat eL_law_p0 21 rfl) (by decide) (by decide) rfl (by decide) (fun _ => lwC24 j0 j1 L1 I k) (fun n24 => ?_)
  refine mf_tsw1 (v := 25) (off := 864) (tgt := 897) (mf_dat eL_law_p0 21 rfl) (by decide) (by decide) rfl (by decide) (fun _ => lwC25 j0 j1 L1 I k) (fun n25 => ?_)
  refine mf_tsw1 (v := 26) (off := 887) (tgt := 920) (mf_dat eL_law_p0 21 rfl) (by decide) (by decide) rfl (by decide) (fun _ => lwC26 j0 j1 L1 I k) (fun n26 => ?_)
  refine mf_tsw1 (v := 27) (off := 901) (tgt := 934) (mf_dat eL_law_p0 21 rfl) (by decide) (by decide) rfl (by decide) (fun _ => lwC27 j0 j1 L1 I k) (fun n27 => ?_)
  refine mf_tsw1 (v := 28) (off := 914) (tgt := 947) (mf_dat eL_law_p0 21 rfl) (by decide) (by decide) rfl (by decide) (fun _ => lwC28 j0 j1 L1 I k) (fun n28 => ?_)
  refine mf_tsw1 (v := 29) (off := 937) (tgt := 970) (mf_dat eL_law_p0 21 rfl) (by decide) (by decide) rfl (by decide) (fun _ => lwC29 j0 j1 L1 I k) (fun n29 => ?_)
  refine mf_tsw1 (v := 30) (off := 950) (tgt := 983) (mf_dat eL_law_p0 21 rfl) (by decide) (by decide) rfl (by decide) (fun _ => lwC30 j0 j1 L1 I k) (fun n30 => ?_)
  exact mf_tswO (tgt := 1006) (mf_dat eL_law_p0 21 rfl) (by omega) (by decide) (k g h S I)
set_option maxRecDepth 100000 in
set_option maxHeartbeats 4000000 in
theorem lw_loop (L1 : L ≤ 3072) : ∀ (m : Nat) (j : Int) (S : aS) (g h : mf_M), 0 ≤ j → j ≤ 3072 → (L : Int) < j + m → lwI S g h → mf_AW C l YL_law room_1 0 lw_Z (lwX C b L xs) 18 (lwL j) [] 319 g h := by
  intro m
  induction m with
  | zero =>
    intro j S g h j0 j3 jm I
    refine mf_iload_n (mf_dat eL_law_p0 10 rfl) rfl rfl ?_
    refine mf_aload_n (mf_dat eL_law_p0 11 rfl) rfl rfl ?_
    refine mf_slen (mf_dat eL_law_p0 12 rfl) L1 ?_
    refine mf_bipush (v := 6) (mf_dat eL_law_p0 13 rfl) (by decide) ?_
    refine mf_isub (mf_dat eL_law_p0 14 rfl) ?_
    rw [show mf_w32 ((L : Int) - 6) = (L : Int) - 6 from w_id (by omega) (by omega)]
    refine mf_icmp_gt (tgt := 1012) (mf_dat eL_law_p0 15 rfl) (by decide) (fun _ => ?_) (fun z => absurd (by omega) z)
    refine mf_iconst (v := 1) (mf_dat eL_law_p11 12 rfl) (by decide) ?_
    exact lw_end (mf_dat eL_law_p11 13 rfl)
  | succ m ih =>
    intro j S g h j0 j3 jm I
    refine mf_iload_n (mf_dat eL_law_p0 10 rfl) rfl rfl ?_
    refine mf_aload_n (mf_dat eL_law_p0 11 rfl) rfl rfl ?_
    refine mf_slen (mf_dat eL_law_p0 12 rfl) L1 ?_
    refine mf_bipush (v := 6) (mf_dat eL_law_p0 13 rfl) (by decide) ?_
    refine mf_isub (mf_dat eL_law_p0 14 rfl) ?_
    rw [show mf_w32 ((L : Int) - 6) = (L : Int) - 6 from w_id (by omega) (by omega)]
    refine mf_icmp_gt (tgt := 1012) (mf_dat eL_law_p0 15 rfl) (by decide) (fun _ => ?_) (fun z => ?_)
    · refine mf_iconst (v := 1) (mf_dat eL_law_p11 12 rfl) (by decide) ?_
      exact lw_end (mf_dat eL_law_p11 13 rfl)
    · refine lw_body j0 (by omega) L1 I (fun g h S I => ?_)
      refine mf_iinc (mf_dat eL_law_p11 10 rfl) rfl (by decide) (by decide) ?_
      rw [show mf_w32 (j + 6) = j + 6 from w_id (by omega) (by omega)]
      refine mf_goto (tgt := 18) (mf_dat eL_law_p11 11 rfl) (by decide) ?_
      exact ih (j + 6) S g h (by omega) (by omega) (by omega) I
end LawL
