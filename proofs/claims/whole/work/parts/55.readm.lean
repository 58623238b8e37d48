/-! what is asked of the reference, as numbers -/
def faultS (S : aS) (w : Int) : Int := if w = 0 then S.fa else if w = 1 then S.pl else -1
def statusS (S : aS) (w : Int) : Int := if 0 ≤ w ∧ w ≤ 5 then S.rf w else -1
def octetS (S : aS) (k : Int) : Int := if 0 ≤ k ∧ k < S.oc.length then S.oc.getD k.toNat 0 else -1
def endS (S : aS) (n : Int) : Int × aS := if n < 0 ∨ S.tn < n then (0, refS S 0) else (1, S.s_tn n)
def seedS (S : aS) (n : Int) : Int × aS := if n < 0 then (0, refS S 5) else (1, S.s_sd n)
def opnS (S : aS) (day : Int) : Int := openF S.F.nl S.F.cO day
def sumN (f : Int → Int) : Nat → Int → Int
  | 0, _ => 0
  | n + 1, k => f k + sumN f n (k + 1)
def popS (w : Int) : Int := w % 2 + w / 2 % 2 + w / 4 % 2 + w / 8 % 2 + w / 16 % 2 + w / 32 % 2 + w / 64 % 2 + w / 128 % 2
theorem pop_step {w : Int} (h0 : 0 < w) (h1 : w < 256) : 0 ≤ mf_and w (mf_w32 (w - 1)) ∧ mf_and w (mf_w32 (w - 1)) < w ∧ popS w = popS (mf_and w (mf_w32 (w - 1))) + 1 := by
  have key : ∀ n : Fin 256, n.val ≠ 0 → 0 ≤ mf_and (n.val : Int) (mf_w32 ((n.val : Int) - 1)) ∧ mf_and (n.val : Int) (mf_w32 ((n.val : Int) - 1)) < (n.val : Int) ∧ popS (n.val : Int) = popS (mf_and (n.val : Int) (mf_w32 ((n.val : Int) - 1))) + 1 := by decide +kernel
  have := key ⟨w.toNat, by omega⟩ (by simp; omega)
  have e : ((w.toNat : Nat) : Int) = w := by omega
  simp only [e] at this
  exact this
theorem pop_range {w : Int} : 0 ≤ popS w ∧ popS w ≤ 8 := by
  unfold popS; omega
section SpR
variable {C : mf_G} {l : Launch} {d : Nat} {L : Int → mf_M → Prop} {h : mf_M} {S : aS}
theorem M_fault {w : Int} (R : RM S h) (hK : L (faultS S w) h) : mM C l d YX12_fault [(2, 245), (0, w)] h L := by
  unfold faultS at hK
  refine wX12_fault ⟨fun q => ⟨fun z => ?_, fun z => ?_⟩, fun q => ?_⟩
  · rw [if_neg q, if_neg z] at hK; exact hK
  · rw [if_neg q, if_pos z] at hK; rw [R.pl]; exact hK
  · rw [if_pos q] at hK; rw [R.fa]; exact hK
theorem M_status {w : Int} (hd : 1 ≤ d) (R : RM S h) (hK : L (statusS S w) h) : mM C l d YX12_status [(2, 245), (0, w)] h L := by
  unfold statusS at hK
  refine wX12_status hd (m_isIn ?_)
  by_cases q : 0 ≤ w ∧ w ≤ 5
  · rw [if_pos q]; rw [if_pos q] at hK
    refine ⟨fun z => absurd z (by decide), fun _ => ⟨q.1, by omega, ?_⟩⟩
    rw [R.rf w q.1 (by omega)]; exact hK
  · rw [if_neg q]; rw [if_neg q] at hK
    exact ⟨fun _ => hK, fun z => absurd rfl z⟩
theorem M_octet {k : Int} (R : RM S h) (hK : L (octetS S k) h) : mM C l d YX12_octet [(2, 245), (0, k)] h L := by
  unfold octetS at hK
  have h57 := R.ok.oc
  refine wX12_octet ⟨fun q => ?_, fun q => ?_⟩
  · rw [if_neg (by omega)] at hK; exact hK
  · rw [R.oc]
    refine ⟨fun z => ?_, fun z => ⟨by omega, by omega, ?_⟩⟩
    · rw [if_neg (by omega)] at hK; exact hK
    · rw [if_pos (by omega)] at hK
      have := R.os k.toNat (by omega)
      rw [show ((k.toNat : Nat) : Int) = k by omega] at this
      rw [this]; exact hK
theorem okS.s_tn {S : aS} (o : okS S) {n : Int} (h0 : 0 ≤ n) (h1 : n ≤ 1600) : okS (S.s_tn n) := ⟨o.F, o.P, h0, h1, o.tp, o.un, o.us, o.nx0, o.nx1, o.sn, o.ss, o.sd0, o.sd1, o.oc⟩
theorem RM.s_tn (R : RM S h) {n : Int} (h0 : 0 ≤ n) (h1 : n ≤ S.tn) : RM (S.s_tn n) (mf_up h 245 1 n) := by
  have r : ∀ a, a ≠ 245 → mf_up h 245 1 n a = h a := fun a q => up_row q
  have c : ∀ k, k ≠ 1 → mf_up h 245 1 n 245 k = h 245 k := fun k q => up_col q
  have := R.ok.tn1
  refine ⟨R.ok.s_tn h0 (by omega), up_self _ _ _ _, ?_, by rw [c 7 (by decide)]; exact R.fa, by rw [c 8 (by decide)]; exact R.pl, by rw [r 247 (by decide)]; exact R.rf, R.wd.keep (fun a ha => r a (by omega)), R.fo.keep (fun a ha => r a ?_) (fun k hk => c k ?_), by rw [vM_row (r 286 (by decide))]; exact R.vi, R.kp.row (r 286 (by decide)), by rw [c 61 (by decide)]; exact R.th, by rw [c 69 (by decide)]; exact R.un, by rw [c 70 (by decide)]; exact R.nx, fun j hj => ⟨by rw [vM_row (r 292 (by decide))]; exact (R.us j hj).1, (R.us j hj).2.row (r 292 (by decide))⟩, by rw [c 65 (by decide)]; exact R.sn, by rw [r 290 (by decide)]; exact R.ss, by rw [c 71 (by decide)]; exact R.sd, by rw [c 105 (by decide)]; exact R.oc, by rw [r 318 (by decide)]; exact R.os, by rw [c 59 (by decide)]; exact R.ao⟩
  · intro i hi0 hi
    rw [r 246 (by decide)]
    exact R.tp i hi0 (by have hi2 : i < n := hi; omega)
  · simp only [List.mem_cons, List.not_mem_nil, or_false] at ha; omega
  · simp only [List.mem_cons, List.not_mem_nil, or_false] at hk; omega
theorem M_end {n : Int} (R : RM S h) (hK : ∀ h', RM (endS S n).2 h' → frX h h' → L (endS S n).1 h') : mM C l d YX12_end [(2, 245), (0, n)] h L := by
  unfold endS at hK
  refine wX12_end ⟨fun q h1 e1 => ?_, fun q => ?_⟩
  · rw [if_pos (Or.inl q)] at hK
    rw [e1]; exact hK _ (R.ref (by decide) (by decide)) (frX.up (by decide))
  · rw [R.tn]
    refine ⟨fun z h1 e1 => ?_, fun z h1 e1 => ?_⟩
    · rw [if_neg (by omega)] at hK
      rw [e1]; exact hK _ (R.s_tn (by omega) z) (frX.up (by decide))
    · rw [if_pos (by omega)] at hK
      rw [e1]; exact hK _ (R.ref (by decide) (by decide)) (frX.up (by decide))
theorem RM.s_sd (R : RM S h) {n : Int} (h0 : 0 ≤ n) (h1 : n < 2147483648) : RM (S.s_sd n) (mf_up h 245 71 n) := by
  have r : ∀ a, a ≠ 245 → mf_up h 245 71 n a = h a := fun a q => up_row q
  have c : ∀ k, k ≠ 71 → mf_up h 245 71 n 245 k = h 245 k := fun k q => up_col q
  have o := R.ok
  refine ⟨⟨o.F, o.P, o.tn0, o.tn1, o.tp, o.un, o.us, o.nx0, o.nx1, o.sn, o.ss, h0, h1, o.oc⟩, by rw [c 1 (by decide)]; exact R.tn, by rw [r 246 (by decide)]; exact R.tp, by rw [c 7 (by decide)]; exact R.fa, by rw [c 8 (by decide)]; exact R.pl, by rw [r 247 (by decide)]; exact R.rf, R.wd.keep (fun a ha => r a (by omega)), R.fo.keep (fun a ha => r a ?_) (fun k hk => c k ?_), by rw [vM_row (r 286 (by decide))]; exact R.vi, R.kp.row (r 286 (by decide)), by rw [c 61 (by decide)]; exact R.th, by rw [c 69 (by decide)]; exact R.un, by rw [c 70 (by decide)]; exact R.nx, fun j hj => ⟨by rw [vM_row (r 292 (by decide))]; exact (R.us j hj).1, (R.us j hj).2.row (r 292 (by decide))⟩, by rw [c 65 (by decide)]; exact R.sn, by rw [r 290 (by decide)]; exact R.ss, up_self _ _ _ _, by rw [c 105 (by decide)]; exact R.oc, by rw [r 318 (by decide)]; exact R.os, by rw [c 59 (by decide)]; exact R.ao⟩
  · simp only [List.mem_cons, List.not_mem_nil, or_false] at ha; omega
  · simp only [List.mem_cons, List.not_mem_nil, or_false] at hk; omega
theorem M_seed {n : Int} (hn : n < 2147483648) (R : RM S h) (hK : ∀ h', RM (seedS S n).2 h' → frX h h' → L (seedS S n).1 h') : mM C l d YX12_seed [(2, 245), (0, n)] h L := by
  unfold seedS at hK
  refine wX12_seed ⟨fun q h1 e1 => ?_, fun q h1 e1 => ?_⟩
  · rw [if_neg (by omega)] at hK
    rw [e1]; exact hK _ (R.s_sd q hn) (frX.up (by decide))
  · rw [if_pos (by omega)] at hK
    rw [e1]; exact hK _ (R.ref (by decide) (by decide)) (frX.up (by decide))
theorem M_openingOn {day : Int} (hd : 3 ≤ d) (R : RM S h) (h0 : 0 ≤ day) (h1 : day ≤ 1000000) (hK : ∀ h', RM S h' → frQ h h' → L (opnS S day) h') : mM C l d YX12_openingOn [(2, 245), (0, day)] h L := by
  have o := R.ok.F
  refine m_openingOn (nb := S.F.nb) hd ?_ R.fo.l o.l0 o.l6 R.fo.tO o.rO h0 h1 (by have := R.ao; omega) (by have := R.ao; omega) (fun h' hq => hK h' (R.keep hq.M) hq)
  intro q
  rw [R.fo.i] at q
  by_cases e : S.F.nl = 0
  · exact (o.z e).2.2.2.1
  · rw [if_neg e] at q; exact absurd q (by decide)
theorem RM.day (R : RM S h) : h 286 0 = S.st 0 0 := by rw [← R.vi, vM_day]
theorem RM.be (R : RM S h) {j k : Int} (hj : 2 ≤ j) (hj5 : j ≤ 5) (h0 : 0 ≤ k) (h1 : k < S.F.nb) : h 286 (5 + j + 4 * k) = S.st j k := by
  rw [← R.vi, vM_be hj hj5 h0 h1]; congr 1
theorem RM.gl (R : RM S h) {k : Int} (h0 : 0 ≤ k) (h1 : k < 6) : h 286 (1 + k) = S.st 1 k := by
  rw [← R.vi, vM_gl h0 h1]; congr 1
theorem RM.on (R : RM S h) : onS (vM h 286 0 S.F.nb) S.F.nl S.F.nc S.F.nb := by rw [R.vi]; exact R.ok.P.st.1
theorem m_bits : ∀ (n : Nat) (w a : Int), 0 ≤ w → w < 256 → w ≤ n → 0 ≤ a → a + n ≤ 1000 → L (a + popS w) h → BX12_bits_4 C l d L a w h := by
  intro n
  induction n with
  | zero =>
    intro w a h0 h1 hn ha ha2 hK
    have e : w = 0 := by omega
    subst e
    refine vX12_bits_4 ⟨fun _ => ?_, fun q => absurd rfl q⟩
    simpa [popS] using hK
  | succ n ih =>
    intro w a h0 h1 hn ha ha2 hK
    refine vX12_bits_4 ⟨fun q => ?_, fun q v1 e1 v2 e2 => ?_⟩
    · subst q; simpa [popS] using hK
    · obtain ⟨p1, p2, p3⟩ := pop_step (w := w) (by omega) h1
      rw [w_id (by omega) (by omega)] at e1
      rw [e1, e2]
      refine ih _ (a + 1) p1 (by omega) (by omega) (by omega) (by omega) ?_
      rw [show a + 1 + popS (mf_and w (mf_w32 (w - 1))) = a + popS w by omega]; exact hK
theorem M_bits {w : Int} (h0 : 0 ≤ w) (h1 : w < 256) (hK : L (popS w) h) : mM C l d YX12_bits [(0, w)] h L := by
  refine wX12_bits (m_bits 255 w 0 h0 h1 (by omega) (by decide) (by decide) ?_)
  rw [show (0 : Int) + popS w = popS w by omega]; exact hK
end SpR
