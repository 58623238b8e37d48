def chkF (f : Int → Int) : Nat → Int → Int → Int
  | 0, _, c => c
  | n + 1, k, c => chkF f n (k + 1) ((3 * c + f k) % 251)
theorem chk_range (f : Int → Int) : ∀ (n : Nat) (k c : Int), 0 ≤ c → c ≤ 255 → 0 ≤ chkF f n k c ∧ chkF f n k c ≤ 255
  | 0, _, _, h0, h1 => ⟨h0, h1⟩
  | n + 1, k, c, h0, h1 => by
    unfold chkF
    exact chk_range f n (k + 1) _ (by omega) (by omega)
theorem chk_congr {f g : Int → Int} : ∀ (n : Nat) (k c : Int), (∀ i, k ≤ i → i < k + n → f i = g i) → chkF f n k c = chkF g n k c
  | 0, _, _, _ => rfl
  | n + 1, k, c, h => by
    unfold chkF
    rw [h k (by omega) (by omega)]
    exact chk_congr n (k + 1) _ (fun i q1 q2 => h i (by omega) (by omega))
def glN (σ : mf_M) : Nat → Int → List Int
  | 0, _ => []
  | n + 1, k => σ 1 k :: glN σ n (k + 1)
def beN (σ : mf_M) : Nat → Int → List Int
  | 0, _ => []
  | n + 1, b => σ 2 b :: σ 3 b :: σ 4 b / 256 :: σ 4 b % 256 :: σ 5 b / 256 :: σ 5 b % 256 :: beN σ n (b + 1)
def imgB (S : aS) : List Int := S.st 0 0 / 256 :: S.st 0 0 % 256 :: (glN S.st S.F.nl.toNat 0 ++ beN S.st S.F.nb.toNat 0)
def imageS (S : aS) : Int × aS := ((imgB S).length + 1, S.s_oc (imgB S ++ [chkF (fun k => (imgB S).getD k.toNat 0) (imgB S).length 0 83]))
theorem glN_len (σ : mf_M) : ∀ (n : Nat) (k : Int), (glN σ n k).length = n
  | 0, _ => rfl
  | n + 1, k => by simp [glN, glN_len σ n]
theorem beN_len (σ : mf_M) : ∀ (n : Nat) (k : Int), (beN σ n k).length = 6 * n
  | 0, _ => rfl
  | n + 1, k => by simp [beN, beN_len σ n]; omega
section SpOc
variable {C : mf_G} {l : Launch} {d : Nat} {L : Int → mf_M → Prop} {S : aS} {h : mf_M}
theorem RM.s_oc (R : RM S h) {h' : mf_M} {xs : List Int} (hx : xs.length ≤ 57) (r : ∀ a, a ≠ 245 → a ≠ 318 → h' a = h a) (c : ∀ k, k ≠ 105 → h' 245 k = h 245 k) (e1 : h' 245 105 = xs.length) (e2 : ∀ j : Nat, j < xs.length → h' 318 j = xs.getD j 0) : RM (S.s_oc xs) h' := by
  have o := R.ok
  refine ⟨⟨o.F, o.P, o.tn0, o.tn1, o.tp, o.un, o.us, o.nx0, o.nx1, o.sn, o.ss, o.sd0, o.sd1, hx⟩, by rw [c 1 (by decide)]; exact R.tn, by rw [r 246 (by decide) (by decide)]; exact R.tp, by rw [c 7 (by decide)]; exact R.fa, by rw [c 8 (by decide)]; exact R.pl, by rw [r 247 (by decide) (by decide)]; exact R.rf, R.wd.keep (fun a ha => r a (by omega) (by omega)), R.fo.keep (fun a ha => r a ?_ ?_) (fun k hk => c k ?_), by rw [vM_row (r 286 (by decide) (by decide))]; exact R.vi, R.kp.row (r 286 (by decide) (by decide)), by rw [c 61 (by decide)]; exact R.th, by rw [c 69 (by decide)]; exact R.un, by rw [c 70 (by decide)]; exact R.nx, fun j hj => ⟨by rw [vM_row (r 292 (by decide) (by decide))]; exact (R.us j hj).1, (R.us j hj).2.row (r 292 (by decide) (by decide))⟩, by rw [c 65 (by decide)]; exact R.sn, by rw [r 290 (by decide) (by decide)]; exact R.ss, by rw [c 71 (by decide)]; exact R.sd, e1, e2, by rw [c 59 (by decide)]; exact R.ao⟩
  · simp only [List.mem_cons, List.not_mem_nil, or_false] at ha; omega
  · simp only [List.mem_cons, List.not_mem_nil, or_false] at ha; omega
  · simp only [List.mem_cons, List.not_mem_nil, or_false] at hk; omega
theorem M_writes {xs : List Int} {v : Int} (R : RM (S.s_oc xs) h) (hx : xs.length < 57) (hK : ∀ h', RM (S.s_oc (xs ++ [v])) h' → frX h h' → L 0 h') : mM C l d YX12_writes [(2, 245), (0, v)] h L := by
  have e105 : h 245 105 = xs.length := R.oc
  refine wX12_writes ?_
  rw [e105]
  refine ⟨by omega, by omega, fun h3 e3 h4 e4 => ?_⟩
  have e31 : h3 245 105 = xs.length := by rw [e3, up_row (by decide)]; exact e105
  rw [e31, w_id (by omega) (by omega)] at e4
  have R2 : RM ((S.s_oc xs).s_oc (xs ++ [v])) h4 := by
    refine R.s_oc (by simp; omega) (fun a q1 q2 => by rw [e4, up_row q1, e3, up_row q2]) (fun k q => by rw [e4, up_col q, e3, up_row (by decide)]) (by rw [e4, up_self]; simp) (fun j hj => ?_)
    rw [e4, up_row (by decide), e3, up_if]
    by_cases ej : j = xs.length
    · rw [if_pos ⟨rfl, by omega⟩, ej]; simp
    · simp at hj
      rw [if_neg (by omega), List.getD_eq_getElem?_getD, List.getElem?_append_left (by omega), ← List.getD_eq_getElem?_getD]
      exact R.os j (by show j < xs.length; omega)
  exact hK h4 R2 (fun a ha => by rw [e4, up_row (by omega), e3, up_row (by omega)])
theorem M_writesTwo {xs : List Int} {v : Int} (hd : 1 ≤ d) (R : RM (S.s_oc xs) h) (hx : xs.length + 1 < 57) (v0 : 0 ≤ v) (v1 : v ≤ 2147483647) (hK : ∀ h', RM (S.s_oc (xs ++ [v / 256, v % 256])) h' → frX h h' → L 0 h') : mM C l d YX12_writesTwo [(2, 245), (0, v)] h L := by
  refine wX12_writesTwo hd ?_
  rw [Int.tdiv_eq_ediv_of_nonneg v0, Int.tmod_eq_emod_of_nonneg v0, w_id (by omega) (by omega)]
  refine M_writes R (by omega) (fun h1 R1 f1 => M_writes R1 (by simp; omega) (fun h2 R2 f2 => hK h2 ?_ (f1.tr f2)))
  rw [List.append_assoc] at R2
  exact R2
theorem m_checked {x N : Int} {f : Int → Int} (hx : mf_is 319 x 20) (hN : N ≤ mf_len x) (hf : ∀ i, 0 ≤ i → i < N → h x i = f i ∧ 0 ≤ f i ∧ f i ≤ 255) : ∀ (n : Nat) (k c : Int), 0 ≤ k → k + n = N → N ≤ 1000000 → 0 ≤ c → c ≤ 255 → L (chkF f n k c) h → BX12_checked_5 C l d L x N c k h := by
  intro n
  induction n with
  | zero =>
    intro k c k0 kn N1 c0 c1 hK
    exact vX12_checked_5 ⟨fun _ => hK, fun q => absurd (by omega) q⟩
  | succ n ih =>
    intro k c k0 kn N1 c0 c1 hK
    obtain ⟨g1, g2, g3⟩ := hf k k0 (by omega)
    refine vX12_checked_5 ⟨fun q => absurd q (by omega), fun _ => ⟨hx, k0, by omega, fun v4 e4 v5 e5 => ?_⟩⟩
    rw [g1, w_id (x := 3 * c) (by omega) (by omega), w_id (by omega) (by omega), Int.tmod_eq_emod_of_nonneg (by omega)] at e4
    rw [w_id (by omega) (by omega)] at e5
    rw [e4, e5]
    exact ih (k + 1) _ (by omega) (by omega) N1 (by omega) (by omega) hK
theorem m_img2 (hd : 2 ≤ d) (o : okS S) : ∀ (n : Nat) (b : Int) (xs : List Int) (h : mf_M), 0 ≤ b → b + n = S.F.nb → xs.length + 6 * n ≤ 56 → (∀ x ∈ xs, 0 ≤ x ∧ x ≤ 255) → RM (S.s_oc xs) h → (∀ h', RM (S.s_oc ((xs ++ beN S.st n b) ++ [chkF (fun k => (xs ++ beN S.st n b).getD k.toNat 0) (xs ++ beN S.st n b).length 0 83])) h' → frX h h' → L ((xs ++ beN S.st n b).length + 1) h') → BX12_image_45 C l d L b h := by
  have b8 := o.F.b8
  have l6 := o.F.l6
  have c8 := o.F.c8
  intro n
  induction n with
  | zero =>
    intro b xs h b0 bn hx hr R hK
    simp only [beN, List.append_nil] at hK
    have e105 : h 245 105 = xs.length := R.oc
    refine vX12_image_45 hd (wX12_beingMany ⟨fun _ => ?_, fun q => absurd (by rw [R.fo.b]; show S.F.nb ≤ b; omega) q⟩)
    rw [e105]
    refine wX12_checked (m_checked (f := fun k => xs.getD k.toNat 0) ⟨by decide, by decide, by decide⟩ (by show (xs.length : Int) ≤ 57; omega) (fun i i0 i1 => ?_) xs.length 0 83 (by decide) (by omega) (by omega) (by decide) (by decide) (M_writes R (by omega) (fun h1 R1 f1 => ?_)))
    · have := R.os i.toNat (by show i.toNat < xs.length; omega)
      rw [show ((i.toNat : Nat) : Int) = i by omega] at this
      refine ⟨this, ?_⟩
      rw [List.getD_eq_getElem?_getD, List.getElem?_eq_getElem (by omega)]
      exact hr _ (List.getElem_mem _)
    · have e1 : h1 245 105 = (xs ++ [chkF (fun k => xs.getD k.toNat 0) xs.length 0 83]).length := R1.oc
      rw [e1, List.length_append, List.length_singleton]
      have := hK h1 R1 f1
      rw [show ((xs.length + 1 : Nat) : Int) = (xs.length : Int) + 1 by omega]
      exact this
  | succ n ih =>
    intro b xs h b0 bn hx hr R hK
    have st := o.P.st.1 b b0 (by omega)
    have st2 := o.P.st.2.1 b b0 (by omega)
    have be : ∀ (ys : List Int) (h' : mf_M), RM (S.s_oc ys) h' → ∀ j, 2 ≤ j → j ≤ 5 → h' 286 (5 + j + 4 * b) = S.st j b := fun ys h' R' j q1 q2 => R'.be q1 q2 b0 (by show b < S.F.nb; omega)
    refine vX12_image_45 hd (wX12_beingMany ⟨fun q => absurd (show S.F.nb ≤ b by rw [R.fo.b] at q; exact q) (by omega), fun _ => m_leafOf b0 (by omega) ?_⟩)
    have e2 := be xs h R 2 (by decide) (by decide)
    rw [show (5 : Int) + 2 = 7 from rfl] at e2
    rw [e2]
    refine M_writes R (by omega) (fun h1 R1 f1 => m_cellOf b0 (by omega) ?_)
    have e3 := be _ h1 R1 3 (by decide) (by decide)
    rw [show (5 : Int) + 3 = 8 from rfl] at e3
    rw [e3]
    refine M_writes R1 (by simp; omega) (fun h2 R2 f2 => m_purseOf b0 (by omega) ?_)
    have e4 := be _ h2 R2 4 (by decide) (by decide)
    rw [show (5 : Int) + 4 = 9 from rfl] at e4
    rw [e4]
    refine M_writesTwo (by decide) R2 (by simp; omega) (by omega) (by omega) (fun h3 R3 f3 => ?_)
    have e5 := be _ h3 R3 5 (by decide) (by decide)
    rw [show (5 : Int) + 5 = 10 from rfl] at e5
    rw [w_id (x := 4 * b) (by omega) (by omega), w_id (x := 7 + 4 * b) (by omega) (by omega), w_id (x := 7 + 4 * b + 3) (by omega) (by omega), show 7 + 4 * b + 3 = 10 + 4 * b by omega, e5]
    refine ⟨by omega, by omega, M_writesTwo (by decide) R3 (by simp; omega) (by omega) (by omega) (fun h4 R4 f4 => ?_)⟩
    intro v33 e33
    rw [w_id (by omega) (by omega)] at e33
    rw [e33]
    have eq : xs ++ [S.st 2 b] ++ [S.st 3 b] ++ [S.st 4 b / 256, S.st 4 b % 256] ++ [S.st 5 b / 256, S.st 5 b % 256] = xs ++ [S.st 2 b, S.st 3 b, S.st 4 b / 256, S.st 4 b % 256, S.st 5 b / 256, S.st 5 b % 256] := by simp
    rw [eq] at R4
    have eq2 : xs ++ beN S.st (n + 1) b = xs ++ [S.st 2 b, S.st 3 b, S.st 4 b / 256, S.st 4 b % 256, S.st 5 b / 256, S.st 5 b % 256] ++ beN S.st n (b + 1) := by simp [beN]
    rw [eq2] at hK
    refine ih (b + 1) _ h4 (by omega) (by omega) (by simp; omega) (fun x hx2 => ?_) R4 (fun h' R' f' => hK h' R' ((((f1.tr f2).tr f3).tr f4).tr f'))
    rcases List.mem_append.mp hx2 with hx2 | hx2
    · exact hr x hx2
    · simp only [List.mem_cons, List.not_mem_nil, or_false] at hx2
      omega
theorem m_img1 (hd : 2 ≤ d) (o : okS S) : ∀ (n : Nat) (k : Int) (xs : List Int) (h : mf_M), 0 ≤ k → k + n = S.F.nl → xs.length + n ≤ 8 → (∀ x ∈ xs, 0 ≤ x ∧ x ≤ 255) → RM (S.s_oc xs) h → (∀ h', RM (S.s_oc ((xs ++ glN S.st n k ++ beN S.st S.F.nb.toNat 0) ++ [chkF (fun k' => (xs ++ glN S.st n k ++ beN S.st S.F.nb.toNat 0).getD k'.toNat 0) (xs ++ glN S.st n k ++ beN S.st S.F.nb.toNat 0).length 0 83])) h' → frX h h' → L ((xs ++ glN S.st n k ++ beN S.st S.F.nb.toNat 0).length + 1) h') → BX12_image_17 C l d L k h := by
  have b0 := o.F.b0
  have b8 := o.F.b8
  have l6 := o.F.l6
  intro n
  induction n with
  | zero =>
    intro k xs h k0 kn hx hr R hK
    simp only [glN, List.append_nil] at hK
    refine vX12_image_17 (by omega) (wX12_leaves ⟨fun _ => m_img2 hd o S.F.nb.toNat 0 xs h (by decide) (by omega) (by omega) hr R hK, fun q => absurd (by rw [R.fo.l]; show S.F.nl ≤ k; omega) q⟩)
  | succ n ih =>
    intro k xs h k0 kn hx hr R hK
    have g := o.gl (k := k) k0 (by omega)
    refine vX12_image_17 (by omega) (wX12_leaves ⟨fun q => absurd (show S.F.nl ≤ k by rw [R.fo.l] at q; exact q) (by omega), fun _ => ?_⟩)
    have eg : h 286 (1 + k) = S.st 1 k := R.gl k0 (by omega)
    rw [w_id (x := 1 + k) (by omega) (by omega), eg]
    refine ⟨by omega, by omega, M_writes R (by omega) (fun h1 R1 f1 => ?_)⟩
    intro v9 e9
    rw [w_id (by omega) (by omega)] at e9
    rw [e9]
    have eq : xs ++ glN S.st (n + 1) k = xs ++ [S.st 1 k] ++ glN S.st n (k + 1) := by simp [glN]
    rw [eq] at hK
    refine ih (k + 1) _ h1 (by omega) (by omega) (by simp; omega) (fun x hx2 => ?_) R1 (fun h' R' f' => hK h' R' (f1.tr f'))
    rcases List.mem_append.mp hx2 with hx2 | hx2
    · exact hr x hx2
    · rw [List.mem_singleton.mp hx2]; omega
theorem M_image (hd : 2 ≤ d) (R : RM S h) (hK : ∀ h', RM (imageS S).2 h' → frX h h' → L (imageS S).1 h') : mM C l d YX12_image [(2, 245)] h L := by
  have l0 := R.ok.F.l0
  have l6 := R.ok.F.l6
  have d0 := R.ok.P.st.2.2.1
  have d9 := R.ok.P.st.2.2.2
  refine wX12_image hd (fun h1 e1 => ?_)
  have R1 : RM (S.s_oc []) h1 := R.s_oc (by decide) (fun a q1 q2 => by rw [e1, up_row q1]) (fun k q => by rw [e1, up_col q]) (by rw [e1, up_self]; rfl) (fun j hj => absurd hj (by simp))
  have f1 : frX h h1 := by rw [e1]; exact frX.up (by decide)
  have ed : h1 286 0 = S.st 0 0 := R1.day
  rw [ed]
  refine M_writesTwo (by decide) R1 (by decide) d0 (by omega) (fun h2 R2 f2 => m_img1 hd R.ok S.F.nl.toNat 0 _ h2 (by decide) (by omega) (by simp; omega) (fun x hx => ?_) R2 (fun h' R' f' => ?_))
  · simp only [List.nil_append, List.mem_cons, List.not_mem_nil, or_false] at hx
    omega
  · have eq : [] ++ [S.st 0 0 / 256, S.st 0 0 % 256] ++ glN S.st S.F.nl.toNat 0 ++ beN S.st S.F.nb.toNat 0 = imgB S := by simp [imgB]
    rw [eq] at R' ⊢
    exact hK h' R' ((f1.tr f2).tr f')
end SpOc
