/-! the class: who stands, a day that passes -/
theorem findN_congr {p q : Int → Bool} : ∀ (n : Nat) (k : Int), (∀ i, k ≤ i → i < k + n → p i = q i) → findN p n k = findN q n k
  | 0, _, _ => rfl
  | n + 1, k, h => by
    unfold findN
    rw [h k (by omega) (by omega), findN_congr n (k + 1) (fun i h1 h2 => h i (by omega) (by omega))]
section SxW
variable {C : mf_G} {l : Launch} {d : Nat} {K : mf_Kt} {g : mf_M} {F : aF} {f a : Int} {h σ : mf_M}
theorem x_who {n p c : Int} (ia : mf_is 319 a 6) (n8 : n ≤ 8) (hK : K (findN (fun b => decide (h (a + 2) b = p) && decide (h (a + 3) b = c)) n.toNat 0) g h) : xM C l d YX6_whoStands [(2, a), (0, p), (0, c), (0, n)] g h K := by
  have key : ∀ (m : Nat) (k : Int), 0 ≤ k → k + m = (if 0 ≤ n then n else 0) → K (findN (fun b => decide (h (a + 2) b = p) && decide (h (a + 3) b = c)) m k) g h → BX6_whoStands_3 C l d K a p c n k g h := by
    intro m
    induction m with
    | zero =>
      intro k k0 hk hL
      exact vX6_whoStands_3 ⟨fun _ => hL, fun q => absurd q (by split at hk <;> omega)⟩
    | succ m ih =>
      intro k k0 hk hL
      have hkn : k < n := by split at hk <;> omega
      have go : ¬ (h (a + 2) k = p ∧ h (a + 3) k = c) → ∀ v4 : Int, v4 = mf_w32 (k + 1) → BX6_whoStands_3 C l d K a p c n v4 g h := by
        intro hne v4 e4
        rw [w_id (by omega) (by omega)] at e4
        rw [e4]
        refine ih (k + 1) (by omega) (by omega) ?_
        unfold findN at hL
        rw [if_neg] at hL
        · exact hL
        · simp only [Bool.and_eq_true, decide_eq_true_eq]; exact hne
      refine vX6_whoStands_3 ⟨fun q => absurd q (by omega), fun _ => ⟨fun q => absurd q (by omega), fun _ => ⟨ia, k0, by omega, fun q => go (fun z => q z.1), fun q => ⟨fun z => go (fun y => z y.2), fun z => ?_⟩⟩⟩⟩
      unfold findN at hL
      rw [if_pos] at hL
      · exact hL
      · simp only [Bool.and_eq_true, decide_eq_true_eq]; exact ⟨q, z⟩
  refine wX6_whoStands (key n.toNat 0 (by decide) ?_ hK)
  split <;> omega
theorem cD.who (D : cD F f a h σ) (p c : Int) : findN (fun b => decide (h (a + 2) b = p) && decide (h (a + 3) b = c)) F.nb.toNat 0 = whoS σ F.nb p c := by
  unfold whoS
  have := D.ok.b0
  refine findN_congr _ _ (fun i h1 h2 => ?_)
  rw [D.be (j := 2) (by decide) (by decide) (by omega) (by omega), D.be (j := 3) (by decide) (by decide) (by omega) (by omega)]
theorem x_whoD {p c : Int} (D : cD F f a h σ) (hK : K (whoS σ F.nb p c) g h) : xM C l d YX6_whoStands [(2, a), (0, p), (0, c), (0, F.nb)] g h K := x_who D.ia D.ok.b8 (by rw [D.who]; exact hK)
theorem x_gloss {p c : Int} (ia : mf_is 319 a 6) (p0 : 0 ≤ p) (p6 : p < 6) (hK : K (biS (bitS (h (a + 1) p) c = 1)) g h) : xM C l d YX6_hasGloss [(2, a), (0, p), (0, c)] g h K := by
  unfold biS bitS at hK
  refine wX6_hasGloss ⟨fun q => absurd q (by omega), fun _ => ⟨ia, fun q => absurd q (by omega), fun _ => ⟨p0, p6, fun q => ?_, fun q => ?_⟩⟩⟩
  · rw [if_neg q] at hK; exact hK
  · rw [if_pos q] at hK; exact hK
theorem x_isFree {p c : Int} (hd : 1 ≤ d) (D : cD F f a h σ) (p0 : 0 ≤ p) (p6 : p < 6) (hK : K (if freeB σ F.nb p c then 1 else 0) g h) : xM C l d YX6_isFree [(2, a), (0, p), (0, c), (0, F.nb)] g h K := by
  unfold freeB at hK
  refine wX6_isFree hd ⟨D.ia, x_gloss D.ia p0 p6 ?_⟩
  rw [D.gl p0 p6]
  by_cases hg : bitS (σ 1 p) c = 1
  · have e : biS (bitS (σ 1 p) c = 1) = 1 := by unfold biS; rw [if_pos hg]
    rw [e]
    refine ⟨fun _ => ?_, fun q => absurd q (by decide)⟩
    rw [if_neg (by simp [hg])] at hK; exact hK
  · have e : biS (bitS (σ 1 p) c = 1) = 0 := by unfold biS; rw [if_neg hg]
    rw [e]
    refine ⟨fun q => absurd rfl q, fun _ => x_whoD D ⟨fun q => ?_, fun q => ?_⟩⟩
    · rw [if_neg (by simp [q])] at hK; exact hK
    · rw [if_pos (by simp [q, hg])] at hK; exact hK
theorem x_stepOut {o b : Int} (hd : 4 ≤ d) (D : cD F f a h σ) (b0 : 0 ≤ b) (b1 : b < F.nb) (o1 : -1000 ≤ o) (o2 : o ≤ 1000) (hK : ∀ h', cD F f a h' (if goesB σ F.nc F.nb F.tr F.cS o b then mf_up σ 3 b (σ 3 b + 1) else σ) → cR a h h' [] → K 0 g h') : xM C l d YX0_stepOutward [(2, 46), (2, f), (2, a), (0, b), (0, o)] g h K := by
  have hb8 := D.ok.b8
  have hc8 := D.ok.c8
  have hl6 := D.ok.l6
  have hff := D.fe
  have pos := D.st.1 b b0 b1
  refine wX0_stepOutward hd ⟨D.ia, b0, by omega, fun v4 e4 => ⟨isf D.fe, ?_⟩⟩
  rw [D.be (j := 3) (by decide) (by decide) b0 b1, w_id (by omega) (by omega)] at e4
  subst e4
  rw [D.fo.c, D.fo.b, D.be (j := 2) (by decide) (by decide) b0 b1]
  have stay : ∀ hh, cD F f a hh σ → cR a h hh [] → goesB σ F.nc F.nb F.tr F.cS o b = false → K 0 g hh := by
    intro hh Dh Rh hg
    refine hK hh ?_ Rh
    rw [if_neg (by rw [hg]; decide)]; exact Dh
  refine ⟨fun q => stay h D (cR.K D (frK.rf _)) ?_, fun q => x_isFree (by omega) D pos.1 (by omega) ?_⟩
  · unfold goesB
    simp [show ¬ σ 3 b + 1 < F.nc by omega]
  · by_cases hfr : freeB σ F.nb (σ 2 b) (σ 3 b + 1) = true
    · rw [if_pos hfr]
      refine ⟨fun _ => x_setParts (by omega) D b0 b1 o1 o2 (fun h23 r23 p23 k23 => ?_), fun z => absurd z (by decide)⟩
      have D23 := D.same (h' := h23) (fun x _ q _ _ => r23 x q)
      refine x_rule (ff := true) (most := 45) (other := 0) (by omega) D23 b0 b1 (by decide) (by decide) D23.fo.sS D.ok.rS (by decide) p23 (fun q => absurd q (by decide)) (by decide) (by decide) (fun h27 f27 v27 => ?_)
      have D27 := D23.same (h' := h27) (fun x q _ _ q4 => f27 x q q4)
      have R27 : cR a h h27 [] := by simpa using (cR.parts D r23).tr (cR.K D23 f27)
      refine ⟨fun z => stay h27 D27 R27 ?_, fun z h15 e15 => ?_⟩
      · unfold goesB
        simp [z]
      · have hne : F.cS ≠ [] := fun e => z (by rw [e]; rfl)
        have hem : F.cS.isEmpty = false := by
          cases hc : F.cS with
          | nil => exact absurd hc hne
          | cons x y => rfl
        have v1 := v27 hne
        simp only [if_true] at v1
        have v2 : valS (envS σ F.tr (σ 0 0) o 0 b) mt0 F.cS = 1 := by omega
        have hgo : goesB σ F.nc F.nb F.tr F.cS o b = true := by
          unfold goesB
          simp [hem, v2, hfr, show σ 3 b + 1 < F.nc by omega]
        rw [if_pos hgo] at hK
        obtain ⟨D1, R1⟩ := D27.put (j := 3) (v := σ 3 b + 1) (by decide) (by decide) b0 b1 (D.st.walk b0 b1 (by omega))
        rw [← e15] at D1 R1
        exact hK h15 D1 (by simpa using R27.tr R1)
    · rw [if_neg hfr]
      refine ⟨fun z => absurd rfl z, fun _ => stay h D (cR.K D (frK.rf _)) ?_⟩
      unfold goesB
      simp [hfr]
theorem x_passW {o m : Int} (hd : 5 ≤ d) (o1 : -1000 ≤ o) (o2 : o ≤ 1000) : ∀ (n : Nat) (b : Int) (h σ : mf_M), cD F f a h σ → 0 ≤ b → b + n = F.nb → (∀ h', cD F f a h' (walkS F.nc F.nb F.tr F.cS o n b σ) → cR a h h' [] → K m g (mf_up h' a 7 (h' a 7 + 1))) → BX0_passDay_99 C l d K f a o m b g h := by
  intro n
  induction n with
  | zero =>
    intro b h σ D b0 hb hK
    refine vX0_passDay_99 hd ⟨isf D.fe, ?_⟩
    rw [D.fo.b]
    refine ⟨fun _ => ⟨D.ia, fun h3 e3 => ?_⟩, fun q => absurd (by omega) q⟩
    obtain ⟨-, -, d0, d9⟩ := D.st
    rw [w_id (by rw [D.day]; omega) (by rw [D.day]; omega)] at e3
    rw [e3]
    exact hK h D (cR.K D (frK.rf _))
  | succ n ih =>
    intro b h σ D b0 hb hK
    have hb8 := D.ok.b8
    refine vX0_passDay_99 hd ⟨isf D.fe, ?_⟩
    rw [D.fo.b]
    refine ⟨fun q => absurd q (by omega), fun _ => x_stepOut (by omega) D b0 (by omega) o1 o2 (fun h1 D1 R1 v7 e7 => ?_)⟩
    rw [w_id (by omega) (by omega)] at e7
    rw [e7]
    unfold walkS at hK
    exact ih (b + 1) h1 _ D1 (by omega) (by omega) (fun h' D' R' => hK h' D' (by simpa using R1.tr R'))
theorem x_passR {o m : Int} (hd : 5 ≤ d) (o1 : -1000 ≤ o) (o2 : o ≤ 1000) : ∀ (n : Nat) (b : Int) (h σ : mf_M), cD F f a h σ → 0 ≤ b → b + n = F.nb → (∀ h', cD F f a h' (reapS F.tr F.cC o n b σ) → cR a h h' [] → BX0_passDay_99 C l d K f a o m 0 g h') → BX0_passDay_72 C l d K f a o m b g h := by
  intro n
  induction n with
  | zero =>
    intro b h σ D b0 hb hK
    refine vX0_passDay_72 hd ⟨isf D.fe, ?_⟩
    rw [D.fo.b]
    exact ⟨fun _ => hK h D (cR.K D (frK.rf _)), fun q => absurd (by omega) q⟩
  | succ n ih =>
    intro b h σ D b0 hb hK
    have hb8 := D.ok.b8
    refine vX0_passDay_72 hd ⟨isf D.fe, ?_⟩
    rw [D.fo.b]
    refine ⟨fun q => absurd q (by omega), fun _ => x_reap (by omega) D b0 (by omega) o1 o2 (fun h1 D1 R1 v7 e7 => ?_)⟩
    rw [w_id (by omega) (by omega)] at e7
    rw [e7]
    unfold reapS at hK
    exact ih (b + 1) h1 _ D1 (by omega) (by omega) (fun h' D' R' => hK h' D' (by simpa using R1.tr R'))
theorem x_passI {o b : Int} (hd : 5 ≤ d) (o1 : -1000 ≤ o) (o2 : o ≤ 1000) (b0 : 0 ≤ b) (hbn : b < F.nb) : ∀ (n : Nat) (c m : Int) (h σ : mf_M), cD F f a h σ → b < c → c + n = F.nb ∨ (n = 0 ∧ F.nb ≤ c) → 0 ≤ m → m + n ≤ 1000 → (∀ h', cD F f a h' (inS F.nl F.nc F.tr F.cT o b n c σ).1 → cR a h h' (inS F.nl F.nc F.tr F.cT o b n c σ).2 → BX0_passDay_6 C l d K f a o (m + (inS F.nl F.nc F.tr F.cT o b n c σ).2.length) (b + 1) g h') → BX0_passDay_21 C l d K f a o m b c g h := by
  intro n
  induction n with
  | zero =>
    intro c m h σ D hbc hc m0 m1 hK
    have hb8 := D.ok.b8
    refine vX0_passDay_21 hd ⟨isf D.fe, ?_⟩
    rw [D.fo.b]
    refine ⟨fun _ v2 e2 => ?_, fun q => absurd (by omega) q⟩
    rw [w_id (by omega) (by omega)] at e2
    rw [e2]
    have := hK h D (cR.K D (frK.rf _))
    simpa [inS] using this
  | succ n ih =>
    intro c m h σ D hbc hc m0 m1 hK
    have hb8 := D.ok.b8
    refine vX0_passDay_21 hd ⟨isf D.fe, ?_⟩
    rw [D.fo.b]
    refine ⟨fun q => absurd q (by omega), fun _ => x_meet (by omega) D b0 (by omega) (by omega) (by omega) o1 o2 ?_⟩
    unfold inS at hK
    by_cases hm : metB σ F.nl F.nc o b c = true
    · rw [if_pos hm] at hK ⊢
      refine ⟨fun q => absurd q (by decide), fun _ v7 e7 => x_meetUp (by omega) D b0 hbc (by omega) o1 o2 (fun h1 D1 R1 v11 e11 => ?_)⟩
      rw [w_id (by omega) (by omega)] at e7 e11
      rw [e7, e11]
      refine ih (c + 1) (m + 1) h1 _ D1 (by omega) (by omega) (by omega) (by omega) (fun h' D' R' => ?_)
      have h9 := hK h' D' (by simpa using R1.tr R')
      simp only [List.length_cons] at h9
      have e : m + ((((inS F.nl F.nc F.tr F.cT o b n (c + 1) (meetS F.tr F.cT o b c σ)).2.length + 1 : Nat)) : Int) = m + 1 + ((inS F.nl F.nc F.tr F.cT o b n (c + 1) (meetS F.tr F.cT o b c σ)).2.length : Int) := by omega
      rw [e] at h9
      exact h9
    · rw [if_neg hm] at hK ⊢
      refine ⟨fun _ v6 e6 => ?_, fun q => absurd rfl q⟩
      rw [w_id (by omega) (by omega)] at e6
      rw [e6]
      exact ih (c + 1) m h σ D (by omega) (by omega) m0 (by omega) hK
theorem inS_len8 {nl nc : Int} {tr : Int → Int} {cT : List Int} {o a : Int} (n : Nat) (b : Int) (σ : mf_M) : ((inS nl nc tr cT o a n b σ).2.length : Int) ≤ n := by
  rw [inS_len (τ := σ) n b σ rfl rfl]
  exact (prI_range σ nl nc o a n b).2
theorem x_passO {o : Int} (hd : 5 ≤ d) (o1 : -1000 ≤ o) (o2 : o ≤ 1000) : ∀ (n : Nat) (b m : Int) (h σ : mf_M), cD F f a h σ → 0 ≤ b → b + n = F.nb → 0 ≤ m → m ≤ 8 * b → (∀ h', cD F f a h' (outS F.nl F.nc F.nb F.tr F.cT o n b σ).1 → cR a h h' (outS F.nl F.nc F.nb F.tr F.cT o n b σ).2 → BX0_passDay_72 C l d K f a o (m + (outS F.nl F.nc F.nb F.tr F.cT o n b σ).2.length) 0 g h') → BX0_passDay_6 C l d K f a o m b g h := by
  intro n
  induction n with
  | zero =>
    intro b m h σ D b0 hb m0 m1 hK
    refine vX0_passDay_6 ⟨isf D.fe, ?_⟩
    rw [D.fo.b]
    refine ⟨fun _ => ?_, fun q => absurd (by omega) q⟩
    have := hK h D (cR.K D (frK.rf _))
    simpa [outS] using this
  | succ n ih =>
    intro b m h σ D b0 hb m0 m1 hK
    have hb8 := D.ok.b8
    refine vX0_passDay_6 ⟨isf D.fe, ?_⟩
    rw [D.fo.b]
    refine ⟨fun q => absurd q (by omega), fun _ v2 e2 => ?_⟩
    rw [w_id (by omega) (by omega)] at e2
    rw [e2]
    refine x_passI hd o1 o2 b0 (by omega) (F.nb - (b + 1)).toNat (b + 1) m h σ D (by omega) (by omega) m0 (by omega) (fun h1 D1 R1 => ?_)
    have hr := inS_len8 (nl := F.nl) (nc := F.nc) (tr := F.tr) (cT := F.cT) (o := o) (a := b) (F.nb - (b + 1)).toNat (b + 1) σ
    refine ih (b + 1) _ h1 _ D1 (by omega) (by omega) (by omega) (by omega) (fun h' D' R' => ?_)
    unfold outS at hK
    have h9 := hK h' D' (R1.tr R')
    simp only [List.length_append] at h9
    rw [Int.add_assoc]
    have e : (((inS F.nl F.nc F.tr F.cT o b (F.nb - (b + 1)).toNat (b + 1) σ).2.length + (outS F.nl F.nc F.nb F.tr F.cT o n (b + 1) (inS F.nl F.nc F.tr F.cT o b (F.nb - (b + 1)).toNat (b + 1) σ).1).2.length : Nat) : Int) = ((inS F.nl F.nc F.tr F.cT o b (F.nb - (b + 1)).toNat (b + 1) σ).2.length : Int) + ((outS F.nl F.nc F.nb F.tr F.cT o n (b + 1) (inS F.nl F.nc F.tr F.cT o b (F.nb - (b + 1)).toNat (b + 1) σ).1).2.length : Int) := by omega
    rw [e] at h9
    exact h9
/-- a day by an opening, in the class -/
theorem x_passDay {o : Int} (hd : 5 ≤ d) (D : cD F f a h σ) (o1 : -1000 ≤ o) (o2 : o ≤ 1000) (hK : ∀ h', frC a h h' → vX h' a F.nb = (dyS F o σ).1 → kcR a h h' (dyS F o σ).2 → K (prS σ F.nl F.nc F.nb o) g h') : xM C l d YX0_passDay [(2, 46), (2, f), (2, a), (0, o)] g h K := by
  have hn0 := D.ok.b0
  refine wX0_passDay (x_passO hd o1 o2 F.nb.toNat 0 0 h σ D (by decide) (by omega) (by decide) (by decide) (fun h1 D1 R1 => ?_))
  refine x_passR hd o1 o2 F.nb.toNat 0 h1 _ D1 (by decide) (by omega) (fun h2 D2 R2 => ?_)
  refine x_passW hd o1 o2 F.nb.toNat 0 h2 _ D2 (by decide) (by omega) (fun h3 D3 R3 => ?_)
  have ha := D.a1
  have R : cR a h h3 (dyS F o σ).2 := by
    have h9 := (R1.tr R2).tr R3
    simpa [dyS, dayS] using h9
  have e : (0 : Int) + ((outS F.nl F.nc F.nb F.tr F.cT o F.nb.toNat 0 σ).2.length : Int) = prS σ F.nl F.nc F.nb o := by
    rw [Int.zero_add, ← dy_len]; rfl
  rw [e]
  have r : ∀ x, x ≠ a → mf_up h3 a 7 (h3 a 7 + 1) x = h3 x := fun x q => up_row q
  have e6 : mf_up h3 a 7 (h3 a 7 + 1) a 6 = h3 a 6 := up_col (by decide)
  refine hK _ (fun x q1 q2 q3 q4 => by rw [r x (by omega)]; exact R.1 x q1 q2 q3 q4) ?_ ⟨by rw [e6]; exact R.2.2.1, fun ks hk hb => ?_⟩
  · have hv : vX (mf_up h3 a 7 (h3 a 7 + 1)) a F.nb = mf_up (vX h3 a F.nb) 0 0 (vX h3 a F.nb 0 0 + 1) := by
      rw [vX_day]
      funext i m
      rw [up_if]
      unfold vX
      by_cases e0 : i = 0
      · subst e0
        rw [if_pos rfl]
        by_cases e9 : m = 0
        · rw [if_pos e9, if_pos ⟨rfl, e9⟩, up_self]
        · rw [if_neg e9, if_neg (show ¬ ((0 : Int) = 0 ∧ m = 0) from fun q => e9 q.2), if_pos rfl, if_neg e9]
      · rw [if_neg e0, if_neg (show ¬ (i = 0 ∧ m = 0) from fun q => e0 q.1), if_neg e0]
        by_cases e1 : i = 1
        · rw [if_pos e1, if_pos e1, r _ (by omega)]
        · rw [if_neg e1, if_neg e1]
          by_cases e2 : 2 ≤ i ∧ i ≤ 5 ∧ 0 ≤ m ∧ m < F.nb
          · rw [if_pos e2, if_pos e2, r _ (by omega)]
          · rw [if_neg e2, if_neg e2]
    rw [hv, D3.vi]
    rfl
  · obtain ⟨k1, k2⟩ := R.2.2.2 ks hk hb
    exact ⟨k1.keep e6 (r _ (by omega)), by rw [e6]; exact k2⟩
end SxW
