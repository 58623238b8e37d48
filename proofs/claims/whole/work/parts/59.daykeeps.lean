/-! a day, as numbers: what it keeps -/
theorem paysS_row {σ : mf_M} {a b m j : Int} (hj : j ≠ 4) : paysS σ a b m j = σ j := by
  unfold paysS
  rw [up_row hj, up_row hj]
theorem meetS_row {σ : mf_M} {tr : Int → Int} {cT : List Int} {o a b j : Int} (h4 : j ≠ 4) (h5 : j ≠ 5) : meetS tr cT o a b σ j = σ j := by
  unfold meetS
  split
  · rw [paysS_row h4, up_row h5, up_row h5]
  · rw [paysS_row h4, up_row h5, up_row h5]
theorem inS_row {nl nc : Int} {tr : Int → Int} {cT : List Int} {o a j : Int} (h4 : j ≠ 4) (h5 : j ≠ 5) : ∀ (n : Nat) (b : Int) (σ : mf_M), (inS nl nc tr cT o a n b σ).1 j = σ j
  | 0, _, _ => rfl
  | n + 1, b, σ => by
    unfold inS
    split
    · simp only; rw [inS_row h4 h5 n, meetS_row h4 h5]
    · exact inS_row h4 h5 n _ _
theorem outS_row {nl nc nb : Int} {tr : Int → Int} {cT : List Int} {o j : Int} (h4 : j ≠ 4) (h5 : j ≠ 5) : ∀ (n : Nat) (a : Int) (σ : mf_M), (outS nl nc nb tr cT o n a σ).1 j = σ j
  | 0, _, _ => rfl
  | n + 1, a, σ => by
    unfold outS
    simp only
    rw [outS_row h4 h5 n, inS_row h4 h5]
theorem reapS_row {tr : Int → Int} {cC : List Int} {o j : Int} (h4 : j ≠ 4) : ∀ (n : Nat) (b : Int) (σ : mf_M), reapS tr cC o n b σ j = σ j
  | 0, _, _ => rfl
  | n + 1, b, σ => by
    unfold reapS
    rw [reapS_row h4 n, up_row h4]
theorem walkS_row {nc nb : Int} {tr : Int → Int} {cS : List Int} {o j : Int} (h3 : j ≠ 3) : ∀ (n : Nat) (b : Int) (σ : mf_M), walkS nc nb tr cS o n b σ j = σ j
  | 0, _, _ => rfl
  | n + 1, b, σ => by
    unfold walkS
    rw [walkS_row h3 n]
    split
    · exact up_row h3
    · rfl
theorem metB_rows {σ τ : mf_M} {nl nc o a b : Int} (h2 : σ 2 = τ 2) (h3 : σ 3 = τ 3) : metB σ nl nc o a b = metB τ nl nc o a b := by
  unfold metB
  rw [h2, h3]
theorem inS_len {nl nc : Int} {tr : Int → Int} {cT : List Int} {o a : Int} {τ : mf_M} : ∀ (n : Nat) (b : Int) (σ : mf_M), σ 2 = τ 2 → σ 3 = τ 3 → ((inS nl nc tr cT o a n b σ).2.length : Int) = prI τ nl nc o a n b
  | 0, _, _, _, _ => rfl
  | n + 1, b, σ, h2, h3 => by
    unfold inS prI
    rw [metB_rows h2 h3]
    by_cases q : metB τ nl nc o a b = true
    · rw [if_pos q, if_pos q]
      have := inS_len (nl := nl) (nc := nc) (o := o) (a := a) (τ := τ) (tr := tr) (cT := cT) n (b + 1) (meetS tr cT o a b σ) (by rw [meetS_row (by decide) (by decide)]; exact h2) (by rw [meetS_row (by decide) (by decide)]; exact h3)
      simp only [List.length_cons]
      rw [← this]; omega
    · rw [if_neg q, if_neg q, Int.zero_add]
      exact inS_len n (b + 1) σ h2 h3
theorem outS_len {nl nc nb : Int} {tr : Int → Int} {cT : List Int} {o : Int} {τ : mf_M} : ∀ (n : Nat) (a : Int) (σ : mf_M), σ 2 = τ 2 → σ 3 = τ 3 → ((outS nl nc nb tr cT o n a σ).2.length : Int) = prO τ nl nc nb o n a
  | 0, _, _, _, _ => rfl
  | n + 1, a, σ, h2, h3 => by
    unfold outS prO
    simp only [List.length_append]
    rw [← inS_len (tr := tr) (cT := cT) (nb - (a + 1)).toNat (a + 1) σ h2 h3, ← outS_len (tr := tr) (cT := cT) n (a + 1) (inS nl nc tr cT o a (nb - (a + 1)).toNat (a + 1) σ).1 (by rw [inS_row (by decide) (by decide)]; exact h2) (by rw [inS_row (by decide) (by decide)]; exact h3)]
    omega
def dyS (F : aF) (o : Int) (σ : mf_M) : mf_M × List (Int × Int) := dayS F.nl F.nc F.nb F.tr F.cC F.cT F.cS o σ
theorem dy_len (F : aF) (o : Int) (σ : mf_M) : ((dyS F o σ).2.length : Int) = prS σ F.nl F.nc F.nb o := by
  unfold dyS dayS prS
  exact outS_len F.nb.toNat 0 σ rfl rfl
theorem dy_row {F : aF} {o j : Int} {σ : mf_M} (h0 : j ≠ 0) (h3 : j ≠ 3) (h4 : j ≠ 4) (h5 : j ≠ 5) : (dyS F o σ).1 j = σ j := by
  unfold dyS dayS
  simp only
  rw [up_row h0, walkS_row h3, reapS_row h4, outS_row h4 h5]
theorem dy_day (F : aF) (o : Int) (σ : mf_M) : (dyS F o σ).1 0 0 = σ 0 0 + 1 := by
  unfold dyS dayS
  simp only
  rw [up_self, walkS_row (by decide), reapS_row (by decide), outS_row (by decide) (by decide)]
theorem stS_outS {nl nc nb o : Int} {tr : Int → Int} {cT : List Int} : ∀ (n : Nat) (a : Int) (σ : mf_M), 0 ≤ a → a + n = nb → stS σ nl nc nb → stS (outS nl nc nb tr cT o n a σ).1 nl nc nb
  | 0, _, _, _, _, hs => hs
  | n + 1, a, σ, h0, hn, hs => by
    unfold outS
    simp only
    exact stS_outS n (a + 1) _ (by omega) (by omega) (stS_inS h0 (by omega) _ (a + 1) σ (by omega) (by omega) hs)
theorem stS_reapS {nl nc nb o : Int} {tr : Int → Int} {cC : List Int} : ∀ (n : Nat) (b : Int) (σ : mf_M), stS σ nl nc nb → stS (reapS tr cC o n b σ) nl nc nb
  | 0, _, _, hs => hs
  | n + 1, b, σ, hs => by
    unfold reapS
    exact stS_reapS n (b + 1) _ (hs.up4 (clip_range _).1 (clip_range _).2)
theorem findN_none (p : Int → Bool) : ∀ (n : Nat) (k : Int), 0 ≤ k → findN p n k = -1 → ∀ i, k ≤ i → i < k + n → p i = false
  | 0, _, _, _, i, h1, h2 => absurd h2 (by omega)
  | n + 1, k, h0, hf, i, h1, h2 => by
    unfold findN at hf
    by_cases q : p k = true
    · rw [if_pos q] at hf; omega
    · rw [if_neg q] at hf
      by_cases e : i = k
      · rw [e]; simpa using q
      · exact findN_none p n (k + 1) (by omega) hf i (by omega) (by omega)
theorem who_none {σ : mf_M} {nb a c : Int} (h : whoS σ nb a c = -1) {b : Int} (h0 : 0 ≤ b) (h1 : b < nb) : ¬ (σ 2 b = a ∧ σ 3 b = c) := by
  have := findN_none _ nb.toNat 0 (by decide) h b h0 (by omega)
  simp only [Bool.and_eq_false_iff, decide_eq_false_iff_not] at this
  intro q
  rcases this with q1 | q1
  · exact q1 q.1
  · exact q1 q.2
theorem who_some {σ : mf_M} {nb a c : Int} (h : ¬ whoS σ nb a c = -1) : 0 ≤ whoS σ nb a c ∧ whoS σ nb a c < nb ∧ σ 2 (whoS σ nb a c) = a ∧ σ 3 (whoS σ nb a c) = c := by
  rcases findN_range (fun b => decide (σ 2 b = a) && decide (σ 3 b = c)) nb.toNat 0 with q | ⟨q1, q2, q3⟩
  · exact absurd q h
  · simp only [Bool.and_eq_true, decide_eq_true_eq] at q3
    exact ⟨q1, by unfold whoS; omega, q3⟩
theorem goesB_to {σ : mf_M} {nc nb o b : Int} {tr : Int → Int} {cS : List Int} (hg : goesB σ nc nb tr cS o b = true) : σ 3 b + 1 < nc ∧ ¬ bitS (σ 1 (σ 2 b)) (σ 3 b + 1) = 1 ∧ whoS σ nb (σ 2 b) (σ 3 b + 1) = -1 := by
  unfold goesB freeB at hg
  simp only [Bool.and_eq_true, decide_eq_true_eq, Bool.not_eq_true', decide_eq_false_iff_not] at hg
  exact ⟨hg.1.2, hg.2.1, hg.2.2⟩
theorem stS_walkS {nl nc nb o : Int} {tr : Int → Int} {cS : List Int} : ∀ (n : Nat) (b : Int) (σ : mf_M), 0 ≤ b → b + n = nb → stS σ nl nc nb → (∀ b, 0 ≤ b → b < nb → ¬ bitS (σ 1 (σ 2 b)) (σ 3 b) = 1) → (∀ b c, 0 ≤ b → b < nb → 0 ≤ c → c < nb → b ≠ c → ¬ (σ 2 b = σ 2 c ∧ σ 3 b = σ 3 c)) → stS (walkS nc nb tr cS o n b σ) nl nc nb ∧ (∀ k, 0 ≤ k → k < nb → ¬ bitS ((walkS nc nb tr cS o n b σ) 1 ((walkS nc nb tr cS o n b σ) 2 k)) ((walkS nc nb tr cS o n b σ) 3 k) = 1) ∧ ∀ k c, 0 ≤ k → k < nb → 0 ≤ c → c < nb → k ≠ c → ¬ ((walkS nc nb tr cS o n b σ) 2 k = (walkS nc nb tr cS o n b σ) 2 c ∧ (walkS nc nb tr cS o n b σ) 3 k = (walkS nc nb tr cS o n b σ) 3 c)
  | 0, _, _, _, _, hs, hg, hd => ⟨hs, hg, hd⟩
  | n + 1, b, σ, h0, hn, hs, hg, hd => by
    have ew : walkS nc nb tr cS o (n + 1) b σ = walkS nc nb tr cS o n (b + 1) (if goesB σ nc nb tr cS o b then mf_up σ 3 b (σ 3 b + 1) else σ) := rfl
    rw [ew]
    by_cases g : goesB σ nc nb tr cS o b = true
    · rw [if_pos g]
      obtain ⟨g1, g2, g3⟩ := goesB_to g
      refine stS_walkS n (b + 1) _ (by omega) (by omega) (hs.walk h0 (by omega) g1) (fun k k0 k1 => ?_) (fun k c k0 k1 c0 c1 kc => ?_)
      · rw [up_row (by decide), up_row (by decide), up_if]
        by_cases e : k = b
        · rw [if_pos ⟨rfl, e⟩, e]; exact g2
        · rw [if_neg (fun q => e q.2)]; exact hg k k0 k1
      · rw [up_row (by decide), up_if, up_if]
        by_cases e : k = b
        · rw [if_pos ⟨rfl, e⟩, if_neg (by omega), e]
          intro q
          exact who_none g3 c0 c1 ⟨q.1.symm, q.2.symm⟩
        · rw [if_neg (fun q => e q.2)]
          by_cases e2 : c = b
          · rw [if_pos ⟨rfl, e2⟩, e2]
            exact fun q => who_none g3 k0 k1 q
          · rw [if_neg (fun q => e2 q.2)]; exact hd k c k0 k1 c0 c1 kc
    · rw [if_neg g]
      exact stS_walkS n (b + 1) σ (by omega) (by omega) hs hg hd
theorem okP.nil {F : aF} {σ : mf_M} {ks : List (Int × Int × Int)} (o : okP F σ ks) : okP F σ [] := ⟨o.st, o.gl, o.gz, o.ng, o.ds, by decide, fun q hq => absurd hq (by simp)⟩
theorem okP.with {F : aF} {σ : mf_M} {ks : List (Int × Int × Int)} (o : okP F σ []) (h : ks.length ≤ 40 ∧ ∀ q ∈ ks, 0 ≤ q.1 ∧ q.1 ≤ 999 ∧ 0 ≤ q.2.1 ∧ q.2.1 < 8 ∧ 0 ≤ q.2.2 ∧ q.2.2 < 8) : okP F σ ks := ⟨o.st, o.gl, o.gz, o.ng, o.ds, h⟩
theorem okP.day {F : aF} {σ : mf_M} {op : Int} (f : okF F) (o : okP F σ []) (hd : σ 0 0 < 999) : okP F (dyS F op σ).1 [] := by
  have s1 := stS_outS (nl := F.nl) (nc := F.nc) (tr := F.tr) (cT := F.cT) (o := op) F.nb.toNat 0 σ (by decide) (by have := f.b0; omega) o.st
  have s2 := stS_reapS (nl := F.nl) (nc := F.nc) (nb := F.nb) (tr := F.tr) (cC := F.cC) (o := op) F.nb.toNat 0 _ s1
  have r1 : ∀ j, j ≠ 4 → j ≠ 5 → reapS F.tr F.cC op F.nb.toNat 0 (outS F.nl F.nc F.nb F.tr F.cT op F.nb.toNat 0 σ).1 j = σ j := fun j q1 q2 => by rw [reapS_row q1, outS_row q1 q2]
  have s3 := stS_walkS (nl := F.nl) (nc := F.nc) (nb := F.nb) (tr := F.tr) (cS := F.cS) (o := op) F.nb.toNat 0 _ (by decide) (by have := f.b0; omega) s2 (fun b h0 h1 => by rw [r1 1 (by decide) (by decide), r1 2 (by decide) (by decide), r1 3 (by decide) (by decide)]; exact o.ng b h0 h1) (fun b c q1 q2 q3 q4 q5 => by rw [r1 2 (by decide) (by decide), r1 3 (by decide) (by decide)]; exact o.ds b c q1 q2 q3 q4 q5)
  have e3 : (dyS F op σ).1 3 = walkS F.nc F.nb F.tr F.cS op F.nb.toNat 0 (reapS F.tr F.cC op F.nb.toNat 0 (outS F.nl F.nc F.nb F.tr F.cT op F.nb.toNat 0 σ).1) 3 := by
    unfold dyS dayS; simp only; rw [up_row (by decide)]
  have eJ : ∀ j, j ≠ 0 → (dyS F op σ).1 j = walkS F.nc F.nb F.tr F.cS op F.nb.toNat 0 (reapS F.tr F.cC op F.nb.toNat 0 (outS F.nl F.nc F.nb F.tr F.cT op F.nb.toNat 0 σ).1) j := by
    intro j hj; unfold dyS dayS; simp only; rw [up_row hj]
  have d0 := o.st.2.2.1
  refine ⟨⟨fun b h0 h1 => ?_, fun b h0 h1 => ?_, ?_, ?_⟩, fun k h0 h1 => ?_, fun k h0 h1 => ?_, fun b h0 h1 => ?_, fun b c q1 q2 q3 q4 q5 => ?_, by decide, fun q hq => absurd hq (by simp)⟩
  · rw [eJ 2 (by decide), eJ 3 (by decide)]; exact s3.1.1 b h0 h1
  · rw [eJ 4 (by decide), eJ 5 (by decide)]; exact s3.1.2.1 b h0 h1
  · rw [dy_day]; omega
  · rw [dy_day]; omega
  · rw [dy_row (by decide) (by decide) (by decide) (by decide)]; exact o.gl k h0 h1
  · rw [dy_row (by decide) (by decide) (by decide) (by decide)]; exact o.gz k h0 h1
  · rw [eJ 1 (by decide), eJ 2 (by decide), eJ 3 (by decide)]; exact s3.2.1 b h0 h1
  · rw [eJ 2 (by decide), eJ 3 (by decide)]; exact s3.2.2 b c q1 q2 q3 q4 q5
/-- who met, in range -/
theorem inS_mem {nl nc : Int} {tr : Int → Int} {cT : List Int} {o a : Int} : ∀ (n : Nat) (b : Int) (σ : mf_M) (q : Int × Int), q ∈ (inS nl nc tr cT o a n b σ).2 → q.1 = a ∧ b ≤ q.2 ∧ q.2 < b + n
  | 0, _, _, q, hq => by simp [inS] at hq
  | n + 1, b, σ, q, hq => by
    unfold inS at hq
    split at hq
    · simp only [List.mem_cons] at hq
      rcases hq with rfl | hq
      · exact ⟨rfl, by simp, by simp; omega⟩
      · have := inS_mem n (b + 1) _ q hq; omega
    · have := inS_mem n (b + 1) _ q hq; omega
theorem outS_mem {nl nc nb : Int} {tr : Int → Int} {cT : List Int} {o : Int} : ∀ (n : Nat) (a : Int) (σ : mf_M) (q : Int × Int), 0 ≤ a → a + n = nb → q ∈ (outS nl nc nb tr cT o n a σ).2 → 0 ≤ q.1 ∧ q.1 < q.2 ∧ q.2 < nb
  | 0, _, _, q, _, _, hq => by simp [outS] at hq
  | n + 1, a, σ, q, h0, hn, hq => by
    unfold outS at hq
    simp only [List.mem_append] at hq
    rcases hq with hq | hq
    · have := inS_mem _ _ _ q hq; omega
    · exact outS_mem n (a + 1) _ q (by omega) (by omega) hq
theorem dy_mem {F : aF} {o : Int} {σ : mf_M} (f : okF F) {q : Int × Int} (hq : q ∈ (dyS F o σ).2) : 0 ≤ q.1 ∧ q.1 < q.2 ∧ q.2 < F.nb :=
  outS_mem F.nb.toNat 0 σ q (by decide) (by have := f.b0; omega) hq
