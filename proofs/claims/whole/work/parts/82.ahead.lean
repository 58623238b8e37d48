/-! days ahead do not hang on how often one met -/
def eq5 (σ τ : mf_M) : Prop := ∀ j, j ≠ 5 → σ j = τ j
theorem env5 {σ τ : mf_M} (e : eq5 σ τ) {tr : Int → Int} {day o x b k : Int} (k0 : 0 ≤ k) (hk : k ≤ 6) : envS σ tr day o x b k = envS τ tr day o x b k := by
  unfold envS
  rw [e 2 (by decide), e 3 (by decide), e 4 (by decide)]
  have hc : k = 0 ∨ k = 1 ∨ k = 2 ∨ k = 3 ∨ k = 4 ∨ k = 5 ∨ k = 6 := by omega
  rcases hc with rfl | rfl | rfl | rfl | rfl | rfl | rfl <;> rfl
theorem val5 {σ τ : mf_M} (e : eq5 σ τ) {tr : Int → Int} {o x b : Int} {cs : List Int} (hc : ∀ c ∈ cs, 40 ≤ c → c < 60 → c ≤ 46) : valS (envS σ tr (σ 0 0) o x b) mt0 cs = valS (envS τ tr (τ 0 0) o x b) mt0 cs := by
  unfold valS
  rw [e 0 (by decide), evS_congr (F := envS τ tr (τ 0 0) o x b) cs [] (fun c hm q1 q2 => env5 e (by omega) (by have := hc c hm q1 q2; omega))]
theorem up5 {σ τ : mf_M} (e : eq5 σ τ) {j b v w : Int} (hv : j ≠ 5 → v = w) : eq5 (mf_up σ j b v) (mf_up τ j b w) := by
  intro i hi
  by_cases h : i = j
  · subst h
    funext m
    rw [up_if, up_if, hv hi, e i hi]
  · rw [up_row h, up_row h, e i hi]
theorem pays5 {σ τ : mf_M} (e : eq5 σ τ) (a b m : Int) : eq5 (paysS σ a b m) (paysS τ a b m) := by
  unfold paysS
  simp only []
  have e1 : eq5 (mf_up σ 4 a (clipS (σ 4 a - if σ 4 a < m then σ 4 a else m))) (mf_up τ 4 a (clipS (τ 4 a - if τ 4 a < m then τ 4 a else m))) := up5 e (fun _ => by rw [e 4 (by decide)])
  exact up5 e1 (fun _ => by rw [e1 4 (by decide), e 4 (by decide)])
section Eq5
variable {F : aF} {o : Int}
theorem meet5 (f : okF F) {σ τ : mf_M} (e : eq5 σ τ) (a b : Int) : eq5 (meetS F.tr F.cT o a b σ) (meetS F.tr F.cT o a b τ) := by
  unfold meetS
  simp only []
  have e1 : eq5 (mf_up σ 5 a (fillS (σ 5 a))) (mf_up τ 5 a (fillS (τ 5 a))) := up5 e (fun q => absurd rfl q)
  have e2 : eq5 (mf_up (mf_up σ 5 a (fillS (σ 5 a))) 5 b (fillS (mf_up σ 5 a (fillS (σ 5 a)) 5 b))) (mf_up (mf_up τ 5 a (fillS (τ 5 a))) 5 b (fillS (mf_up τ 5 a (fillS (τ 5 a)) 5 b))) := up5 e1 (fun q => absurd rfl q)
  have ht : tollS (mf_up (mf_up σ 5 a (fillS (σ 5 a))) 5 b (fillS (mf_up σ 5 a (fillS (σ 5 a)) 5 b))) F.tr F.cT o a b = tollS (mf_up (mf_up τ 5 a (fillS (τ 5 a))) 5 b (fillS (mf_up τ 5 a (fillS (τ 5 a)) 5 b))) F.tr F.cT o a b := by
    unfold tollS
    by_cases hn : F.cT = []
    · rw [if_pos hn, if_pos hn]
    · rw [if_neg hn, if_neg hn]
      exact val5 e2 (fun c hm q1 q2 => (f.rT hn).2.2 c hm q1 q2)
  rw [ht]
  split
  · exact pays5 e2 _ _ _
  · exact pays5 e2 _ _ _
theorem metB5 {σ τ : mf_M} (e : eq5 σ τ) {nl nc a b : Int} : metB σ nl nc o a b = metB τ nl nc o a b := metB_rows (e 2 (by decide)) (e 3 (by decide))
theorem in5 (f : okF F) (a : Int) : ∀ (n : Nat) (b : Int) (σ τ : mf_M), eq5 σ τ → eq5 (inS F.nl F.nc F.tr F.cT o a n b σ).1 (inS F.nl F.nc F.tr F.cT o a n b τ).1 ∧ (inS F.nl F.nc F.tr F.cT o a n b σ).2 = (inS F.nl F.nc F.tr F.cT o a n b τ).2
  | 0, _, _, _, e => ⟨e, rfl⟩
  | n + 1, b, σ, τ, e => by
    unfold inS
    rw [metB5 e]
    split
    · obtain ⟨h1, h2⟩ := in5 f a n (b + 1) _ _ (meet5 (o := o) f e a b)
      exact ⟨h1, by simp only []; rw [h2]⟩
    · exact in5 f a n (b + 1) _ _ e
theorem out5 (f : okF F) : ∀ (n : Nat) (a : Int) (σ τ : mf_M), eq5 σ τ → eq5 (outS F.nl F.nc F.nb F.tr F.cT o n a σ).1 (outS F.nl F.nc F.nb F.tr F.cT o n a τ).1 ∧ (outS F.nl F.nc F.nb F.tr F.cT o n a σ).2 = (outS F.nl F.nc F.nb F.tr F.cT o n a τ).2
  | 0, _, _, _, e => ⟨e, rfl⟩
  | n + 1, a, σ, τ, e => by
    unfold outS
    simp only []
    obtain ⟨h1, h2⟩ := in5 (o := o) f a (F.nb - (a + 1)).toNat (a + 1) _ _ e
    obtain ⟨h3, h4⟩ := out5 f n (a + 1) _ _ h1
    exact ⟨h3, by rw [h2, h4]⟩
theorem reap5 (f : okF F) : ∀ (n : Nat) (b : Int) (σ τ : mf_M), eq5 σ τ → eq5 (reapS F.tr F.cC o n b σ) (reapS F.tr F.cC o n b τ)
  | 0, _, _, _, e => e
  | n + 1, b, σ, τ, e => by
    unfold reapS
    have hc : cornS σ F.tr F.cC o b = cornS τ F.tr F.cC o b := by
      unfold cornS
      by_cases hn : F.cC = []
      · rw [if_pos hn, if_pos hn, e 3 (by decide)]
      · rw [if_neg hn, if_neg hn]
        exact val5 e (fun c hm q1 q2 => by have := (f.rC hn).2.2 c hm q1 q2; omega)
    exact reap5 f n (b + 1) _ _ (up5 e (fun _ => by rw [hc, e 4 (by decide)]))
theorem walk5 (f : okF F) : ∀ (n : Nat) (b : Int) (σ τ : mf_M), eq5 σ τ → eq5 (walkS F.nc F.nb F.tr F.cS o n b σ) (walkS F.nc F.nb F.tr F.cS o n b τ)
  | 0, _, _, _, e => e
  | n + 1, b, σ, τ, e => by
    unfold walkS
    have hg : goesB σ F.nc F.nb F.tr F.cS o b = goesB τ F.nc F.nb F.tr F.cS o b := by
      unfold goesB freeB whoS
      by_cases hn : F.cS = []
      · rw [hn]; rfl
      · rw [val5 e (fun c hm q1 q2 => by have := (f.rS hn).2.2 c hm q1 q2; omega), e 1 (by decide), e 2 (by decide), e 3 (by decide)]
    rw [hg, e 3 (by decide)]
    split
    · exact walk5 f n (b + 1) _ _ (up5 e (fun _ => rfl))
    · exact walk5 f n (b + 1) _ _ e
theorem dy5 (f : okF F) {σ τ : mf_M} (e : eq5 σ τ) : eq5 (dyS F o σ).1 (dyS F o τ).1 ∧ (dyS F o σ).2 = (dyS F o τ).2 := by
  unfold dyS dayS
  simp only []
  obtain ⟨h1, h2⟩ := out5 (o := o) f F.nb.toNat 0 _ _ e
  have h3 := walk5 (o := o) f F.nb.toNat 0 _ _ (reap5 (o := o) f F.nb.toNat 0 _ _ h1)
  exact ⟨up5 h3 (fun _ => by rw [h3 0 (by decide)]), h2⟩
theorem go5 (f : okF F) : ∀ (n : Nat) (σ τ : mf_M), eq5 σ τ → eq5 (goS F n σ).1 (goS F n τ).1 ∧ (goS F n σ).2 = (goS F n τ).2
  | 0, _, _, e => ⟨e, rfl⟩
  | n + 1, σ, τ, e => by
    unfold goS
    simp only []
    rw [e 0 (by decide)]
    obtain ⟨h1, h2⟩ := dy5 (o := openF F.nl F.cO (τ 0 0)) f e
    obtain ⟨h3, h4⟩ := go5 f n _ _ h1
    exact ⟨h3, by rw [h2, h4]⟩
/-! how often one met, counted -/
theorem meet_r5 {tr : Int → Int} {cT : List Int} {a b x : Int} {σ : mf_M} (hab : a ≠ b) : meetS tr cT o a b σ 5 x = if a = x ∨ b = x then fillS (σ 5 x) else σ 5 x := by
  unfold meetS
  have key : (mf_up (mf_up σ 5 a (fillS (σ 5 a))) 5 b (fillS (mf_up σ 5 a (fillS (σ 5 a)) 5 b))) 5 x = if a = x ∨ b = x then fillS (σ 5 x) else σ 5 x := by
    rw [up_if, up_if, up_if]
    by_cases h1 : x = b
    · rw [if_pos ⟨rfl, h1⟩, if_neg (fun q => hab q.2.symm), if_pos (Or.inr h1.symm), h1]
    · rw [if_neg (fun q => h1 q.2)]
      by_cases h2 : x = a
      · rw [if_pos ⟨rfl, h2⟩, if_pos (Or.inl h2.symm), h2]
      · rw [if_neg (fun q => h2 q.2), if_neg (fun q => q.elim (fun y => h2 y.symm) (fun y => h1 y.symm))]
  split
  · rw [paysS_row (by decide)]; exact key
  · rw [paysS_row (by decide)]; exact key
theorem in_r5 {nl nc : Int} {tr : Int → Int} {cT : List Int} {a x : Int} : ∀ (n : Nat) (b : Int) (σ : mf_M), a < b → 0 ≤ σ 5 x → σ 5 x + (inS nl nc tr cT o a n b σ).2.length ≤ 9999 → (inS nl nc tr cT o a n b σ).1 5 x = σ 5 x + cntS x (inS nl nc tr cT o a n b σ).2
  | 0, _, σ, _, _, _ => by simp [inS, cntS]
  | n + 1, b, σ, hab, h0, hl => by
    unfold inS at hl ⊢
    by_cases hm : metB σ nl nc o a b = true
    · rw [if_pos hm] at hl ⊢
      simp only [List.length_cons] at hl ⊢
      have e := meet_r5 (o := o) (tr := tr) (cT := cT) (x := x) (σ := σ) (by omega : a ≠ b)
      have hf : meetS tr cT o a b σ 5 x = σ 5 x + (if a = x ∨ b = x then 1 else 0) := by
        rw [e]
        split
        · unfold fillS; rw [if_pos (by omega)]
        · omega
      have hle : meetS tr cT o a b σ 5 x ≤ σ 5 x + 1 ∧ 0 ≤ meetS tr cT o a b σ 5 x := by rw [hf]; split <;> omega
      rw [in_r5 n (b + 1) _ (by omega) hle.2 (by omega), hf]
      simp only [cntS]
      omega
    · rw [if_neg hm] at hl ⊢
      exact in_r5 n (b + 1) σ (by omega) h0 hl
theorem out_r5 {nl nc nb : Int} {tr : Int → Int} {cT : List Int} {x : Int} : ∀ (n : Nat) (a : Int) (σ : mf_M), 0 ≤ σ 5 x → σ 5 x + (outS nl nc nb tr cT o n a σ).2.length ≤ 9999 → (outS nl nc nb tr cT o n a σ).1 5 x = σ 5 x + cntS x (outS nl nc nb tr cT o n a σ).2
  | 0, _, σ, _, _ => by simp [outS, cntS]
  | n + 1, a, σ, h0, hl => by
    unfold outS at hl ⊢
    simp only [List.length_append] at hl ⊢
    have h1 := in_r5 (o := o) (nl := nl) (nc := nc) (tr := tr) (cT := cT) (a := a) (x := x) (nb - (a + 1)).toNat (a + 1) σ (by omega) h0 (by omega)
    have hc := cntS_range x (inS nl nc tr cT o a (nb - (a + 1)).toNat (a + 1) σ).2
    rw [out_r5 n (a + 1) _ (by omega) (by omega), h1, cntS_app]
    omega
theorem dy_r5 {x : Int} {σ : mf_M} (h0 : 0 ≤ σ 5 x) (hl : σ 5 x + (dyS F o σ).2.length ≤ 9999) : (dyS F o σ).1 5 x = σ 5 x + cntS x (dyS F o σ).2 := by
  unfold dyS dayS at hl ⊢
  simp only [] at hl ⊢
  rw [up_row (by decide), walkS_row (by decide), reapS_row (by decide)]
  exact out_r5 _ _ _ h0 hl
theorem go_len (f : okF F) : ∀ (n : Nat) (σ : mf_M), ((goS F n σ).2.length : Int) ≤ 64 * n
  | 0, _ => by simp [goS]
  | n + 1, σ => by
    unfold goS
    simp only [List.length_append]
    have h1 := go_len f n (dyS F (openF F.nl F.cO (σ 0 0)) σ).1
    have h2 := dy_len F (openF F.nl F.cO (σ 0 0)) σ
    have h3 := prS_range σ F.nl F.nc F.nb (openF F.nl F.cO (σ 0 0)) f.b8
    omega
theorem go_r5 (f : okF F) {x : Int} : ∀ (n : Nat) (σ : mf_M), 0 ≤ σ 5 x → σ 5 x + (goS F n σ).2.length ≤ 9999 → (goS F n σ).1 5 x = σ 5 x + cntS x (goS F n σ).2
  | 0, σ, _, _ => by simp [goS, cntS]
  | n + 1, σ, h0, hl => by
    unfold goS at hl ⊢
    simp only [List.length_append] at hl ⊢
    have h1 := dy_r5 (F := F) (o := openF F.nl F.cO (σ 0 0)) (x := x) (σ := σ) h0 (by omega)
    have hc := cntS_range x (dyS F (openF F.nl F.cO (σ 0 0)) σ).2
    rw [go_r5 f n _ (by omega) (by omega), h1, cntS_app]
    omega
end Eq5
