/-! a day in the reference -/
def frD (h h' : mf_M) : Prop := (∀ a, a ≠ 245 → a ≠ 286 → a ≠ 288 → a ≠ 317 → h' a = h a) ∧ ∀ k, k ≠ 55 → k ≠ 58 → k ≠ 59 → k ≠ 60 → k ≠ 62 → k ≠ 101 → h' 245 k = h 245 k
theorem frD.tr {a b c : mf_M} (h1 : frD a b) (h2 : frD b c) : frD a c := ⟨fun x q1 q2 q3 q4 => (h2.1 x q1 q2 q3 q4).trans (h1.1 x q1 q2 q3 q4), fun k q1 q2 q3 q4 q5 q6 => (h2.2 k q1 q2 q3 q4 q5 q6).trans (h1.2 k q1 q2 q3 q4 q5 q6)⟩
def folM (h : mf_M) (nl nc nb : Int) (tr : Int → Int) (cO cC cT cS : List Int) : Prop := h 276 2 = nl ∧ h 276 3 = nc ∧ h 277 3 = nb ∧ (1 ≤ nl ∧ nl ≤ 6) ∧ (2 ≤ nc ∧ nc ≤ 8) ∧ (0 ≤ nb ∧ nb ≤ 8) ∧ (∀ b, 0 ≤ b → b < nb → tr b = h 282 (8 + b)) ∧ (∀ b, 0 ≤ b → b < nb → 0 ≤ tr b ∧ tr b ≤ 9) ∧ toldM h 0 cO ∧ toldM h 1 cC ∧ toldM h 2 cT ∧ toldM h 3 cS ∧ (cO ≠ [] → ruleS cO false 40) ∧ (cC ≠ [] → ruleS cC false 45) ∧ (cT ≠ [] → ruleS cT false 46) ∧ (cS ≠ [] → ruleS cS true 45)
theorem toldM.keep {h h' : mf_M} {s : Int} {cs : List Int} (e3 : h' 283 = h 283) (e4 : h' 284 = h 284) (e5 : h' 285 = h 285) (ht : toldM h s cs) : toldM h' s cs := by
  unfold toldM codM at ht ⊢
  rw [e3, e4, e5]; exact ht
theorem folM.keep {h h' : mf_M} {nl nc nb : Int} {tr : Int → Int} {cO cC cT cS : List Int} (hr : ∀ a, a ≠ 245 → a ≠ 286 → a ≠ 288 → a ≠ 317 → h' a = h a) (hf : folM h nl nc nb tr cO cC cT cS) : folM h' nl nc nb tr cO cC cT cS := by
  have e6 := hr 276 (by decide) (by decide) (by decide) (by decide)
  have e7 := hr 277 (by decide) (by decide) (by decide) (by decide)
  have e2 := hr 282 (by decide) (by decide) (by decide) (by decide)
  have e3 := hr 283 (by decide) (by decide) (by decide) (by decide)
  have e4 := hr 284 (by decide) (by decide) (by decide) (by decide)
  have e5 := hr 285 (by decide) (by decide) (by decide) (by decide)
  obtain ⟨f1, f2, f3, f4, f5, f6, f7, f8, f9, f10, f11, f12, f13⟩ := hf
  exact ⟨by rw [e6]; exact f1, by rw [e6]; exact f2, by rw [e7]; exact f3, f4, f5, f6, by rw [e2]; exact f7, f8, f9.keep e3 e4 e5, f10.keep e3 e4 e5, f11.keep e3 e4 e5, f12.keep e3 e4 e5, f13⟩
theorem env_tr {σ : mf_M} {tr tr' : Int → Int} {day o x b : Int} (h : tr b = tr' b) : envS σ tr day o x b = envS σ tr' day o x b := by
  unfold envS
  rw [h]
/-- the numbers are as they can be -/
def stS (σ : mf_M) (nl nc nb : Int) : Prop := onS σ nl nc nb ∧ (∀ b, 0 ≤ b → b < nb → 0 ≤ σ 4 b ∧ σ 4 b ≤ 9999 ∧ 0 ≤ σ 5 b ∧ σ 5 b ≤ 9999) ∧ 0 ≤ σ 0 0 ∧ σ 0 0 ≤ 999
theorem env_range {σ : mf_M} {nl nc nb o other b : Int} {tr : Int → Int} (hs : stS σ nl nc nb) (hl : nl ≤ 6) (hc : nc ≤ 8) (hn8 : nb ≤ 8) (hb0 : 0 ≤ b) (hb : b < nb) (htr : ∀ b, 0 ≤ b → b < nb → 0 ≤ tr b ∧ tr b ≤ 9) (ho0 : 0 ≤ other) (ho9 : other ≤ 9) (k : Int) : -1000000 ≤ envS σ tr (σ 0 0) o other b k ∧ envS σ tr (σ 0 0) o other b k ≤ 1000000 := by
  obtain ⟨h1, h2, h3, h4⟩ := hs
  obtain ⟨p1, p2, p3, p4⟩ := h1 b hb0 hb
  obtain ⟨r1, r2, r3, r4⟩ := h2 b hb0 hb
  obtain ⟨t1, t2⟩ := htr b hb0 hb
  have hop := bi_range (σ 2 b = o - 1 ∨ σ 2 b = o)
  unfold envS openS
  repeat' split
  all_goals omega
theorem clip_range (v : Int) : 0 ≤ clipS v ∧ clipS v ≤ 9999 := by
  unfold clipS
  split
  · omega
  · split <;> omega
theorem fill_range {v : Int} (h0 : 0 ≤ v) (h1 : v ≤ 9999) : 0 ≤ fillS v ∧ fillS v ≤ 9999 := by
  unfold fillS
  split <;> omega
/-- a write to a purse or to how often one met keeps the numbers as they can be -/
theorem stS.up4 {σ : mf_M} {nl nc nb b v : Int} (hs : stS σ nl nc nb) (h0 : 0 ≤ v) (h1 : v ≤ 9999) : stS (mf_up σ 4 b v) nl nc nb := by
  obtain ⟨q1, q2, q3, q4⟩ := hs
  refine ⟨fun x hx0 hx => ?_, fun x hx0 hx => ?_, ?_, ?_⟩
  · rw [up_row (by decide), up_row (by decide)]; exact q1 x hx0 hx
  · rw [up_row (show ¬ (5 : Int) = 4 by decide), up_if]
    have := q2 x hx0 hx
    split <;> omega
  · rw [up_row (by decide)]; exact q3
  · rw [up_row (by decide)]; exact q4
theorem stS.up5 {σ : mf_M} {nl nc nb b v : Int} (hs : stS σ nl nc nb) (h0 : 0 ≤ v) (h1 : v ≤ 9999) : stS (mf_up σ 5 b v) nl nc nb := by
  obtain ⟨q1, q2, q3, q4⟩ := hs
  refine ⟨fun x hx0 hx => ?_, fun x hx0 hx => ?_, ?_, ?_⟩
  · rw [up_row (by decide), up_row (by decide)]; exact q1 x hx0 hx
  · rw [up_row (show ¬ (4 : Int) = 5 by decide), up_if]
    have := q2 x hx0 hx
    split <;> omega
  · rw [up_row (by decide)]; exact q3
  · rw [up_row (by decide)]; exact q4
theorem stS.pays {σ : mf_M} {nl nc nb a b m : Int} (hs : stS σ nl nc nb) : stS (paysS σ a b m) nl nc nb := by
  unfold paysS
  exact (hs.up4 (clip_range _).1 (clip_range _).2).up4 (clip_range _).1 (clip_range _).2
theorem stS.meet {σ : mf_M} {nl nc nb a b o : Int} {tr : Int → Int} {cT : List Int} (hs : stS σ nl nc nb) (ha0 : 0 ≤ a) (ha : a < nb) (hb0 : 0 ≤ b) (hb : b < nb) : stS (meetS tr cT o a b σ) nl nc nb := by
  have q1 := hs.2.1 a ha0 ha
  have f1 := fill_range q1.2.2.1 q1.2.2.2
  have s1 := hs.up5 (b := a) f1.1 f1.2
  have q2 := s1.2.1 b hb0 hb
  have f2 := fill_range q2.2.2.1 q2.2.2.2
  have s2 := s1.up5 (b := b) f2.1 f2.2
  unfold meetS
  simp only []
  split
  · exact s2.pays
  · exact s2.pays
/-- how what is kept, how often one met in these days, and how many met have changed -/
def kpR (h h' : mf_M) (ms : List (Int × Int)) : Prop := (h 245 61 ≠ 0 → ∀ k, 39 ≤ k → h' 286 k = h 286 k) ∧ (h 245 61 = 0 → ∀ ks, kpM h 286 0 ks → kpM h' 286 0 (ms.foldl (fun ks q => keepS ks (h 286 0, q.1, q.2)) ks))
def inR (h h' : mf_M) (ms : List (Int × Int)) : Prop := (∀ b, 0 ≤ b → b < 8 → 0 ≤ h 288 b ∧ h 288 b + ms.length ≤ 2000000000) → ∀ b, 0 ≤ b → b < 8 → h' 288 b = h 288 b + cntS b ms
def mgR (h h' : mf_M) (ms : List (Int × Int)) : Prop := 0 ≤ h 245 62 → h 245 62 + ms.length ≤ 2000000000 → h' 245 62 = h 245 62 + ms.length
def dR (h h' : mf_M) (ms : List (Int × Int)) : Prop := frD h h' ∧ h' 245 58 = h 245 58 ∧ h' 245 59 = h 245 59 ∧ h' 286 0 = h 286 0 ∧ kpR h h' ms ∧ inR h h' ms ∧ mgR h h' ms
theorem dR.tr {a b c : mf_M} {m1 m2 : List (Int × Int)} (h1 : dR a b m1) (h2 : dR b c m2) : dR a c (m1 ++ m2) := by
  obtain ⟨f1, f2, f3, f4, ⟨f5, f6⟩, f7, f8⟩ := h1
  obtain ⟨g1, g2, g3, g4, ⟨g5, g6⟩, g7, g8⟩ := h2
  have e61 : b 245 61 = a 245 61 := f1.2 61 (by decide) (by decide) (by decide) (by decide) (by decide) (by decide)
  refine ⟨f1.tr g1, g2.trans f2, g3.trans f3, g4.trans f4, ⟨fun q k hk => ?_, fun q ks hks => ?_⟩, fun q => ?_, fun q1 q2 => ?_⟩
  · rw [g5 (by rw [e61]; exact q) k hk]; exact f5 q k hk
  · have := g6 (by rw [e61]; exact q) _ (f6 q ks hks)
    rw [f4] at this
    rw [List.foldl_append]
    exact this
  · simp only [List.length_append] at q
    have r1 := f7 (fun b h0 h8 => by have := q b h0 h8; omega)
    have r2 := g7 (fun b h0 h8 => by
      have := q b h0 h8
      have := r1 b h0 h8
      have := cntS_range b m1
      omega)
    intro b h0 h8
    rw [r2 b h0 h8, r1 b h0 h8, cntS_app]
    omega
  · simp only [List.length_append] at q2 ⊢
    have r1 := f8 q1 (by omega)
    have r2 := g8 (by omega) (by omega)
    omega
theorem dR.ofE {a b : mf_M} (h : frE a b) : dR a b [] := by
  have e6 := h.1 286 (by decide) (by decide)
  have e8 := h.1 288 (by decide) (by decide)
  refine ⟨⟨fun x q1 _ _ q4 => h.1 x q1 q4, fun k q1 _ _ _ _ q6 => h.2 k q6 q1⟩, h.2 58 (by decide) (by decide), h.2 59 (by decide) (by decide), by rw [e6], ⟨fun _ k _ => by rw [e6], fun _ ks hks => ?_⟩, fun _ x _ _ => by rw [e8]; simp [cntS], fun _ _ => by rw [h.2 62 (by decide) (by decide)]; simp⟩
  unfold kpM at hks ⊢
  rw [e6]; exact hks
theorem dR.x {a b : mf_M} {ms : List (Int × Int)} (h : dR a b ms) (hx : a 245 61 = 0 → ∃ ks, kpM a 286 0 ks) : b 245 61 = 0 → ∃ ks, kpM b 286 0 ks := by
  intro q
  rw [h.1.2 61 (by decide) (by decide) (by decide) (by decide) (by decide) (by decide)] at q
  obtain ⟨ks, hks⟩ := hx q
  exact ⟨_, h.2.2.2.2.1.2 q ks hks⟩
