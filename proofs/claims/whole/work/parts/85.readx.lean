/-! the best order of reading, in the class -/
def rowD (N : Int) (h : mf_M) (p : Int) (dep : Nat) : Prop := ∀ j : Nat, j < dep → h 60 j = p / pwS N (dep - 1 - j) % N
def bst (N n : Int) (c : Int → Int) (m : Int) (h : mf_M) : Prop := (m = 0 ∧ h 51 10 = 1000) ∨ (∃ i : Int, 0 ≤ i ∧ i < m ∧ c i = h 51 10 ∧ (∀ k : Int, 0 ≤ k → k < n → h 61 k = digS N i n k) ∧ ∀ t : Int, 0 ≤ t → t < m → h 51 10 ≤ c t ∧ (t < i → h 51 10 < c t))
theorem bst.to {N n : Int} {c : Int → Int} {m m' : Int} {h h' : mf_M} (b : bst N n c m h) (em : m' = m) (e1 : h' 51 10 = h 51 10) (e2 : h' 61 = h 61) : bst N n c m' h' := by
  subst em
  unfold bst at b ⊢
  rw [e1, e2]; exact b
theorem bst.skip {N n : Int} {c : Int → Int} {m m' : Int} {h : mf_M} (hc : ∀ t, c t < 1000) (b : bst N n c m h) (hm : m ≤ m') (hs : ∀ t, m ≤ t → t < m' → h 51 10 ≤ c t) : bst N n c m' h := by
  rcases b with ⟨b1, b2⟩ | ⟨i, i0, i1, i2, i3, i4⟩
  · by_cases e : m' = 0
    · exact Or.inl ⟨e, b2⟩
    · have := hs 0 (by omega) (by omega)
      have := hc 0
      omega
  · refine Or.inr ⟨i, i0, by omega, i2, i3, fun t t0 t1 => ?_⟩
    by_cases e : t < m
    · exact i4 t t0 e
    · exact ⟨hs t (by omega) t1, fun q => absurd q (by omega)⟩
theorem bst.new {N n : Int} {c : Int → Int} {m : Int} {h h' : mf_M} (b : bst N n c m h) (m0 : 0 ≤ m) (hl : c m < h 51 10) (e1 : h' 51 10 = c m) (e2 : ∀ k : Int, 0 ≤ k → k < n → h' 61 k = digS N m n k) : bst N n c (m + 1) h' := by
  refine Or.inr ⟨m, m0, by omega, e1.symm, e2, fun t t0 t1 => ?_⟩
  rw [e1]
  by_cases e : t = m
  · rw [e]; exact ⟨Int.le_refl _, fun q => absurd q (by omega)⟩
  · rcases b with ⟨b1, b2⟩ | ⟨i, i0, i1, i2, i3, i4⟩
    · omega
    · have := (i4 t t0 (by omega)).1
      exact ⟨by omega, fun _ => by omega⟩
def frT (dep : Int) (h h' : mf_M) : Prop := (∀ x, x ≠ 47 → x ≠ 48 → x ≠ 50 → x ≠ 51 → x ≠ 60 → x ≠ 61 → ¬ (67 + 7 * dep ≤ x ∧ x ≤ 87) → h' x = h x) ∧ (∀ k, k ≠ 10 → h' 51 k = h 51 k) ∧ (∀ a ∈ ([67, 74, 81] : List Int), inr (h a 6) → inr (h' a 6)) ∧ ∀ j : Int, j < dep → h' 60 j = h 60 j
theorem frT.rf (dep : Int) (h : mf_M) : frT dep h h := ⟨fun _ _ _ _ _ _ _ _ => rfl, fun _ _ => rfl, fun _ _ => id, fun _ _ => rfl⟩
theorem frT.tr {dep : Int} {a b c : mf_M} (h1 : frT dep a b) (h2 : frT dep b c) : frT dep a c := ⟨fun x q1 q2 q3 q4 q5 q6 q7 => (h2.1 x q1 q2 q3 q4 q5 q6 q7).trans (h1.1 x q1 q2 q3 q4 q5 q6 q7), fun k q => (h2.2.1 k q).trans (h1.2.1 k q), fun a ha q => h2.2.2.1 a ha (h1.2.2.1 a ha q), fun j q => (h2.2.2.2 j q).trans (h1.2.2.2 j q)⟩
theorem frT.up {dep : Int} {a b : mf_M} (h1 : frT (dep + 1) a b) : frT dep a b := ⟨fun x q1 q2 q3 q4 q5 q6 q7 => h1.1 x q1 q2 q3 q4 q5 q6 (by omega), h1.2.1, h1.2.2.1, fun j q => h1.2.2.2 j (by omega)⟩
theorem p_dig {N : Int} (h1 : 1 ≤ N) (h7 : N ≤ 7) {p o : Int} (p0 : 0 ≤ p) (o0 : 0 ≤ o) (o1 : o < N) {i : Nat} (hi : i ≤ 1) : (p * N + o) / pwS N (i + 1) % N = p / pwS N i % N := by
  have hN : N = 1 ∨ N = 2 ∨ N = 3 ∨ N = 4 ∨ N = 5 ∨ N = 6 ∨ N = 7 := by omega
  have hi' : i = 0 ∨ i = 1 := by omega
  rcases hN with rfl | rfl | rfl | rfl | rfl | rfl | rfl <;> rcases hi' with rfl | rfl <;> simp only [pwS] <;> omega
theorem p_last {N : Int} (h1 : 1 ≤ N) (h7 : N ≤ 7) {p o : Int} (o0 : 0 ≤ o) (o1 : o < N) : (p * N + o) / pwS N 0 % N = o := by
  have hN : N = 1 ∨ N = 2 ∨ N = 3 ∨ N = 4 ∨ N = 5 ∨ N = 6 ∨ N = 7 := by omega
  rcases hN with rfl | rfl | rfl | rfl | rfl | rfl | rfl <;> simp only [pwS] <;> omega
theorem dm_blk {o W t : Int} (t0 : 0 ≤ t) (t1 : t < W) : (o * W + t) / W = o ∧ (o * W + t) % W = t := by
  have hW : W ≠ 0 := by omega
  constructor
  · rw [Int.add_comm, Int.add_mul_ediv_right _ _ hW, Int.ediv_eq_zero_of_lt t0 t1, Int.zero_add]
  · rw [Int.add_comm, Int.add_mul_emod_self_right, Int.emod_eq_of_lt t0 t1]
section SxRe
variable {C : mf_G} {l : Launch} {K : mf_Kt} {g : mf_M} {F : aF} {f : Int}
theorem cD.frT {a dep : Int} {h h' σ : mf_M} (d0 : 0 ≤ dep) (D : cD F f a h σ) (t : frT dep h h') (ha : a = 88 ∨ (67 ≤ a ∧ a + 7 ≤ 67 + 7 * dep)) : cD F f a h' σ := by
  have hf := D.fe
  have r : ∀ i, 0 ≤ i → i ≤ 6 → h' (a + i) = h (a + i) := fun i i0 i6 => t.1 _ (by omega) (by omega) (by omega) (by omega) (by omega) (by omega) (by omega)
  have r0 : h' a = h a := by have := r 0 (by decide) (by decide); rwa [Int.add_zero] at this
  refine ⟨D.fe, D.2.1, D.ok, D.fo.keep (fun x h1 h2 => t.1 x (by omega) (by omega) (by omega) (by omega) (by omega) (by omega) (by omega)), ?_, D.st, by rw [r0]; exact D.kr⟩
  rw [vX_row (h := h) (by rw [r0]) (fun j j1 j2 => r j (by omega) (by omega))]; exact D.vi
theorem isT {i : Int} (h0 : 0 ≤ i) (h1 : i < 3) : mf_is 319 (67 + 7 * i) 6 := by
  have hi : i = 0 ∨ i = 1 ∨ i = 2 := by omega
  rcases hi with rfl | rfl | rfl
  · exact is67
  · exact is74
  · exact is81
def tryP (C : mf_G) (l : Launch) (g : mf_M) (F : aF) (f n : Int) (c : Int → Int) (r : Nat) : Prop := ∀ (e : Nat) (a : Int) (dep : Nat) (p met : Int) (h σ : mf_M) (K : mf_Kt), (dep : Int) + (r + 1 : Nat) = n → 10 + r ≤ e → (a = 88 ∨ (67 ≤ a ∧ a + 7 ≤ 67 + 7 * (dep : Int))) → cD F f a h σ → okP F σ [] → σ 0 0 + (r + 1 : Nat) ≤ 999 → (∀ a ∈ ([67, 74, 81] : List Int), inr (h a 6)) → 0 ≤ p → 0 ≤ met → met ≤ 64 * (dep : Int) → rowD (F.nl + 1) h p dep → bst (F.nl + 1) n c (p * pwS (F.nl + 1) (r + 1)) h → (∀ t, 0 ≤ t → t < pwS (F.nl + 1) (r + 1) → c (p * pwS (F.nl + 1) (r + 1) + t) = met + cIS F (r + 1) t σ) → (∀ h', frT (dep : Int) h h' → bst (F.nl + 1) n c ((p + 1) * pwS (F.nl + 1) (r + 1)) h' → K 0 g h') → xM C l (e + 1) YX5_tryReadings [(2, 51), (2, f), (2, a), (0, n), (0, (dep : Int)), (0, met)] g h K
theorem x_tryL {n : Int} {c : Int → Int} (n3 : n ≤ 3) (c0 : ∀ t, 0 ≤ c t) (c1 : ∀ t, c t < 1000) (r : Nat) (ch : ∀ r', r = r' + 1 → tryP C l g F f n c r') : tryP C l g F f n c r := by
  intro e a dep p met h σ K hn he ha D okp h9 tr p0 met0 met1 rd bs H hK
  have l0 := D.ok.l0
  have l6 := D.ok.l6
  have b8 := D.ok.b8
  have hW := pw_range (N := F.nl + 1) (by omega) (by omega) (k := r) (by omega)
  have eW : pwS (F.nl + 1) (r + 1) = pwS (F.nl + 1) r * (F.nl + 1) := rfl
  have hB0 : 0 ≤ p * pwS (F.nl + 1) (r + 1) := Int.mul_nonneg p0 (by have := pw_range (N := F.nl + 1) (by omega) (by omega) (k := r + 1) (by omega); omega)
  have eEnd : (p + 1) * pwS (F.nl + 1) (r + 1) = p * pwS (F.nl + 1) (r + 1) + (F.nl + 1) * pwS (F.nl + 1) r := by rw [Int.add_mul, Int.one_mul, eW, Int.mul_comm (pwS (F.nl + 1) r)]
  have eCh : ∀ o, (p * (F.nl + 1) + o) * pwS (F.nl + 1) r = p * pwS (F.nl + 1) (r + 1) + o * pwS (F.nl + 1) r := fun o => by rw [Int.add_mul, Int.mul_assoc, Int.mul_comm (F.nl + 1), ← eW]
  rw [eEnd] at hK
  -- what a row of the block costs
  have HC : ∀ o t, 0 ≤ o → o < F.nl + 1 → 0 ≤ t → t < pwS (F.nl + 1) r → c (p * pwS (F.nl + 1) (r + 1) + o * pwS (F.nl + 1) r + t) = met + prS σ F.nl F.nc F.nb o + cIS F r t (dyS F o σ).1 := by
    intro o t q0 q1 q2 q3
    have d1 := dm_blk (o := o) q2 q3
    have up : o * pwS (F.nl + 1) r + t < pwS (F.nl + 1) (r + 1) := by
      have : o * pwS (F.nl + 1) r ≤ F.nl * pwS (F.nl + 1) r := Int.mul_le_mul_of_nonneg_right (by omega) (by omega)
      rw [eW, Int.mul_add, Int.mul_one, Int.mul_comm (pwS (F.nl + 1) r)]
      omega
    have lo : 0 ≤ o * pwS (F.nl + 1) r + t := by have := Int.mul_nonneg q0 (by omega : 0 ≤ pwS (F.nl + 1) r); omega
    have h1 := H (o * pwS (F.nl + 1) r + t) lo up
    have e0 : cIS F (r + 1) (o * pwS (F.nl + 1) r + t) σ = prS σ F.nl F.nc F.nb ((o * pwS (F.nl + 1) r + t) / pwS (F.nl + 1) r) + cIS F r ((o * pwS (F.nl + 1) r + t) % pwS (F.nl + 1) r) (dyS F ((o * pwS (F.nl + 1) r + t) / pwS (F.nl + 1) r) σ).1 := rfl
    rw [e0, d1.1, d1.2, ← Int.add_assoc] at h1
    rw [h1]; omega
  have loop : ∀ (m : Nat) (o : Int) (h1 : mf_M), 0 ≤ o → o + m = F.nl + 1 → frT (dep : Int) h h1 → bst (F.nl + 1) n c (p * pwS (F.nl + 1) (r + 1) + o * pwS (F.nl + 1) r) h1 → BX5_tryReadings_15 C l (e + 1) K f a n (dep : Int) met o g h1 := by
    intro m
    induction m with
    | zero =>
      intro o h1 q0 q1 f1 bs1
      have D1 := cD.frT (by omega) D f1 ha
      refine vX5_tryReadings_15 (by omega) ⟨isf D.fe, ?_⟩
      rw [D1.fo.l]
      have eo : o = F.nl + 1 := by omega
      rw [eo] at bs1
      exact ⟨fun _ => hK h1 f1 bs1, fun q => absurd (by omega) q⟩
    | succ m im =>
      intro o h1 q0 q1 f1 bs1
      have D1 := cD.frT (by omega) D f1 ha
      have eN : ∀ x, x * pwS (F.nl + 1) r + pwS (F.nl + 1) r = (x + 1) * pwS (F.nl + 1) r := fun x => by rw [Int.add_mul, Int.one_mul]
      have ho : o * pwS (F.nl + 1) r ≤ (F.nl + 1) * pwS (F.nl + 1) r := Int.mul_le_mul_of_nonneg_right (by omega) (by omega)
      refine vX5_tryReadings_15 (by omega) ⟨isf D.fe, ?_⟩
      rw [D1.fo.l]
      refine ⟨fun q => absurd q (by omega), fun _ => ⟨fun q => hK h1 f1 (bs1.skip c1 (by omega) (fun t _ _ => by have := c0 t; omega)), fun q => x_countPairs (by omega) D1 (by omega) (by omega) (fun v5 e5 => ?_)⟩⟩
      have pr := prS_range σ F.nl F.nc F.nb o b8
      rw [w_id (by omega) (by omega)] at e5
      rw [w_id (x := o + 1) (by omega) (by omega), w_id (x := (dep : Int) + 1) (by omega) (by omega)]
      refine ⟨fun z v6 e6 => ?_, fun z => ⟨by omega, by omega, fun h9' e9 => ⟨fun y => ?_, fun y h20 e20 h21 e21 v22 e22 => ?_⟩⟩⟩
      · -- no row of this block is better
        rw [e6]
        refine im (o + 1) h1 (by omega) (by omega) f1 ?_
        rw [← eN, ← Int.add_assoc]
        refine bs1.skip c1 (by omega) (fun t t0 t1 => ?_)
        have := HC o (t - (p * pwS (F.nl + 1) (r + 1) + o * pwS (F.nl + 1) r)) q0 (by omega) (by omega) (by omega)
        rw [show p * pwS (F.nl + 1) (r + 1) + o * pwS (F.nl + 1) r + (t - (p * pwS (F.nl + 1) (r + 1) + o * pwS (F.nl + 1) r)) = t by omega] at this
        have := (cIS_range F b8 r (t - (p * pwS (F.nl + 1) (r + 1) + o * pwS (F.nl + 1) r)) (dyS F o σ).1).1
        omega
      · -- another day
        obtain ⟨r', er⟩ : ∃ r', r = r' + 1 := ⟨r - 1, by omega⟩
        have hdep : dep < 2 := by omega
        have ib := isT (i := (dep : Int)) (by omega) (by omega)
        refine x_copyFolk (a := a) (b := 67 + 7 * (dep : Int)) (by decide) D.ia ib (by omega) (fun h12 r12 c12 d12 g12 b12 => ?_)
        have r9 : ∀ x, x ≠ 60 → h9' x = h1 x := fun x q => by rw [e9, up_row q]
        have hff := D.fe
        have ra : ∀ i, 0 ≤ i → i ≤ 6 → h9' (a + i) = h1 (a + i) := fun i i0 i6 => r9 _ (by have := D.a1; omega)
        have ra0 : h9' a = h1 a := r9 a (by omega)
        have mem : (67 + 7 * (dep : Int)) ∈ ([67, 74, 81] : List Int) := by
          have : dep = 0 ∨ dep = 1 := by omega
          rcases this with e | e <;> subst e <;> simp
        have kr12 : inr (h12 (67 + 7 * (dep : Int)) 6) := by
          rw [c12 6 (by decide), r9 _ (by omega)]
          exact f1.2.2.1 _ mem (tr _ mem)
        have v12 : vX h12 (67 + 7 * (dep : Int)) F.nb = σ := by
          rw [vX_pos (h := h9') (a := a) d12 g12 b12 b8, vX_row (h := h1) (by rw [ra0]) (fun j j1 j2 => ra j (by omega) (by omega))]; exact D1.vi
        have D12 : cD F f (67 + 7 * (dep : Int)) h12 σ := ⟨D.fe, ⟨ib, by omega, by omega⟩, D.ok, D1.fo.keep (fun x q1 q2 => by rw [r12 x (by omega), r9 x (by omega)]), v12, D.st, kr12⟩
        refine x_passDay (by decide) D12 (by omega) (by omega) (fun h15 f15 v15 k15 => ?_)
        have o15 : okP F (dyS F o σ).1 [] := okp.day D.ok (by omega)
        have D15 := D12.next f15 v15 o15.st k15.1
        have f115 : frT (dep : Int) h1 h15 := by
          refine ⟨fun x y1 y2 y3 y4 y5 y6 y7 => by rw [f15 x y1 y2 y3 (by omega), r12 x (by omega), r9 x y5], fun k _ => by rw [f15 51 (by decide) (by decide) (by decide) (by omega), r12 51 (by omega), r9 51 (by decide)], fun x hx y => ?_, fun j hj => by rw [f15 60 (by decide) (by decide) (by decide) (by omega), r12 60 (by omega), e9, up_col (by omega)]⟩
          have hx' : x = 67 ∨ x = 74 ∨ x = 81 := by simpa using hx
          by_cases ex : x = 67 + 7 * (dep : Int)
          · rw [ex]; exact k15.1
          · rw [f15 x (by omega) (by omega) (by omega) (by omega), r12 x (by omega), r9 x (by omega)]; exact y
        have e60 : h15 60 = h9' 60 := by rw [f15 60 (by decide) (by decide) (by decide) (by omega), r12 60 (by omega)]
        have ed : (dyS F o σ).1 0 0 = σ 0 0 + 1 := dy_day _ _ _
        subst er
        obtain ⟨e', rfl⟩ : ∃ e', e = e' + 1 := ⟨e - 1, by omega⟩
        have key := ch r' rfl e' (67 + 7 * (dep : Int)) (dep + 1) (p * (F.nl + 1) + o) v5 h15 (dyS F o σ).1 (fun r16 g17 h18 => (∀ v19 : Int, v19 = o + 1 → BX5_tryReadings_15 C l (e' + 1 + 1) K f a n (dep : Int) met v19 g17 h18)) (by omega) (by omega) (Or.inr ⟨by omega, by omega⟩) D15 o15 (by rw [ed]; omega) (fun x hx => (f1.tr f115).2.2.1 x hx (tr x hx)) (by have := Int.mul_nonneg p0 (by omega : 0 ≤ F.nl + 1); omega) (by omega) (by omega) (fun j hj => ?_) ?_ (fun t t0 t1 => ?_) (fun h18 f18 bs18 v19 e19 => ?_)
        · rw [show ((dep + 1 : Nat) : Int) = (dep : Int) + 1 by omega] at key
          exact key
        · rw [e60, e9, up_if]
          by_cases ej : j = dep
          · rw [if_pos ⟨rfl, by omega⟩, ej, show dep + 1 - 1 - dep = 0 by omega]
            exact (p_last (by omega) (by omega) q0 (by omega)).symm
          · rw [if_neg (by omega), f1.2.2.2 j (by omega), rd j (by omega), show dep + 1 - 1 - j = (dep - 1 - j) + 1 by omega]
            exact (p_dig (by omega) (by omega) p0 q0 (by omega) (by omega)).symm
        · exact bs1.to (eCh o) (by rw [f15 51 (by decide) (by decide) (by decide) (by omega), r12 51 (by omega), r9 51 (by decide)]) (by rw [f15 61 (by decide) (by decide) (by decide) (by omega), r12 61 (by omega), r9 61 (by decide)])
        · rw [eCh o, HC o t q0 (by omega) t0 t1, e5]
        · rw [e19]
          refine im (o + 1) h18 (by omega) (by omega) ((f1.tr f115).tr (frT.up (by rw [show ((dep + 1 : Nat) : Int) = (dep : Int) + 1 by omega] at f18; exact f18))) ?_
          rw [← eN, ← Int.add_assoc, ← eCh o]
          rw [Int.add_mul, Int.one_mul] at bs18
          exact bs18
      · -- the last day
        have er : r = 0 := by omega
        subst er
        rw [e22]
        have e1 : pwS (F.nl + 1) 0 = 1 := rfl
        have e910 : h9' 51 = h1 51 := by rw [e9, up_row (by decide)]
        have r21 : ∀ x, x ≠ 51 → x ≠ 60 → x ≠ 61 → h21 x = h1 x := fun x y1 y2 y3 => by rw [e21, cpy_row y3, e20, up_row y1, e9, up_row y2]
        have z21 : h21 51 10 = v5 := by rw [e21, cpy_row (by decide), e20, up_self]
        have s60 : ∀ j, h20 60 j = if j = (dep : Int) then o else h1 60 j := fun j => by rw [e20, up_row (by decide), e9, up_if]; simp
        have cm : c (p * pwS (F.nl + 1) (0 + 1) + o * pwS (F.nl + 1) 0) = v5 := by
          have := HC o 0 q0 (by omega) (by decide) (by omega)
          rw [Int.add_zero] at this
          rw [this, e5]; simp [cIS]
        refine im (o + 1) h21 (by omega) (by omega) (f1.tr ⟨fun x _ _ _ y4 y5 y6 _ => r21 x y4 y5 y6, fun k hk => by rw [e21, cpy_row (by decide), e20, up_col hk, e910], fun x hx y => ?_, fun j hj => by rw [e21, cpy_row (by decide), s60, if_neg (by omega)]⟩) ?_
        · have hx' : x = 67 ∨ x = 74 ∨ x = 81 := by simpa using hx
          rw [r21 x (by omega) (by omega) (by omega)]; exact y
        · have eo1 : p * pwS (F.nl + 1) (0 + 1) + (o + 1) * pwS (F.nl + 1) 0 = p * pwS (F.nl + 1) (0 + 1) + o * pwS (F.nl + 1) 0 + 1 := by rw [e1]; omega
          rw [eo1]
          refine bs1.new (by rw [e1]; omega) (by rw [cm]; omega) (by rw [cm, z21]) (fun k k0 k1 => ?_)
          have ek : h21 61 k = h20 60 k := by
            rw [e21, cpy_if, if_pos rfl, if_pos ⟨k0, by omega⟩]
            congr 1; omega
          have eb : p * pwS (F.nl + 1) (0 + 1) + o * pwS (F.nl + 1) 0 = p * (F.nl + 1) + o := by rw [eW, e1, Int.one_mul, Int.mul_one]
          rw [ek, s60, eb]
          unfold digS
          by_cases ed : k = (dep : Int)
          · rw [if_pos ed, show (n - 1 - k).toNat = 0 by omega]
            exact (p_last (by omega) (by omega) q0 (by omega)).symm
          · have h60 : h1 60 k = p / pwS (F.nl + 1) (dep - 1 - k.toNat) % (F.nl + 1) := by
              rw [f1.2.2.2 k (by omega)]
              have := rd k.toNat (by omega)
              rw [show ((k.toNat : Nat) : Int) = k by omega] at this
              exact this
            rw [if_neg ed, h60, show (n - 1 - k).toNat = (dep - 1 - k.toNat) + 1 by omega]
            exact (p_dig (by omega) (by omega) p0 q0 (by omega) (by omega)).symm
  refine wX5_tryReadings (by omega) ⟨fun q => absurd q (by omega), fun _ => ⟨fun _ => loop (F.nl + 1).toNat 0 h (by decide) (by omega) (frT.rf _ h) (by rw [Int.zero_mul, Int.add_zero]; exact bs), fun q => absurd q (by omega)⟩⟩
theorem x_try {n : Int} {c : Int → Int} (n3 : n ≤ 3) (c0 : ∀ t, 0 ≤ c t) (c1 : ∀ t, c t < 1000) : ∀ (r : Nat), tryP C l g F f n c r
  | 0 => x_tryL n3 c0 c1 0 (fun r' e => absurd e (by omega))
  | r + 1 => x_tryL n3 c0 c1 (r + 1) (fun r' e => by
      have : r = r' := by omega
      subst this
      exact x_try n3 c0 c1 r)
theorem X_reading {d : Nat} {S : aS} {h : mf_M} {n k : Int} (hd : 68 ≤ d) (R : RX S g h) (hK : ∀ h', RX S g h' → frH h h' → K (readS S n k) g h') : xM C l d YX11_reading [(2, 0), (0, n), (0, k)] g h K := by
  unfold readS at hK
  have kk := hK h R (frH.rf h)
  have l0 := R.ok.F.l0
  have l6 := R.ok.F.l6
  have bad : ¬ ((S.F.nl ≠ 0 ∧ 1 ≤ n ∧ n ≤ 3 ∧ S.st 0 0 + n ≤ 999) ∧ -1 ≤ k ∧ k ≤ n - 1) → K (-1) g h := fun q => by rw [if_neg q] at kk; exact kk
  refine wX11_reading hd ⟨fun q => bad (by omega), fun q => ⟨fun z => bad (by omega), fun z => ⟨fun y => bad (by omega), fun y => ⟨fun x => bad (by omega), fun x => X_canPass R (by omega) (by omega) (fun hc => ⟨fun _ => wX5_findReading (by decide) (fun h1 e1 => ?_), fun w => absurd w (by decide)⟩) (fun hc => ⟨fun w => absurd rfl w, fun _ => bad (fun w => hc ⟨w.1.1, w.1.2.2.2⟩)⟩)⟩⟩⟩⟩
  rw [if_pos ⟨⟨hc.1, by omega, by omega, hc.2⟩, by omega, by omega⟩] at hK
  have cr := fun t => cIS_range S.F R.ok.F.b8 n.toNat t S.st
  have r1 : ∀ x, x ≠ 51 → h1 x = h x := fun x q => by rw [e1, up_row q]
  have hff := R.fi
  have D1 : cD S.F (g 0 12) 88 h1 S.st := ⟨R.fi, ⟨is88, by decide, by decide⟩, R.ok.F, R.fo.keep (fun x h1 h2 => r1 x (by omega)), R.vik (fun a a1 a2 => r1 a (by omega)), R.ok.P.st, by rw [r1 88 (by decide)]; exact R.D.kr⟩
  obtain ⟨r, hr⟩ : ∃ r : Nat, n.toNat = r + 1 := ⟨n.toNat - 1, by omega⟩
  have hp := pw_range (N := S.F.nl + 1) (by omega) (by omega) (k := r + 1) (by omega)
  have key := x_try (C := C) (l := l) (g := g) (F := S.F) (f := g 0 12) (n := n) (c := fun t => cIS S.F n.toNat t S.st) (by omega) (fun t => (cr t).1) (fun t => by have := (cr t).2; show cIS S.F n.toNat t S.st < 1000; omega) r 65 88 0 0 0 h1 S.st
  refine key _ (by omega) (by omega) (Or.inl rfl) D1 R.ok.P.nil (by omega) (fun a ha => ?_) (by decide) (by decide) (by decide) (fun j hj => absurd hj (by omega)) (Or.inl ⟨by rw [Int.zero_mul], by rw [e1, up_self]⟩) (fun t t0 t1 => by rw [Int.zero_mul, Int.zero_add, Int.zero_add, hr]) (fun h2 f2 b2 => ?_)
  · have ha' : a = 67 ∨ a = 74 ∨ a = 81 := by simpa using ha
    rw [r1 a (by omega)]
    exact R.tr a (by simp; omega)
  · have fN : frN h h2 := by
      refine ⟨fun a y1 y2 _ y4 y5 y6 y7 _ => ?_, by rw [f2.2.1 11 (by decide), e1, up_col (by decide)], fun a ha y => ?_⟩
      · rw [f2.1 a y1 y2 y4 y5 (by omega) (by omega) (by omega), r1 a y5]
      · have ha' : a = 53 ∨ a = 67 ∨ a = 74 ∨ a = 81 := by simpa using ha
        by_cases e53 : a = 53
        · rw [f2.1 a (by omega) (by omega) (by omega) (by omega) (by omega) (by omega) (by omega), r1 a (by omega)]; exact y
        · exact f2.2.2.1 a (by simp; omega) (by rw [r1 a (by omega)]; exact y)
    have k2 := hK h2 (R.keep fN) fN.H
    rw [show ((0 : Int) + 1) * pwS (S.F.nl + 1) (r + 1) = pwS (S.F.nl + 1) (r + 1) by omega] at b2
    -- the first best is one
    have same : h2 51 10 = (bestS S n).1 ∧ ∀ j : Int, 0 ≤ j → j < n → h2 61 j = digS (S.F.nl + 1) (bestS S n).2 n j := by
      rcases b2 with ⟨q1, q2⟩ | ⟨i, i0, i1, i2, i3, i4⟩
      · omega
      · have fb := fm_best (c := fun t => cIS S.F n.toNat t S.st) (fun t => (cr t).1) (pwS (S.F.nl + 1) n.toNat).toNat
        rw [hr] at fb
        have eb : bestS S n = fmS (fun t => cIS S.F (r + 1) t S.st) (pwS (S.F.nl + 1) (r + 1)).toNat := by unfold bestS; rw [hr]
        rw [hr] at i2 i4
        rw [← eb] at fb
        rcases fb with ⟨q1, -⟩ | ⟨-, q2, q3, q4, q5⟩
        · omega
        · have a1 := i4 (bestS S n).2 q2 (by omega)
          have a2 := q5 i i0 (by omega)
          simp only [] at q4 a1 a2 i2
          have ei : i = (bestS S n).2 := by
            rcases Int.lt_trichotomy i (bestS S n).2 with w | w | w
            · have := a2.2 w; omega
            · exact w
            · have := a1.2 w; omega
          refine ⟨by omega, fun j j0 j1 => ?_⟩
          rw [← ei]; exact i3 j j0 j1
    refine ⟨fun w => ?_, fun w => ⟨fun v => absurd v (by omega), fun v => ⟨by omega, by omega, ?_⟩⟩⟩
    · rw [if_pos (by omega : k = -1)] at k2
      rw [same.1]; exact k2
    · rw [if_neg (by omega : ¬ k = -1)] at k2
      rw [same.2 k (by omega) (by omega)]; exact k2
end SxRe
