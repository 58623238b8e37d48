/-! the class: a folio, a state; who meets; parts set -/
def pkP (l : List Int) : Int := pkS (l ++ List.replicate (6 - l.length) 0)
def folX (F : aF) (f : Int) (h : mf_M) : Prop := (h f 8 = F.nl) ∧ (h f 9 = F.nc) ∧ (h f 11 = F.nw) ∧ (h f 12 = F.nb) ∧ (h f 13 = F.th) ∧ (∀ b, 0 ≤ b → b < F.nb → h (f + 4) b = pkP (F.nm b)) ∧ (∀ b, 0 ≤ b → b < F.nb → h (f + 5) b = F.tr b) ∧ (∀ w, 0 ≤ w → w < F.nw → h (f + 1) w = F.wm (3 * w) ∧ h (f + 2) w = F.wm (3 * w + 1) ∧ h (f + 3) w = F.wm (3 * w + 2)) ∧ (scrX h (f + 6) 0 F.cO) ∧ (scrX h (f + 6) 1 F.cC) ∧ (scrX h (f + 6) 2 F.cT) ∧ (scrX h (f + 6) 3 F.cS)
theorem folX.l {F : aF} {f : Int} {h : mf_M} (o : folX F f h) : h f 8 = F.nl := o.1
theorem folX.c {F : aF} {f : Int} {h : mf_M} (o : folX F f h) : h f 9 = F.nc := o.2.1
theorem folX.w {F : aF} {f : Int} {h : mf_M} (o : folX F f h) : h f 11 = F.nw := o.2.2.1
theorem folX.b {F : aF} {f : Int} {h : mf_M} (o : folX F f h) : h f 12 = F.nb := o.2.2.2.1
theorem folX.t {F : aF} {f : Int} {h : mf_M} (o : folX F f h) : h f 13 = F.th := o.2.2.2.2.1
theorem folX.nm {F : aF} {f : Int} {h : mf_M} (o : folX F f h) : ∀ b, 0 ≤ b → b < F.nb → h (f + 4) b = pkP (F.nm b) := o.2.2.2.2.2.1
theorem folX.tr {F : aF} {f : Int} {h : mf_M} (o : folX F f h) : ∀ b, 0 ≤ b → b < F.nb → h (f + 5) b = F.tr b := o.2.2.2.2.2.2.1
theorem folX.wm {F : aF} {f : Int} {h : mf_M} (o : folX F f h) : ∀ w, 0 ≤ w → w < F.nw → h (f + 1) w = F.wm (3 * w) ∧ h (f + 2) w = F.wm (3 * w + 1) ∧ h (f + 3) w = F.wm (3 * w + 2) := o.2.2.2.2.2.2.2.1
theorem folX.sO {F : aF} {f : Int} {h : mf_M} (o : folX F f h) : scrX h (f + 6) 0 F.cO := o.2.2.2.2.2.2.2.2.1
theorem folX.sC {F : aF} {f : Int} {h : mf_M} (o : folX F f h) : scrX h (f + 6) 1 F.cC := o.2.2.2.2.2.2.2.2.2.1
theorem folX.sT {F : aF} {f : Int} {h : mf_M} (o : folX F f h) : scrX h (f + 6) 2 F.cT := o.2.2.2.2.2.2.2.2.2.2.1
theorem folX.sS {F : aF} {f : Int} {h : mf_M} (o : folX F f h) : scrX h (f + 6) 3 F.cS := o.2.2.2.2.2.2.2.2.2.2.2
theorem folX.keep {F : aF} {f : Int} {h h' : mf_M} (o : folX F f h) (e : ∀ x, f ≤ x → x ≤ f + 9 → h' x = h x) : folX F f h' := by
  have e0 := e f (by omega) (by omega)
  have e1 := e (f + 1) (by omega) (by omega)
  have e2 := e (f + 2) (by omega) (by omega)
  have e3 := e (f + 3) (by omega) (by omega)
  have e4 := e (f + 4) (by omega) (by omega)
  have e5 := e (f + 5) (by omega) (by omega)
  have e7 : h' (f + 6 + 1) = h (f + 6 + 1) := e _ (by omega) (by omega)
  have e8 : h' (f + 6 + 2) = h (f + 6 + 2) := e _ (by omega) (by omega)
  have e9 : h' (f + 6 + 3) = h (f + 6 + 3) := e _ (by omega) (by omega)
  refine ⟨by rw [e0]; exact o.l, by rw [e0]; exact o.c, by rw [e0]; exact o.w, by rw [e0]; exact o.b, by rw [e0]; exact o.t, by rw [e4]; exact o.nm, by rw [e5]; exact o.tr, by rw [e1, e2, e3]; exact o.wm, o.sO.keep e7 e8 e9, o.sC.keep e7 e8 e9, o.sT.keep e7 e8 e9, o.sS.keep e7 e8 e9⟩
def inr (x : Int) : Prop := -2147483648 ≤ x ∧ x ≤ 2147483647
theorem w32_inr (x : Int) : inr (mf_w32 x) := by
  unfold mf_w32 inr
  have h1 := Int.le_bmod (x := x) (m := 4294967296) (by omega)
  have h2 := Int.bmod_lt (x := x) (m := 4294967296) (by omega)
  omega
def cD (F : aF) (f a : Int) (h σ : mf_M) : Prop := (f = 11 ∨ f = 28) ∧ (mf_is 319 a 6 ∧ 53 ≤ a ∧ a ≤ 236) ∧ (okF F) ∧ (folX F f h) ∧ (vX h a F.nb = σ) ∧ (stS σ F.nl F.nc F.nb) ∧ (inr (h a 6))
section CD
variable {F : aF} {f a : Int} {h σ : mf_M}
theorem cD.fe (o : cD F f a h σ) : f = 11 ∨ f = 28 := o.1
theorem cD.ia (o : cD F f a h σ) : mf_is 319 a 6 := o.2.1.1
theorem cD.a1 (o : cD F f a h σ) : 53 ≤ a := o.2.1.2.1
theorem cD.a2 (o : cD F f a h σ) : a ≤ 236 := o.2.1.2.2
theorem cD.ok (o : cD F f a h σ) : okF F := o.2.2.1
theorem cD.fo (o : cD F f a h σ) : folX F f h := o.2.2.2.1
theorem cD.vi (o : cD F f a h σ) : vX h a F.nb = σ := o.2.2.2.2.1
theorem cD.st (o : cD F f a h σ) : stS σ F.nl F.nc F.nb := o.2.2.2.2.2.1
theorem cD.kr (o : cD F f a h σ) : inr (h a 6) := o.2.2.2.2.2.2
theorem isf {f : Int} (hf : f = 11 ∨ f = 28) : mf_is 319 f 1 := by rcases hf with rfl | rfl; exact is11; exact is28
theorem isf6 {f : Int} (hf : f = 11 ∨ f = 28) : mf_is 319 (f + 6) 4 := by rcases hf with rfl | rfl; exact is17; exact is34
theorem cD.be (o : cD F f a h σ) {j k : Int} (hj : 2 ≤ j) (hj5 : j ≤ 5) (h0 : 0 ≤ k) (h1 : k < F.nb) : h (a + j) k = σ j k := by rw [← o.vi, vX_be hj hj5 h0 h1]
theorem cD.gl (o : cD F f a h σ) {k : Int} (h0 : 0 ≤ k) (h1 : k < 6) : h (a + 1) k = σ 1 k := by rw [← o.vi, vX_gl h0 h1]
theorem cD.day (o : cD F f a h σ) : h a 7 = σ 0 0 := by rw [← o.vi, vX_day]
/-- what a day writes in the class -/
def frC (a : Int) (h h' : mf_M) : Prop := ∀ x, x ≠ 47 → x ≠ 48 → x ≠ 50 → ¬ (a ≤ x ∧ x ≤ a + 6) → h' x = h x
theorem frC.rf (a : Int) (h : mf_M) : frC a h h := fun _ _ _ _ _ => rfl
theorem frC.tr {a : Int} {x y z : mf_M} (h1 : frC a x y) (h2 : frC a y z) : frC a x z := fun w q1 q2 q3 q4 => (h2 w q1 q2 q3 q4).trans (h1 w q1 q2 q3 q4)
theorem frK.C {a : Int} {h h' : mf_M} (f : frK h h') : frC a h h' := fun x q1 _ q3 _ => f x q1 q3
theorem frC.up {a x i v : Int} (h : mf_M) (hx : a ≤ x ∧ x ≤ a + 6) : frC a h (mf_up h x i v) := fun y _ _ _ q => up_row (fun e => q (e ▸ hx))
theorem frC.up48 (a i v : Int) (h : mf_M) : frC a h (mf_up h 48 i v) := fun y _ q _ _ => up_row q
theorem cD.next (o : cD F f a h σ) {h' τ : mf_M} (fr : frC a h h') (v : vX h' a F.nb = τ) (s : stS τ F.nl F.nc F.nb) (k : inr (h' a 6)) : cD F f a h' τ := by
  have hf := o.fe
  have := o.a1
  exact ⟨o.fe, o.2.1, o.ok, o.fo.keep (fun x h1 h2 => fr x (by omega) (by omega) (by omega) (by omega)), v, s, k⟩
/-- nothing of the state is written -/
theorem cD.same (o : cD F f a h σ) {h' : mf_M} (fr : ∀ x, x ≠ 47 → x ≠ 48 → x ≠ 49 → x ≠ 50 → h' x = h x) : cD F f a h' σ := by
  have hf := o.fe
  have h1 := o.a1
  refine ⟨o.fe, o.2.1, o.ok, o.fo.keep (fun x h1 h2 => fr x (by omega) (by omega) (by omega) (by omega)), ?_, o.st, ?_⟩
  · rw [vX_row (h := h) (by rw [fr a (by omega) (by omega) (by omega) (by omega)]) (fun j j1 j2 => fr _ (by omega) (by omega) (by omega) (by omega))]; exact o.vi
  · rw [fr a (by omega) (by omega) (by omega) (by omega)]; exact o.kr
end CD
section SxB
variable {C : mf_G} {l : Launch} {d : Nat} {K : mf_Kt} {g : mf_M} {F : aF} {f a : Int} {h σ : mf_M}
theorem x_mini {x y : Int} (hK : ∀ v, (v = x ∧ x ≤ y) ∨ (v = y ∧ y < x) → K v g h) : xM C l d YJ9_min_7cf53 [(0, x), (0, y)] g h K := wJ9_min_7cf53 ⟨fun q => hK y (Or.inr ⟨rfl, q⟩), fun q => hK x (Or.inl ⟨rfl, by omega⟩)⟩
theorem x_maxi {x y : Int} (hK : ∀ v, (v = x ∧ y ≤ x) ∨ (v = y ∧ x < y) → K v g h) : xM C l d YJ9_max_7cf53 [(0, x), (0, y)] g h K := wJ9_max_7cf53 ⟨fun q => hK y (Or.inr ⟨rfl, q⟩), fun q => hK x (Or.inl ⟨rfl, by omega⟩)⟩
theorem x_liesOpen {o p : Int} (h1 : -2147483647 ≤ o) (h2 : o ≤ 2147483647) (hK : K (openS p o) g h) : xM C l d YX0_liesOpen [(0, o), (0, p)] g h K := by
  unfold openS biS at hK
  refine wX0_liesOpen ?_
  rw [w_id (by omega) (by omega)]
  refine ⟨fun q => ?_, fun q => ⟨fun z => ?_, fun z => ?_⟩⟩
  · rw [if_pos (Or.inl q)] at hK; exact hK
  · rw [if_neg (by omega)] at hK; exact hK
  · rw [if_pos (Or.inr z)] at hK; exact hK
theorem x_liesOnNext {o p : Int} (hd : 1 ≤ d) (hf : f = 11 ∨ f = 28) (hl : h f 8 = F.nl) (hp : p ≤ 1000) (o1 : -1000 ≤ o) (o2 : o ≤ 1000) (hK : K (if lieB F.nl o p then 1 else 0) g h) : xM C l d YX0_liesOnNext [(2, f), (0, o), (0, p)] g h K := by
  unfold lieB at hK
  refine wX0_liesOnNext hd ⟨fun q => ?_, fun q => ⟨isf hf, ?_⟩⟩
  · rw [if_neg (by simp; omega)] at hK; exact hK
  · rw [hl, w_id (by omega) (by omega)]
    refine ⟨fun z => ?_, fun z => x_liesOpen (by omega) (by omega) ?_⟩
    · rw [if_neg (by simp; omega)] at hK; exact hK
    · unfold openS biS
      by_cases hq : p = o - 1 ∨ p = o
      · rw [if_pos hq]
        rw [if_neg (by simp; omega)] at hK
        exact ⟨fun _ => hK, fun y => absurd y (by decide)⟩
      · rw [if_neg hq]
        rw [if_pos (by simp; omega)] at hK
        exact ⟨fun y => absurd rfl y, fun _ => hK⟩
theorem x_meet {o b c : Int} (hd : 2 ≤ d) (D : cD F f a h σ) (b0 : 0 ≤ b) (b1 : b < F.nb) (c0 : 0 ≤ c) (c1 : c < F.nb) (o1 : -1000 ≤ o) (o2 : o ≤ 1000) (hK : K (if metB σ F.nl F.nc o b c then 1 else 0) g h) : xM C l d YX0_meet [(2, f), (2, a), (0, b), (0, c), (0, o)] g h K := by
  have := D.ok.b8
  have hl6 := D.ok.l6
  have hc8 := D.ok.c8
  obtain ⟨p1, p2, p3, p4⟩ := D.st.1 b b0 b1
  obtain ⟨q1, q2, q3, q4⟩ := D.st.1 c c0 c1
  refine wX0_meet hd ⟨D.ia, b0, by omega, c0, by omega, ?_⟩
  rw [D.be (j := 2) (by decide) (by decide) b0 b1, D.be (j := 2) (by decide) (by decide) c0 c1]
  refine x_mini (fun v hv => ?_)
  rw [D.be (j := 2) (by decide) (by decide) b0 b1, D.be (j := 2) (by decide) (by decide) c0 c1]
  refine x_maxi (fun w hw => ?_)
  rw [w_id (x := v + 1) (by omega) (by omega), D.be (j := 3) (by decide) (by decide) b0 b1, D.be (j := 3) (by decide) (by decide) c0 c1]
  unfold metB at hK
  refine ⟨fun z => ?_, fun z => ⟨isf D.fe, wX1_mirror ⟨isf D.fe, ?_⟩⟩⟩
  · rw [if_neg (by simp [show ¬ σ 2 c = σ 2 b + 1 by omega, show ¬ σ 2 b = σ 2 c + 1 by omega])] at hK
    exact hK
  · rw [D.fo.c, w_id (x := F.nc - 1) (by omega) (by omega), w_id (by omega) (by omega)]
    refine ⟨fun y => ?_, fun y => x_liesOnNext (by omega) D.fe D.fo.l (by omega) o1 o2 ?_⟩
    · rw [if_neg (by simp [show ¬ σ 3 b + σ 3 c = F.nc - 1 by omega])] at hK
      exact hK
    · have e : (decide (σ 3 b + σ 3 c = F.nc - 1) && ((decide (σ 2 c = σ 2 b + 1) && lieB F.nl o (σ 2 b)) || (decide (σ 2 b = σ 2 c + 1) && lieB F.nl o (σ 2 c)))) = lieB F.nl o v := by
        have e3 : σ 3 b + σ 3 c = F.nc - 1 := by omega
        by_cases hlt : σ 2 b < σ 2 c
        · have ev : v = σ 2 b := by omega
          rw [ev]
          simp [e3, show σ 2 c = σ 2 b + 1 by omega]
          intro h9; omega
        · have ev : v = σ 2 c := by omega
          rw [ev]
          simp [e3, show σ 2 b = σ 2 c + 1 by omega]
          intro h9; omega
      rw [e] at hK
      by_cases hl : lieB F.nl o v = true
      · rw [if_pos hl] at hK ⊢
        exact ⟨fun w => absurd w (by decide), fun _ => hK⟩
      · rw [if_neg hl] at hK ⊢
        exact ⟨fun _ => hK, fun w => absurd rfl w⟩
theorem x_pairsI {o b : Int} (hd : 3 ≤ d) (D : cD F f a h σ) (o1 : -1000 ≤ o) (o2 : o ≤ 1000) (b0 : 0 ≤ b) (b1 : b < F.nb) : ∀ (n : Nat) (c s : Int), b < c → c + n = F.nb ∨ (n = 0 ∧ F.nb ≤ c) → 0 ≤ s → s + n ≤ 1000 → BX0_countPairs_5 C l d K f a o (s + prI σ F.nl F.nc o b n c) (b + 1) g h → BX0_countPairs_20 C l d K f a o s b c g h := by
  have hb8 := D.ok.b8
  intro n
  induction n with
  | zero =>
    intro c s c0 hc s0 s1 hK
    refine vX0_countPairs_20 hd ⟨isf D.fe, ?_⟩
    rw [D.fo.b]
    refine ⟨fun _ v2 e2 => ?_, fun q => absurd (by omega) q⟩
    rw [e2, w_id (by omega) (by omega)]
    simpa [prI] using hK
  | succ n ih =>
    intro c s c0 hc s0 s1 hK
    have hcn : c + ((n + 1 : Nat) : Int) = F.nb := by omega
    refine vX0_countPairs_20 hd ⟨isf D.fe, ?_⟩
    rw [D.fo.b]
    refine ⟨fun q => absurd q (by omega), fun _ => x_meet (by omega) D b0 b1 (by omega) (by omega) o1 o2 ?_⟩
    unfold prI at hK
    by_cases hm : metB σ F.nl F.nc o b c = true
    · rw [if_pos hm] at hK ⊢
      refine ⟨fun q => absurd q (by decide), fun _ v8 e8 v9 e9 => ?_⟩
      rw [w_id (by omega) (by omega)] at e8 e9
      rw [e8, e9]
      refine ih (c + 1) (s + 1) (by omega) (by omega) (by omega) (by omega) ?_
      have e : s + 1 + prI σ F.nl F.nc o b n (c + 1) = s + (1 + prI σ F.nl F.nc o b n (c + 1)) := by omega
      rw [e]; exact hK
    · rw [if_neg hm] at hK ⊢
      refine ⟨fun _ v6 e6 v7 e7 => ?_, fun q => absurd rfl q⟩
      rw [w_id (by omega) (by omega)] at e6 e7
      rw [e6, e7]
      refine ih (c + 1) (s + 0) (by omega) (by omega) (by omega) (by omega) ?_
      have e : s + 0 + prI σ F.nl F.nc o b n (c + 1) = s + (0 + prI σ F.nl F.nc o b n (c + 1)) := by omega
      rw [e]; exact hK
theorem x_pairsO {o : Int} (hd : 3 ≤ d) (D : cD F f a h σ) (o1 : -1000 ≤ o) (o2 : o ≤ 1000) : ∀ (n : Nat) (b s : Int), 0 ≤ b → b + n = F.nb → 0 ≤ s → s ≤ 8 * b → K (s + prO σ F.nl F.nc F.nb o n b) g h → BX0_countPairs_5 C l d K f a o s b g h := by
  have hb8 := D.ok.b8
  intro n
  induction n with
  | zero =>
    intro b s b0 hb s0 s1 hK
    refine vX0_countPairs_5 ⟨isf D.fe, ?_⟩
    rw [D.fo.b]
    refine ⟨fun _ => by simpa [prO] using hK, fun q => absurd (by omega) q⟩
  | succ n ih =>
    intro b s b0 hb s0 s1 hK
    refine vX0_countPairs_5 ⟨isf D.fe, ?_⟩
    rw [D.fo.b]
    refine ⟨fun q => absurd q (by omega), fun _ v2 e2 => ?_⟩
    rw [w_id (by omega) (by omega)] at e2
    rw [e2]
    refine x_pairsI hd D o1 o2 b0 (by omega) (F.nb - (b + 1)).toNat (b + 1) s (by omega) (by omega) s0 (by omega) ?_
    have hr := prI_range σ F.nl F.nc o b (F.nb - (b + 1)).toNat (b + 1)
    refine ih (b + 1) _ (by omega) (by omega) (by omega) (by omega) ?_
    unfold prO at hK
    have e : s + prI σ F.nl F.nc o b (F.nb - (b + 1)).toNat (b + 1) + prO σ F.nl F.nc F.nb o n (b + 1) = s + (prI σ F.nl F.nc o b (F.nb - (b + 1)).toNat (b + 1) + prO σ F.nl F.nc F.nb o n (b + 1)) := by omega
    rw [e]; exact hK
theorem x_countPairs {o : Int} (hd : 3 ≤ d) (D : cD F f a h σ) (o1 : -1000 ≤ o) (o2 : o ≤ 1000) (hK : K (prS σ F.nl F.nc F.nb o) g h) : xM C l d YX0_countPairs [(2, f), (2, a), (0, o)] g h K := by
  have := D.ok.b0
  refine wX0_countPairs (x_pairsO hd D o1 o2 F.nb.toNat 0 0 (by decide) (by omega) (by decide) (by decide) ?_)
  unfold prS at hK
  rw [Int.zero_add]; exact hK
/-- parts of a being are set -/
def parS (σ : mf_M) (tr : Int → Int) (o b : Int) (E : Int → Int) : Prop := ∀ k, 0 ≤ k → k ≤ 5 → E k = envS σ tr (σ 0 0) o 0 b k
theorem x_setParts {o b : Int} (hd : 1 ≤ d) (D : cD F f a h σ) (b0 : 0 ≤ b) (b1 : b < F.nb) (o1 : -1000 ≤ o) (o2 : o ≤ 1000) (hK : ∀ h', (∀ x, x ≠ 48 → h' x = h x) → parS σ F.tr o b (h' 48) → (∀ k, 5 < k → h' 48 k = h 48 k) → K 0 g h') : xM C l d YX0_setParts [(2, 46), (2, f), (2, a), (0, b), (0, o)] g h K := by
  have hb8 := D.ok.b8
  have ha := D.a1
  have hff := D.fe
  refine wX0_setParts hd ⟨D.ia, fun h2 e2 => ⟨b0, by omega, fun h5 e5 h6 e6 => ⟨isf D.fe, fun h8 e8 h9 e9 => ?_⟩⟩⟩
  have r2 : ∀ x, x ≠ 48 → h2 x = h x := fun x q => by rw [e2, up_row q]
  have r5 : ∀ x, x ≠ 48 → h5 x = h x := fun x q => by rw [e5, up_row q, r2 x q]
  have r6 : ∀ x, x ≠ 48 → h6 x = h x := fun x q => by rw [e6, up_row q, r5 x q]
  have r8 : ∀ x, x ≠ 48 → h8 x = h x := fun x q => by rw [e8, up_row q, r6 x q]
  have r9 : ∀ x, x ≠ 48 → h9 x = h x := fun x q => by rw [e9, up_row q, r8 x q]
  rw [r9 (a + 2) (by omega), D.be (j := 2) (by decide) (by decide) b0 b1]
  have fin : ∀ h13 : mf_M, h13 = mf_up h9 48 5 (openS (σ 2 b) o) → K 0 g h13 := by
    intro h13 e13
    refine hK h13 (fun x q => by rw [e13, up_row q, r9 x q]) (fun k k0 k5 => ?_) (fun k k5 => ?_)
    · have c5 : k = 5 → h13 48 k = openS (σ 2 b) o := fun q => by rw [e13, q, up_self]
      have c9 : k ≠ 5 → h13 48 k = h9 48 k := fun q => by rw [e13, up_col q]
      have hk : k = 0 ∨ k = 1 ∨ k = 2 ∨ k = 3 ∨ k = 4 ∨ k = 5 := by omega
      unfold envS
      rcases hk with rfl | rfl | rfl | rfl | rfl | rfl
      · rw [c9 (by decide), e9, up_col (by decide), e8, up_col (by decide), e6, up_col (by decide), e5, up_col (by decide), e2, up_self, D.day]; rfl
      · rw [c9 (by decide), e9, up_col (by decide), e8, up_col (by decide), e6, up_col (by decide), e5, up_self, r2 _ (by omega), D.be (j := 2) (by decide) (by decide) b0 b1]; rfl
      · rw [c9 (by decide), e9, up_col (by decide), e8, up_col (by decide), e6, up_self, r5 _ (by omega), D.be (j := 3) (by decide) (by decide) b0 b1]; rfl
      · rw [c9 (by decide), e9, up_col (by decide), e8, up_self, r6 _ (by omega), D.fo.tr b b0 b1]; rfl
      · rw [c9 (by decide), e9, up_self, r8 _ (by omega), D.be (j := 4) (by decide) (by decide) b0 b1]; rfl
      · rw [c5 rfl]; rfl
    · rw [e13, up_col (by omega), e9, up_col (by omega), e8, up_col (by omega), e6, up_col (by omega), e5, up_col (by omega), e2, up_col (by omega)]
  refine x_liesOpen (by omega) (by omega) ?_
  have hb := bi_range (σ 2 b = o - 1 ∨ σ 2 b = o)
  unfold openS at fin ⊢
  rcases hb with hb | hb
  · rw [hb] at fin ⊢
    exact ⟨fun _ => fin, fun q => absurd rfl q⟩
  · rw [hb] at fin ⊢
    exact ⟨fun q => absurd q (by decide), fun _ => fin⟩
end SxB
