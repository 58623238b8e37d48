/-! the class: a day -/
def kpX (h : mf_M) (a : Int) (ks : List (Int × Int × Int)) : Prop := 0 ≤ h a 6 ∧ (ks.length : Int) = (if h a 6 < 40 then h a 6 else 40) ∧ ∀ k : Nat, k < ks.length → h (a + 6) ((h a 6 - ks.length + k) % 40) = 64 * (ks.getD k (0, 0, 0)).1 + 8 * (ks.getD k (0, 0, 0)).2.1 + (ks.getD k (0, 0, 0)).2.2
theorem kpX.keep {h h' : mf_M} {a : Int} {ks : List (Int × Int × Int)} (e1 : h' a 6 = h a 6) (e2 : h' (a + 6) = h (a + 6)) (o : kpX h a ks) : kpX h' a ks := by
  unfold kpX at o ⊢
  rw [e1, e2]; exact o
theorem kpX.to {h h' : mf_M} {a b : Int} {ks : List (Int × Int × Int)} (e1 : h' b 6 = h a 6) (e2 : ∀ i, 0 ≤ i → i < 40 → h' (b + 6) i = h (a + 6) i) (o : kpX h a ks) : kpX h' b ks := by
  obtain ⟨o1, o2, o3⟩ := o
  refine ⟨by rw [e1]; exact o1, by rw [e1]; exact o2, fun k hk => ?_⟩
  rw [e1, e2 _ (by omega) (by omega)]; exact o3 k hk
/-- how what is kept has changed -/
def kcR (a : Int) (h h' : mf_M) (ms : List (Int × Int)) : Prop := inr (h' a 6) ∧ ∀ ks, kpX h a ks → h a 6 + ms.length ≤ 2000000000 → kpX h' a (keepN (h a 7) ms ks) ∧ h' a 6 = h a 6 + ms.length
def cR (a : Int) (h h' : mf_M) (ms : List (Int × Int)) : Prop := frC a h h' ∧ h' a 7 = h a 7 ∧ kcR a h h' ms
theorem cR.tr {a : Int} {x y z : mf_M} {m1 m2 : List (Int × Int)} (h1 : cR a x y m1) (h2 : cR a y z m2) : cR a x z (m1 ++ m2) := by
  obtain ⟨f1, f2, f3, f4⟩ := h1
  obtain ⟨g1, g2, g3, g4⟩ := h2
  refine ⟨f1.tr g1, g2.trans f2, g3, fun ks hk hb => ?_⟩
  simp only [List.length_append] at hb ⊢
  obtain ⟨r1, r2⟩ := f4 ks hk (by omega)
  obtain ⟨s1, s2⟩ := g4 _ r1 (by omega)
  rw [f2] at s1
  refine ⟨?_, by omega⟩
  unfold keepN at s1 ⊢
  rw [List.foldl_append]; exact s1
theorem cR.of {a : Int} {h h' : mf_M} (fr : frC a h h') (e6 : h' a 6 = h a 6) (e7 : h' a 7 = h a 7) (er : h' (a + 6) = h (a + 6)) (k : inr (h a 6)) : cR a h h' [] := by
  refine ⟨fr, e7, by rw [e6]; exact k, fun ks hk _ => ⟨hk.keep e6 er, by rw [e6]; simp⟩⟩
theorem cR.K {F : aF} {f a : Int} {h h' σ : mf_M} (D : cD F f a h σ) (fr : frK h h') : cR a h h' [] := by
  have := D.a1
  have ea := fr a (by omega) (by omega)
  exact cR.of fr.C (by rw [ea]) (by rw [ea]) (fr _ (by omega) (by omega)) D.kr
section SxD
variable {C : mf_G} {l : Launch} {d : Nat} {K : mf_Kt} {g : mf_M} {F : aF} {f a : Int} {h σ : mf_M}
theorem x_keep {x y : Int} (hd : 1 ≤ d) (D : cD F f a h σ) (x0 : 0 ≤ x) (x8 : x < 8) (y0 : 0 ≤ y) (y8 : y < 8) (hK : ∀ h', cR a h h' [(x, y)] → vX h' a F.nb = σ → K 0 g h') : xM C l d YX6_keep [(2, a), (0, x), (0, y)] g h K := by
  obtain ⟨k1, k2⟩ := D.kr
  have hday := D.day
  obtain ⟨-, -, d0, d9⟩ := D.st
  refine wX6_keep hd ⟨D.ia, x_fmod k1 k2 (by decide) (by decide) ⟨by omega, by omega, fun h7 e7 h8 e8 => ?_⟩⟩
  rw [w_id (x := h a 7 * 64) (by omega) (by omega), w_id (x := x * 8) (by omega) (by omega), w_id (x := h a 7 * 64 + x * 8) (by omega) (by omega), w_id (x := h a 7 * 64 + x * 8 + y) (by omega) (by omega)] at e7
  have e76 : h7 a 6 = h a 6 := by rw [e7, up_row (by omega)]
  rw [e76] at e8
  have r : ∀ z, z ≠ a → z ≠ a + 6 → h8 z = h z := fun z q1 q2 => by rw [e8, up_row q1, e7, up_row q2]
  have e87 : h8 a 7 = h a 7 := by rw [e8, up_col (by decide), e7, up_row (by omega)]
  have e86 : h8 a 6 = mf_w32 (h a 6 + 1) := by rw [e8, up_self]
  have er : h8 (a + 6) = h7 (a + 6) := by rw [e8, up_row (by omega)]
  refine hK h8 ⟨fun z _ _ _ q => r z (by omega) (by omega), e87, by rw [e86]; exact w32_inr _, fun ks hk hb => ?_⟩ ?_
  · simp only [List.length_cons, List.length_nil] at hb ⊢
    obtain ⟨o1, o2, o3⟩ := hk
    have e86' : h8 a 6 = h a 6 + 1 := by rw [e86, w_id (by omega) (by omega)]
    refine ⟨?_, by rw [e86']; simp⟩
    unfold keepN
    simp only [List.foldl]
    unfold keepS
    have cell : ∀ i, i ≠ h a 6 % 40 → h8 (a + 6) i = h (a + 6) i := fun i q => by rw [er, e7, up_col q]
    have last : h8 (a + 6) (h a 6 % 40) = 64 * h a 7 + 8 * x + y := by rw [er, e7, up_self]; omega
    by_cases hl : ks.length < 40
    · rw [if_pos hl]
      have hT : h a 6 < 40 := by split at o2 <;> omega
      rw [if_pos hT] at o2
      refine ⟨by omega, by rw [e86']; simp only [List.length_append, List.length_cons, List.length_nil]; split <;> omega, fun k hk => ?_⟩
      simp only [List.length_append, List.length_cons, List.length_nil] at hk ⊢
      rw [e86']
      by_cases hk2 : k < ks.length
      · have ed : (ks ++ [(h a 7, x, y)]).getD k (0, 0, 0) = ks.getD k (0, 0, 0) := by
          simp [List.getD_eq_getElem?_getD, List.getElem?_append_left hk2]
        rw [ed]
        have h9 := o3 k hk2
        have ei : (h a 6 + 1 - ((ks.length + (0 + 1) : Nat) : Int) + k) % 40 = (h a 6 - ks.length + k) % 40 := by congr 1; omega
        rw [ei, cell _ (by omega)]; exact h9
      · have hke : k = ks.length := by omega
        subst hke
        have ed : (ks ++ [(h a 7, x, y)]).getD ks.length (0, 0, 0) = (h a 7, x, y) := by
          simp [List.getD_eq_getElem?_getD]
        rw [ed]
        have ei : (h a 6 + 1 - ((ks.length + (0 + 1) : Nat) : Int) + (ks.length : Nat)) % 40 = h a 6 % 40 := by congr 1; omega
        rw [ei, last]
    · rw [if_neg hl]
      have hT : ¬ h a 6 < 40 := by split at o2 <;> omega
      rw [if_neg hT] at o2
      have hl4 : ks.length = 40 := by omega
      refine ⟨by omega, by rw [e86']; simp only [List.length_append, List.length_drop, List.length_cons, List.length_nil]; split <;> omega, fun k hk => ?_⟩
      simp only [List.length_append, List.length_drop, List.length_cons, List.length_nil] at hk ⊢
      rw [e86', hl4]
      by_cases hk2 : k < 39
      · have ed : (ks.drop 1 ++ [(h a 7, x, y)]).getD k (0, 0, 0) = ks.getD (k + 1) (0, 0, 0) := by
          rw [List.getD_eq_getElem?_getD, List.getD_eq_getElem?_getD, List.getElem?_append_left (by simp; omega), List.getElem?_drop, Nat.add_comm]
        rw [ed]
        have h9 := o3 (k + 1) (by omega)
        rw [hl4] at h9
        have ei : (h a 6 + 1 - ((40 - 1 + (0 + 1) : Nat) : Int) + k) % 40 = (h a 6 - ((40 : Nat) : Int) + ((k + 1 : Nat) : Int)) % 40 := by congr 1; omega
        rw [ei, cell _ (by omega)]; exact h9
      · have hke : k = 39 := by omega
        subst hke
        have ed : (ks.drop 1 ++ [(h a 7, x, y)]).getD 39 (0, 0, 0) = (h a 7, x, y) := by
          rw [List.getD_eq_getElem?_getD, List.getElem?_append_right (by simp; omega)]
          simp [hl4]
        rw [ed]
        have ei : (h a 6 + 1 - ((40 - 1 + (0 + 1) : Nat) : Int) + ((39 : Nat) : Int)) % 40 = h a 6 % 40 := by omega
        rw [ei, last]
  · rw [vX_row (h := h) e87 (fun j j1 j2 => r _ (by omega) (by omega))]; exact D.vi
theorem vX_up' {h : mf_M} {a nb j k v : Int} (hj : 2 ≤ j) (hj5 : j ≤ 5) (h0 : 0 ≤ k) (h1 : k < nb) {σ : mf_M} (e : vX h a nb = σ) : vX (mf_up h (a + j) k v) a nb = mf_up σ j k v := by rw [vX_up hj hj5 h0 h1, e]
/-- a number of a being is written -/
theorem cD.put (D : cD F f a h σ) {j b v : Int} (hj : 2 ≤ j) (hj5 : j ≤ 5) (b0 : 0 ≤ b) (b1 : b < F.nb) (s : stS (mf_up σ j b v) F.nl F.nc F.nb) : cD F f a (mf_up h (a + j) b v) (mf_up σ j b v) ∧ cR a h (mf_up h (a + j) b v) [] := by
  have fr : frC a h (mf_up h (a + j) b v) := frC.up h (by omega)
  have ea : mf_up h (a + j) b v a = h a := up_row (by omega)
  refine ⟨D.next fr (vX_up' hj hj5 b0 b1 D.vi) s (by rw [ea]; exact D.kr), cR.of fr (by rw [ea]) (by rw [ea]) (up_row (by omega)) D.kr⟩
theorem x_addPurse {b v : Int} (hd : 1 ≤ d) (D : cD F f a h σ) (b0 : 0 ≤ b) (b1 : b < F.nb) (v1 : -1000000 ≤ v) (v2 : v ≤ 1000000) (hK : ∀ h', cD F f a h' (mf_up σ 4 b (clipS (σ 4 b + v))) → cR a h h' [] → K 0 g h') : xM C l d YX6_addPurse [(2, a), (0, b), (0, v)] g h K := by
  have hb8 := D.ok.b8
  have hp := D.st.2.1 b b0 b1
  refine wX6_addPurse hd ⟨fun q => absurd q (by omega), fun _ => ⟨D.ia, fun q => absurd q (by omega), fun _ => ⟨b0, by omega, ?_⟩⟩⟩
  rw [D.be (j := 4) (by decide) (by decide) b0 b1, w_id (by omega) (by omega)]
  refine x_mini (fun w hw => x_maxi (fun z hz h10 e10 => ?_))
  have ez : z = clipS (σ 4 b + v) := by
    unfold clipS
    split
    · omega
    · split <;> omega
  rw [ez] at e10
  obtain ⟨D1, R1⟩ := D.put (j := 4) (v := clipS (σ 4 b + v)) (by decide) (by decide) b0 b1 (D.st.up4 (clip_range _).1 (clip_range _).2)
  rw [← e10] at D1 R1
  exact hK h10 D1 R1
/-- a rule of the folio reckoned at a being whose parts are set -/
theorem x_rule {s o b most other : Int} {cs : List Int} {ff : Bool} (hd : 3 ≤ d) (D : cD F f a h σ) (b0 : 0 ≤ b) (b1 : b < F.nb) (s0 : 0 ≤ s) (s3 : s ≤ 3) (hs : scrX h (f + 6) s cs) (hr : cs ≠ [] → ruleS cs ff most) (hm : most ≤ 46) (hp : parS σ F.tr o b (h 48)) (h6 : most = 46 → h 48 6 = other) (ho0 : 0 ≤ other) (ho9 : other ≤ 9)
    (hK : ∀ h', frK h h' → (cs ≠ [] → if ff then valS (envS σ F.tr (σ 0 0) o other b) mt0 cs = 0 ∨ valS (envS σ F.tr (σ 0 0) o other b) mt0 cs = 1 else -1000000 ≤ valS (envS σ F.tr (σ 0 0) o other b) mt0 cs ∧ valS (envS σ F.tr (σ 0 0) o other b) mt0 cs ≤ 1000000) → K (valS (envS σ F.tr (σ 0 0) o other b) mt0 cs) g h') : xM C l d YX3_reckon [(2, 47), (2, f + 6), (0, s)] g h K := by
  have hff := D.fe
  have hE : ∀ c ∈ cs, 40 ≤ c → c < 60 → h 48 (c - 40) = envS σ F.tr (σ 0 0) o other b (c - 40) := by
    intro c hc q1 q2
    have hne : cs ≠ [] := List.ne_nil_of_mem hc
    have h9 := (hr hne).2.2 c hc q1 q2
    by_cases h5 : c - 40 ≤ 5
    · rw [hp (c - 40) (by omega) h5]
      unfold envS
      simp only [show ¬ c - 40 = 6 by omega, if_false]
    · have e : c - 40 = 6 := by omega
      rw [e, h6 (by omega)]
      simp [envS]
  have hrg : ∀ c ∈ cs, 40 ≤ c → c < 60 → -1000000 ≤ envS σ F.tr (σ 0 0) o other b (c - 40) ∧ envS σ F.tr (σ 0 0) o other b (c - 40) ≤ 1000000 := fun c hc q1 q2 => env_range D.st D.ok.l6 D.ok.c8 D.ok.b8 b0 b1 D.ok.tr ho0 ho9 _
  have ev : valS (h 48) (mtX h) cs = valS (envS σ F.tr (σ 0 0) o other b) mt0 cs := by
    unfold valS
    rw [evS_congr (F := envS σ F.tr (σ 0 0) o other b) cs [] hE]
    by_cases hne : cs = []
    · subst hne; rfl
    · rw [evS_mt (nt := mt0) cs [] (hr hne).2.1]
  refine x_reckon (f := ff) hd (isf6 D.fe) ⟨by omega, by omega, by omega⟩ (by omega) s0 s3 hs (fun hne => (hr hne).1) (fun c hc q1 q2 => by rw [hE c hc q1 q2]; exact hrg c hc q1 q2) (fun h' hf' => ?_)
  rw [ev]
  refine hK h' hf' (fun hne => ?_)
  exact val_range (fun _ => Or.inl rfl) hrg (hr hne).1
theorem cR.parts (D : cD F f a h σ) {h' : mf_M} (r : ∀ x, x ≠ 48 → h' x = h x) : cR a h h' [] := by
  have := D.a1
  exact cR.of (fun x _ q _ _ => r x q) (by rw [r a (by omega)]) (by rw [r a (by omega)]) (r _ (by omega)) D.kr
theorem x_meetPay {t b c : Int} (hd : 2 ≤ d) (D : cD F f a h σ) (b0 : 0 ≤ b) (b1 : b < F.nb) (c0 : 0 ≤ c) (c1 : c < F.nb) (hbc : b ≠ c) (t1 : -1000000 ≤ t) (t2 : t ≤ 1000000) (hK : ∀ h', cD F f a h' (if t < 0 then paysS σ c b (-t) else paysS σ b c t) → cR a h h' [] → K 0 g h') : BX0_meetUp_103 C l d K a b c t g h := by
  have hb8 := D.ok.b8
  have pay : ∀ p q m : Int, 0 ≤ p → p < F.nb → 0 ≤ q → q < F.nb → p ≠ q → 0 ≤ m → m ≤ 1000000 → (m = t ∨ m = -t) → (∀ h', cD F f a h' (paysS σ p q m) → cR a h h' [] → K 0 g h') → BX0_meetUp_127 C l d K a t p q g h := by
    intro p q m p0 p1 q0 q1 hpq m0 m1 hm hK
    have hp := D.st.2.1 p p0 p1
    refine vX0_meetUp_127 hd (x_abs (by omega) (by omega) ⟨D.ia, p0, by omega, ?_⟩)
    have em : (if 0 ≤ t then t else -t) = m := by split <;> omega
    rw [em, D.be (j := 4) (by decide) (by decide) p0 p1]
    refine x_mini (fun v hv => ?_)
    have ev : v = if σ 4 p < m then σ 4 p else m := by split <;> omega
    rw [w_id (x := -v) (by omega) (by omega)]
    refine x_addPurse (by omega) D p0 p1 (by omega) (by omega) (fun h1 D1 R1 => x_addPurse (by omega) D1 q0 q1 (by omega) (by omega) (fun h2 D2 R2 => hK h2 ?_ (by simpa using R1.tr R2)))
    have e : mf_up (mf_up σ 4 p (clipS (σ 4 p + -v))) 4 q (clipS (mf_up σ 4 p (clipS (σ 4 p + -v)) 4 q + v)) = paysS σ p q m := by
      unfold paysS
      simp only []
      rw [← ev, show σ 4 p + -v = σ 4 p - v by omega]
    rw [← e]; exact D2
  refine vX0_meetUp_103 ⟨fun q => ⟨fun _ => ?_, fun z => absurd q z⟩, fun q => ⟨fun z => absurd z q, fun _ => ?_⟩⟩
  · rw [if_neg (by omega)] at hK
    exact pay b c t b0 b1 c0 c1 hbc q t2 (Or.inl rfl) hK
  · rw [if_pos (by omega)] at hK
    exact pay c b (-t) c0 c1 b0 b1 (fun e => hbc e.symm) (by omega) (by omega) (Or.inr rfl) hK
theorem x_meetUp {o b c : Int} (hd : 4 ≤ d) (D : cD F f a h σ) (b0 : 0 ≤ b) (hbc : b < c) (c1 : c < F.nb) (o1 : -1000 ≤ o) (o2 : o ≤ 1000) (hK : ∀ h', cD F f a h' (meetS F.tr F.cT o b c σ) → cR a h h' [(b, c)] → K 0 g h') : xM C l d YX0_meetUp [(2, 46), (2, f), (2, a), (0, b), (0, c), (0, o)] g h K := by
  have hb8 := D.ok.b8
  have ha1 := D.a1
  have hff := D.fe
  have pb := D.st.2.1 b b0 (by omega)
  refine wX0_meetUp hd ⟨D.ia, b0, by omega, ?_⟩
  rw [D.be (j := 5) (by decide) (by decide) b0 (by omega), w_id (by omega) (by omega)]
  refine x_mini (fun v4 hv4 h7 e7 => ⟨by omega, by omega, ?_⟩)
  have f1 := fill_range pb.2.2.1 pb.2.2.2
  have ev4 : v4 = fillS (σ 5 b) := by unfold fillS; split <;> omega
  rw [ev4] at e7
  obtain ⟨D7, R7⟩ := D.put (j := 5) (v := fillS (σ 5 b)) (by decide) (by decide) b0 (by omega) (D.st.up5 f1.1 f1.2)
  rw [← e7] at D7 R7
  have pc := D7.st.2.1 c (by omega) c1
  rw [D7.be (j := 5) (by decide) (by decide) (by omega) c1, w_id (by omega) (by omega)]
  refine x_mini (fun v10 hv10 h13 e13 => ?_)
  have f2 := fill_range pc.2.2.1 pc.2.2.2
  have ev10 : v10 = fillS (mf_up σ 5 b (fillS (σ 5 b)) 5 c) := by
    clear ev4 f1
    generalize mf_up σ 5 b (fillS (σ 5 b)) 5 c = z at hv10 pc f2
    unfold fillS; split <;> omega
  rw [ev10] at e13
  obtain ⟨D13, R13⟩ := D7.put (j := 5) (v := fillS (mf_up σ 5 b (fillS (σ 5 b)) 5 c)) (by decide) (by decide) (by omega) c1 (D7.st.up5 f2.1 f2.2)
  rw [← e13] at D13 R13
  have S2 : mf_up (mf_up σ 5 b (fillS (σ 5 b))) 5 c (fillS (mf_up σ 5 b (fillS (σ 5 b)) 5 c)) = mf_up (mf_up σ 5 b (fillS (σ 5 b))) 5 c (fillS (mf_up σ 5 b (fillS (σ 5 b)) 5 c)) := rfl
  refine x_keep (by omega) D13 b0 (by omega) (by omega) (by omega) (fun h16 R16 w16 => ⟨isf D.fe, ?_⟩)
  have D16 := D13.next R16.1 w16 D13.st R16.2.2.1
  have RR : cR a h h16 [(b, c)] := by simpa using (R7.tr R13).tr R16
  have fin : ∀ (t : Int) (hh : mf_M), cD F f a hh (mf_up (mf_up σ 5 b (fillS (σ 5 b))) 5 c (fillS (mf_up σ 5 b (fillS (σ 5 b)) 5 c))) → cR a h16 hh [] → t = tollS (mf_up (mf_up σ 5 b (fillS (σ 5 b))) 5 c (fillS (mf_up σ 5 b (fillS (σ 5 b)) 5 c))) F.tr F.cT o b c → -1000000 ≤ t → t ≤ 1000000 → BX0_meetUp_103 C l d K a b c t g hh := by
    intro t hh Dh Rh et t1 t2
    refine x_meetPay (by omega) Dh b0 (by omega) (by omega) c1 (by omega) t1 t2 (fun h' D' R' => hK h' ?_ (by simpa using (RR.tr Rh).tr R'))
    unfold meetS
    simp only []
    rw [← et]; exact D'
  refine wX4_isTold ⟨fun q => absurd q (by decide), fun _ => ⟨fun q => absurd q (by decide), fun _ => ⟨isf6 D.fe, by decide, by decide, ?_⟩⟩⟩
  have sT := D16.fo.sT
  rcases id sT with ⟨e, hs⟩ | ⟨hne, s1, s2, s3, s4⟩
  · refine ⟨fun _ => ⟨fun _ => fin 1 h16 D16 (cR.K D16 (frK.rf _)) ?_ (by decide) (by decide), fun q => absurd rfl q⟩, fun q => absurd hs q⟩
    unfold tollS
    rw [if_pos e]
  · have hpos : 0 < F.cT.length := List.length_pos_iff.mpr hne
    refine ⟨fun q => absurd q (by omega), fun _ => ⟨fun q => absurd q (by decide), fun _ => ?_⟩⟩
    refine x_setParts (by omega) D16 b0 (by omega) o1 o2 (fun h23 r23 p23 k23 h24 e24 => ?_)
    have r24 : ∀ x, x ≠ 48 → h24 x = h16 x := fun x q => by rw [e24, up_row q, r23 x q]
    have D24 := D16.same (h' := h24) (fun x _ q _ _ => r24 x q)
    have p24 : parS (mf_up (mf_up σ 5 b (fillS (σ 5 b))) 5 c (fillS (mf_up σ 5 b (fillS (σ 5 b)) 5 c))) F.tr o b (h24 48) := fun k k0 k5 => by rw [e24, up_col (by omega)]; exact p23 k k0 k5
    have e6 : h24 48 6 = F.tr c := by rw [e24, up_self, r23 _ (by omega), D16.fo.tr c (by omega) c1]
    have ht := D.ok.tr c (by omega) c1
    refine x_rule (ff := false) (most := 46) (other := F.tr c) (by omega) D24 b0 (by omega) (by decide) (by decide) D24.fo.sT D.ok.rT (by decide) p24 (fun _ => e6) ht.1 ht.2 (fun h27 f27 v27 => ?_)
    have v27' := v27 hne
    simp only [Bool.false_eq_true, if_false] at v27'
    refine fin _ h27 (D24.same (fun x q _ _ q4 => f27 x q q4)) (by simpa using (cR.parts D16 r24).tr (cR.K D24 f27)) ?_ v27'.1 v27'.2
    unfold tollS
    rw [if_neg hne]
theorem x_reap {o b : Int} (hd : 4 ≤ d) (D : cD F f a h σ) (b0 : 0 ≤ b) (b1 : b < F.nb) (o1 : -1000 ≤ o) (o2 : o ≤ 1000) (hK : ∀ h', cD F f a h' (mf_up σ 4 b (clipS (σ 4 b + c99 (cornS σ F.tr F.cC o b)))) → cR a h h' [] → K 0 g h') : xM C l d YX0_reap [(2, 46), (2, f), (2, a), (0, b), (0, o)] g h K := by
  have hb8 := D.ok.b8
  have hc8 := D.ok.c8
  have hff := D.fe
  have pos := D.st.1 b b0 b1
  refine wX0_reap hd ⟨D.ia, b0, by omega, fun v4 e4 => ⟨isf D.fe, ?_⟩⟩
  rw [D.be (j := 3) (by decide) (by decide) b0 b1] at e4
  have fin : ∀ (v : Int) (hh : mf_M), cD F f a hh σ → cR a h hh [] → v = cornS σ F.tr F.cC o b → -1000000 ≤ v → v ≤ 1000000 → xM C l 0 YJ9_min_7cf53 [(0, 99), (0, v)] g hh (fun r9 g10 h11 => xM C l 0 YJ9_max_7cf53 [(0, (-99)), (0, r9)] g10 h11 (fun r12 g13 h14 => xM C l 1 YX6_addPurse [(2, a), (0, b), (0, r12)] g13 h14 (fun r15 g16 h17 => K 0 g16 h17))) := by
    intro v hh Dh Rh ev v1 v2
    refine x_mini (fun w hw => x_maxi (fun z hz => ?_))
    have ez : z = c99 (cornS σ F.tr F.cC o b) := by
      rw [← ev]; unfold c99
      split
      · omega
      · split <;> omega
    refine x_addPurse (by omega) Dh b0 b1 (by omega) (by omega) (fun h' D' R' => hK h' ?_ (by simpa using Rh.tr R'))
    rw [← ez]; exact D'
  refine wX4_isTold ⟨fun q => absurd q (by decide), fun _ => ⟨fun q => absurd q (by decide), fun _ => ⟨isf6 D.fe, by decide, by decide, ?_⟩⟩⟩
  rcases id D.fo.sC with ⟨e, hs⟩ | ⟨hne, s1, s2, s3, s4⟩
  · refine ⟨fun _ => ⟨fun _ => fin v4 h D (cR.K D (frK.rf _)) ?_ (by omega) (by omega), fun q => absurd rfl q⟩, fun q => absurd hs q⟩
    unfold cornS
    rw [if_pos e]; exact e4
  · have hpos : 0 < F.cC.length := List.length_pos_iff.mpr hne
    refine ⟨fun q => absurd q (by omega), fun _ => ⟨fun q => absurd q (by decide), fun _ => ?_⟩⟩
    refine x_setParts (by omega) D b0 b1 o1 o2 (fun h23 r23 p23 k23 => ?_)
    have D23 := D.same (h' := h23) (fun x _ q _ _ => r23 x q)
    refine x_rule (ff := false) (most := 45) (other := 0) (by omega) D23 b0 b1 (by decide) (by decide) D23.fo.sC D.ok.rC (by decide) p23 (fun q => absurd q (by decide)) (by decide) (by decide) (fun h27 f27 v27 => ?_)
    have v27' := v27 hne
    simp only [Bool.false_eq_true, if_false] at v27'
    refine fin _ h27 (D23.same (fun x q _ _ q4 => f27 x q q4)) (by simpa using (cR.parts D r23).tr (cR.K D23 f27)) ?_ v27'.1 v27'.2
    unfold cornS
    rw [if_neg hne]
end SxD
