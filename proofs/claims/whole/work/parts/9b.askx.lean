/-! questions in the class -/
def fndS (kd : Int) (v : Int → Int) : Nat → Int
  | 0 => -1
  | n + 1 => if v n ≠ 0 ∧ (fndS kd v n = -1 ∨ kd = 29) then (n : Int) else fndS kd v n
theorem fd_tk {kd : Int} {v : Int → Int} (hk : kd = 28 ∨ kd = 29) : ∀ (n : Nat), (∀ i : Nat, i < n → v i = 0 ∨ v i = 1) → fndS kd v n = tkS kd v n
  | 0, _ => by unfold fndS tkS; rw [if_pos (by omega)]
  | n + 1, h => by
    have ih := fd_tk hk n (fun i hi => h i (by omega))
    have h1 := h n (by omega)
    unfold fndS tkS
    rw [ih]
    rcases hk with rfl | rfl
    · rcases h1 with e | e <;> simp [e]
    · rcases h1 with e | e <;> simp [e]
theorem tk_30 {v : Int → Int} : ∀ (n : Nat), (∀ i : Nat, i < n → v i = 0 ∨ v i = 1) → tkS 31 v n = tkS 30 v n
  | 0, _ => rfl
  | n + 1, h => by
    have ih := tk_30 n (fun i hi => h i (by omega))
    have h1 := h n (by omega)
    unfold tkS
    rw [ih]
    rcases h1 with e | e <;> simp [e]
theorem scO.ne {sc : Int} (o : scO sc) : sc = 6 ∨ sc = 17 ∨ sc = 34 := o
section SxAs
variable {C : mf_G} {l : Launch} {d : Nat} {K : mf_Kt} {g : mf_M} {S : aS}
theorem x_forgetL {sc : Int} (o : scO sc) : ∀ (n : Nat) (k : Int) (h : mf_M), 0 ≤ k → k + n = 4 → (∀ j, 0 ≤ j → j < k → h (sc + 2) j = 0 ∧ h (sc + 3) j = 0) → (∀ h', (∀ a, a ≠ sc + 2 → a ≠ sc + 3 → h' a = h a) → (∀ j, 0 ≤ j → j < 4 → h' (sc + 2) j = 0 ∧ h' (sc + 3) j = 0) → K 0 g h') → BX4_forget_12 C l d K sc k g h := by
  intro n
  induction n with
  | zero =>
    intro k h k0 kn hz hK
    exact vX4_forget_12 ⟨fun _ => hK h (fun _ _ _ => rfl) (fun j j0 j1 => hz j j0 (by omega)), fun z => absurd (by omega) z⟩
  | succ n ih =>
    intro k h k0 kn hz hK
    refine vX4_forget_12 ⟨fun z => absurd z (by omega), fun _ => ⟨isS o, k0, by omega, fun h4 e4 h5 e5 v6 e6 => ?_⟩⟩
    rw [w_id (by omega) (by omega)] at e6
    rw [e6]
    refine ih (k + 1) h5 (by omega) (by omega) (fun j j0 j1 => ?_) (fun h' r' z' => hK h' (fun a a2 a3 => by rw [r' a a2 a3, e5, up_row a3, e4, up_row a2]) z')
    by_cases e : j = k
    · rw [e]
      exact ⟨by rw [e5, up_row (by omega), e4, up_self], by rw [e5, up_self]⟩
    · have := hz j j0 (by omega)
      exact ⟨by rw [e5, up_row (by omega), e4, up_col e]; exact this.1, by rw [e5, up_col e, e4, up_row (by omega)]; exact this.2⟩
theorem X_forgetS {sc : Int} {h : mf_M} (o : scO sc) (hK : ∀ h', (∀ a, a ≠ sc → a ≠ sc + 2 → a ≠ sc + 3 → h' a = h a) → h' sc 3 = 0 → h' sc 4 = -1 → (∀ j, 0 ≤ j → j < 4 → h' (sc + 2) j = 0 ∧ h' (sc + 3) j = 0) → K 0 g h') : xM C l d YX4_forget [(2, sc)] g h K := by
  refine wX4_forget ⟨isS o, fun h2 e2 h3 e3 => x_forgetL o 4 0 h3 (by decide) (by decide) (fun j j0 j1 => absurd j1 (by omega)) (fun h' r' z' => hK h' (fun a a1 a2 a3 => by rw [r' a a2 a3, e3, up_row a1, e2, up_row a1]) ?_ ?_ z')⟩
  · rw [r' sc (by omega) (by omega), e3, up_col (by decide), e2, up_self]
  · rw [r' sc (by omega) (by omega), e3, up_self]
/-- what one being gives -/
theorem x_rk42 {cs : List Int} {f : Bool} {o b : Int} {h0 : mf_M} (hd : 4 ≤ d) (R : RX S g h0) (o1 : -1000 ≤ o) (o2 : o ≤ 1000) (b0 : 0 ≤ b) (b1 : b < S.F.nb) (hs : scrX h0 6 0 cs) (hq : okQ f cs) (hK : ∀ h', frN h0 h' → K (qvS S cs o b) g h') : ∀ (n : Nat) (k : Int) (h : mf_M), (∀ x, x ≠ 48 → x ≠ 49 → h x = h0 x) → (∀ j, 0 ≤ j → j ≤ 8 → j ≠ 6 → h 48 j = envS S.st S.F.tr (S.st 0 0) o 0 b j) → 0 ≤ k → k + n = 8 → (∀ j, 0 ≤ j → j < k → h 49 j = mtS S o b j) → BX0_reckonOf_42 C l d K 6 (g 0 12) 88 b o k g h := by
  have b8 := R.ok.F.b8
  have fN : ∀ h : mf_M, (∀ x, x ≠ 48 → x ≠ 49 → h x = h0 x) → frN h0 h := fun h r => ⟨fun a _ q2 q3 _ _ _ _ _ => r a q2 q3, by rw [r 51 (by decide) (by decide)], fun a ha q => by
    have : a = 53 ∨ a = 67 ∨ a = 74 ∨ a = 81 := by simpa using ha
    rw [r a (by omega) (by omega)]; exact q⟩
  intro n
  induction n with
  | zero =>
    intro k h r e48 k0 kn e49
    have hle : ∀ c ∈ cs, 40 ≤ c → c < 60 → c ≤ 48 := by
      have gen : ∀ (cs : List Int) (ty : List Bool), okT cs ty f → ∀ c ∈ cs, 40 ≤ c → c < 60 → c ≤ 48 := by
        intro cs
        induction cs with
        | nil => intro ty _ c hc; exact absurd hc (by simp)
        | cons x cs ih =>
          intro ty ho c hc c40 c60
          unfold okT at ho
          rcases List.mem_cons.mp hc with e | e
          · subst e
            rw [if_neg (by omega), if_neg (by omega), if_pos c40] at ho
            exact ho.1
          · split at ho
            · exact ih _ ho.2.2 c e c40 c60
            · split at ho
              · exact ih _ ho.2.2 c e c40 c60
              · split at ho
                · exact ih _ ho.2.2 c e c40 c60
                · split at ho
                  · exact ih _ ho.2 c e c40 c60
                  · split at ho
                    · exact ih _ ho.2 c e c40 c60
                    · split at ho
                      · obtain ⟨t, -, ho⟩ := ho
                        exact ih _ ho c e c40 c60
                      · split at ho
                        · obtain ⟨t, -, ho⟩ := ho
                          exact ih _ ho c e c40 c60
                        · obtain ⟨-, -, t, -, ho⟩ := ho
                          exact ih _ ho c e c40 c60
      exact gen cs [] hq.1
    have eqE : ∀ c ∈ cs, 40 ≤ c → c < 60 → h 48 (c - 40) = envS S.st S.F.tr (S.st 0 0) o 0 b (c - 40) := fun c hc c40 c60 => e48 (c - 40) (by omega) (by have := hle c hc c40 c60; omega) (by have := hq.2.2.1 c hc; omega)
    have emt : mtX h = mtS S o b := by
      funext v
      unfold mtX
      by_cases hv : 0 ≤ v ∧ v < 8
      · have e := e49 v hv.1 (by omega)
        have m01 := mtS_01 S o b v
        by_cases hz : h 49 v = 0
        · rw [if_neg (fun z => z.2.2 hz)]; omega
        · rw [if_pos ⟨hv.1, hv.2, hz⟩]; omega
      · rw [if_neg (fun z => hv ⟨z.1, z.2.1⟩)]
        unfold mtS
        rw [if_neg (fun z => by omega)]
    have hs' : scrX h 6 0 cs := by
      unfold scrX at hs ⊢
      rw [r (6 + 1) (by decide) (by decide), r (6 + 2) (by decide) (by decide), r (6 + 3) (by decide) (by decide)]
      exact hs
    refine vX0_reckonOf_42 hd ⟨fun _ => x_reckon (f := f) (by decide) is6 ⟨by decide, by decide, by decide⟩ (by decide) (by decide) (by decide) hs' (fun _ => hq.1) (fun c hc c40 c60 => ?_) (fun h' f' => ?_), fun z => absurd (by omega) z⟩
    · rw [eqE c hc c40 c60]
      exact envS_range R.ok b0 b1 (by omega) (by have := hle c hc c40 c60; omega)
    · have := hK h' ((fN h r).tr f'.N)
      unfold qvS valS at this
      unfold valS
      rw [emt, evS_congr cs [] eqE]
      exact this
  | succ n ih =>
    intro k h r e48 k0 kn e49
    have Rh := R.keep (fN h r)
    have nx : ∀ v, v = mtS S o b k → ∀ h7 : mf_M, h7 = mf_up h 49 k v → ∀ v8, v8 = mf_w32 (k + 1) → BX0_reckonOf_42 C l d K 6 (g 0 12) 88 b o v8 g h7 := by
      intro v hv h7 e7 v8 e8
      rw [w_id (by omega) (by omega)] at e8
      rw [e8]
      refine ih (k + 1) h7 (fun x q1 q2 => by rw [e7, up_row q2]; exact r x q1 q2) (fun j j0 j1 j2 => by rw [e7, up_row (by decide)]; exact e48 j j0 j1 j2) (by omega) (by omega) (fun j j0 j1 => ?_)
      rw [e7, up_if]
      by_cases e : j = k
      · rw [if_pos ⟨rfl, e⟩, e]; exact hv
      · rw [if_neg (fun z => e z.2)]; exact e49 j j0 (by omega)
    refine vX0_reckonOf_42 hd ⟨fun z => absurd z (by omega), fun _ => ⟨isf R.fi, ?_⟩⟩
    rw [Rh.fo.b]
    refine ⟨fun z => ⟨k0, by omega, nx 0 ?_⟩, fun z => ⟨fun y => ⟨k0, by omega, nx 0 ?_⟩, fun y => x_meet (by decide) Rh.D b0 b1 k0 (by omega) o1 o2 ?_⟩⟩
    · unfold mtS; rw [if_neg (fun w => by omega)]
    · unfold mtS; rw [if_neg (fun w => w.2.1 y)]
    · by_cases m : metB S.st S.F.nl S.F.nc o b k = true
      · rw [if_pos m]
        exact ⟨fun w => absurd w (by decide), fun _ => ⟨k0, by omega, nx 1 (by unfold mtS; rw [if_pos ⟨by omega, y, m⟩])⟩⟩
      · rw [if_neg m]
        exact ⟨fun _ => ⟨k0, by omega, nx 0 (by unfold mtS; rw [if_neg (fun w => m w.2.2)])⟩, fun w => absurd rfl w⟩
theorem X_reckonOf {cs : List Int} {f : Bool} {o b : Int} {h : mf_M} (hd : 4 ≤ d) (R : RX S g h) (o1 : -1000 ≤ o) (o2 : o ≤ 1000) (b0 : 0 ≤ b) (b1 : b < S.F.nb) (hs : scrX h 6 0 cs) (hq : okQ f cs) (hK : ∀ h', frN h h' → K (qvS S cs o b) g h') : xM C l d YX0_reckonOf [(2, 46), (2, 6), (2, g 0 12), (2, 88), (0, b), (0, o)] g h K := by
  have b8 := R.ok.F.b8
  refine wX0_reckonOf (by omega) (x_setParts (by decide) R.D b0 b1 o1 o2 (fun h1 r1 p1 c1 h4 e4 => ⟨is88, b0, by omega, fun h8 e8 => ?_⟩))
  have r4 : ∀ x, x ≠ 48 → h4 x = h x := fun x q => by rw [e4, up_row q, r1 x q]
  have r8 : ∀ x, x ≠ 48 → h8 x = h x := fun x q => by rw [e8, up_row q, r4 x q]
  rw [r4 (88 + 5) (by decide), R.D.be (j := 5) (by decide) (by decide) b0 b1] at e8
  refine x_rk42 hd R o1 o2 b0 b1 hs hq hK 8 0 h8 (fun x q _ => r8 x q) (fun j j0 j1 j2 => ?_) (by decide) (by decide) (fun j j0 j1 => absurd j1 (by omega))
  by_cases h5 : j ≤ 5
  · rw [e8, up_col (by omega), e4, up_col (by omega)]; exact p1 j j0 h5
  · have hj : j = 7 ∨ j = 8 := by omega
    rcases hj with rfl | rfl
    · rw [e8, up_col (by decide), e4, up_self]; rfl
    · rw [e8, up_self]; rfl
theorem x_ans35 {cs : List Int} {f : Bool} {kd o : Int} (hd : 5 ≤ d) (k28 : 28 ≤ kd) (k33 : kd ≤ 33) (hf : f = true ↔ kd ≤ 30) (hq : okQ f cs) (o1 : -1000 ≤ o) (o2 : o ≤ 1000) : ∀ (m n : Nat) (h : mf_M), RX S g h → (n : Int) + m = S.F.nb → scrX h 6 0 cs → (∀ h', RX S g h' → frH h h' → K (tkS kd (qvS S cs o) S.F.nb.toNat) g h') → BX11_answer_35 C l d K kd o (tkS 31 (qvS S cs o) n) (fndS kd (qvS S cs o) n) (tkS 32 (qvS S cs o) n) (tkS 33 (qvS S cs o) n) n g h := by
  intro m
  induction m with
  | zero =>
    intro n h R hn hs hK
    have k1 := hK h R (frH.rf h)
    rw [show S.F.nb.toNat = n by omega] at k1
    have v01 : kd ≤ 30 → ∀ i : Nat, i < n → qvS S cs o i = 0 ∨ qvS S cs o i = 1 := fun hk i hi => by
      have := qv_range (o := o) R.ok hq (by omega : (0 : Int) ≤ i) (by omega)
      rw [hf.mpr hk] at this
      simpa using this
    refine vX11_answer_35 hd ⟨isf R.fi, fun _ => ⟨fun e => ?_, fun e => ?_, fun e => ?_, fun e => ?_, fun e => ?_, fun e => ?_, fun e => absurd e (by omega)⟩, fun z => absurd (by rw [R.fo.b]; omega) z⟩
    · rw [fd_tk (Or.inl e) n (v01 (by omega))]; exact k1
    · rw [fd_tk (Or.inr e) n (v01 (by omega))]; exact k1
    · rw [tk_30 n (v01 (by omega))]; rw [e] at k1; exact k1
    · rw [e] at k1; exact k1
    · rw [e] at k1; exact k1
    · rw [e] at k1; exact k1
  | succ m ih =>
    intro n h R hn hs hK
    have b8 := R.ok.F.b8
    have vr : ∀ i : Int, 0 ≤ i → i < S.F.nb → -1000000 ≤ qvS S cs o i ∧ qvS S cs o i ≤ 1000000 := fun i i0 i1 => by
      have := qv_range (o := o) R.ok hq i0 i1
      cases f with
      | true => simp only [if_true] at this; omega
      | false => simpa using this
    have tr : ∀ j : Nat, j ≤ n → -1000001 * (j + 1 : Int) ≤ tkS 31 (qvS S cs o) j ∧ tkS 31 (qvS S cs o) j ≤ 1000001 * (j + 1 : Int) := by
      intro j
      induction j with
      | zero => intro _; show -1000001 * ((0 : Nat) + 1 : Int) ≤ 0 ∧ (0 : Int) ≤ 1000001 * ((0 : Nat) + 1 : Int); omega
      | succ j ij =>
        intro hj'
        have i1 := ij (by omega)
        have v1 := vr j (by omega) (by omega)
        have e : tkS 31 (qvS S cs o) (j + 1) = tkS 31 (qvS S cs o) j + qvS S cs o j := rfl
        rw [e]
        omega
    have trn := tr n (Nat.le_refl _)
    have v1 := vr n (by omega) (by omega)
    have go : ∀ (h1 : mf_M) (fd : Int), frN h h1 → fd = fndS kd (qvS S cs o) (n + 1) → BX11_answer_96 C l d K kd o (tkS 31 (qvS S cs o) n) fd (tkS 32 (qvS S cs o) n) (tkS 33 (qvS S cs o) n) n (qvS S cs o n) g h1 := by
      intro h1 fd f1 hfd
      have hs1 : scrX h1 6 0 cs := by
        unfold scrX at hs ⊢
        rw [f1.1 (6 + 1) (by decide) (by decide) (by decide) (by decide) (by decide) (by decide) (by decide) (by decide), f1.1 (6 + 2) (by decide) (by decide) (by decide) (by decide) (by decide) (by decide) (by decide) (by decide), f1.1 (6 + 3) (by decide) (by decide) (by decide) (by decide) (by decide) (by decide) (by decide) (by decide)]
        exact hs
      have nx := ih (n + 1) h1 (R.keep f1) (by omega) hs1 (fun h' R' f' => hK h' R' (f1.H.tr f'))
      have e31 : tkS 31 (qvS S cs o) (n + 1) = tkS 31 (qvS S cs o) n + qvS S cs o n := rfl
      have e32 : tkS 32 (qvS S cs o) (n + 1) = if n = 0 ∨ tkS 32 (qvS S cs o) n < qvS S cs o n then qvS S cs o n else tkS 32 (qvS S cs o) n := rfl
      have e33 : tkS 33 (qvS S cs o) (n + 1) = if n = 0 ∨ qvS S cs o n < tkS 33 (qvS S cs o) n then qvS S cs o n else tkS 33 (qvS S cs o) n := rfl
      rw [← hfd, e31] at nx
      have last : ∀ s0 : Int, s0 = tkS 32 (qvS S cs o) (n + 1) → BX11_answer_121 C l d K kd o (tkS 31 (qvS S cs o) n + qvS S cs o n) fd (tkS 33 (qvS S cs o) n) n (qvS S cs o n) s0 g h1 := by
        intro s0 hs0
        refine vX11_answer_121 (by omega) ⟨fun z => x_minl (fun v4 e4 => ?_), fun z v5 e5 => ?_⟩
        · rw [w_id (by omega) (by omega)] at e4
          rw [e4, hs0]
          rw [e33] at nx
          by_cases w : qvS S cs o n < tkS 33 (qvS S cs o) n
          · rw [if_pos w]; rw [if_pos (Or.inr w)] at nx; exact nx
          · rw [if_neg w]; rw [if_neg (fun u => u.elim (fun y => z (by omega)) w)] at nx; exact nx
        · rw [w_id (by omega) (by omega)] at e5
          rw [e5, hs0]
          rw [e33, if_pos (Or.inl (by omega))] at nx
          exact nx
      refine vX11_answer_96 (by omega) (fun v1' ev => ?_)
      rw [w64_id (by omega) (by omega)] at ev
      rw [ev]
      refine ⟨fun z => x_maxl (last _ ?_), fun z => last _ ?_⟩
      · rw [e32]
        by_cases w : tkS 32 (qvS S cs o) n < qvS S cs o n
        · rw [if_pos w, if_pos (Or.inr w)]
        · rw [if_neg w, if_neg (fun u => u.elim (fun y => z (by omega)) w)]
      · rw [e32, if_pos (Or.inl (by omega))]
    refine vX11_answer_35 hd ⟨isf R.fi, fun z => absurd (by rw [R.fo.b] at z; omega) (fun y : False => y), fun _ => X_reckonOf (by decide) R o1 o2 (by omega) (by omega) hs hq (fun h1 f1 => ?_)⟩
    have efd : fndS kd (qvS S cs o) (n + 1) = if qvS S cs o n ≠ 0 ∧ (fndS kd (qvS S cs o) n = -1 ∨ kd = 29) then (n : Int) else fndS kd (qvS S cs o) n := rfl
    refine ⟨fun z => go h1 _ f1 ?_, fun z => ⟨fun y => go h1 _ f1 ?_, fun y => ⟨fun w => go h1 _ f1 ?_, fun w => go h1 _ f1 ?_⟩⟩⟩
    · rw [efd, if_neg (fun u => u.1 z)]
    · rw [efd, if_pos ⟨z, Or.inl y⟩]
    · rw [efd, if_neg (fun u => u.2.elim y w)]
    · rw [efd, if_pos ⟨z, Or.inr w⟩]
theorem RX.flt {h g' h' : mf_M} {e : Int × Int} (R : RX S g h) (hg : g' 0 12 = g 0 12 ∧ g' 0 13 = g 0 13) (r : ∀ a, a ≠ 0 → a ≠ 3 → ¬ (5 ≤ a ∧ a ≤ 10) → h' a = h a) (c0 : ∀ k, k ≠ 17 → k ≠ 18 → h' 0 k = h 0 k) (e17 : h' 0 17 = e.1) (e18 : h' 0 18 = e.2) (e3 : h' 3 1 = 0) : RX (S.flt e) g' h' := by
  have hf := R.fi
  refine ⟨R.ok.flt e, by rw [hg.1, hg.2]; exact R.cf, e3, fun i i0 i1 => absurd i1 (by show ¬ i < (0 : Int); omega), e17, e18, by rw [r 243 (by decide) (by decide) (by decide)]; exact R.rf, R.wd.keep (r 2 (by decide) (by decide) (by decide)), by rw [hg.1]; exact R.fo.keep (fun x h1 h2 => r x (by omega) (by omega) (by omega)), R.vik (fun a a1 a2 => r a (by omega) (by omega) (by omega)), R.kp.keep (by rw [r 88 (by decide) (by decide) (by decide)]) (r _ (by decide) (by decide) (by decide)), by rw [r 88 (by decide) (by decide) (by decide)]; exact R.kb, by rw [c0 15 (by decide) (by decide)]; exact R.un, by rw [c0 16 (by decide) (by decide)]; exact R.nx, R.usk (fun a a1 a2 => r a (by omega) (by omega) (by omega)), by rw [r 51 (by decide) (by decide) (by decide)]; exact R.sn, by rw [r 65 (by decide) (by decide) (by decide), r 66 (by decide) (by decide) (by decide)]; exact R.ss, by rw [c0 19 (by decide) (by decide)]; exact R.sd, by rw [c0 14 (by decide) (by decide)]; exact R.oc, by rw [r 244 (by decide) (by decide) (by decide)]; exact R.os, R.trk (fun a a1 a2 => r a (by omega) (by omega) (by omega))⟩
theorem scp3 {h : mf_M} (e : h 10 3 = 959) : scpX (scK 3) h := by
  intro w w0 w9
  rw [e]
  have key : ∀ n : Fin 10, (mf_and (mf_shr 959 (n.val : Int)) 1 = 0 ↔ scK 3 (n.val : Int) = false) := by decide +kernel
  have h1 := key ⟨w.toNat, by omega⟩
  simp only [] at h1
  rw [show ((w.toNat : Nat) : Int) = w by omega] at h1
  exact h1
theorem X_answer {h : mf_M} {cs : List Int} {f : Bool} {kd : Int} (hd : 5 ≤ d) (R : RX S g h) (k28 : 28 ≤ kd) (k33 : kd ≤ 33) (hf : f = true ↔ kd ≤ 30) (hq : okQ f cs) (hs : scrX h 6 0 cs) (hK : ∀ h', RX S g h' → frH h h' → K (ansS S kd cs) g h') : xM C l d YX11_answer [(2, 0), (0, kd)] g h K := by
  have dr := R.ok.P.st.2.2
  have l6 := R.ok.F.l6
  have ed : h 88 7 = S.st 0 0 := R.D.day
  refine wX11_answer hd ?_
  rw [ed]
  refine X_opn (by decide) R (by omega) (by omega) (fun h1 R1 f1 => ?_)
  have orr := opn_range R.ok.F (S.st 0 0)
  have hs1 : scrX h1 6 0 cs := by
    unfold scrX at hs ⊢
    rw [f1 (6 + 1) (by decide) (by decide) (by decide), f1 (6 + 2) (by decide) (by decide) (by decide), f1 (6 + 3) (by decide) (by decide) (by decide)]
    exact hs
  exact x_ans35 hd k28 k33 hf hq (by omega) (by omega) S.F.nb.toNat 0 h1 R1 (by have := R.ok.F.b0; omega) hs1 (fun h2 R2 f2 => hK h2 R2 (f1.N.H.tr f2))
/-- the fault of a text is taken -/
theorem X_takeFault {h : mf_M} {e : Int × Int} (F : h 5 8 = e.1 ∧ (¬ e.1 = 0 → h 5 9 = e.2) ∧ (e.1 = 0 → e.2 = -1)) (hK : ∀ h', (∀ a, a ≠ 0 → a ≠ 3 → h' a = h a) → (∀ k, k ≠ 17 → k ≠ 18 → h' 0 k = h 0 k) → h' 0 17 = e.1 → h' 0 18 = e.2 → h' 3 1 = 0 → K 0 g h') : xM C l d YX11_takeFault [(2, 0)] g h K := by
  refine wX11_takeFault (fun h1 e1 => ?_)
  have s1 : h1 0 17 = e.1 := by rw [e1, up_self]; exact F.1
  have r1 : ∀ a, a ≠ 0 → h1 a = h a := fun a ha => by rw [e1, up_row ha]
  rw [s1]
  have fin : ∀ v, v = e.2 → ∀ h2 h3 : mf_M, h2 = mf_up h1 0 18 v → h3 = mf_up h2 3 1 0 → K 0 g h3 := fun v hv h2 h3 e2 e3 => hK h3 (fun a a1 a2 => by rw [e3, up_row a2, e2, up_row a1, r1 a a1]) (fun k k1 k2 => by rw [e3, up_row (by decide), e2, up_col k2, e1, up_col k1]) (by rw [e3, up_row (by decide), e2, up_col (by decide)]; exact s1) (by rw [e3, up_row (by decide), e2, up_self]; exact hv) (by rw [e3, up_self])
  refine ⟨fun z h2 e2 h3 e3 => fin _ ?_ h2 h3 e2 e3, fun z h4 e4 h5 e5 => fin _ (F.2.2 z).symm h4 h5 e4 e5⟩
  rw [r1 5 (by decide)]; exact F.2.1 z
theorem X_ask {h : mf_M} (hd : 127 ≤ d) (R : RX S g h) (hK : ∀ g' h', RX (askS S).2 g' h' → frH h h' → (∀ a, a ≠ 0 → a ≠ 10 → a ≠ 45 → g' a = g a) → K (askS S).1 g' h') : xM C l d YX11_ask [(2, 0)] g h K := by
  have o := R.ok
  unfold askS at hK
  refine wX11_ask hd ⟨isf R.fi, ?_⟩
  rw [R.fo.l]
  refine ⟨fun nl => ?_, fun nl h1 e1 => ?_⟩
  · rw [if_neg nl] at hK
    have o6 : scO 6 := Or.inl rfl
    have t2 : (S.tp, S.tn).2 ≤ 1600 := o.tn1
    -- the end of a question
    have fin : ∀ (k : Int) (g3 h4 : mf_M), (∀ a, a ≠ 10 → g3 a = g a) → (∀ a, ¬ (5 ≤ a ∧ a ≤ 10) → h4 a = h a) → (∃ e, qstS (S.tp, S.tn) = .error e ∧ flX e h4 ∧ ¬ h4 5 8 = 0) ∨ (∃ cs f, qstS (S.tp, S.tn) = .ok (k, cs) ∧ h4 5 8 = 0 ∧ 28 ≤ k ∧ k ≤ 33 ∧ (f = true ↔ k ≤ 30) ∧ okQ f cs ∧ scrX h4 6 0 cs) → xM C l 0 YX11_takeFault [(2, 0)] g3 h4 (fun r5 g6 h7 => ((h7 0 17 = 0 → xM C l 5 YX11_answer [(2, 0), (0, k)] g6 h7 (fun r8 g9 h10 => K r8 g9 h10)) ∧ (¬ h7 0 17 = 0 → K (-1000000000000000) g6 h7))) := by
      intro k g3 h4 hg hr hc
      have g0 : g3 0 = g 0 := hg 0 (by decide)
      rcases hc with ⟨e, he, F, nb⟩ | ⟨cs, f, he, hb, k28, k33, hf, hq, hs⟩
      · rw [he] at hK
        refine X_takeFault (e := e) ⟨F.1, fun _ => F.2, fun z => absurd (F.1.trans z) nb⟩ (fun h7 r7 c7 a17 a18 a3 => ?_)
        have R7 : RX (S.flt e) g3 h7 := R.flt ⟨by rw [g0], by rw [g0]⟩ (fun a a1 a2 a3' => by rw [r7 a a1 a2, hr a a3']) (fun k' k1 k2 => by rw [c7 k' k1 k2, hr 0 (by decide)]) a17 a18 a3
        exact ⟨fun z => absurd (F.1.trans (a17.symm.trans z)) nb, fun _ => hK g3 h7 R7 (fun a ha => by rw [r7 a (by omega) (by omega), hr a (by omega)]) (fun a _ a2 _ => hg a a2)⟩
      · rw [he] at hK
        simp only [] at hK
        refine X_takeFault (e := (0, -1)) ⟨hb, fun z => absurd rfl z, fun _ => rfl⟩ (fun h7 r7 c7 a17 a18 a3 => ?_)
        have R7 : RX (S.flt (0, -1)) g3 h7 := R.flt ⟨by rw [g0], by rw [g0]⟩ (fun a a1 a2 a3' => by rw [r7 a a1 a2, hr a a3']) (fun k' k1 k2 => by rw [c7 k' k1 k2, hr 0 (by decide)]) a17 a18 a3
        have hs7 : scrX h7 6 0 cs := by
          unfold scrX at hs ⊢
          rw [r7 (6 + 1) (by decide) (by decide), r7 (6 + 2) (by decide) (by decide), r7 (6 + 3) (by decide) (by decide)]
          exact hs
        exact ⟨fun _ => X_answer (by decide) R7 k28 k33 hf hq hs7 (fun h8 R8 f8 => hK g3 h8 R8 (fun a ha => by rw [f8 a ha, r7 a (by omega) (by omega), hr a (by omega)]) (fun a _ a2 _ => hg a a2)), fun z => absurd a17 z⟩
    refine wX7_readQuestion (by decide) ⟨is6, X_forgetS o6 (fun h2 r2 a3 a4 z2 => wX7_writeTo (fun g1 eg h3 e3 => ?_))⟩
    have r3 : ∀ a, a ≠ 6 → a ≠ 8 → a ≠ 9 → a ≠ 10 → h3 a = h a := fun a q1 q2 q3 q4 => by rw [e3, up_row q4, r2 a q1 q2 q3]
    have gg : ∀ a, a ≠ 10 → g1 a = g a := fun a ha => by rw [eg, up_row ha]
    have g10 : g1 10 2 = 6 := by rw [eg, up_self]
    have T3 : txX (S.tp, S.tn) h3 := ⟨⟨o.tn0, o.tn1⟩, o.tp, by rw [r3 3 (by decide) (by decide) (by decide) (by decide)]; exact R.tn, by rw [r3 4 (by decide) (by decide) (by decide) (by decide)]; exact R.tp, R.wd.keep (r3 2 (by decide) (by decide) (by decide) (by decide))⟩
    refine X_start (by decide) T3 (fun h4 X4 b4 p4 f4 => ?_)
    have r4 : ∀ a, a ≠ 5 → a ≠ 6 → a ≠ 8 → a ≠ 9 → a ≠ 10 → h4 a = h a := fun a q0 q1 q2 q3 q4 => by rw [f4 a q0, r3 a q1 q2 q3 q4]
    have trr := tX_range (S.tp, S.tn) (0, false)
    have go48 : BX7_readQuestion_48 C l 126 (fun r2 g3 h4 => xM C l 0 YX11_takeFault [(2, 0)] g3 h4 (fun r5 g6 h7 => ((h7 0 17 = 0 → xM C l 5 YX11_answer [(2, 0), (0, r2)] g6 h7 (fun r8 g9 h10 => K r8 g9 h10)) ∧ (¬ h7 0 17 = 0 → K (-1000000000000000) g6 h7)))) 6 (tX (S.tp, S.tn) (0, false)) g1 h4 := by
      refine vX7_readQuestion_48 (by decide) ⟨fun h28 => X_step (by decide) X4 (tX_ne (by omega)) (fun h5 X5 f5 => ⟨is6, wX4_begin ⟨is6, fun h6 e6 => ⟨fun z => absurd z (by decide), fun _ => ⟨fun z => absurd z (by decide), fun _ => ⟨by decide, by decide, fun h7 e7 => ?_⟩⟩⟩⟩⟩), fun n28 => x_fail b4 (fun h5 F5 f5 _ => ?_)⟩
      · replace e7 : h7 = mf_up h6 8 0 (h6 6 3) := e7
        have r7 : ∀ a, a ≠ 6 → a ≠ 8 → h7 a = h5 a := fun a q1 q2 => by rw [e7, up_row q2, e6, up_row q1]
        have len0 : h7 6 3 = 0 := by rw [e7, up_row (by decide), e6, up_col (by decide), f5.1 6 (by decide), f4 6 (by decide), e3, up_row (by decide)]; exact a3
        have beg : h7 6 4 = 0 := by rw [e7, up_row (by decide), e6, up_self]
        have fr0 : h7 8 0 = 0 := by
          have e68 : h7 8 0 = h6 6 3 := by rw [e7]; exact up_self _ _ _ _
          rw [e68, e6, up_col (by decide), f5.1 6 (by decide), f4 6 (by decide), e3, up_row (by decide)]; exact a3
        have X7 : lxX (S.tp, S.tn) (tN (S.tp, S.tn) (0, false)) h7 := X5.to (fun a ha => r7 a (by omega) (by omega))
        have b7 : h7 5 8 = 0 := by rw [r7 5 (by decide) (by decide), f5.2.1]; exact b4
        have L7 : scL 6 0 [] h7 := ⟨by rw [len0]; rfl, fun j hj => absurd hj (by simp)⟩
        have P7 : scpX (scK 3) h7 := scp3 (by rw [r7 10 (by decide) (by decide), f5.1 10 (by decide), f4 10 (by decide), e3, up_self])
        have rr7 : ∀ a, ¬ (5 ≤ a ∧ a ≤ 10) → h7 a = h a := fun a ha => by rw [r7 a (by omega) (by omega), f5.1 a (by omega), r4 a (by omega) (by omega) (by omega) (by omega) (by omega)]
        have q0 := X7.2.1
        -- behind the codes
        have go115e : ∀ e, qstS (S.tp, S.tn) = .error e → ∀ h8, flX e h8 → ¬ h8 5 8 = 0 → frS 6 h7 h8 → BX7_readQuestion_115 C l 126 (fun r2 g3 h4 => xM C l 0 YX11_takeFault [(2, 0)] g3 h4 (fun r5 g6 h7 => ((h7 0 17 = 0 → xM C l 5 YX11_answer [(2, 0), (0, r2)] g6 h7 (fun r8 g9 h10 => K r8 g9 h10)) ∧ (¬ h7 0 17 = 0 → K (-1000000000000000) g6 h7)))) 6 (tX (S.tp, S.tn) (0, false)) g1 h8 := by
          intro e he h8 F8 n8 f8
          have r8 : ∀ a, ¬ (5 ≤ a ∧ a ≤ 10) → h8 a = h a := fun a ha => by rw [f8.1 a (by omega) (by omega) (by omega), rr7 a ha]
          have b8 : h8 6 4 = 0 := by rw [f8.2.1 4 (by decide)]; exact beg
          refine vX7_readQuestion_115 (by decide) ⟨is6, wX4_finish ⟨is6, ?_⟩⟩
          rw [b8]
          refine ⟨fun z => absurd z (by decide), fun _ => ⟨fun z => absurd z (by decide), fun _ => ⟨by decide, by decide, fun h9 e9 h10 e10 => ?_⟩⟩⟩
          replace e9 : h9 = mf_up h8 9 0 (h8 6 3) := e9
          have r10 : ∀ a, a ≠ 6 → a ≠ 9 → h10 a = h8 a := fun a q1 q2 => by rw [e10, up_row q1, e9, up_row q2]
          have hh := fin (tX (S.tp, S.tn) (0, false)) g1 h10 gg (fun a ha => by rw [r10 a (by omega) (by omega), r8 a ha]) (Or.inl ⟨e, he, F8.to (r10 5 (by decide) (by decide)), by rw [r10 5 (by decide) (by decide)]; exact n8⟩)
          exact ⟨fun _ => hh, fun _ => x_failB (by rw [r10 5 (by decide) (by decide)]; exact n8) hh⟩
        have go115o : ∀ (x : aQ × List Int) (f : Bool), (if tX (S.tp, S.tn) (0, false) ≤ 30 then tstS (S.tp, S.tn) 3 (tN (S.tp, S.tn) (0, false)) else sumS (S.tp, S.tn) 3 (tN (S.tp, S.tn) (0, false))) = .ok x → okQ f x.2 → (f = true ↔ tX (S.tp, S.tn) (0, false) ≤ 30) → ∀ h8, lxX (S.tp, S.tn) x.1 h8 → h8 5 8 = 0 → scL 6 0 ([] ++ x.2) h8 → frS 6 h7 h8 → BX7_readQuestion_115 C l 126 (fun r2 g3 h4 => xM C l 0 YX11_takeFault [(2, 0)] g3 h4 (fun r5 g6 h7 => ((h7 0 17 = 0 → xM C l 5 YX11_answer [(2, 0), (0, r2)] g6 h7 (fun r8 g9 h10 => K r8 g9 h10)) ∧ (¬ h7 0 17 = 0 → K (-1000000000000000) g6 h7)))) 6 (tX (S.tp, S.tn) (0, false)) g1 h8 := by
          intro x f hx hq hf h8 X8 c8 L8 f8
          rw [List.nil_append] at L8
          have r8 : ∀ a, ¬ (5 ≤ a ∧ a ≤ 10) → h8 a = h a := fun a ha => by rw [f8.1 a (by omega) (by omega) (by omega), rr7 a ha]
          have b8 : h8 6 4 = 0 := by rw [f8.2.1 4 (by decide)]; exact beg
          refine vX7_readQuestion_115 (by decide) ⟨is6, wX4_finish ⟨is6, ?_⟩⟩
          rw [b8]
          refine ⟨fun z => absurd z (by decide), fun _ => ⟨fun z => absurd z (by decide), fun _ => ⟨by decide, by decide, fun h9 e9 h10 e10 => ?_⟩⟩⟩
          replace e9 : h9 = mf_up h8 9 0 (h8 6 3) := e9
          have r10 : ∀ a, a ≠ 6 → a ≠ 9 → h10 a = h8 a := fun a q1 q2 => by rw [e10, up_row q1, e9, up_row q2]
          have X10 : lxX (S.tp, S.tn) x.1 h10 := X8.to (fun a ha => r10 a (by omega) (by omega))
          have b10 : h10 5 8 = 0 := by rw [r10 5 (by decide) (by decide)]; exact c8
          have e2 := X10.2.2.1
          rw [e2]
          have rh : ∀ a, ¬ (5 ≤ a ∧ a ≤ 10) → h10 a = h a := fun a ha => by rw [r10 a (by omega) (by omega), r8 a ha]
          refine ⟨fun z => fin _ g1 h10 gg rh (Or.inr ⟨x.2, f, ?_, b10, h28, by omega, hf, hq, ?_⟩), fun z => x_fail b10 (fun h11 F11 f11 _ => ?_)⟩
          · unfold qstS
            rw [if_pos h28, hx]
            simp only []
            rw [if_pos z]
          · right
            have l8 := L8.1
            have to10 : h10 (6 + 3) 0 = x.2.length := by
              show h10 9 0 = _
              rw [e10, up_row (by decide)]
              have : h9 9 0 = h8 6 3 := by rw [e9]; exact up_self _ _ _ _
              rw [this, l8]; omega
            have from10 : h10 (6 + 2) 0 = 0 := by
              show h10 8 0 = 0
              rw [r10 8 (by decide) (by decide), f8.1 8 (by decide) (by decide) (by decide)]; exact fr0
            refine ⟨hq.2.1, by rw [from10]; decide, by rw [from10, to10]; omega, by rw [to10]; have := hq.2.2.2; omega, fun j hj => ?_⟩
            rw [from10]
            show h10 7 (0 + (j : Int)) = _
            rw [r10 7 (by decide) (by decide)]
            exact L8.2 j hj
          · have key : qstS (S.tp, S.tn) = .error (1, tA (S.tp, S.tn) x.1) := by
              unfold qstS
              rw [if_pos h28, hx]
              simp only []
              rw [if_neg z]
            rw [X10.2.2.2.1] at F11
            exact fin _ g1 h11 gg (fun a ha => by rw [f11 a (by omega), rh a ha]) (Or.inl ⟨_, key, F11, F11.ne (by decide)⟩)
        have test : tX (S.tp, S.tn) (0, false) ≤ 30 → xM C l 125 YX7_readTest [(2, 10), (0, 0)] g1 h7 (fun r8 g9 h10 => BX7_readQuestion_115 C l 126 (fun r2 g3 h4 => xM C l 0 YX11_takeFault [(2, 0)] g3 h4 (fun r5 g6 h7 => ((h7 0 17 = 0 → xM C l 5 YX11_answer [(2, 0), (0, r2)] g6 h7 (fun r8 g9 h10 => K r8 g9 h10)) ∧ (¬ h7 0 17 = 0 → K (-1000000000000000) g6 h7)))) 6 (tX (S.tp, S.tn) (0, false)) g9 h10) := by
          intro k30
          refine X_readTest (e := 124) (b := 0) (cs := []) (scf := scK 3) o6 g10 (by decide) (by decide) P7 X7 b7 L7 (by simp only [List.length_nil]; omega) ⟨fun e he h8 F8 n8 f8 => ?_, fun x hx h8 X8 b8 L8 f8 => ?_⟩
          · refine go115e e ?_ h8 F8 n8 f8
            unfold qstS
            rw [if_pos h28, if_pos k30]
            have : tstS (S.tp, S.tn) 3 (tN (S.tp, S.tn) (0, false)) = .error e := he
            rw [this]
          · have hx' : tstS (S.tp, S.tn) 3 (tN (S.tp, S.tn) (0, false)) = .ok x := hx
            exact go115o x true (by rw [if_pos k30]; exact hx') (tst_q q0.1 q0.2 t2 hx') ⟨fun _ => k30, fun _ => rfl⟩ h8 X8 b8 L8 f8
        refine ⟨fun z => test (by omega), fun z => ⟨fun y => test (by omega), fun y => ⟨fun w => ?_, fun w => test (by omega)⟩⟩⟩
        refine X_readSum (e := 63) (b := 0) (cs := []) (scf := scK 3) o6 g10 (by decide) (by decide) (by decide) (by decide) P7 X7 b7 L7 (by simp only [List.length_nil]; omega) ⟨fun e he h8 F8 n8 f8 => ?_, fun x hx h8 X8 b8 L8 f8 => ?_⟩
        · refine go115e e ?_ h8 F8 n8 f8
          unfold qstS
          rw [if_pos h28, if_neg (by omega)]
          have : sumS (S.tp, S.tn) 3 (tN (S.tp, S.tn) (0, false)) = .error e := he
          rw [this]
        · have hx' : sumS (S.tp, S.tn) 3 (tN (S.tp, S.tn) (0, false)) = .ok x := hx
          exact go115o x false (by rw [if_neg (by omega)]; exact hx') (sum_q q0.1 q0.2 t2 hx') ⟨fun u => absurd u (by decide), fun u => absurd u (by omega)⟩ h8 X8 b8 L8 f8
      · have key : qstS (S.tp, S.tn) = .error (1, tA (S.tp, S.tn) (0, false)) := by unfold qstS; rw [if_neg n28]
        rw [X4.2.2.2.1] at F5
        exact fin (-1) g1 h5 gg (fun a ha => by rw [f5 a (by omega), r4 a (by omega) (by omega) (by omega) (by omega) (by omega)]) (Or.inl ⟨_, key, F5, F5.ne (by decide)⟩)
    have e2 := X4.2.2.1
    refine ⟨fun z => ?_, fun z => X_find X4 (by rw [← e2]; exact z) go48⟩
    have := go48
    rw [show tX (S.tp, S.tn) (0, false) = -1 by unfold tX; rw [if_neg (by rw [← e2]; exact z)]] at this
    exact this
  · rw [if_pos nl] at hK
    have R1 := R.s_tn (n := 0) (Int.le_refl _) o.tn0
    rw [← e1] at R1
    exact hK g h1 R1 (by rw [e1]; exact frH.up (by decide)) (fun _ _ _ _ => rfl)
end SxAs
