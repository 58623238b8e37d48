/-! a folio told as a text: spec -/
abbrev aW : Type := aF × mf_M × Int
def exB {α β : Type} (r : Except (Int × Int) α) (k : α → Except (Int × Int) β) : Except (Int × Int) β := match r with
  | .error e => .error e
  | .ok x => k x
theorem exB_ok {α β : Type} {r : Except (Int × Int) α} {k : α → Except (Int × Int) β} {x : β} (h : exB r k = .ok x) : ∃ y : α, r = .ok y ∧ k y = .ok x := by
  cases r with
  | error e => exact absurd h (by simp [exB])
  | ok y => exact ⟨y, rfl, h⟩
theorem exB_e {α β : Type} (e : Int × Int) (k : α → Except (Int × Int) β) : exB (.error e) k = .error e := rfl
theorem exB_o {α β : Type} (x : α) (k : α → Except (Int × Int) β) : exB (.ok x) k = k x := rfl
def numS (T : aT) (q : aQ) (lo hi : Int) : Except (Int × Int) (aQ × Int) := if tK T q = 2 ∧ tE T q - tA T q ≤ 4 then (if lo ≤ tV T q ∧ tV T q ≤ hi then .ok (tN T q, tV T q) else .error (2, tA T q)) else .error (1, if tK T q = 2 then tA T q + 4 else tA T q)
def wrdS (T : aT) (q : aQ) (k : Int) : Except (Int × Int) aQ := if tX T q = k then .ok (tN T q) else .error (1, tA T q)
def hasN (F : aF) (w : List Int) : Nat → Bool
  | 0 => false
  | n + 1 => hasN F w n || decide (F.nm n = w)
def namS (T : aT) (F : aF) (q : aQ) : Except (Int × Int) aQ := if tK T q = 1 ∧ ¬ (0 ≤ tX T q ∧ tX T q < 28) then (if 6 < tE T q - tA T q then .error (1, tA T q + 6) else if hasN F (tL T q) F.nb.toNat then .error (3, tA T q) else .ok (tN T q)) else .error (1, tA T q)
def celS (T : aT) (D : aW) (q : aQ) (leaf : Int) : Except (Int × Int) (aQ × Int) := exB (numS T q 0 (D.1.nc - 1)) (fun c => if freeB D.2.1 D.1.nb leaf c.2 then .ok c else .error (2, tA T q))
def addW (F : aF) (a b c : Int) : aF := (F.s_wm (fun i => if i = 3 * F.nw then a else if i = 3 * F.nw + 1 then b else if i = 3 * F.nw + 2 then c else F.wm i)).s_nw (F.nw + 1)
def addB (D : aW) (nm : List Int) (leaf c tr : Int) : aW := (((D.1.s_nm (fun b => if b = D.1.nb then nm else D.1.nm b)).s_tr (fun b => if b = D.1.nb then tr else D.1.tr b)).s_nb (D.1.nb + 1), mf_up (mf_up (mf_up (mf_up D.2.1 2 D.1.nb leaf) 3 D.1.nb c) 4 D.1.nb 5) 5 D.1.nb 0, D.2.2)
def gtC (F : aF) (s : Int) : List Int := if s = 0 then F.cO else if s = 1 then F.cC else if s = 2 then F.cT else F.cS
def stC (F : aF) (s : Int) (cs : List Int) : aF := if s = 0 then F.s_cO cs else if s = 1 then F.s_cC cs else if s = 2 then F.s_cT cs else F.s_cS cs
def kdC (s : Int) : Int := if s = 0 then 0 else if s = 2 then 2 else 1
def cdsS (T : aT) (s : Int) (q : aQ) : aR := if s = 3 then tstS T 1 q else sumS T (kdC s) q
def gloS (T : aT) (D : aW) (q : aQ) : Except (Int × Int) (aQ × aW) := if 20 ≤ D.2.2 then .error (5, tA T q) else exB (numS T (tN T q) 0 (D.1.nl - 1)) (fun a => exB (celS T D a.1 a.2) (fun c => .ok (c.1, (D.1, mf_up D.2.1 1 a.2 (mf_or (D.2.1 1 a.2) (mf_shl 1 c.2)), D.2.2 + 1))))
def worS (T : aT) (D : aW) (q : aQ) : Except (Int × Int) (aQ × aW) := if 12 ≤ D.1.nw then .error (5, tA T q) else exB (numS T (tN T q) 0 (D.1.nl - 1)) (fun a => exB (numS T a.1 0 (D.1.nl - 1)) (fun b => if a.2 = b.2 then .error (2, tA T a.1) else exB (numS T b.1 0 (D.1.nc - 1)) (fun c => .ok (c.1, (addW D.1 a.2 b.2 c.2, D.2.1, D.2.2)))))
def beiS (T : aT) (D : aW) (q : aQ) : Except (Int × Int) (aQ × aW) := if 8 ≤ D.1.nb then .error (5, tA T q) else exB (namS T D.1 (tN T q)) (fun n => exB (wrdS T n 21) (fun q2 => exB (numS T q2 0 (D.1.nl - 1)) (fun a => exB (wrdS T a.1 22) (fun q3 => exB (celS T D q3 a.2) (fun c => exB (wrdS T c.1 3) (fun q4 => exB (numS T q4 0 9) (fun t => .ok (t.1, addB D (tL T (tN T q)) a.2 c.2 t.2))))))))
def rulS (T : aT) (D : aW) (q : aQ) (s : Int) : Except (Int × Int) (aQ × aW) := if gtC D.1 s ≠ [] then .error (5, tA T q) else exB (cdsS T s (tN T q)) (fun x => .ok (x.1, (stC D.1 s x.2, D.2.1, D.2.2)))
def thuS (T : aT) (D : aW) (q : aQ) : Except (Int × Int) (aQ × aW) := exB (numS T (tN T q) 0 100) (fun v => .ok (v.1, (D.1.s_th v.2, D.2.1, D.2.2)))
def stmS (T : aT) (D : aW) (q : aQ) : Except (Int × Int) (aQ × aW) := if tX T q = 18 then gloS T D q else if tX T q = 19 then worS T D q else if tX T q = 20 then beiS T D q else if 23 ≤ tX T q ∧ tX T q ≤ 26 then rulS T D q (tX T q - 23) else if tX T q = 27 then thuS T D q else .error (1, tA T q)
def semS {α : Type} (T : aT) (r : Except (Int × Int) (aQ × α)) : Except (Int × Int) (aQ × α) := exB r (fun x => if sgB T x.1 59 then .ok (tN T x.1, x.2) else .error (1, tA T x.1))
def lopS (T : aT) : Nat → Int → aQ → aW → Except (Int × Int) (aW × Int)
  | 0, k, q, D => if tK T q = 0 then .ok (D, k) else .error (5, tA T q)
  | n + 1, k, q, D => if tK T q = 0 then .ok (D, k) else exB (semS T (stmS T D q)) (fun x => lopS T n (k + 1) x.1 x.2)
def szS (T : aT) : Except (Int × Int) (aQ × Int × Int) := exB (wrdS T (0, false) 16) (fun q => exB (numS T q 1 6) (fun a => exB (wrdS T a.1 17) (fun q2 => exB (numS T q2 2 8) (fun b => .ok (b.1, a.2, b.2)))))
def D0 (nl nc : Int) : aW := ((nl, nc, 0, 0, 0, fun _ => [], fun _ => 0, fun _ => 0, [], [], [], []), fun _ _ => 0, 0)
def folS (T : aT) : Except (Int × Int) (aW × Int) := exB (semS T (szS T)) (fun z => lopS T 79 1 z.1 (D0 z.2.1 z.2.2))
def aS.fol (S : aS) (D : aW) : aS := (D.1, S.tp, 0, D.2.1, [], [], S.nx, [], S.sd, S.rf, 0, -1, S.oc)
def folioS (S : aS) : Int × aS := match folS (S.tp, S.tn) with
  | .error e => (-1, refS (S.flt e) 1)
  | .ok x => (x.2, S.fol x.1)
/-! what is told so far is right -/
def dlen (F : aF) : Int := F.cO.length + F.cC.length + F.cT.length + F.cS.length
def okD (D : aW) : Prop := okF D.1 ∧ 1 ≤ D.1.nl ∧ okP D.1 D.2.1 [] ∧ (∀ j k, (j = 0 ∧ k = 0) ∨ (j = 1 ∧ 0 ≤ k ∧ k < 6) ∨ (2 ≤ j ∧ j ≤ 5 ∧ 0 ≤ k ∧ k < D.1.nb) ∨ D.2.1 j k = 0) ∧ (0 ≤ D.2.2 ∧ D.2.2 ≤ 20) ∧ D.2.1 0 0 = 0
theorem num_ok {T : aT} {q : aQ} {lo hi : Int} {x : aQ × Int} (q1 : q.1 ≤ T.2) (h : numS T q lo hi = .ok x) : x.1 = tN T q ∧ q.1 + 1 ≤ x.1.1 ∧ x.1.1 ≤ T.2 ∧ lo ≤ x.2 ∧ x.2 ≤ hi ∧ x.2 = tV T q ∧ tK T q = 2 := by
  unfold numS at h
  split at h
  · next hk =>
    split at h
    · next hr =>
      have e : x = (tN T q, tV T q) := by injection h with h; exact h.symm
      have p := tN_pos q1 (by rw [hk.1]; decide : tK T q ≠ 0)
      subst e
      exact ⟨rfl, p.1, p.2, hr.1, hr.2, rfl, hk.1⟩
    · exact absurd h (by simp)
  · exact absurd h (by simp)
theorem wrd_ok {T : aT} {q x : aQ} {k : Int} (k0 : 0 ≤ k) (q1 : q.1 ≤ T.2) (h : wrdS T q k = .ok x) : x = tN T q ∧ q.1 + 1 ≤ x.1 ∧ x.1 ≤ T.2 := by
  unfold wrdS at h
  split at h
  · next hk =>
    have e : x = tN T q := by injection h with h; exact h.symm
    have p := tN_pos q1 (tX_ne (by omega : 0 ≤ tX T q))
    subst e
    exact ⟨rfl, p.1, p.2⟩
  · exact absurd h (by simp)
theorem nam_ok {T : aT} {F : aF} {q x : aQ} (q1 : q.1 ≤ T.2) (h : namS T F q = .ok x) : x = tN T q ∧ q.1 + 1 ≤ x.1 ∧ x.1 ≤ T.2 ∧ tK T q = 1 ∧ tE T q - tA T q ≤ 6 := by
  unfold namS at h
  split at h
  · next hk =>
    split at h
    · exact absurd h (by simp)
    · split at h
      · exact absurd h (by simp)
      · have e : x = tN T q := by injection h with h; exact h.symm
        have p := tN_pos q1 (by rw [hk.1]; decide : tK T q ≠ 0)
        subst e
        exact ⟨rfl, p.1, p.2, hk.1, by omega⟩
  · exact absurd h (by simp)
theorem cel_ok {T : aT} {D : aW} {q : aQ} {leaf : Int} {x : aQ × Int} (q1 : q.1 ≤ T.2) (h : celS T D q leaf = .ok x) : q.1 + 1 ≤ x.1.1 ∧ x.1.1 ≤ T.2 ∧ 0 ≤ x.2 ∧ x.2 ≤ D.1.nc - 1 ∧ freeB D.2.1 D.1.nb leaf x.2 = true := by
  unfold celS at h
  obtain ⟨c, h1, h2⟩ := exB_ok h
  split at h2
  · next hf =>
    have e : x = c := by injection h2 with h2; exact h2.symm
    subst e
    have n := num_ok q1 h1
    exact ⟨n.2.1, n.2.2.1, n.2.2.2.1, n.2.2.2.2.1, hf⟩
  · exact absurd h2 (by simp)
theorem okD_D0 {nl nc : Int} (a1 : 1 ≤ nl) (a2 : nl ≤ 6) (b1 : 2 ≤ nc) (b2 : nc ≤ 8) : okD (D0 nl nc) := by
  refine ⟨⟨by show 0 ≤ nl; omega, a2, by show 0 ≤ nc; omega, b2, Int.le_refl 0, by show (0 : Int) ≤ 8; decide, Int.le_refl 0, by show (0 : Int) ≤ 12; decide, Int.le_refl 0, by show (0 : Int) ≤ 100; decide, fun z => absurd z (by show ¬ nl = 0; omega), fun _ => b1, fun b h1 h2 => absurd h2 (by show ¬ b < 0; omega), fun z => absurd rfl z, fun z => absurd rfl z, fun z => absurd rfl z, fun z => absurd rfl z, fun b h1 h2 => absurd h2 (by show ¬ b < 0; omega), fun w h1 h2 => absurd h2 (by show ¬ w < 0; omega)⟩, a1, ⟨⟨fun b h1 h2 => absurd h2 (by show ¬ b < 0; omega), fun b h1 h2 => absurd h2 (by show ¬ b < 0; omega), by show (0 : Int) ≤ 0; decide, by show (0 : Int) ≤ 999; decide⟩, fun k _ _ => ⟨Int.le_refl 0, Int.pow_pos (by decide)⟩, fun _ _ _ => rfl, fun b h1 h2 => absurd h2 (by show ¬ b < 0; omega), fun b c h1 h2 => absurd h2 (by show ¬ b < 0; omega), by simp, fun q hq => absurd hq (by simp)⟩, fun _ _ => Or.inr (Or.inr (Or.inr rfl)), ⟨Int.le_refl 0, by show (0 : Int) ≤ 20; decide⟩, rfl⟩
theorem okD_glo {T : aT} {D : aW} {q : aQ} {x : aQ × aW} (o : okD D) (q1 : q.1 ≤ T.2) (hk : tK T q ≠ 0) (h : gloS T D q = .ok x) : okD x.2 ∧ q.1 + 1 ≤ x.1.1 ∧ x.1.1 ≤ T.2 ∧ dlen x.2.1 = dlen D.1 := by
  have t := tN_pos q1 hk
  unfold gloS at h
  split at h
  · exact absurd h (by simp)
  · next h20 =>
    obtain ⟨a, h1, h2⟩ := exB_ok h
    obtain ⟨c, h3, h4⟩ := exB_ok h2
    have n := num_ok t.2 h1
    have cc := cel_ok n.2.2.1 h3
    have e : x = (c.1, (D.1, mf_up D.2.1 1 a.2 (mf_or (D.2.1 1 a.2) (mf_shl 1 c.2)), D.2.2 + 1)) := by injection h4 with h4; exact h4.symm
    subst e
    have fr := freeB_iff.mp cc.2.2.2.2
    have l6 := o.1.l6
    refine ⟨⟨o.1, o.2.1, o.2.2.1.gloss o.1 n.2.2.2.1 (by omega) cc.2.2.1 (by omega) (fun x x0 x1 => who_none fr.2 x0 x1), fun j k => ?_, ⟨by have := o.2.2.2.2.1; simp only []; omega, by have := o.2.2.2.2.1; simp only []; omega⟩, ?_⟩, by simp only []; omega, cc.2.1, rfl⟩
    · rcases o.2.2.2.1 j k with z | z | z | z
      · exact Or.inl z
      · exact Or.inr (Or.inl z)
      · exact Or.inr (Or.inr (Or.inl z))
      · by_cases e : j = 1 ∧ k = a.2
        · exact Or.inr (Or.inl ⟨e.1, by omega, by omega⟩)
        · exact Or.inr (Or.inr (Or.inr (by simp only []; rw [up_if, if_neg e]; exact z)))
    · simp only []
      rw [up_row (by decide)]; exact o.2.2.2.2.2
theorem okD_wor {T : aT} {D : aW} {q : aQ} {x : aQ × aW} (o : okD D) (q1 : q.1 ≤ T.2) (hk : tK T q ≠ 0) (h : worS T D q = .ok x) : okD x.2 ∧ q.1 + 1 ≤ x.1.1 ∧ x.1.1 ≤ T.2 ∧ dlen x.2.1 = dlen D.1 := by
  have t := tN_pos q1 hk
  unfold worS at h
  split at h
  · exact absurd h (by simp)
  · next h12 =>
    obtain ⟨a, h1, h2⟩ := exB_ok h
    obtain ⟨b, h3, h4⟩ := exB_ok h2
    split at h4
    · exact absurd h4 (by simp)
    · obtain ⟨c, h5, h6⟩ := exB_ok h4
      have n1 := num_ok t.2 h1
      have n2 := num_ok n1.2.2.1 h3
      have n3 := num_ok n2.2.2.1 h5
      have e : x = (c.1, (addW D.1 a.2 b.2 c.2, D.2.1, D.2.2)) := by injection h6 with h6; exact h6.symm
      subst e
      obtain ⟨f1, f2, f3, f4, f5, f6, f7, f8, f9, f10, f11, f12, f13, f14, f15, f16, f17, f18, f19⟩ := o.1
      refine ⟨⟨⟨f1, f2, f3, f4, f5, f6, by show 0 ≤ D.1.nw + 1; omega, by show D.1.nw + 1 ≤ 12; omega, f9, f10, fun z => absurd z (by have := o.2.1; show ¬ D.1.nl = 0; omega), f12, f13, f14, f15, f16, f17, f18, fun w w0 w1 => ?_⟩, o.2.1, o.2.2.1, o.2.2.2.1, o.2.2.2.2.1, o.2.2.2.2.2⟩, by simp only []; omega, n3.2.2.1, rfl⟩
      have wm : ∀ i, (addW D.1 a.2 b.2 c.2).wm i = if i = 3 * D.1.nw then a.2 else if i = 3 * D.1.nw + 1 then b.2 else if i = 3 * D.1.nw + 2 then c.2 else D.1.wm i := fun i => rfl
      have w1' : w < D.1.nw + 1 := w1
      show 0 ≤ (addW D.1 a.2 b.2 c.2).wm (3 * w) ∧ (addW D.1 a.2 b.2 c.2).wm (3 * w) < D.1.nl ∧ 0 ≤ (addW D.1 a.2 b.2 c.2).wm (3 * w + 1) ∧ (addW D.1 a.2 b.2 c.2).wm (3 * w + 1) < D.1.nl ∧ 0 ≤ (addW D.1 a.2 b.2 c.2).wm (3 * w + 2) ∧ (addW D.1 a.2 b.2 c.2).wm (3 * w + 2) < D.1.nc
      rw [wm, wm, wm]
      by_cases e : w = D.1.nw
      · rw [e, if_pos rfl, if_neg (by omega), if_pos rfl, if_neg (by omega), if_neg (by omega), if_pos rfl]
        omega
      · rw [if_neg (by omega), if_neg (by omega), if_neg (by omega), if_neg (by omega), if_neg (by omega), if_neg (by omega), if_neg (by omega), if_neg (by omega), if_neg (by omega)]
        exact f19 w w0 (by omega)
theorem okD_bei {T : aT} {D : aW} {q : aQ} {x : aQ × aW} (o : okD D) (q1 : q.1 ≤ T.2) (hk : tK T q ≠ 0) (h : beiS T D q = .ok x) : okD x.2 ∧ q.1 + 1 ≤ x.1.1 ∧ x.1.1 ≤ T.2 ∧ dlen x.2.1 = dlen D.1 := by
  have t := tN_pos q1 hk
  unfold beiS at h
  split at h
  · exact absurd h (by simp)
  · next h8 =>
    obtain ⟨n, h1, h2⟩ := exB_ok h
    obtain ⟨q2, h3, h4⟩ := exB_ok h2
    obtain ⟨a, h5, h6⟩ := exB_ok h4
    obtain ⟨q3, h7, h8'⟩ := exB_ok h6
    obtain ⟨c, h9, h10⟩ := exB_ok h8'
    obtain ⟨q4, h11, h12⟩ := exB_ok h10
    obtain ⟨r, h13, h14⟩ := exB_ok h12
    have nn := nam_ok t.2 h1
    have w2 := wrd_ok (by decide) nn.2.2.1 h3
    have na := num_ok w2.2.2 h5
    have w3 := wrd_ok (by decide) na.2.2.1 h7
    have nc := cel_ok w3.2.2 h9
    have w4 := wrd_ok (by decide) nc.2.1 h11
    have nr := num_ok w4.2.2 h13
    have e : x = (r.1, addB D (tL T (tN T q)) a.2 c.2 r.2) := by injection h14 with h14; exact h14.symm
    subst e
    obtain ⟨f1, f2, f3, f4, f5, f6, f7, f8, f9, f10, f11, f12, f13, f14, f15, f16, f17, f18, f19⟩ := o.1
    obtain ⟨⟨p1, p2, p3⟩, p4, p5, p6, p7, p8⟩ := o.2.2.1
    have fr := freeB_iff.mp nc.2.2.2.2
    have st : ∀ j k, (addB D (tL T (tN T q)) a.2 c.2 r.2).2.1 j k = if k = D.1.nb then (if j = 2 then a.2 else if j = 3 then c.2 else if j = 4 then 5 else if j = 5 then 0 else D.2.1 j k) else D.2.1 j k := by
      intro j k
      show mf_up (mf_up (mf_up (mf_up D.2.1 2 D.1.nb a.2) 3 D.1.nb c.2) 4 D.1.nb 5) 5 D.1.nb 0 j k = _
      rw [up_if, up_if, up_if, up_if]
      by_cases e : k = D.1.nb
      · by_cases j5 : j = 5
        · rw [if_pos ⟨j5, e⟩, if_pos e, if_neg (by omega), if_neg (by omega), if_neg (by omega), if_pos j5]
        · by_cases j4 : j = 4
          · rw [if_neg (by omega), if_pos ⟨j4, e⟩, if_pos e, if_neg (by omega), if_neg (by omega), if_pos j4]
          · by_cases j3 : j = 3
            · rw [if_neg (by omega), if_neg (by omega), if_pos ⟨j3, e⟩, if_pos e, if_neg (by omega), if_pos j3]
            · by_cases j2 : j = 2
              · rw [if_neg (by omega), if_neg (by omega), if_neg (by omega), if_pos ⟨j2, e⟩, if_pos e, if_pos j2]
              · rw [if_neg (by omega), if_neg (by omega), if_neg (by omega), if_neg (by omega), if_pos e, if_neg j2, if_neg j3, if_neg j4, if_neg j5]
      · rw [if_neg (fun z => e z.2), if_neg (fun z => e z.2), if_neg (fun z => e z.2), if_neg (fun z => e z.2), if_neg e]
    have s0 : ∀ k, (addB D (tL T (tN T q)) a.2 c.2 r.2).2.1 0 k = D.2.1 0 k := fun k => by rw [st]; split <;> simp
    have s1 : ∀ k, (addB D (tL T (tN T q)) a.2 c.2 r.2).2.1 1 k = D.2.1 1 k := fun k => by rw [st]; split <;> simp
    have nbE : (addB D (tL T (tN T q)) a.2 c.2 r.2).1.nb = D.1.nb + 1 := rfl
    have old : ∀ j b, b < D.1.nb → (addB D (tL T (tN T q)) a.2 c.2 r.2).2.1 j b = D.2.1 j b := fun j b hb => by rw [st, if_neg (by omega)]
    have n2 : (addB D (tL T (tN T q)) a.2 c.2 r.2).2.1 2 D.1.nb = a.2 := by rw [st]; simp
    have n3 : (addB D (tL T (tN T q)) a.2 c.2 r.2).2.1 3 D.1.nb = c.2 := by rw [st]; simp
    have n4 : (addB D (tL T (tN T q)) a.2 c.2 r.2).2.1 4 D.1.nb = 5 := by rw [st]; simp
    have n5 : (addB D (tL T (tN T q)) a.2 c.2 r.2).2.1 5 D.1.nb = 0 := by rw [st]; simp
    refine ⟨⟨⟨f1, f2, f3, f4, by rw [nbE]; omega, by rw [nbE]; omega, f7, f8, f9, f10, fun z => absurd z (by have := o.2.1; show ¬ D.1.nl = 0; omega), f12, fun b b0 b1 => ?_, f14, f15, f16, f17, fun b b0 b1 => ?_, f19⟩, o.2.1, ⟨⟨fun b b0 b1 => ?_, fun b b0 b1 => ?_, by rw [s0]; exact p3.1, by rw [s0]; exact p3.2⟩, fun k k0 k1 => by rw [s1]; exact p4 k k0 k1, fun k k0 k1 => by rw [s1]; exact p5 k k0 k1, fun b b0 b1 => ?_, fun b b' b0 b1 c0 c1 hne => ?_, p8⟩, fun j k => ?_, o.2.2.2.2.1, by rw [s0]; exact o.2.2.2.2.2⟩, by simp only []; omega, nr.2.2.1, rfl⟩
    · rw [nbE] at b1
      show 0 ≤ (if b = D.1.nb then r.2 else D.1.tr b) ∧ (if b = D.1.nb then r.2 else D.1.tr b) ≤ 9
      by_cases e : b = D.1.nb
      · rw [if_pos e]; omega
      · rw [if_neg e]; exact f13 b b0 (by omega)
    · rw [nbE] at b1
      show 1 ≤ (if b = D.1.nb then tL T (tN T q) else D.1.nm b).length ∧ (if b = D.1.nb then tL T (tN T q) else D.1.nm b).length ≤ 6 ∧ ∀ x ∈ (if b = D.1.nb then tL T (tN T q) else D.1.nm b), 1 ≤ x ∧ x ≤ 26
      by_cases e : b = D.1.nb
      · rw [if_pos e]
        have ln : (tL T (tN T q)).length = (tE T (tN T q) - tA T (tN T q)).toNat := lnL_len _ _ _
        have tg := tE_gt (T := T) (q := tN T q) (by rw [nn.2.2.2.1]; decide)
        exact ⟨by omega, by omega, tL_range nn.2.2.2.1⟩
      · rw [if_neg e]; exact f18 b b0 (by omega)
    · rw [nbE] at b1
      by_cases e : b = D.1.nb
      · rw [e, n2, n3]
        exact ⟨by omega, by show a.2 < D.1.nl; omega, by omega, by show c.2 < D.1.nc; omega⟩
      · rw [old 2 b (by omega), old 3 b (by omega)]; exact p1 b b0 (by omega)
    · rw [nbE] at b1
      by_cases e : b = D.1.nb
      · rw [e, n4, n5]; decide
      · rw [old 4 b (by omega), old 5 b (by omega)]; exact p2 b b0 (by omega)
    · rw [nbE] at b1
      rw [s1]
      by_cases e : b = D.1.nb
      · rw [e, n2, n3]; exact fr.1
      · rw [old 2 b (by omega), old 3 b (by omega)]; exact p6 b b0 (by omega)
    · rw [nbE] at b1 c1
      by_cases e : b = D.1.nb
      · have hb' : b' < D.1.nb := by omega
        rw [e, n2, n3, old 2 b' hb', old 3 b' hb']
        exact fun z => who_none fr.2 c0 hb' ⟨z.1.symm, z.2.symm⟩
      · rw [old 2 b (by omega), old 3 b (by omega)]
        by_cases e' : b' = D.1.nb
        · rw [e', n2, n3]; exact fun z => who_none fr.2 b0 (by omega) z
        · rw [old 2 b' (by omega), old 3 b' (by omega)]; exact p7 b b' b0 (by omega) c0 (by omega) hne
    · rw [nbE]
      rcases o.2.2.2.1 j k with z | z | z | z
      · exact Or.inl z
      · exact Or.inr (Or.inl z)
      · exact Or.inr (Or.inr (Or.inl (by omega)))
      · by_cases e : 2 ≤ j ∧ j ≤ 5 ∧ k = D.1.nb
        · exact Or.inr (Or.inr (Or.inl (by omega)))
        · refine Or.inr (Or.inr (Or.inr ?_))
          rw [st]
          by_cases e2 : k = D.1.nb
          · rw [if_pos e2, if_neg (by omega), if_neg (by omega), if_neg (by omega), if_neg (by omega)]; exact z
          · rw [if_neg e2]; exact z
theorem cds_ok {T : aT} {s : Int} {q : aQ} {x : aQ × List Int} (s0 : 0 ≤ s) (s3 : s ≤ 3) (q1 : q.1 ≤ T.2) (h : cdsS T s q = .ok x) : x.2 ≠ [] ∧ q.1 + 1 ≤ x.1.1 ∧ x.1.1 ≤ T.2 ∧ (x.2.length : Int) + q.1 ≤ x.1.1 ∧ ruleS x.2 (decide (s = 3)) (if s = 0 then 40 else if s = 2 then 46 else 45) := by
  have l0 : (lsS 0).length = 0 := rfl
  unfold cdsS at h
  by_cases e : s = 3
  · rw [if_pos e] at h
    have r := tst_rule h
    unfold tstS at h
    have n := rt_len T (scK 1) 4000 true 0 0 0 q x q1 h
    simp only [if_true, l0] at n
    subst e
    exact ⟨n.2.2.1, n.1, n.2.1, by omega, r⟩
  · rw [if_neg e] at h
    have hk : s = 0 ∨ s = 1 ∨ s = 2 := by omega
    have r := sum_rule (k := kdC s) (by rcases hk with rfl | rfl | rfl <;> decide) h
    unfold sumS at h
    have n := rd_len T (scK (kdC s)) 4000 true 0 0 0 q x q1 h
    simp only [if_true, l0] at n
    refine ⟨n.2.2.1, n.1, n.2.1, by omega, ?_⟩
    rcases hk with rfl | rfl | rfl <;> exact r
theorem okD_rul {T : aT} {D : aW} {q : aQ} {s : Int} {x : aQ × aW} (s0 : 0 ≤ s) (s3 : s ≤ 3) (o : okD D) (q1 : q.1 ≤ T.2) (hk : tK T q ≠ 0) (h : rulS T D q s = .ok x) : okD x.2 ∧ q.1 + 1 ≤ x.1.1 ∧ x.1.1 ≤ T.2 ∧ dlen x.2.1 + q.1 ≤ dlen D.1 + x.1.1 := by
  have t := tN_pos q1 hk
  unfold rulS at h
  split at h
  · exact absurd h (by simp)
  · next hn =>
    have hn' : gtC D.1 s = [] := by
      cases e : gtC D.1 s with
      | nil => rfl
      | cons a b => rw [e] at hn; exact absurd (by simp) hn
    obtain ⟨c, h1, h2⟩ := exB_ok h
    have cc := cds_ok s0 s3 t.2 h1
    have e : x = (c.1, (stC D.1 s c.2, D.2.1, D.2.2)) := by injection h2 with h2; exact h2.symm
    subst e
    obtain ⟨f1, f2, f3, f4, f5, f6, f7, f8, f9, f10, f11, f12, f13, f14, f15, f16, f17, f18, f19⟩ := o.1
    have nl := o.2.1
    have hs : s = 0 ∨ s = 1 ∨ s = 2 ∨ s = 3 := by omega
    have nz : ¬ D.1.nl = 0 := by omega
    rcases hs with rfl | rfl | rfl | rfl
    · refine ⟨⟨⟨f1, f2, f3, f4, f5, f6, f7, f8, f9, f10, fun z => absurd z nz, f12, f13, fun _ => cc.2.2.2.2, f15, f16, f17, f18, f19⟩, o.2.1, o.2.2.1, o.2.2.2.1, o.2.2.2.2.1, o.2.2.2.2.2⟩, by simp only []; omega, cc.2.2.1, ?_⟩
      have e0 : D.1.cO = [] := hn'
      show ((c.2.length : Int) + D.1.cC.length + D.1.cT.length + D.1.cS.length) + q.1 ≤ ((D.1.cO.length : Int) + D.1.cC.length + D.1.cT.length + D.1.cS.length) + c.1.1
      omega
    · refine ⟨⟨⟨f1, f2, f3, f4, f5, f6, f7, f8, f9, f10, fun z => absurd z nz, f12, f13, f14, fun _ => cc.2.2.2.2, f16, f17, f18, f19⟩, o.2.1, o.2.2.1, o.2.2.2.1, o.2.2.2.2.1, o.2.2.2.2.2⟩, by simp only []; omega, cc.2.2.1, ?_⟩
      show ((D.1.cO.length : Int) + c.2.length + D.1.cT.length + D.1.cS.length) + q.1 ≤ ((D.1.cO.length : Int) + D.1.cC.length + D.1.cT.length + D.1.cS.length) + c.1.1
      omega
    · refine ⟨⟨⟨f1, f2, f3, f4, f5, f6, f7, f8, f9, f10, fun z => absurd z nz, f12, f13, f14, f15, fun _ => cc.2.2.2.2, f17, f18, f19⟩, o.2.1, o.2.2.1, o.2.2.2.1, o.2.2.2.2.1, o.2.2.2.2.2⟩, by simp only []; omega, cc.2.2.1, ?_⟩
      show ((D.1.cO.length : Int) + D.1.cC.length + c.2.length + D.1.cS.length) + q.1 ≤ ((D.1.cO.length : Int) + D.1.cC.length + D.1.cT.length + D.1.cS.length) + c.1.1
      omega
    · refine ⟨⟨⟨f1, f2, f3, f4, f5, f6, f7, f8, f9, f10, fun z => absurd z nz, f12, f13, f14, f15, f16, fun _ => cc.2.2.2.2, f18, f19⟩, o.2.1, o.2.2.1, o.2.2.2.1, o.2.2.2.2.1, o.2.2.2.2.2⟩, by simp only []; omega, cc.2.2.1, ?_⟩
      show ((D.1.cO.length : Int) + D.1.cC.length + D.1.cT.length + c.2.length) + q.1 ≤ ((D.1.cO.length : Int) + D.1.cC.length + D.1.cT.length + D.1.cS.length) + c.1.1
      omega
theorem okD_stm {T : aT} {D : aW} {q : aQ} {x : aQ × aW} (o : okD D) (q1 : q.1 ≤ T.2) (h : stmS T D q = .ok x) : okD x.2 ∧ q.1 + 1 ≤ x.1.1 ∧ x.1.1 ≤ T.2 ∧ dlen x.2.1 + q.1 ≤ dlen D.1 + x.1.1 := by
  unfold stmS at h
  split at h
  · next hx =>
    have := okD_glo o q1 (tX_ne (by omega)) h
    exact ⟨this.1, this.2.1, this.2.2.1, by rw [this.2.2.2]; omega⟩
  · split at h
    · next hx =>
      have := okD_wor o q1 (tX_ne (by omega)) h
      exact ⟨this.1, this.2.1, this.2.2.1, by rw [this.2.2.2]; omega⟩
    · split at h
      · next hx =>
        have := okD_bei o q1 (tX_ne (by omega)) h
        exact ⟨this.1, this.2.1, this.2.2.1, by rw [this.2.2.2]; omega⟩
      · split at h
        · next hx => exact okD_rul (by omega) (by omega) o q1 (tX_ne (by omega)) h
        · split at h
          · next hx =>
            have t := tN_pos q1 (tX_ne (by omega : 0 ≤ tX T q))
            obtain ⟨v, h1, h2⟩ := exB_ok h
            have n := num_ok t.2 h1
            have e : x = (v.1, (D.1.s_th v.2, D.2.1, D.2.2)) := by injection h2 with h2; exact h2.symm
            subst e
            obtain ⟨f1, f2, f3, f4, f5, f6, f7, f8, f9, f10, f11, f12, f13, f14, f15, f16, f17, f18, f19⟩ := o.1
            refine ⟨⟨⟨f1, f2, f3, f4, f5, f6, f7, f8, by show 0 ≤ v.2; omega, by show v.2 ≤ 100; omega, fun z => absurd z (by have := o.2.1; show ¬ D.1.nl = 0; omega), f12, f13, f14, f15, f16, f17, f18, f19⟩, o.2.1, o.2.2.1, o.2.2.2.1, o.2.2.2.2.1, o.2.2.2.2.2⟩, by simp only []; omega, n.2.2.1, ?_⟩
            show dlen D.1 + q.1 ≤ dlen D.1 + v.1.1
            omega
          · exact absurd h (by simp)
theorem sem_ok {α : Type} {T : aT} {r : Except (Int × Int) (aQ × α)} {x : aQ × α} (h : semS T r = .ok x) : ∃ y : aQ × α, r = .ok y ∧ sgB T y.1 59 = true ∧ x = (tN T y.1, y.2) := by
  unfold semS at h
  obtain ⟨y, h1, h2⟩ := exB_ok h
  split at h2
  · next hs => exact ⟨y, h1, hs, by injection h2 with h2; exact h2.symm⟩
  · exact absurd h2 (by simp)
theorem okD_lop {T : aT} : ∀ (n : Nat) (k : Int) (q : aQ) (D : aW) (x : aW × Int), okD D → q.1 ≤ T.2 → dlen D.1 ≤ q.1 → lopS T n k q D = .ok x → okD x.1 ∧ dlen x.1.1 ≤ T.2
  | 0, k, q, D, x, o, q1, l, h => by
    unfold lopS at h
    split at h
    · have e : x = (D, k) := by injection h with h; exact h.symm
      subst e
      exact ⟨o, by simp only []; omega⟩
    · exact absurd h (by simp)
  | n + 1, k, q, D, x, o, q1, l, h => by
    unfold lopS at h
    split at h
    · have e : x = (D, k) := by injection h with h; exact h.symm
      subst e
      exact ⟨o, by simp only []; omega⟩
    · obtain ⟨y, h1, h2⟩ := exB_ok h
      obtain ⟨z, h3, h4, rfl⟩ := sem_ok h1
      have s := okD_stm o q1 h3
      have t := tN_pos s.2.2.1 (sg_ne h4)
      exact okD_lop n (k + 1) _ _ x s.1 t.2 (by omega) h2
