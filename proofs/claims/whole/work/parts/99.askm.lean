/-! questions: spec; the reference reckons -/
def mtS (S : aS) (o i : Int) : Int → Int := fun v => if (0 ≤ v ∧ v < S.F.nb) ∧ v ≠ i ∧ metB S.st S.F.nl S.F.nc o i v = true then 1 else 0
def qvS (S : aS) (cs : List Int) (o i : Int) : Int := valS (envS S.st S.F.tr (S.st 0 0) o 0 i) (mtS S o i) cs
def tkS (kd : Int) (v : Int → Int) : Nat → Int
  | 0 => if kd ≤ 29 then -1 else 0
  | n + 1 => if kd = 28 then (if tkS kd v n = -1 ∧ v n = 1 then (n : Int) else tkS kd v n) else if kd = 29 then (if v n = 1 then (n : Int) else tkS kd v n) else if kd = 30 then (if v n = 1 then tkS kd v n + 1 else tkS kd v n) else if kd = 31 then tkS kd v n + v n else if kd = 32 then (if n = 0 ∨ tkS kd v n < v n then v n else tkS kd v n) else (if n = 0 ∨ v n < tkS kd v n then v n else tkS kd v n)
def ansS (S : aS) (kd : Int) (cs : List Int) : Int := tkS kd (qvS S cs (opnS S (S.st 0 0))) S.F.nb.toNat
/-- a question: its kind and its codes, or a fault -/
def qstS (T : aT) : Except (Int × Int) (Int × List Int) :=
  if 28 ≤ tX T (0, false) then
    match (if tX T (0, false) ≤ 30 then tstS T 3 (tN T (0, false)) else sumS T 3 (tN T (0, false))) with
    | .error e => .error e
    | .ok x => if tK T x.1 = 0 then .ok (tX T (0, false), x.2) else .error (1, tA T x.1)
  else .error (1, tA T (0, false))
def aS.flt (S : aS) (e : Int × Int) : aS := ((S.s_tn 0).s_fa e.1).s_pl e.2
def askS (S : aS) : Int × aS := if S.F.nl = 0 then (-1000000000000000, S.s_tn 0) else match qstS (S.tp, S.tn) with
  | .error e => (-1000000000000000, S.flt e)
  | .ok x => (ansS S x.1 x.2, S.flt (0, -1))
theorem okS.flt {S : aS} (o : okS S) (e : Int × Int) : okS (S.flt e) := ⟨o.F, o.P, by show (0 : Int) ≤ 0; decide, by show (0 : Int) ≤ 1600; decide, o.tp, o.un, o.us, o.nx0, o.nx1, o.sn, o.ss, o.sd0, o.sd1, o.oc⟩
/-- what a question's codes are -/
def okQ (f : Bool) (cs : List Int) : Prop := okT cs [] f ∧ cs ≠ [] ∧ (∀ c ∈ cs, c ≠ 46) ∧ cs.length ≤ 1600
theorem sum_q {T : aT} {q : aQ} {x : aQ × List Int} (q0 : 0 ≤ q.1) (q1 : q.1 ≤ T.2) (t2 : T.2 ≤ 1600) (h : sumS T 3 q = .ok x) : okQ false x.2 := by
  unfold sumS at h
  have h1 := rd_typ T (scK 3) 4000 true 0 0 0 q x h (by decide) (Or.inl rfl) (Or.inl rfl) [] [] false (by decide) rfl
  have h2 := rd_sc T (scK 3) 4000 true 0 0 0 q x h (Or.inl rfl) (Or.inl rfl)
  have h3 := rd_len T (scK 3) 4000 true 0 0 0 q x q1 h
  have l0 : (lsS 0).length = 0 := rfl
  simp only [if_true, l0] at h3
  rw [List.append_nil] at h1
  refine ⟨h1, h3.2.2.1, fun c hc z => ?_, by omega⟩
  rcases h2 c hc with y | y | y | y
  · omega
  · have y2 := y.2.2
    rw [z] at y2
    exact absurd y2 (by decide)
  · omega
  · omega
theorem tst_q {T : aT} {q : aQ} {x : aQ × List Int} (q0 : 0 ≤ q.1) (q1 : q.1 ≤ T.2) (t2 : T.2 ≤ 1600) (h : tstS T 3 q = .ok x) : okQ true x.2 := by
  unfold tstS at h
  have h1 := rt_typ T (scK 3) 4000 true 0 0 0 q x h (by decide) (Or.inl rfl) (Or.inl rfl) [] [] true (by decide) rfl
  have h2 := rt_sc T (scK 3) 4000 true 0 0 0 q x h (Or.inl rfl) (Or.inl rfl)
  have h3 := rt_len T (scK 3) 4000 true 0 0 0 q x q1 h
  have l0 : (lsS 0).length = 0 := rfl
  simp only [if_true, l0] at h3
  rw [List.append_nil] at h1
  refine ⟨h1, h3.2.2.1, fun c hc z => ?_, by omega⟩
  rcases h2 c hc with y | y | y | y
  · omega
  · have y2 := y.2.2
    rw [z] at y2
    exact absurd y2 (by decide)
  · omega
  · omega
theorem mtS_01 (S : aS) (o i v : Int) : mtS S o i v = 0 ∨ mtS S o i v = 1 := by
  unfold mtS
  split
  · exact Or.inr rfl
  · exact Or.inl rfl
section SpAs
variable {C : mf_G} {l : Launch} {d : Nat} {L : Int → mf_M → Prop}
theorem m_toldL {h0 : mf_M} {b nb n : Int} {mt : Int → Int} {f : Bool} (hd : 4 ≤ d) (h95 : h0 245 95 = n) (n2 : n ≤ 1700) (b0 : 0 ≤ b) (bn : b < nb) (hn8 : nb ≤ 8) (ho1 : -2147483647 ≤ h0 245 59) (ho2 : h0 245 59 ≤ 2147483647) (hmt : ∀ v, mt v = 0 ∨ mt v = 1) (hof : ∀ (h : mf_M) (v : Int) (L' : Int → mf_M → Prop), frE h0 h → -1000000 ≤ v → v ≤ 1000000 → L' (mt v) h → mM C l 3 YX12_qOf [(2, 245), (0, 0), (1, v), (0, b)] h L') :
    ∀ (cs : List Int) (k : Int) (st : List Int) (ty : List Bool) (h : mf_M), frE h0 h → 0 ≤ k → k + cs.length = n → (∀ j : Nat, j < cs.length → h0 315 (k + j) = cs.getD j 0) → (∀ c ∈ cs, 40 ≤ c → c < 60 → -1000000 ≤ envS (vM h0 286 0 nb) (fun i => h0 282 (8 + i)) (h0 245 58) (h0 245 59) (h0 245 60) b (c - 40) ∧ envS (vM h0 286 0 nb) (fun i => h0 282 (8 + i)) (h0 245 58) (h0 245 59) (h0 245 60) b (c - 40) ≤ 1000000) → okT cs ty f → okV st ty → ty.length ≤ 60 → stM h st (h 245 101) →
      (∀ h', frE h0 h' → L ((evS (envS (vM h0 286 0 nb) (fun i => h0 282 (8 + i)) (h0 245 58) (h0 245 59) (h0 245 60) b) mt cs st).headD 0) h') → BX12_qTold_7 C l d L b k h := by
  intro cs
  induction cs with
  | nil =>
    intro k st ty h hf hk hlen _ _ ho hv _ hst hL
    have e1 : h 245 95 = n := by rw [hf.2 95 (by decide) (by decide)]; exact h95
    simp only [List.length_nil] at hlen
    refine vX12_qTold_7 hd ⟨fun _ => ?_, fun q => absurd (by omega) q⟩
    unfold okT at ho
    subst ho
    match st, hv with
    | [v], hv =>
      have hl := hst.len
      simp only [List.length_cons, List.length_nil] at hl
      have h9 := hst.1
      rw [hl] at h9
      have e : ((0 + 1 : Nat) : Int) - 1 = 0 := by decide
      rw [e] at h9
      rw [h9]
      exact hL h hf
  | cons c cs ih =>
    intro k st ty h hf hk hlen hcs hE ho hv hty hst hL
    have e1 : h 245 95 = n := by rw [hf.2 95 (by decide) (by decide)]; exact h95
    simp only [List.length_cons] at hlen
    have hc0 : h 315 k = c := by
      rw [hf.1 315 (by decide) (by decide)]
      have := hcs 0 (by simp)
      simpa using this
    have hlen1 := hv.len
    have hstl := hst.len
    obtain ⟨ty', ho', hv'⟩ := okV_step (hE c List.mem_cons_self) hmt ho hv
    have next : ∀ h', frE h0 h' → stM h' (stepS (envS (vM h0 286 0 nb) (fun i => h0 282 (8 + i)) (h0 245 58) (h0 245 59) (h0 245 60) b) mt c st) (h' 245 101) → ∀ v, v = mf_w32 (k + 1) → BX12_qTold_7 C l d L b v h' := by
      intro h' hf' hst' v ev
      rw [w_id (by omega) (by omega)] at ev
      rw [ev]
      refine ih (k + 1) _ ty' h' hf' (by omega) (by omega) (fun j hj => ?_) (fun x hx => hE x (List.mem_cons_of_mem _ hx)) ho' hv' ?_ hst' hL
      · have := hcs (j + 1) (by simpa using hj)
        have e : k + ((j + 1 : Nat) : Int) = k + 1 + j := by omega
        rw [e] at this
        simpa using this
      · have h8 := hv'.len
        have h9 := okT_step (E := envS (vM h0 286 0 nb) (fun i => h0 282 (8 + i)) (h0 245 58) (h0 245 59) (h0 245 60) b) (mt := mt) ho hv hty
        omega
    have hev : h 286 = h0 286 := hf.1 286 (by decide) (by decide)
    have he2 : h 282 = h0 282 := hf.1 282 (by decide) (by decide)
    refine vX12_qTold_7 hd ⟨fun q => absurd q (by omega), fun _ => ⟨hk, by omega, fun v5 ev5 => ?_⟩⟩
    rw [hc0] at ev5
    subst ev5
    refine ⟨fun q => ⟨fun q2 => ⟨fun q3 => ⟨fun q4 => ⟨fun q5 => ?_, fun q5 => ?_⟩, fun q4 => ?_⟩, fun q3 => ?_⟩, fun q2 => ?_⟩, fun q => ?_⟩
    · -- two are joined
      have hstep : ∃ bb aa t, st = bb :: aa :: t ∧ 1 ≤ v5 ∧ v5 ≤ 11 ∧ -1000000 ≤ aa ∧ aa ≤ 1000000 ∧ -1000000 ≤ bb ∧ bb ≤ 1000000 := by
        unfold okT at ho
        rw [if_neg (by omega), if_neg (by omega), if_neg (by omega), if_neg q4, if_neg q5] at ho
        split at ho
        · obtain ⟨t, rfl, -⟩ := ho
          match st, hv with
          | bb :: aa :: t', hv =>
            have h1 := hv.1
            have h2 := hv.2.1
            simp at h1 h2
            exact ⟨bb, aa, t', rfl, by omega, by omega, by omega, by omega, by omega, by omega⟩
        · split at ho
          · obtain ⟨t, rfl, -⟩ := ho
            match st, hv with
            | bb :: aa :: t', hv =>
              have h1 := hv.1
              have h2 := hv.2.1
              simp at h1 h2
              exact ⟨bb, aa, t', rfl, by omega, by omega, by omega, by omega, by omega, by omega⟩
          · obtain ⟨hc1, hc6, t, rfl, -⟩ := ho
            match st, hv with
            | bb :: aa :: t', hv =>
              have h1 := hv.1
              have h2 := hv.2.1
              simp at h1 h2
              exact ⟨bb, aa, t', rfl, by omega, by omega, by omega, by omega, by omega, by omega⟩
      obtain ⟨bb, aa, t, rfl, hc1, hc11, ha1, ha2, hb1, hb2⟩ := hstep
      simp only [List.length_cons] at hlen1
      refine m_joins (by omega) hst (by omega) ha1 ha2 hb1 hb2 hc1 hc11 (fun h' hf' hst' => next h' (hf.tr hf') ?_)
      unfold stepS
      rw [if_neg (by omega), if_neg (by omega), if_neg (by omega), if_neg q4, if_neg q5]
      exact hst'
    · -- not
      subst q5
      have hstep : ∃ a t, st = a :: t ∧ (a = 0 ∨ a = 1) := by
        unfold okT at ho
        rw [if_neg (by decide), if_neg (by decide), if_neg (by decide), if_neg (by decide), if_pos rfl] at ho
        obtain ⟨⟨t, rfl⟩, -⟩ := ho
        match st, hv with
        | a :: t', hv => exact ⟨a, t', rfl, by simpa using hv.1⟩
      obtain ⟨a, t, rfl, ha⟩ := hstep
      simp only [List.length_cons] at hstl hlen1
      obtain ⟨g1, g2, g3⟩ := hst
      rw [w_id (x := h 245 101 - 1) (by omega) (by omega), g1, w64_id (x := 1 - a) (by omega) (by omega)]
      refine ⟨by omega, by omega, fun h12 e12 => ?_⟩
      have e101 : h12 245 101 = h 245 101 := by rw [e12, up_row (by decide)]
      refine next h12 (hf.tr (by rw [e12]; exact frE.up317 _ _ _)) ?_
      unfold stepS
      rw [if_neg (by decide), if_neg (by decide), if_neg (by decide), if_neg (by decide), if_pos rfl, e101]
      refine ⟨by rw [e12, up_self], g2, g3.keep (fun i h1 h2 => by rw [e12, up_col (by omega)])⟩
    · -- all
      subst q4
      refine m_puts hst (by omega) (fun h' hf' hst' => next h' (hf.tr hf') ?_)
      unfold stepS
      rw [if_neg (by decide), if_neg (by decide), if_neg (by decide), if_pos rfl]
      exact hst'
    · -- a part
      have hle : v5 ≤ 48 := by
        unfold okT at ho
        rw [if_neg (by omega), if_neg (by omega), if_pos (by omega)] at ho
        exact ho.1
      rw [w_id (x := v5 - 40) (by omega) (by omega)]
      have g58 : h 245 58 = h0 245 58 := hf.2 58 (by decide) (by decide)
      have g59 : h 245 59 = h0 245 59 := hf.2 59 (by decide) (by decide)
      have g60 : h 245 60 = h0 245 60 := hf.2 60 (by decide) (by decide)
      refine m_partOf (nb := nb) (by omega) (by omega) (by omega) b0 bn hn8 (by rw [g59]; exact ho1) (by rw [g59]; exact ho2) ?_
      rw [g58, g59, g60, vM_row hev, he2]
      have er := hE v5 List.mem_cons_self (by omega) (by omega)
      refine m_clip ?_
      rw [show clS (envS (vM h0 286 0 nb) (fun i => h0 282 (8 + i)) (h0 245 58) (h0 245 59) (h0 245 60) b (v5 - 40)) = envS (vM h0 286 0 nb) (fun i => h0 282 (8 + i)) (h0 245 58) (h0 245 59) (h0 245 60) b (v5 - 40) by unfold clS; rw [if_neg (by omega), if_neg (by omega)]]
      refine m_puts hst (by omega) (fun h' hf' hst' => next h' (hf.tr hf') ?_)
      unfold stepS
      rw [if_neg (by omega), if_neg (by omega), if_pos (by omega)]
      exact hst'
    · -- whether it meets
      have hstep : ∃ a t, st = a :: t ∧ v5 = 60 ∧ -1000000 ≤ a ∧ a ≤ 1000000 := by
        unfold okT at ho
        rw [if_neg (by omega), if_pos (by omega)] at ho
        obtain ⟨h60, ⟨t, rfl⟩, -⟩ := ho
        match st, hv with
        | a :: t', hv =>
          have h1 := hv.1
          simp at h1
          exact ⟨a, t', rfl, h60, h1.1, h1.2⟩
      obtain ⟨a, t, rfl, h60, ha1, ha2⟩ := hstep
      subst h60
      simp only [List.length_cons] at hstl hlen1
      obtain ⟨g1, g2, g3⟩ := hst
      rw [w_id (x := h 245 101 - 1) (by omega) (by omega), g1]
      refine ⟨by omega, by omega, hof h a _ hf ha1 ha2 (m_clip ?_)⟩
      have mr := hmt a
      rw [show clS (mt a) = mt a by unfold clS; rw [if_neg (by omega), if_neg (by omega)]]
      intro h34 e34
      have e101 : h34 245 101 = h 245 101 := by rw [e34, up_row (by decide)]
      refine next h34 (hf.tr (by rw [e34]; exact frE.up317 _ _ _)) ?_
      unfold stepS
      rw [if_neg (by decide), if_pos (by decide), e101]
      refine ⟨by rw [e34, up_self], g2, g3.keep (fun i h1 h2 => by rw [e34, up_col (by omega)])⟩
    · -- a number
      have hle : v5 ≤ 10999 := by
        unfold okT at ho
        rw [if_pos (by omega)] at ho
        exact ho.1
      rw [w_id (x := v5 - 1000) (by omega) (by omega)]
      refine m_puts hst (by omega) (fun h' hf' hst' => next h' (hf.tr hf') ?_)
      unfold stepS
      rw [if_pos (by omega)]
      exact hst'
theorem m_qOf {S : aS} {h : mf_M} {v b o : Int} (hd : 3 ≤ d) (R : RM S h) (ho : h 245 59 = o) (o1 : -1000 ≤ o) (o2 : o ≤ 1000) (b0 : 0 ≤ b) (b1 : b < S.F.nb) (v1 : -1000000 ≤ v) (v2 : v ≤ 1000000) (hK : L (mtS S o b v) h) : mM C l d YX12_qOf [(2, 245), (0, 0), (1, v), (0, b)] h L := by
  have b8 := R.ok.F.b8
  unfold mtS at hK
  refine wX12_qOf hd (wX12_beingMany (m_isIn ?_))
  rw [R.fo.b, w_id (by omega) (by omega)]
  by_cases h1 : 0 ≤ v ∧ v < S.F.nb
  · rw [if_pos (by omega)]
    refine ⟨fun z => absurd z (by decide), fun _ => ⟨fun z => ?_, fun z => ?_⟩⟩
    · rw [if_neg (fun w => w.2.1 z)] at hK; exact hK
    · rw [w_id (x := v) (by omega) (by omega), ho]
      refine M_doMeet (by decide) R b0 b1 h1.1 h1.2 o1 o2 ?_
      by_cases m : metB S.st S.F.nl S.F.nc o b v = true
      · rw [if_pos ⟨h1, z, m⟩] at hK
        rw [if_pos m]
        exact ⟨fun w => absurd w (by decide), fun _ => hK⟩
      · rw [if_neg (fun w => m w.2.2)] at hK
        rw [if_neg m]
        exact ⟨fun _ => hK, fun w => absurd rfl w⟩
  · rw [if_neg (fun w => h1 w.1)] at hK
    rw [if_neg (by omega)]
    exact ⟨fun _ => hK, fun w => absurd rfl w⟩
theorem envS_range {S : aS} (ok : okS S) {o b : Int} (b0 : 0 ≤ b) (b1 : b < S.F.nb) {k : Int} (k0 : 0 ≤ k) (k8 : k ≤ 8) : -1000000 ≤ envS S.st S.F.tr (S.st 0 0) o 0 b k ∧ envS S.st S.F.tr (S.st 0 0) o 0 b k ≤ 1000000 := by
  have s := ok.P.st
  have s1 := s.1 b b0 b1
  have s2 := s.2.1 b b0 b1
  have s3 := s.2.2
  have t := ok.F.tr b b0 b1
  have b8 := ok.F.b8
  have l6 := ok.F.l6
  have c8 := ok.F.c8
  have os := bi_range (S.st 2 b = o - 1 ∨ S.st 2 b = o)
  have os' : openS (S.st 2 b) o = 0 ∨ openS (S.st 2 b) o = 1 := os
  unfold envS
  split
  · omega
  · split
    · omega
    · split
      · omega
      · split
        · omega
        · split
          · omega
          · split
            · omega
            · split
              · omega
              · split <;> omega
theorem M_qTold {S : aS} {h : mf_M} {cs : List Int} {f : Bool} {b o : Int} (hd : 4 ≤ d) (R : RM S h) (ho : h 245 59 = o) (hday : h 245 58 = S.st 0 0) (o1 : -1000 ≤ o) (o2 : o ≤ 1000) (b0 : 0 ≤ b) (b1 : b < S.F.nb) (hc : h 245 95 = cs.length) (hj : ∀ j : Nat, j < cs.length → h 315 j = cs.getD j 0) (hq : okQ f cs) (hK : ∀ h', frE h h' → L (qvS S cs o b) h') : mM C l d YX12_qTold [(2, 245), (0, b)] h L := by
  have b8 := R.ok.F.b8
  have eqE : ∀ c ∈ cs, 40 ≤ c → c < 60 → envS (vM h 286 0 S.F.nb) (fun i => h 282 (8 + i)) (h 245 58) (h 245 59) (h 245 60) b (c - 40) = envS S.st S.F.tr (S.st 0 0) o 0 b (c - 40) := by
    intro c hc1 c40 c60
    have n46 := hq.2.2.1 c hc1
    have et : h 282 (8 + b) = S.F.tr b := (R.fo.tr b b0 b1).symm
    unfold envS
    rw [R.vi, hday, ho]
    simp only [et]
    rw [if_neg (by omega : ¬ c - 40 = 6), if_neg (by omega : ¬ c - 40 = 6)]
  have hle : ∀ c ∈ cs, 40 ≤ c → c < 60 → c ≤ 48 := by
    have gen : ∀ (cs : List Int) (ty : List Bool), okT cs ty f → ∀ c ∈ cs, 40 ≤ c → c < 60 → c ≤ 48 := by
      intro cs
      induction cs with
      | nil => intro ty _ c hc; exact absurd hc (by simp)
      | cons x cs ih =>
        intro ty ho c hc c40 c60
        unfold okT at ho
        rcases List.mem_cons.mp hc with e | e
        · subst e
          rw [if_neg (by omega), if_neg (by omega), if_pos c40] at ho
          exact ho.1
        · split at ho
          · exact ih _ ho.2.2 c e c40 c60
          · split at ho
            · exact ih _ ho.2.2 c e c40 c60
            · split at ho
              · exact ih _ ho.2.2 c e c40 c60
              · split at ho
                · exact ih _ ho.2 c e c40 c60
                · split at ho
                  · exact ih _ ho.2 c e c40 c60
                  · split at ho
                    · obtain ⟨t, -, ho⟩ := ho
                      exact ih _ ho c e c40 c60
                    · split at ho
                      · obtain ⟨t, -, ho⟩ := ho
                        exact ih _ ho c e c40 c60
                      · obtain ⟨-, -, t, -, ho⟩ := ho
                        exact ih _ ho c e c40 c60
    exact gen cs [] hq.1
  refine wX12_qTold (fun h1 e1 => ?_)
  have f1 : frE h h1 := by rw [e1]; exact frE.up101 _ _
  have c1 : ∀ k, k ≠ 101 → h1 245 k = h 245 k := fun k hk => by rw [e1, up_col hk]
  have r1 : ∀ a, a ≠ 245 → h1 a = h a := fun a ha => by rw [e1, up_row ha]
  have R1 := R.keep f1.M
  have E1 : envS (vM h1 286 0 S.F.nb) (fun i => h1 282 (8 + i)) (h1 245 58) (h1 245 59) (h1 245 60) b = envS (vM h 286 0 S.F.nb) (fun i => h 282 (8 + i)) (h 245 58) (h 245 59) (h 245 60) b := by
    rw [vM_row (r1 286 (by decide)), r1 282 (by decide), c1 58 (by decide), c1 59 (by decide), c1 60 (by decide)]
  refine m_toldL (h0 := h1) (nb := S.F.nb) (n := cs.length) (mt := mtS S o b) (f := f) hd (by rw [c1 95 (by decide)]; exact hc) (by have := hq.2.2.2; omega) b0 b1 b8 (by rw [c1 59 (by decide), ho]; omega) (by rw [c1 59 (by decide), ho]; omega) (mtS_01 S o b) (fun h2 v L' f2 v1 v2 hL' => ?_) cs 0 [] [] h1 (frE.rf h1) (by decide) (by omega) (fun j hj' => ?_) (fun c hc1 c40 c60 => ?_) hq.1 trivial (by simp) ?_ (fun h2 f2 => ?_)
  · exact m_qOf (by decide) (R1.keep f2.M) (by rw [f2.2 59 (by decide) (by decide), c1 59 (by decide)]; exact ho) o1 o2 b0 b1 v1 v2 hL'
  · rw [r1 315 (by decide), Int.zero_add]; exact hj j hj'
  · rw [E1, eqE c hc1 c40 c60]
    exact envS_range R.ok b0 b1 (by omega) (by have := hle c hc1 c40 c60; omega)
  · show h1 245 101 = 0
    rw [e1, up_self]
  · have := hK h2 (f1.tr f2)
    unfold qvS valS at this
    rw [E1, evS_congr cs [] eqE]
    exact this
end SpAs
