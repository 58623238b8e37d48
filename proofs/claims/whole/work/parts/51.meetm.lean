theorem vM_low {h h' : mf_M} {nb : Int} (hn8 : nb ≤ 8) (hk : ∀ k, k < 39 → h' 286 k = h 286 k) : vM h' 286 0 nb = vM h 286 0 nb := by
  funext i m
  unfold vM
  by_cases e0 : i = 0
  · rw [if_pos e0, if_pos e0, hk 0 (by decide)]
  · rw [if_neg e0, if_neg e0]
    by_cases e1 : i = 1
    · rw [if_pos e1, if_pos e1]
      by_cases e2 : 0 ≤ m ∧ m < 6
      · rw [if_pos e2, if_pos e2, hk _ (by omega)]
      · rw [if_neg e2, if_neg e2]
    · rw [if_neg e1, if_neg e1]
      by_cases e2 : 2 ≤ i ∧ i ≤ 5 ∧ 0 ≤ m ∧ m < nb
      · rw [if_pos e2, if_pos e2, hk _ (by omega)]
      · rw [if_neg e2, if_neg e2]
theorem kpM_hi {h h' : mf_M} {ks : List (Int × Int × Int)} (hk : ∀ k, 39 ≤ k → h' 286 k = h 286 k) (h1 : kpM h 286 0 ks) : kpM h' 286 0 ks := by
  obtain ⟨q1, q2, q3⟩ := h1
  refine ⟨by rw [hk _ (by decide)]; exact q1, q2, fun k hk2 => ?_⟩
  rw [hk _ (by omega), hk _ (by omega), hk _ (by omega)]
  exact q3 k hk2
section SpMM
variable {C : mf_G} {l : Launch} {d : Nat} {L : Int → mf_M → Prop}
theorem m_meet {h : mf_M} {a b o nl nc nb : Int} {tr : Int → Int} {cO cC cT cS : List Int} (hd : 3 ≤ d) (hf : folM h nl nc nb tr cO cC cT cS) (hs : stS (vM h 286 0 nb) nl nc nb) (ha0 : 0 ≤ a) (hab : a < b) (hb : b < nb) (ho : h 245 59 = o) (ho1 : -1000 ≤ o) (ho2 : o ≤ 1000) (h58 : h 245 58 = h 286 0) (hx : h 245 61 = 0 → ∃ ks, kpM h 286 0 ks)
    (hK : ∀ h', vM h' 286 0 nb = meetS tr cT o a b (vM h 286 0 nb) → dR h h' [(a, b)] → L 0 h') : mM C l d YX12_meet [(2, 245), (0, a), (0, b)] h L := by
  obtain ⟨F1, F2, F3, ⟨F4, F4'⟩, ⟨F5, F5'⟩, ⟨F6, F6'⟩, F7, F8, F9, F10, F11, F12, F13, F14, F15, F16⟩ := id hf
  refine wX12_meet hd (fun h1 e1 => ?_)
  have r1 : ∀ x, x ≠ 245 → h1 x = h x := fun x q => by rw [e1, up_row q]
  have c1 : ∀ k, k ≠ 62 → h1 245 k = h 245 k := fun k q => by rw [e1, up_col q]
  have v1 : vM h1 286 0 nb = vM h 286 0 nb := vM_row (r1 286 (by decide))
  have sa := hs.2.1 a ha0 (by omega)
  refine m_isMet (nb := nb) ha0 (by omega) F6' (by rw [v1]; exact sa.2.2.1) (by rw [v1]; exact sa.2.2.2) (fun h4 w4 r4 k4 i4 j4 => ?_)
  rw [v1] at w4
  have f1 := fill_range sa.2.2.1 sa.2.2.2
  have s4 : stS (vM h4 286 0 nb) nl nc nb := by rw [w4]; exact hs.up5 f1.1 f1.2
  have sb := s4.2.1 b (by omega) hb
  refine m_isMet (nb := nb) (by omega) hb F6' sb.2.2.1 sb.2.2.2 (fun h7 w7 r7 k7 i7 j7 => ?_)
  have f2 := fill_range sb.2.2.1 sb.2.2.2
  have s7 : stS (vM h7 286 0 nb) nl nc nb := by rw [w7]; exact s4.up5 f2.1 f2.2
  -- what lies behind the beings in the row
  have hi7 : ∀ k, 39 ≤ k → h7 286 k = h 286 k := fun k hk => by rw [k7 k (by omega), k4 k (by omega), r1 286 (by decide)]
  have z7 : h7 286 0 = h 286 0 := by rw [k7 0 (by omega), k4 0 (by omega), r1 286 (by decide)]
  have c7 : ∀ k, k ≠ 62 → h7 245 k = h 245 k := fun k hk => by rw [r7 245 (by decide) (by decide), r4 245 (by decide) (by decide)]; exact c1 k hk
  have t7 : h7 245 61 = h 245 61 := c7 61 (by decide)
  refine m_isKept (fun q => ?_) (fun h10 r10 k10 n10 p10 => ?_)
  · rw [t7] at q
    obtain ⟨ks, hks⟩ := hx q
    exact ⟨ks, kpM_hi hi7 hks⟩
  have v10 : vM h10 286 0 nb = vM h7 286 0 nb := vM_low F6' k10
  have row10 : ∀ x, x ≠ 245 → x ≠ 286 → x ≠ 288 → h10 x = h x := fun x q1 q2 q3 => by rw [r10 x q2, r7 x q2 q3, r4 x q2 q3, r1 x q1]
  have c10 : ∀ k, k ≠ 62 → h10 245 k = h 245 k := fun k hk => by rw [r10 245 (by decide)]; exact c7 k hk
  rw [w_id (x := 8 + b) (by omega) (by omega)]
  refine ⟨by omega, by omega, fun h13 e13 => ?_⟩
  have r13 : ∀ x, x ≠ 245 → h13 x = h10 x := fun x q => by rw [e13, up_row q]
  have c13 : ∀ k, k ≠ 62 → k ≠ 60 → h13 245 k = h 245 k := fun k q1 q2 => by rw [e13, up_col q2]; exact c10 k q1
  have trb : tr b = h10 282 (8 + b) := by rw [F7 b (by omega) hb, row10 282 (by decide) (by decide) (by decide)]
  have g60 : h13 245 60 = tr b := by rw [e13, up_self, trb]
  have v13 : vM h13 286 0 nb = mf_up (mf_up (vM h 286 0 nb) 5 a (fillS (vM h 286 0 nb 5 a))) 5 b (fillS ((mf_up (vM h 286 0 nb) 5 a (fillS (vM h 286 0 nb 5 a))) 5 b)) := by
    rw [vM_row (r13 286 (by decide)), v10, w7, w4]
  have z13 : h13 286 0 = h 286 0 := by rw [r13 286 (by decide), k10 0 (by decide), z7]
  have f13 : folM h13 nl nc nb tr cO cC cT cS := hf.keep (fun x q1 q2 q3 _ => by rw [r13 x q1, row10 x q1 q2 q3])
  have s13 : stS (vM h13 286 0 nb) nl nc nb := by rw [vM_row (r13 286 (by decide)), v10]; exact s7
  have d13 : vM h13 286 0 nb 0 0 = h 286 0 := by rw [vM_day]; exact z13
  -- so far
  have D13 : dR h h13 [(a, b)] := by
    refine ⟨⟨fun x q1 q2 q3 _ => by rw [r13 x q1, row10 x q1 q2 q3], fun k _ _ _ q4 q5 _ => c13 k q5 q4⟩, c13 58 (by decide) (by decide), c13 59 (by decide) (by decide), z13, ⟨fun q k hk => ?_, fun q ks hks => ?_⟩, fun q x hx0 hx8 => ?_, fun q1 q2 => ?_⟩
    · rw [r13 286 (by decide), n10 (by rw [t7]; exact q)]; exact hi7 k hk
    · have := p10 (by rw [t7]; exact q) ks (kpM_hi hi7 hks)
      rw [z7] at this
      show kpM h13 286 0 (keepS ks (h 286 0, a, b))
      exact kpM_hi (fun k _ => by rw [r13 286 (by decide)]) this
    · have qa := q a ha0 (by omega)
      have qb := q b (by omega) (by omega)
      have qx := q x hx0 hx8
      simp only [List.length_cons, List.length_nil] at qa qb qx
      have e288 : h13 288 x = h7 288 x := by rw [r13 288 (by decide), r10 288 (by decide)]
      have e1r : h1 288 = h 288 := r1 288 (by decide)
      have ja : h4 288 a = h 288 a + 1 := by rw [j4, e1r]; exact w_id (by omega) (by omega)
      have jb : h7 288 b = h 288 b + 1 := by rw [j7, i4 b (by omega), e1r]; exact w_id (by omega) (by omega)
      rw [e288]
      unfold cntS cntS
      by_cases ex : x = b
      · subst ex
        rw [jb, if_pos (Or.inr rfl)]; omega
      · rw [i7 x ex]
        by_cases ey : x = a
        · subst ey
          rw [ja, if_pos (Or.inl rfl)]; omega
        · rw [i4 x ey, e1r, if_neg (by simp only []; omega)]; omega
    · simp only [List.length_cons, List.length_nil] at q2 ⊢
      have : h13 245 62 = h1 245 62 := by rw [e13, up_col (by decide), r10 245 (by decide), r7 245 (by decide) (by decide), r4 245 (by decide) (by decide)]
      rw [this, e1, up_self, w_id (by omega) (by omega)]
      omega
  -- the toll is paid
  have pay : ∀ (t : Int) (h16 : mf_M), -1000000 ≤ t → t ≤ 1000000 → frE h13 h16 → t = tollS (vM h13 286 0 nb) tr cT o a b → BX12_meet_60 C l d L a b t h16 := by
    intro t h16 t1 t2 hE ht
    have w16 : vM h16 286 0 nb = vM h13 286 0 nb := vM_row (hE.1 286 (by decide) (by decide))
    have s16 : stS (vM h16 286 0 nb) nl nc nb := by rw [w16]; exact s13
    have D16 : dR h h16 ([(a, b)] ++ []) := D13.tr (dR.ofE hE)
    have pa := s16.2.1 a ha0 (by omega)
    have pb := s16.2.1 b (by omega) hb
    have fin : ∀ h' : mf_M, vM h' 286 0 nb = (if t < 0 then paysS (vM h16 286 0 nb) b a (-t) else paysS (vM h16 286 0 nb) a b t) → (∀ r, r ≠ 286 → h' r = h16 r) → (∀ k, k ≠ 9 + 4 * a → k ≠ 9 + 4 * b → h' 286 k = h16 286 k) → L 0 h' := by
      intro h' hv hr hk
      refine hK h' ?_ ?_
      · rw [hv]
        unfold meetS
        simp only []
        rw [← v13, ← ht, w16]
      · have Dl : dR h16 h' [] := by
          refine ⟨⟨fun x _ q2 _ _ => hr x q2, fun k _ _ _ _ _ _ => by rw [hr 245 (by decide)]⟩, by rw [hr 245 (by decide)], by rw [hr 245 (by decide)], hk 0 (by omega) (by omega), ⟨fun _ k hk2 => hk k (by omega) (by omega), fun _ ks hks => kpM_hi (fun k hk2 => hk k (by omega) (by omega)) hks⟩, fun _ x _ _ => by rw [hr 288 (by decide)]; simp [cntS], fun _ _ => by rw [hr 245 (by decide)]; simp⟩
        have := D16.tr Dl
        simpa using this
    refine vX12_meet_60 (by omega) ⟨fun q => ?_, fun q => ?_⟩
    · refine m_pays (nb := nb) (by omega) ha0 (by omega) (by omega) hb (by omega) F6' q t2 ⟨pa.1, pa.2.1⟩ ⟨pb.1, pb.2.1⟩ (fun h' g1 g2 g3 => fin h' ?_ g2 g3)
      rw [if_neg (by omega)]; exact g1
    · rw [w64_id (x := -t) (by omega) (by omega)]
      refine m_pays (nb := nb) (by omega) (by omega) hb ha0 (by omega) (by omega) F6' (by omega) (by omega) ⟨pb.1, pb.2.1⟩ ⟨pa.1, pa.2.1⟩ (fun h' g1 g2 g3 => fin h' ?_ g2 (fun k q1 q2 => g3 k q2 q1))
      rw [if_pos (by omega)]; exact g1
  have t13 : toldM h13 2 cT := f13.2.2.2.2.2.2.2.2.2.2.1
  refine ⟨fun q => ?_, fun q => pay 1 h13 (by decide) (by decide) (frE.rf _) ?_⟩
  · rcases t13 with ⟨_, z⟩ | ⟨hne, hcod⟩
    · exact absurd z q
    · have hrl := F15 hne
      have h59 : h13 245 59 = o := by rw [c13 59 (by decide) (by decide)]; exact ho
      have h58' : h13 245 58 = vM h13 286 0 nb 0 0 := by rw [d13, c13 58 (by decide) (by decide), h58]
      have trE : ∀ (σ : mf_M) (x y z : Int), envS σ (fun i => h13 282 (8 + i)) x y z a = envS σ tr x y z a := fun σ x y z => env_tr (by rw [F7 a ha0 (by omega), r13 282 (by decide), row10 282 (by decide) (by decide) (by decide)])
      have tb := F8 b (by omega) hb
      have rng := fun k => env_range (o := o) (other := tr b) (tr := tr) s13 F4' F5' F6' ha0 (by omega : a < nb) F8 tb.1 tb.2 k
      refine m_codesTell (nb := nb) (f := false) (most := 46) (by omega) (by decide) (by decide) hcod hrl F6' (Or.inr ⟨ha0, by omega⟩) (by rw [h59]; omega) (by rw [h59]; omega) ?_ ?_
      · intro c _ _ _
        rw [trE, h58', h59, g60]
        exact rng _
      · intro h16 hE
        rw [trE, h58', h59, g60]
        have hv := val_range (E := envS (vM h13 286 0 nb) tr (vM h13 286 0 nb 0 0) o (tr b) a) (mt := mt0) (fun _ => Or.inl rfl) (fun c _ _ _ => rng _) hrl.1
        simp only [Bool.false_eq_true, if_false] at hv
        refine pay _ h16 hv.1 hv.2 hE ?_
        unfold tollS
        rw [if_neg hne]
  · unfold tollS
    rcases t13 with ⟨e, _⟩ | ⟨hne, hcod⟩
    · rw [if_pos e]
    · have := hcod.1
      rw [show (4 : Int) + 2 = 6 from rfl, q] at this
      omega
end SpMM
