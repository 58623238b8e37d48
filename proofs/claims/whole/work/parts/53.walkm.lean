section SpW
variable {C : mf_G} {l : Launch} {d : Nat} {L : Int → mf_M → Prop} {nl nc nb o : Int} {tr : Int → Int} {cO cC cT cS : List Int}
theorem stS.walk {σ : mf_M} {b : Int} (hs : stS σ nl nc nb) (hb0 : 0 ≤ b) (hb : b < nb) (h1 : σ 3 b + 1 < nc) : stS (mf_up σ 3 b (σ 3 b + 1)) nl nc nb := by
  obtain ⟨q1, q2, q3, q4⟩ := hs
  refine ⟨fun x hx0 hx => ?_, fun x hx0 hx => ?_, ?_, ?_⟩
  · rw [up_row (show ¬ (2 : Int) = 3 by decide), up_if]
    have h9 := q1 x hx0 hx
    have h8 := q1 b hb0 hb
    split
    · omega
    · exact h9
  · rw [up_row (by decide), up_row (by decide)]; exact q2 x hx0 hx
  · rw [up_row (by decide)]; exact q3
  · rw [up_row (by decide)]; exact q4
theorem m_walk (hd : 4 ≤ d) (ho1 : -1000 ≤ o) (ho2 : o ≤ 1000) : ∀ (n : Nat) (b : Int) (h : mf_M), 0 ≤ b → b + n = nb → inD h nl nc nb o tr cO cC cT cS →
    (∀ h', vM h' 286 0 nb = walkS nc nb tr cS o n b (vM h 286 0 nb) → dR h h' [] → inD h' nl nc nb o tr cO cC cT cS → L 0 (mf_up h' 286 0 (h' 286 0 + 1))) → BX12_dayBy_150 C l d L b h := by
  intro n
  induction n with
  | zero =>
    intro b h hb0 hbn hi hK
    refine vX12_dayBy_150 (by omega) (wX12_beingMany ⟨fun _ h4 e4 => ?_, fun q => absurd (by rw [hi.1.2.2.1]; omega) q⟩)
    have hday := hi.2.1.2.2
    rw [vM_day] at hday
    rw [w_id (by omega) (by omega)] at e4
    rw [e4]
    exact hK h rfl (dR.ofE (frE.rf h)) hi
  | succ n ih =>
    intro b h hb0 hbn hi hK
    obtain ⟨F1, F2, F3, ⟨F4, F4'⟩, ⟨F5, F5'⟩, ⟨F6, F6'⟩, F7, F8, F9, F10, F11, F12, F13, F14, F15, F16⟩ := id hi.1
    have pos := hi.2.1.1 b hb0 (by omega)
    have hw : mf_w32 (b + 1) = b + 1 := w_id (by omega) (by omega)
    unfold walkS at hK
    -- one that stays
    have stay : ∀ h1, frE h h1 → goesB (vM h 286 0 nb) nc nb tr cS o b = false → BX12_dayBy_150 C l d L (b + 1) h1 := by
      intro h1 hE hg
      have w1 : vM h1 286 0 nb = vM h 286 0 nb := vM_row (hE.1 286 (by decide) (by decide))
      have D1 := dR.ofE hE
      rw [if_neg (by rw [hg]; decide)] at hK
      refine ih (b + 1) h1 (by omega) (by omega) (hi.next D1 (by rw [w1]; exact hi.2.1)) (fun h3 hv3 hR3 hi3 => ?_)
      rw [w1] at hv3
      exact hK h3 hv3 (by simpa using D1.tr hR3) hi3
    refine vX12_dayBy_150 (by omega) (wX12_beingMany ⟨fun q => absurd q (by rw [F3]; omega), fun _ => ?_⟩)
    rw [hw]
    refine ⟨fun q v5 e5 => ?_, fun q => ?_⟩
    · rw [e5]
      refine stay h (frE.rf h) ?_
      have hnil : cS = [] := by
        rcases F12 with ⟨e, _⟩ | ⟨hne, hcod⟩
        · exact e
        · have := hcod.1
          rw [show (4 : Int) + 3 = 7 from rfl, q] at this
          omega
      unfold goesB
      rw [hnil]; rfl
    · rcases F12 with ⟨_, z⟩ | ⟨hne, hcod⟩
      · exact absurd z q
      · refine m_tellB (f := true) (by omega) (by decide) (by decide) hi ho1 ho2 hcod (F16 hne) hb0 (by omega) (fun h1 hE hv => ?_)
        have w1 : vM h1 286 0 nb = vM h 286 0 nb := vM_row (hE.1 286 (by decide) (by decide))
        have e3 : h1 286 (8 + 4 * b) = vM h 286 0 nb 3 b := by rw [← w1, vM_be (by omega) (by omega) hb0 (by omega)]; congr 1
        have e2 : h1 286 (7 + 4 * b) = vM h 286 0 nb 2 b := by rw [← w1, vM_be (by omega) (by omega) hb0 (by omega)]; congr 1
        have hem : cS.isEmpty = false := by cases cS with
          | nil => exact absurd rfl hne
          | cons x y => rfl
        have g276 : h1 276 3 = nc := by rw [hE.1 276 (by decide) (by decide)]; exact F2
        have g277 : h1 277 3 = nb := by rw [hE.1 277 (by decide) (by decide)]; exact F3
        refine ⟨fun y => m_cellOf hb0 (by omega) (fun v12 e12 => ?_), fun y v32 e32 => ?_⟩
        · rw [e3, w_id (by omega) (by omega)] at e12
          rw [g276]
          refine ⟨fun x v13 e13 => ?_, fun x => m_leafOf hb0 (by omega) ?_⟩
          · rw [e13]
            refine stay h1 hE ?_
            unfold goesB
            rw [← e12]
            simp [show ¬ v12 < nc by omega]
          · rw [e2]
            refine m_hasGloss pos.1 (by omega) ?_
            have e1 : h1 286 (1 + vM h 286 0 nb 2 b) = vM h 286 0 nb 1 (vM h 286 0 nb 2 b) := by
              have q9 := vM_gl (h := h1) (r := 286) (b := 0) (nb := nb) (k := vM h 286 0 nb 2 b) pos.1 (by omega)
              rw [w1] at q9
              rw [q9]; congr 1
            rw [e1]
            by_cases hg : bitS (vM h 286 0 nb 1 (vM h 286 0 nb 2 b)) v12 = 1
            · rw [if_pos hg]
              refine ⟨fun _ v20 e20 => ?_, fun w => absurd w (by decide)⟩
              rw [e20]
              refine stay h1 hE ?_
              unfold goesB freeB
              rw [← e12, hg]
              simp
            · rw [if_neg hg]
              refine ⟨fun w => absurd rfl w, fun _ => m_leafOf hb0 (by omega) ?_⟩
              rw [e2]
              refine m_standsOn (by omega) g277 F6' ?_
              rw [w1]
              refine ⟨fun w v27 e27 => ?_, fun w => ?_⟩
              · rw [e27]
                refine stay h1 hE ?_
                unfold goesB freeB
                rw [← e12]
                simp [w]
              · rw [w_id (x := 4 * b) (by omega) (by omega), w_id (x := 7 + 4 * b) (by omega) (by omega), w_id (x := 7 + 4 * b + 1) (by omega) (by omega)]
                refine ⟨by omega, by omega, fun h30 e30 v31 e31 => ?_⟩
                rw [e31]
                have hgo : goesB (vM h 286 0 nb) nc nb tr cS o b = true := by
                  unfold goesB freeB
                  rw [← e12]
                  simp [hem, y, w, hg, show v12 < nc by omega]
                rw [if_pos hgo] at hK
                have ei : 7 + 4 * b + 1 = 8 + 4 * b := by omega
                rw [ei] at e30
                have w30 : vM h30 286 0 nb = mf_up (vM h 286 0 nb) 3 b (vM h 286 0 nb 3 b + 1) := by
                  rw [e30, vM_up (j := 3) (k := b) (by omega) (by omega) (by omega) hb0 (by omega), w1, e12]
                have Dl : dR h1 h30 [] := by
                  have hr : ∀ r, r ≠ 286 → h30 r = h1 r := fun r q => by rw [e30, up_row q]
                  have hk : ∀ k, k ≠ 8 + 4 * b → h30 286 k = h1 286 k := fun k q => by rw [e30, up_col q]
                  refine ⟨⟨fun x _ q2 _ _ => hr x q2, fun k _ _ _ _ _ _ => by rw [hr 245 (by decide)]⟩, by rw [hr 245 (by decide)], by rw [hr 245 (by decide)], hk 0 (by omega), ⟨fun _ k hk2 => hk k (by omega), fun _ ks hks => kpM_hi (fun k hk2 => hk k (by omega)) hks⟩, fun _ x _ _ => by rw [hr 288 (by decide)]; simp [cntS], fun _ _ => by rw [hr 245 (by decide)]; simp⟩
                have D2 : dR h h30 [] := by simpa using (dR.ofE hE).tr Dl
                refine ih (b + 1) h30 (by omega) (by omega) (hi.next D2 (by rw [w30]; exact hi.2.1.walk hb0 (by omega) (by omega))) (fun h3 hv3 hR3 hi3 => ?_)
                rw [w30] at hv3
                exact hK h3 hv3 (by simpa using D2.tr hR3) hi3
        · rw [e32]
          refine stay h1 hE ?_
          unfold goesB
          simp [y]
/-- a day by an opening, in the reference -/
theorem m_dayBy {h : mf_M} (hd : 4 ≤ d) (ho1 : -1000 ≤ o) (ho2 : o ≤ 1000) (hf : folM h nl nc nb tr cO cC cT cS) (hs : stS (vM h 286 0 nb) nl nc nb) (hx : h 245 61 = 0 → ∃ ks, kpM h 286 0 ks)
    (hK : ∀ h', vM h' 286 0 nb = (dayS nl nc nb tr cC cT cS o (vM h 286 0 nb)).1 → frD h h' → h' 286 0 = h 286 0 + 1 → kpR h h' (dayS nl nc nb tr cC cT cS o (vM h 286 0 nb)).2 → inR h h' (dayS nl nc nb tr cC cT cS o (vM h 286 0 nb)).2 → mgR h h' (dayS nl nc nb tr cC cT cS o (vM h 286 0 nb)).2 → h' 245 59 = o → (∃ σ, vM h' 286 0 nb = mf_up σ 0 0 (σ 0 0 + 1) ∧ stS σ nl nc nb) → (h' 245 61 = 0 → ∃ ks, kpM h' 286 0 ks) → L 0 h') : mM C l d YX12_dayBy [(2, 245), (0, o)] h L := by
  refine wX12_dayBy (fun h1 e1 h2 e2 => ?_)
  have r2 : ∀ x, x ≠ 245 → h2 x = h x := fun x q => by rw [e2, up_row q, e1, up_row q]
  have c2 : ∀ k, k ≠ 58 → k ≠ 59 → h2 245 k = h 245 k := fun k q1 q2 => by rw [e2, up_col q1, e1, up_col q2]
  have w2 : vM h2 286 0 nb = vM h 286 0 nb := vM_row (r2 286 (by decide))
  have i59 : h2 245 59 = o := by rw [e2, up_col (by decide), e1, up_self]
  have i58 : h2 245 58 = h2 286 0 := by rw [e2, up_self, up_row (by decide)]
  have e286 : h2 286 = h 286 := r2 286 (by decide)
  have kp2 : ∀ ks, kpM h 286 0 ks → kpM h2 286 0 ks := fun ks hks => by unfold kpM at hks ⊢; rw [e286]; exact hks
  have hi : inD h2 nl nc nb o tr cO cC cT cS := ⟨hf.keep (fun x q1 _ _ _ => r2 x q1), by rw [w2]; exact hs, i59, i58, fun q => by
    rw [c2 61 (by decide) (by decide)] at q
    obtain ⟨ks, hks⟩ := hx q
    exact ⟨ks, kp2 ks hks⟩⟩
  have hn0 := hf.2.2.2.2.2.1.1
  refine m_outer hd ho1 ho2 nb.toNat 0 h2 (by decide) (by omega) hi (fun h3 hv3 hR3 hs3 => ?_)
  have hi3 := hi.next hR3 hs3
  refine m_reap hd ho1 ho2 nb.toNat 0 h3 (by decide) (by omega) hi3 (fun h4 hv4 hR4 hi4 => ?_)
  refine m_walk hd ho1 ho2 nb.toNat 0 h4 (by decide) (by omega) hi4 (fun h5 hv5 hR5 hi5 => ?_)
  rw [w2] at hv3 hR3
  rw [hv3] at hv4
  rw [hv4] at hv5
  have R : dR h2 h5 (dayS nl nc nb tr cC cT cS o (vM h 286 0 nb)).2 := by
    have h9 := (hR3.tr hR4).tr hR5
    simpa [dayS] using h9
  obtain ⟨f1, f2, f3, f4, ⟨f5, f6⟩, f7, f8⟩ := R
  have z61 : h2 245 61 = h 245 61 := c2 61 (by decide) (by decide)
  have hi39 : ∀ k, k ≠ 0 → mf_up h5 286 0 (h5 286 0 + 1) 286 k = h5 286 k := fun k hk => up_col hk
  have vfin : vM (mf_up h5 286 0 (h5 286 0 + 1)) 286 0 nb = mf_up (vM h5 286 0 nb) 0 0 (vM h5 286 0 nb 0 0 + 1) := by
    rw [vM_day]
    funext i m
    rw [up_if]
    unfold vM
    by_cases e0 : i = 0
    · subst e0
      rw [if_pos rfl]
      by_cases e9 : m = 0
      · rw [if_pos e9, if_pos ⟨rfl, e9⟩, up_self]
      · rw [if_neg e9, if_neg (show ¬ ((0 : Int) = 0 ∧ m = 0) from fun q => e9 q.2), if_pos rfl, if_neg e9]
    · rw [if_neg e0, if_neg (show ¬ (i = 0 ∧ m = 0) from fun q => e0 q.1), if_neg e0]
      by_cases e1 : i = 1
      · rw [if_pos e1, if_pos e1]
        by_cases e2 : 0 ≤ m ∧ m < 6
        · rw [if_pos e2, if_pos e2, hi39 _ (by omega)]
        · rw [if_neg e2, if_neg e2]
      · rw [if_neg e1, if_neg e1]
        by_cases e2 : 2 ≤ i ∧ i ≤ 5 ∧ 0 ≤ m ∧ m < nb
        · rw [if_pos e2, if_pos e2, hi39 _ (by omega)]
        · rw [if_neg e2, if_neg e2]
  have rr : ∀ r, r ≠ 286 → mf_up h5 286 0 (h5 286 0 + 1) r = h5 r := fun r q => up_row q
  refine hK _ ?_ ⟨fun x q1 q2 q3 q4 => by rw [rr x q2, f1.1 x q1 q2 q3 q4, r2 x q1], fun k q1 q2 q3 q4 q5 q6 => by rw [rr 245 (by decide), f1.2 k q1 q2 q3 q4 q5 q6, c2 k q2 q3]⟩ (by rw [up_self, f4, e286]) ⟨fun q k hk => ?_, fun q ks hks => ?_⟩ (fun q x hx0 hx8 => ?_) (fun q1 q2 => ?_) (by rw [rr 245 (by decide), f3]; exact i59) ⟨_, vfin, hi5.2.1⟩ (fun q => ?_)
  · rw [vfin, hv5]
    rfl
  · rw [hi39 k (by omega), f5 (by rw [z61]; exact q) k hk, e286]
  · have := f6 (by rw [z61]; exact q) ks (kp2 ks hks)
    rw [e286] at this
    exact kpM_hi (fun k hk => hi39 k (by omega)) this
  · rw [rr 288 (by decide)]
    have e8 : h2 288 = h 288 := r2 288 (by decide)
    have := f7 (fun b h0 h8 => by rw [e8]; exact q b h0 h8) x hx0 hx8
    rw [e8] at this
    exact this
  · rw [rr 245 (by decide)]
    have e62 : h2 245 62 = h 245 62 := c2 62 (by decide) (by decide)
    have := f8 (by rw [e62]; exact q1) (by rw [e62]; exact q2)
    rw [e62] at this
    exact this
  · rw [rr 245 (by decide)] at q
    obtain ⟨ks, hks⟩ := hi5.2.2.2.2 q
    exact ⟨ks, kpM_hi (fun k hk => hi39 k (by omega)) hks⟩
end SpW
