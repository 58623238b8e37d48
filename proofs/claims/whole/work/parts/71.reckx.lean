/-! the class reckons -/
theorem step_len (E mt : Int → Int) (c : Int) (st : List Int) : (stepS E mt c st).length ≤ st.length + 1 := by
  unfold stepS
  split
  · simp
  · split
    · cases st <;> simp
    · split
      · simp
      · split
        · simp
        · split
          · cases st <;> simp
          · match st with
            | [] => simp
            | [a] => simp
            | b :: a :: t => simp <;> omega
theorem okT_step {E mt : Int → Int} {c : Int} {cs : List Int} {st : List Int} {ty : List Bool} {f : Bool} (ho : okT (c :: cs) ty f) (hv : okV st ty) (ht : ty.length ≤ 60) : (stepS E mt c st).length ≤ 60 := by
  have hlen := hv.len
  have hpush : ty.length < 60 ∨ (stepS E mt c st).length ≤ st.length := by
    unfold okT at ho
    unfold stepS
    split at ho
    · exact Or.inl ho.2.1
    · rename_i h1
      rw [if_neg h1]
      split at ho
      · rename_i h2
        rw [if_pos h2]
        right
        cases st <;> simp
      · rename_i h2
        rw [if_neg h2]
        split at ho
        · exact Or.inl ho.2.1
        · rename_i h3
          rw [if_neg h3]
          split at ho
          · exact Or.inl ho.1
          · rename_i h4
            rw [if_neg h4]
            right
            split
            · cases st <;> simp
            · match st with
              | [] => simp
              | [a] => simp
              | b :: a :: t => simp
  have := step_len E mt c st
  rcases hpush with hp | hp <;> omega
section SxR
variable {C : mf_G} {l : Launch} {d : Nat} {K : mf_Kt} {g : mf_M}
theorem x_reckonL {h0 : mf_M} {a en : Int} {f : Bool} (hd : 3 ≤ d) (ha : mf_is 319 a 4) (h47 : a + 1 ≠ 47) (h50 : a + 1 ≠ 50) (hen2 : en ≤ 1600) :
    ∀ (cs : List Int) (k : Int) (st : List Int) (ty : List Bool) (h : mf_M), frK h0 h → 0 ≤ k → k + cs.length = en → (∀ j : Nat, j < cs.length → h0 (a + 1) (k + j) = clC (cs.getD j 0)) → (∀ c ∈ cs, 40 ≤ c → c < 60 → -1000000 ≤ h0 48 (c - 40) ∧ h0 48 (c - 40) ≤ 1000000) → okT cs ty f → okV st ty → ty.length ≤ 60 → stX h st (h 47 3) →
      (∀ h', frK h0 h' → K ((evS (h0 48) (mtX h0) cs st).headD 0) g h') → BX3_reckon_42 C l d K a en k g h := by
  have hmt : ∀ v, mtX h0 v = 0 ∨ mtX h0 v = 1 := fun v => by unfold mtX; split <;> simp
  intro cs
  induction cs with
  | nil =>
    intro k st ty h hf hk hlen _ _ ho hv _ hst hL
    simp only [List.length_nil] at hlen
    refine vX3_reckon_42 (by omega) ⟨fun _ => ?_, fun q => absurd (by omega) q⟩
    unfold okT at ho
    subst ho
    match st, hv with
    | [v], hv =>
      have hl := hst.len
      simp only [List.length_cons, List.length_nil] at hl
      have h9 := hst.1
      rw [hl] at h9 ⊢
      have e : ((0 + 1 : Nat) : Int) - 1 = 0 := by decide
      rw [e] at h9 ⊢
      refine ⟨fun q => absurd q (by decide), fun _ => ?_⟩
      rw [w_id (by decide) (by decide), h9]
      exact ⟨by decide, by decide, hL h hf⟩
  | cons c cs ih =>
    intro k st ty h hf hk hlen hcs hE ho hv hty hst hL
    simp only [List.length_cons] at hlen
    have hc0 : h (a + 1) k = clC c := by
      rw [hf (a + 1) h47 h50]
      have := hcs 0 (by simp)
      simpa using this
    have hlen1 := hv.len
    have hstl := hst.len
    obtain ⟨ty', ho', hv'⟩ := okV_step (E := h0 48) (hE c List.mem_cons_self) hmt ho hv
    have next : ∀ h', frK h0 h' → stX h' (stepS (h0 48) (mtX h0) c st) (h' 47 3) → BX3_reckon_42 C l d K a en (k + 1) g h' := by
      intro h' hf' hst'
      refine ih (k + 1) _ ty' h' hf' (by omega) (by omega) (fun j hj => ?_) (fun x hx => hE x (List.mem_cons_of_mem _ hx)) ho' hv' ?_ hst' hL
      · have := hcs (j + 1) (by simpa using hj)
        have e : k + ((j + 1 : Nat) : Int) = k + 1 + j := by omega
        rw [e] at this
        simpa using this
      · have h8 := hv'.len
        have h9 := okT_step (E := h0 48) (mt := mtX h0) ho hv hty
        omega
    have hw : mf_w32 (k + 1) = k + 1 := w_id (by omega) (by omega)
    refine vX3_reckon_42 (by omega) ⟨fun q => absurd q (by omega), fun _ => ⟨ha, by omega, by omega, fun v6 ev6 => ?_⟩⟩
    rw [hc0] at ev6
    rw [hw]
    have push : ∀ x, x :: st = stepS (h0 48) (mtX h0) c st → xM C l 0 YX3_push [(2, 47), (0, x)] g h (fun r19 g20 h21 => (∀ v22 : Int, v22 = k + 1 → BX3_reckon_42 C l d K a en v22 g20 h21)) := by
      intro x hx
      refine x_push hst (by omega) (fun h' hf' hst' v9 ev9 => ?_)
      rw [ev9]
      rw [hx] at hst'
      exact next h' (hf.tr hf') hst'
    -- by the code's kind
    by_cases k1 : 1000 ≤ c
    · have hle : c ≤ 10999 := by unfold okT at ho; rw [if_pos k1] at ho; exact ho.1
      have e6 : v6 = c - 960 := by rw [ev6]; unfold clC; rw [if_pos k1]
      refine ⟨fun q => absurd q (by omega), fun _ => push _ ?_⟩
      rw [w_id (by omega) (by omega)]
      unfold stepS
      rw [if_pos k1, show v6 - 40 = c - 1000 by omega]
    by_cases k2 : 60 ≤ c
    · have e6 : v6 = 13 := by rw [ev6]; unfold clC; rw [if_neg k1, if_pos k2]
      unfold okT at ho
      rw [if_neg k1, if_pos k2] at ho
      obtain ⟨-, ⟨t, rfl⟩, -⟩ := ho
      match st, hv with
      | x :: st', hv =>
        simp only [List.length_cons] at hlen1 hty
        have hmx : mtX h x = mtX h0 x := by unfold mtX; rw [hf 49 (by decide) (by decide)]
        refine ⟨fun _ => ⟨fun _ => ⟨fun q => absurd q (by omega), fun _ => ⟨fun q => absurd e6 q, fun _ => ?_⟩⟩, fun q => absurd q (by omega)⟩, fun q => absurd q (by omega)⟩
        refine x_change (v := mtX h0 x) hst (by omega) (by rw [if_neg (by omega), hmx]) (fun h' hf' hst' v9 ev9 => ?_)
        rw [ev9]
        refine next h' (hf.tr hf') ?_
        unfold stepS
        rw [if_neg k1, if_pos k2]
        exact hst'
    by_cases k3 : 40 ≤ c
    · have e6 : v6 = c - 20 := by rw [ev6]; unfold clC; rw [if_neg k1, if_neg k2, if_pos k3]
      have hle : c ≤ 48 := by unfold okT at ho; rw [if_neg k1, if_neg k2, if_pos k3] at ho; exact ho.1
      refine ⟨fun _ => ⟨fun q => absurd q (by omega), fun _ => ?_⟩, fun q => absurd q (by omega)⟩
      rw [w_id (x := v6 - 20) (by omega) (by omega)]
      refine ⟨fun q => absurd q (by omega), fun _ => ⟨by omega, by omega, push _ ?_⟩⟩
      unfold stepS
      rw [if_neg k1, if_neg k2, if_pos k3, hf 48 (by decide) (by decide), show v6 - 20 = c - 40 by omega]
    by_cases k4 : c = 13
    · have e6 : v6 = 41 := by rw [ev6]; unfold clC; rw [if_neg k1, if_neg k2, if_neg k3, if_pos k4]
      refine ⟨fun q => absurd q (by omega), fun _ => push _ ?_⟩
      rw [e6, w_id (by decide) (by decide)]
      unfold stepS
      rw [if_neg k1, if_neg k2, if_neg k3, if_pos k4]
      rfl
    have e6 : v6 = c := by rw [ev6]; unfold clC; rw [if_neg k1, if_neg k2, if_neg k3, if_neg k4]
    subst e6
    by_cases k5 : v6 = 12
    · unfold okT at ho
      rw [if_neg k1, if_neg k2, if_neg k3, if_neg k4, if_pos k5] at ho
      obtain ⟨⟨t, rfl⟩, -⟩ := ho
      match st, hv with
      | x :: st', hv =>
        simp only [List.length_cons] at hlen1 hty
        have hx : x = 0 ∨ x = 1 := by simpa using hv.1
        refine ⟨fun _ => ⟨fun _ => ⟨fun _ => ?_, fun q => absurd k5 q⟩, fun q => absurd q (by omega)⟩, fun q => absurd q (by omega)⟩
        refine x_change (v := 1 - x) hst (by omega) (by rw [if_pos k5]; rcases hx with rfl | rfl <;> rfl) (fun h' hf' hst' v9 ev9 => ?_)
        rw [ev9]
        refine next h' (hf.tr hf') ?_
        unfold stepS
        rw [if_neg k1, if_neg k2, if_neg k3, if_neg k4, if_pos k5]
        exact hst'
    · have hstep : ∃ bb aa t, st = bb :: aa :: t ∧ 1 ≤ v6 ∧ v6 ≤ 11 ∧ -1000000 ≤ aa ∧ aa ≤ 1000000 ∧ -1000000 ≤ bb ∧ bb ≤ 1000000 ∧ (10 ≤ v6 → (aa = 0 ∨ aa = 1) ∧ (bb = 0 ∨ bb = 1)) := by
        unfold okT at ho
        rw [if_neg k1, if_neg k2, if_neg k3, if_neg k4, if_neg k5] at ho
        split at ho
        · obtain ⟨t, rfl, -⟩ := ho
          match st, hv with
          | bb :: aa :: t', hv =>
            have h1 := hv.1
            have h2 := hv.2.1
            simp at h1 h2
            exact ⟨bb, aa, t', rfl, by omega, by omega, by omega, by omega, by omega, by omega, fun _ => ⟨h2, h1⟩⟩
        · split at ho
          · obtain ⟨t, rfl, -⟩ := ho
            match st, hv with
            | bb :: aa :: t', hv =>
              have h1 := hv.1
              have h2 := hv.2.1
              simp at h1 h2
              exact ⟨bb, aa, t', rfl, by omega, by omega, by omega, by omega, by omega, by omega, fun q => absurd q (by omega)⟩
          · obtain ⟨hc1, hc6, t, rfl, -⟩ := ho
            match st, hv with
            | bb :: aa :: t', hv =>
              have h1 := hv.1
              have h2 := hv.2.1
              simp at h1 h2
              exact ⟨bb, aa, t', rfl, by omega, by omega, by omega, by omega, by omega, by omega, fun q => absurd q (by omega)⟩
      obtain ⟨bb, aa, t, rfl, hc1, hc11, ha1, ha2, hb1, hb2, htt⟩ := hstep
      simp only [List.length_cons] at hlen1
      refine ⟨fun _ => ⟨fun _ => ⟨fun q => absurd q k5, fun _ => ⟨fun _ => ?_, fun q => absurd q k4⟩⟩, fun q => absurd q (by omega)⟩, fun q => absurd q (by omega)⟩
      refine x_joinTwo hst (by omega) ha1 ha2 hb1 hb2 hc1 hc11 htt (fun h' hf' hst' v9 ev9 => ?_)
      rw [ev9]
      refine next h' (hf.tr hf') ?_
      unfold stepS
      rw [if_neg k1, if_neg k2, if_neg k3, if_neg k4, if_neg k5]
      exact hst'
theorem x_reckon {h : mf_M} {a s : Int} {cs : List Int} {f : Bool} (hd : 3 ≤ d) (ha : mf_is 319 a 4) (h47 : a + 1 ≠ 47 ∧ a + 2 ≠ 47 ∧ a + 3 ≠ 47) (h50 : a + 1 ≠ 50) (s0 : 0 ≤ s) (s3 : s ≤ 3) (hs : scrX h a s cs) (ho : cs ≠ [] → okT cs [] f) (hE : ∀ c ∈ cs, 40 ≤ c → c < 60 → -1000000 ≤ h 48 (c - 40) ∧ h 48 (c - 40) ≤ 1000000) (hK : ∀ h', frK h h' → K (valS (h 48) (mtX h) cs) g h') : xM C l d YX3_reckon [(2, 47), (2, a), (0, s)] g h K := by
  refine wX3_reckon (by omega) (fun h1 e1 => ⟨ha, wX4_isTold ⟨fun q => absurd q (by omega), fun _ => ⟨fun q => absurd q (by omega), fun _ => ⟨ha, s0, by omega, ?_⟩⟩⟩⟩)
  have hf1 : frK h h1 := by rw [e1]; exact frK.up47 _ _ _
  have r1 : h1 (a + 1) = h (a + 1) := by rw [e1, up_row h47.1]
  have r2 : h1 (a + 2) = h (a + 2) := by rw [e1, up_row h47.2.1]
  have r3 : h1 (a + 3) = h (a + 3) := by rw [e1, up_row h47.2.2]
  rw [r2, r3]
  rcases hs with ⟨e, hs⟩ | ⟨hne, c1, c2, c3, c4⟩
  · subst e
    exact ⟨fun _ => ⟨fun q => absurd rfl q, fun _ => hK h1 hf1⟩, fun q => absurd hs q⟩
  · have hpos : 0 < cs.length := List.length_pos_iff.mpr hne
    refine ⟨fun q => absurd q (by omega), fun _ => ⟨fun _ => ⟨s0, by omega, ?_⟩, fun q => absurd q (by decide)⟩⟩
    refine x_min ?_
    rw [if_neg (by omega)]
    rw [r2]
    refine x_max ?_
    have em : (if (0 : Int) < h (a + 2) s then h (a + 2) s else 0) = h (a + 2) s := by split <;> omega
    rw [em]
    have e48 : h1 48 = h 48 := by rw [e1, up_row (by decide)]
    have e49 : mtX h1 = mtX h := by unfold mtX; rw [e1, up_row (by decide)]
    refine x_reckonL (h0 := h1) (f := f) hd ha h47.1 h50 c3 cs _ [] [] h1 (frK.rf _) c1 c2 (fun j hj => by rw [r1]; exact c4 j hj) (by rw [e48]; exact hE) (ho hne) trivial (by simp) ?_ (fun h' hf' => ?_)
    · show h1 47 3 = 0
      rw [e1, up_self]
    · rw [e48, e49]
      exact hK h' (hf1.tr hf')
end SxR
