section SpTL
variable {C : mf_G} {l : Launch} {d : Nat} {L : Int → mf_M → Prop}
set_option maxRecDepth 100000 in
theorem okV_step {E mt : Int → Int} {c : Int} (hE : 40 ≤ c → c < 60 → -1000000 ≤ E (c - 40) ∧ E (c - 40) ≤ 1000000) (hmt : ∀ v, mt v = 0 ∨ mt v = 1) {cs : List Int} {st : List Int} {ty : List Bool} {f : Bool} (ho : okT (c :: cs) ty f) (hv : okV st ty) : ∃ ty', okT cs ty' f ∧ okV (stepS E mt c st) ty' := by
  unfold okT at ho
  unfold stepS
  split at ho
  · rename_i h1
    rw [if_pos h1]
    exact ⟨_, ho.2.2, ⟨by simp; omega, hv⟩⟩
  · rename_i h1
    rw [if_neg h1]
    split at ho
    · rename_i h2
      rw [if_pos h2]
      obtain ⟨-, ⟨t, rfl⟩, ho⟩ := ho
      cases st with
      | nil => exact hv.elim
      | cons a st =>
        refine ⟨_, ho, ⟨?_, hv.2⟩⟩
        have := hmt a
        simp; omega
    · rename_i h2
      rw [if_neg h2]
      split at ho
      · rename_i h3
        rw [if_pos h3]
        refine ⟨_, ho.2.2, ⟨?_, hv⟩⟩
        have := hE (by omega) (by omega)
        simpa using this
      · rename_i h3
        rw [if_neg h3]
        split at ho
        · rename_i h4
          rw [if_pos h4]
          exact ⟨_, ho.2, ⟨by simp, hv⟩⟩
        · rename_i h4
          rw [if_neg h4]
          split at ho
          · rename_i h5
            rw [if_pos h5]
            obtain ⟨⟨t, rfl⟩, ho⟩ := ho
            cases st with
            | nil => exact hv.elim
            | cons a st =>
              refine ⟨_, ho, ⟨?_, hv.2⟩⟩
              have h9 := hv.1
              simp at h9 ⊢
              omega
          · rename_i h5
            rw [if_neg h5]
            split at ho
            · rename_i h6
              obtain ⟨t, rfl, ho⟩ := ho
              match st, hv with
              | b :: a :: st, hv =>
                refine ⟨_, ho, ⟨?_, hv.2.2⟩⟩
                have hb := hv.1
                have ha := hv.2.1
                simp at ha hb ⊢
                rcases h6 with rfl | rfl
                · simp only [joinS]
                  rcases ha with rfl | rfl <;> rcases hb with rfl | rfl <;> decide
                · simp only [joinS]
                  rcases ha with rfl | rfl <;> rcases hb with rfl | rfl <;> decide
            · rename_i h6
              split at ho
              · rename_i h7
                obtain ⟨t, rfl, ho⟩ := ho
                match st, hv with
                | b :: a :: st, hv =>
                  refine ⟨_, ho, ⟨?_, hv.2.2⟩⟩
                  have hc : c = 7 ∨ c = 8 ∨ c = 9 := by omega
                  rcases hc with rfl | rfl | rfl
                  · simp only [joinS]; simpa using bi_range (a < b)
                  · simp only [joinS]; simpa using bi_range (b < a)
                  · simp only [joinS]; simpa using bi_range (a = b)
              · rename_i h7
                obtain ⟨hc1, hc6, t, rfl, ho⟩ := ho
                match st, hv with
                | b :: a :: st, hv =>
                  refine ⟨_, ho, ⟨?_, hv.2.2⟩⟩
                  have hb := hv.1
                  have ha := hv.2.1
                  simp at ha hb ⊢
                  have hc : c = 1 ∨ c = 2 ∨ c = 3 ∨ c = 4 ∨ c = 5 ∨ c = 6 := by omega
                  rcases hc with rfl | rfl | rfl | rfl | rfl | rfl
                  · rw [show joinS 1 a b = clS (a + b) by simp [joinS]]; exact cl_range _
                  · rw [show joinS 2 a b = clS (a - b) by simp [joinS]]; exact cl_range _
                  · rw [show joinS 3 a b = clS (a * b) by simp [joinS]]; exact cl_range _
                  · rw [show joinS 4 a b = flS a b by simp [joinS]]; exact fl_range ha.1 ha.2 hb.1 hb.2
                  · simp only [joinS]; simp; split <;> omega
                  · simp only [joinS]; simp; split <;> omega
theorem okT_len {c : Int} {cs : List Int} {ty : List Bool} {f : Bool} (ho : okT (c :: cs) ty f) : ty.length < 60 ∨ ∃ ty', okT cs ty' f ∧ ty'.length ≤ ty.length := by
  unfold okT at ho
  split at ho
  · exact Or.inl ho.2.1
  · split at ho
    · exact Or.inr ⟨_, ho.2.2, Nat.le_refl _⟩
    · split at ho
      · exact Or.inl ho.2.1
      · split at ho
        · exact Or.inl ho.1
        · split at ho
          · exact Or.inr ⟨_, ho.2, Nat.le_refl _⟩
          · split at ho
            · obtain ⟨t, rfl, ho⟩ := ho; exact Or.inr ⟨_, ho, by simp⟩
            · split at ho
              · obtain ⟨t, rfl, ho⟩ := ho; exact Or.inr ⟨_, ho, by simp⟩
              · obtain ⟨-, -, t, rfl, ho⟩ := ho; exact Or.inr ⟨_, ho, by simp⟩
/-- the loop of codesTell -/
theorem m_tellL {h0 : mf_M} {s b nb en : Int} {mt : Int → Int} {f : Bool} (hd : 2 ≤ d) (hs0 : 0 ≤ s) (hs3 : s ≤ 3) (hen : h0 284 (4 + s) = en) (hen2 : en ≤ 1600) (hn8 : nb ≤ 8) (ho1 : -2147483647 ≤ h0 245 59) (ho2 : h0 245 59 ≤ 2147483647) (hmt : ∀ v, mt v = 0 ∨ mt v = 1) :
    ∀ (cs : List Int) (k : Int) (st : List Int) (ty : List Bool) (h : mf_M), frE h0 h → 0 ≤ k → k + cs.length = en → (∀ j : Nat, j < cs.length → h0 285 (1600 + k + j) = cs.getD j 0) → (∀ c ∈ cs, ¬ (60 ≤ c ∧ c < 1000)) → (∀ c ∈ cs, 40 < c → c < 60 → 0 ≤ b ∧ b < nb) → (∀ c ∈ cs, 40 ≤ c → c < 60 → -1000000 ≤ envS (vM h0 286 0 nb) (fun i => h0 282 (8 + i)) (h0 245 58) (h0 245 59) (h0 245 60) b (c - 40) ∧ envS (vM h0 286 0 nb) (fun i => h0 282 (8 + i)) (h0 245 58) (h0 245 59) (h0 245 60) b (c - 40) ≤ 1000000) → okT cs ty f → okV st ty → ty.length ≤ 60 → stM h st (h 245 101) →
      (∀ h', frE h0 h' → L ((evS (envS (vM h0 286 0 nb) (fun i => h0 282 (8 + i)) (h0 245 58) (h0 245 59) (h0 245 60) b) mt cs st).headD 0) h') → BX12_codesTell_22 C l d L s b k h := by
  intro cs
  induction cs with
  | nil =>
    intro k st ty h hf hk hlen _ _ _ _ ho hv _ hst hL
    have e1 : h 284 (4 + s) = en := by rw [hf.1 284 (by decide) (by decide)]; exact hen
    refine vX12_codesTell_22 hd ?_
    rw [w_id (x := 4 + s) (by omega) (by omega), e1]
    simp only [List.length_nil] at hlen
    refine ⟨by omega, by omega, fun _ => ?_, fun q => absurd (by omega) q⟩
    unfold okT at ho
    subst ho
    match st, hv with
    | [v], hv =>
      have hl := hst.len
      simp only [List.length_cons, List.length_nil] at hl
      have h9 := hst.1
      rw [hl] at h9
      have e : ((0 + 1 : Nat) : Int) - 1 = 0 := by decide
      rw [e] at h9
      rw [h9]
      exact hL h hf
  | cons c cs ih =>
    intro k st ty h hf hk hlen hcs hno hbe hE ho hv hty hst hL
    have e1 : h 284 (4 + s) = en := by rw [hf.1 284 (by decide) (by decide)]; exact hen
    simp only [List.length_cons] at hlen
    have hc0 : h 285 (1600 + k) = c := by
      rw [hf.1 285 (by decide) (by decide)]
      have := hcs 0 (by simp)
      simpa using this
    have hlen1 := hv.len
    have hstl := hst.len
    obtain ⟨ty', ho', hv'⟩ := okV_step (hE c List.mem_cons_self) hmt ho hv
    have next : ∀ h', frE h0 h' → stM h' (stepS (envS (vM h0 286 0 nb) (fun i => h0 282 (8 + i)) (h0 245 58) (h0 245 59) (h0 245 60) b) mt c st) (h' 245 101) → BX12_codesTell_22 C l d L s b (k + 1) h' := by
      intro h' hf' hst'
      refine ih (k + 1) _ ty' h' hf' (by omega) (by omega) (fun j hj => ?_) (fun x hx => hno x (List.mem_cons_of_mem _ hx)) (fun x hx => hbe x (List.mem_cons_of_mem _ hx)) (fun x hx => hE x (List.mem_cons_of_mem _ hx)) ho' hv' ?_ hst' hL
      · have := hcs (j + 1) (by simpa using hj)
        have e : 1600 + k + ((j + 1 : Nat) : Int) = 1600 + (k + 1) + j := by omega
        rw [e] at this
        simpa using this
      · have h8 := hv'.len
        have h9 : (stepS (envS (vM h0 286 0 nb) (fun i => h0 282 (8 + i)) (h0 245 58) (h0 245 59) (h0 245 60) b) mt c st).length ≤ 60 := by
          have hpush : ty.length < 60 ∨ (stepS (envS (vM h0 286 0 nb) (fun i => h0 282 (8 + i)) (h0 245 58) (h0 245 59) (h0 245 60) b) mt c st).length ≤ st.length := by
            unfold okT at ho
            unfold stepS
            split at ho
            · exact Or.inl ho.2.1
            · rename_i h1
              rw [if_neg h1]
              split at ho
              · rename_i h2
                rw [if_pos h2]
                right
                cases st <;> simp
              · rename_i h2
                rw [if_neg h2]
                split at ho
                · exact Or.inl ho.2.1
                · rename_i h3
                  rw [if_neg h3]
                  split at ho
                  · exact Or.inl ho.1
                  · rename_i h4
                    rw [if_neg h4]
                    right
                    split
                    · cases st <;> simp
                    · match st with
                      | [] => simp
                      | [a] => simp
                      | b :: a :: t => simp
          rcases hpush with hp | hp
          · have : (stepS (envS (vM h0 286 0 nb) (fun i => h0 282 (8 + i)) (h0 245 58) (h0 245 59) (h0 245 60) b) mt c st).length ≤ st.length + 1 := by
              unfold stepS
              split
              · simp
              · split
                · cases st <;> simp
                · split
                  · simp
                  · split
                    · simp
                    · split
                      · cases st <;> simp
                      · match st with
                        | [] => simp
                        | [a] => simp
                        | b :: a :: t => simp <;> omega
            omega
          · omega
        omega
    have hev : h 286 = h0 286 := hf.1 286 (by decide) (by decide)
    have he2 : h 282 = h0 282 := hf.1 282 (by decide) (by decide)
    refine vX12_codesTell_22 hd ?_
    rw [w_id (x := 4 + s) (by omega) (by omega), e1, w_id (x := 1600 + k) (by omega) (by omega)]
    refine ⟨by omega, by omega, fun q => absurd q (by omega), fun _ => ⟨by omega, by omega, fun v5 ev5 => ?_⟩⟩
    rw [hc0] at ev5
    subst ev5
    have hw : mf_w32 (k + 1) = k + 1 := w_id (by omega) (by omega)
    rw [hw]
    refine ⟨fun q => ⟨fun q2 => ⟨fun q3 => ⟨fun q4 => ?_, fun q4 => ?_⟩, fun q3 => ?_⟩, fun q2 => ?_⟩, fun q => ?_⟩
    · -- two are joined
      have hstep : ∃ bb aa t, st = bb :: aa :: t ∧ 1 ≤ v5 ∧ v5 ≤ 11 ∧ -1000000 ≤ aa ∧ aa ≤ 1000000 ∧ -1000000 ≤ bb ∧ bb ≤ 1000000 := by
        unfold okT at ho
        rw [if_neg (by omega), if_neg (by omega), if_neg (by omega), if_neg q3, if_neg q4] at ho
        split at ho
        · obtain ⟨t, rfl, -⟩ := ho
          match st, hv with
          | bb :: aa :: t', hv =>
            have h1 := hv.1
            have h2 := hv.2.1
            simp at h1 h2
            exact ⟨bb, aa, t', rfl, by omega, by omega, by omega, by omega, by omega, by omega⟩
        · split at ho
          · obtain ⟨t, rfl, -⟩ := ho
            match st, hv with
            | bb :: aa :: t', hv =>
              have h1 := hv.1
              have h2 := hv.2.1
              simp at h1 h2
              exact ⟨bb, aa, t', rfl, by omega, by omega, by omega, by omega, by omega, by omega⟩
          · obtain ⟨hc1, hc6, t, rfl, -⟩ := ho
            match st, hv with
            | bb :: aa :: t', hv =>
              have h1 := hv.1
              have h2 := hv.2.1
              simp at h1 h2
              exact ⟨bb, aa, t', rfl, by omega, by omega, by omega, by omega, by omega, by omega⟩
      obtain ⟨bb, aa, t, rfl, hc1, hc11, ha1, ha2, hb1, hb2⟩ := hstep
      simp only [List.length_cons] at hlen1
      refine m_joins (by omega) hst (by omega) ha1 ha2 hb1 hb2 hc1 hc11 (fun h' hf' hst' v9 ev9 => ?_)
      rw [ev9]
      refine next h' (hf.tr hf') ?_
      unfold stepS
      rw [if_neg (by omega), if_neg (by omega), if_neg (by omega), if_neg q3, if_neg q4]
      exact hst'
    · -- not
      subst q4
      have hstep : ∃ a t, st = a :: t ∧ (a = 0 ∨ a = 1) := by
        unfold okT at ho
        rw [if_neg (by decide), if_neg (by decide), if_neg (by decide), if_neg (by decide), if_pos rfl] at ho
        obtain ⟨⟨t, rfl⟩, -⟩ := ho
        match st, hv with
        | a :: t', hv => exact ⟨a, t', rfl, by simpa using hv.1⟩
      obtain ⟨a, t, rfl, ha⟩ := hstep
      simp only [List.length_cons] at hstl hlen1
      obtain ⟨g1, g2, g3⟩ := hst
      rw [w_id (x := h 245 101 - 1) (by omega) (by omega), g1, w64_id (x := 1 - a) (by omega) (by omega)]
      refine ⟨by omega, by omega, fun h12 e12 v13 ev13 => ?_⟩
      rw [ev13]
      have e101 : h12 245 101 = h 245 101 := by rw [e12, up_row (by decide)]
      refine next h12 (hf.tr (by rw [e12]; exact frE.up317 _ _ _)) ?_
      unfold stepS
      rw [if_neg (by decide), if_neg (by decide), if_neg (by decide), if_neg (by decide), if_pos rfl, e101]
      refine ⟨by rw [e12, up_self], g2, g3.keep (fun i h1 h2 => by rw [e12, up_col (by omega)])⟩
    · -- all
      subst q3
      refine m_puts hst (by omega) (fun h' hf' hst' v9 ev9 => ?_)
      rw [ev9]
      refine next h' (hf.tr hf') ?_
      unfold stepS
      rw [if_neg (by decide), if_neg (by decide), if_neg (by decide), if_pos rfl]
      exact hst'
    · -- a part
      have hlt60 : v5 < 60 := by
        have := hno v5 List.mem_cons_self
        omega
      have hle : v5 ≤ 48 := by
        unfold okT at ho
        rw [if_neg (by omega), if_neg (by omega), if_pos (by omega)] at ho
        exact ho.1
      rw [w_id (x := v5 - 40) (by omega) (by omega)]
      have g58 : h 245 58 = h0 245 58 := hf.2 58 (by decide) (by decide)
      have g59 : h 245 59 = h0 245 59 := hf.2 59 (by decide) (by decide)
      have g60 : h 245 60 = h0 245 60 := hf.2 60 (by decide) (by decide)
      have fin : ∀ x, x = envS (vM h0 286 0 nb) (fun i => h0 282 (8 + i)) (h0 245 58) (h0 245 59) (h0 245 60) b (v5 - 40) → mM C l 0 YX12_qPuts [(2, 245), (1, x)] h (fun r21 h23 => (∀ v24 : Int, v24 = k + 1 → BX12_codesTell_22 C l d L s b v24 h23)) := by
        intro x hx
        refine m_puts hst (by omega) (fun h' hf' hst' v9 ev9 => ?_)
        rw [ev9]
        refine next h' (hf.tr hf') ?_
        unfold stepS
        rw [if_neg (by omega), if_neg (by omega), if_pos (by omega), ← hx]
        exact hst'
      by_cases h40 : v5 = 40
      · subst h40
        refine wX12_qPartOf (by omega) ⟨fun _ => fin _ ?_, fun z => absurd z (by decide), fun z => absurd z (by decide), fun z => absurd z (by decide), fun z => absurd z (by decide), fun z => absurd z (by decide), fun z => absurd z (by decide), fun z => absurd z (by decide), fun z => absurd z (by decide)⟩
        rw [g58]
        simp [envS]
      · obtain ⟨hb0, hbn⟩ := hbe v5 List.mem_cons_self (by omega) hlt60
        refine m_partOf (nb := nb) (by omega) (by omega) (by omega) hb0 hbn hn8 (by rw [g59]; exact ho1) (by rw [g59]; exact ho2) (fin _ ?_)
        rw [g58, g59, g60, vM_row hev, he2]
    · -- a number
      have hle : v5 ≤ 10999 := by
        unfold okT at ho
        rw [if_pos (by omega)] at ho
        exact ho.1
      rw [w_id (x := v5 - 1000) (by omega) (by omega)]
      refine m_puts hst (by omega) (fun h' hf' hst' v9 ev9 => ?_)
      rw [ev9]
      refine next h' (hf.tr hf') ?_
      unfold stepS
      rw [if_pos (by omega)]
      exact hst'
end SpTL
