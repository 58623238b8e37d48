/-! beings, rules and all statements in the reference -/
theorem pv_inj2 : ∀ (a b : List Int), (∀ x ∈ a, 1 ≤ x ∧ x ≤ 26) → (∀ x ∈ b, 1 ≤ x ∧ x ≤ 26) → pvS a = pvS b → a = b
  | [], [], _, _, _ => rfl
  | [], y :: b, _, hb, h => by
    have h2 := hb y List.mem_cons_self
    have h3 := (pv_range0 b (fun z hz => by have := hb z (List.mem_cons_of_mem _ hz); omega)).1
    have e' : pvS (y :: b) = 27 * pvS b + y := rfl
    have e : pvS ([] : List Int) = 0 := rfl
    omega
  | x :: a, [], ha, _, h => by
    have h2 := ha x List.mem_cons_self
    have h3 := (pv_range0 a (fun z hz => by have := ha z (List.mem_cons_of_mem _ hz); omega)).1
    have e' : pvS (x :: a) = 27 * pvS a + x := rfl
    have e : pvS ([] : List Int) = 0 := rfl
    omega
  | x :: a, y :: b, ha, hb, h => by
    have h1 := ha x List.mem_cons_self
    have h2 := hb y List.mem_cons_self
    have e : pvS (x :: a) = 27 * pvS a + x := rfl
    have e' : pvS (y :: b) = 27 * pvS b + y := rfl
    rw [e, e'] at h
    have hx : x = y := by omega
    have ht := pv_inj2 a b (fun z hz => ha z (List.mem_cons_of_mem _ hz)) (fun z hz => hb z (List.mem_cons_of_mem _ hz)) (by omega)
    rw [hx, ht]
theorem pkS_inj {a b : List Int} (ha : ∀ x ∈ a, 1 ≤ x ∧ x ≤ 26) (hb : ∀ x ∈ b, 1 ≤ x ∧ x ≤ 26) (h : pkS a = pkS b) : a = b := by
  have e1 : pkS a = pvS a.reverse := by rw [← pk_rev, List.reverse_reverse]
  have e2 : pkS b = pvS b.reverse := by rw [← pk_rev, List.reverse_reverse]
  rw [e1, e2] at h
  have := pv_inj2 _ _ (fun x hx => ha x (List.mem_reverse.mp hx)) (fun x hx => hb x (List.mem_reverse.mp hx)) h
  have h2 := congrArg List.reverse this
  rw [List.reverse_reverse, List.reverse_reverse] at h2
  exact h2
theorem hasN_le {F : aF} {w : List Int} : ∀ (n m : Nat), n ≤ m → hasN F w n = true → hasN F w m = true
  | n, 0, h, hn => by have : n = 0 := by omega
                      subst this; exact hn
  | n, m + 1, h, hn => by
    by_cases e : n = m + 1
    · rw [← e]; exact hn
    · unfold hasN
      rw [hasN_le n m (by omega) hn]; rfl
section SpF2
variable {C : mf_G} {l : Launch} {d : Nat} {L : Int → mf_M → Prop} {h0 : mf_M} {T : aT} {n : Int} {q : aQ} {D : aW}
/-- where a fault stands, nothing more is read -/
theorem F_being {h : mf_M} {v : Int} (hd : 4 ≤ d) (F : ¬ h 245 5 = 0) (b0 : 0 ≤ h 277 0) (b8 : h 277 0 ≤ 8) (hK : L 0 h) : ∀ (m : Nat) (k : Int), 0 ≤ k → (k + m = h 277 0 ∨ (m = 0 ∧ h 277 0 ≤ k)) → k ≤ 100 → BX12_beingTold_20 C l d L v k h := by
  intro m
  induction m with
  | zero =>
    intro k k0 km k1
    refine vX12_beingTold_20 hd ⟨fun _ => F_wrd (by decide) F (F_leaf (by decide) F (F_wrd (by decide) F (F_cell (by decide) F (F_wrd (by decide) F (F_num (by decide) F ⟨fun z => absurd z F, fun _ => hK⟩))))), fun z => absurd (by omega) z⟩
  | succ m ih =>
    intro k k0 km k1
    refine vX12_beingTold_20 hd ⟨fun z => absurd z (by omega), fun _ => ⟨fun _ v32 e32 => ?_, fun z => absurd z F⟩⟩
    rw [w_id (by omega) (by omega)] at e32
    rw [e32]
    exact ih (k + 1) (by omega) (by omega) (by omega)
theorem N_being {h : mf_M} {q0 : aQ} (hd : 4 ≤ d) (o : okD D) (q1 : (tN T q0).1 ≤ T.2) (P : DMm h0 T n (tN T q0) D h) (hE : ∀ e, beiS T D q0 = .error e → ∀ h', FNm h0 e h' → L 0 h') (hO : ∀ x, beiS T D q0 = .ok x → ∀ h', DMm h0 T n x.1 x.2 h' → L 0 h') : mM C l d YX12_beingTold [(2, 245), (0, tA T q0)] h L := by
  have b8 := o.1.b8
  have b0 := o.1.b0
  have l6 := o.1.l6
  unfold beiS at hE hO
  refine wX12_beingTold hd (m_isFull (by decide) P (by decide) (by decide) (fun z h1 F1 => ⟨fun y => absurd y (by decide), fun _ => hE _ ?_ h1 F1⟩) (fun z => ⟨fun _ => ?_, fun y => absurd rfl y⟩))
  · rw [P.2.2.1.2.1.1] at z
    rw [if_pos (by omega)]
  · rw [P.2.2.1.2.1.1] at z
    rw [if_neg (by omega)] at hE hO
    have fb : ∀ (e : Int × Int) (h1 : mf_M) (v : Int), namS T D.1 (tN T q0) = .error e → FNm h0 e h1 → h1 277 0 = D.1.nb → ∀ k, 0 ≤ k → k ≤ 9 → BX12_beingTold_20 C l d L v k h1 := fun e h1 v he F1 hb k k0 k1 => F_being hd F1.2.1 (by omega) (by omega) (hE e (by rw [he]; rfl) h1 F1) (D.1.nb - k).toNat k k0 (by omega) (by omega)
    refine M_name (by decide) P.2.1 (fun k1 own k6 h1 X1 e39 f1 => ?_) (fun no h1 F1 f1 => fb _ h1 0 ?_ (P.bad f1 F1 (by decide)) (by rw [f1.1 277 (by decide)]; exact P.2.2.1.2.1.1) 0 (by decide) (by decide)) (fun k1 own k6 h1 F1 f1 => fb _ h1 0 ?_ (P.bad f1 F1 (by decide)) (by rw [f1.1 277 (by decide)]; exact P.2.2.1.2.1.1) 0 (by decide) (by decide))
    · have P1 := P.lex f1 X1
      have R1 := P1.2.2.1
      have wl := tL_range k1
      -- none has that name yet
      have loop : ∀ (m : Nat) (k : Nat), (k : Int) + m = D.1.nb → hasN D.1 (tL T (tN T q0)) k = false → BX12_beingTold_20 C l d L (pkS (tL T (tN T q0))) k h1 := by
        intro m
        induction m with
        | zero =>
          intro k km hk
          have hN : namS T D.1 (tN T q0) = .ok (tN T (tN T q0)) := by
            unfold namS
            rw [if_pos ⟨k1, own⟩, if_neg (by omega), show D.1.nb.toNat = k by omega, hk]
            rfl
          rw [hN, exB_o] at hE hO
          have q2 := nam_ok q1 hN
          refine vX12_beingTold_20 hd ⟨fun _ => N_wrd (k := 21) (by decide) (by decide) P1 (fun e he h2 F2 => F_leaf (by decide) F2.2.1 (F_wrd (by decide) F2.2.1 (F_cell (by decide) F2.2.1 (F_wrd (by decide) F2.2.1 (F_num (by decide) F2.2.1 ⟨fun z => absurd z F2.2.1, fun _ => hE e (by replace he : wrdS T (tN T (tN T q0)) 21 = .error e := he; rw [he]; rfl) h2 F2⟩))))) (fun y hy h2 P2 => ?_), fun z => absurd (by rw [R1.2.1.1]; omega) z⟩
          have w2 := wrd_ok (by decide) q2.2.2.1 hy
          replace hy : wrdS T (tN T (tN T q0)) 21 = .ok y := hy
          rw [hy, exB_o] at hE hO
          refine N_leaf (by decide) o P2 (fun e he h3 F3 => F_wrd (by decide) F3.2.1 (F_cell (by decide) F3.2.1 (F_wrd (by decide) F3.2.1 (F_num (by decide) F3.2.1 ⟨fun z => absurd z F3.2.1, fun _ => hE e (by rw [he]; rfl) h3 F3⟩)))) (fun a ha h3 P3 _ => ?_)
          have na := num_ok w2.2.2 ha
          rw [ha, exB_o] at hE hO
          refine N_wrd (k := 22) (by decide) (by decide) P3 (fun e he h4 F4 => F_cell (by decide) F4.2.1 (F_wrd (by decide) F4.2.1 (F_num (by decide) F4.2.1 ⟨fun z => absurd z F4.2.1, fun _ => hE e ?_ h4 F4⟩))) (fun y4 hy4 h4 P4 => ?_)
          · replace he : wrdS T a.1 22 = .error e := he
            rw [he]; rfl
          · have w4 := wrd_ok (by decide) na.2.2.1 hy4
            replace hy4 : wrdS T a.1 22 = .ok y4 := hy4
            rw [hy4, exB_o] at hE hO
            refine N_cell (by decide) o (by omega) (by omega) P4 (fun e he h5 F5 => F_wrd (by decide) F5.2.1 (F_num (by decide) F5.2.1 ⟨fun z => absurd z F5.2.1, fun _ => hE e (by rw [he]; rfl) h5 F5⟩)) (fun c hc h5 P5 => ?_)
            have ncc := cel_ok w4.2.2 hc
            rw [hc, exB_o] at hE hO
            refine N_wrd (k := 3) (by decide) (by decide) P5 (fun e he h6 F6 => F_num (by decide) F6.2.1 ⟨fun z => absurd z F6.2.1, fun _ => hE e ?_ h6 F6⟩) (fun y6 hy6 h6 P6 => ?_)
            · replace he : wrdS T c.1 3 = .error e := he
              rw [he]; rfl
            · replace hy6 : wrdS T c.1 3 = .ok y6 := hy6
              rw [hy6, exB_o] at hE hO
              refine N_num (by decide) P6 (fun e he h7 F7 v => ⟨fun z => absurd z F7.2.1, fun _ => hE e (by rw [he]; rfl) h7 F7⟩) (fun t ht h7 P7 _ => ⟨fun _ => ?_, fun z => absurd P7.b0 z⟩)
              rw [ht, exB_o] at hO
              have R := P7.2.2.1
              have eb : h7 277 0 = D.1.nb := R.2.1.1
              rw [eb]
              refine ⟨by omega, by omega, fun h21 e21 => ?_⟩
              have eb21 : h21 277 0 = D.1.nb := by rw [e21, up_row (by decide)]; exact eb
              rw [eb21, w_id (x := 2 * D.1.nb) (by omega) (by omega)]
              refine ⟨by omega, by omega, fun h24 e24 => ?_⟩
              have eb24 : h24 277 0 = D.1.nb := by rw [e24, up_row (by decide)]; exact eb21
              rw [eb24, w_id (x := 2 * D.1.nb) (by omega) (by omega), w_id (x := 2 * D.1.nb + 1) (by omega) (by omega)]
              refine ⟨by omega, by omega, fun h27 e27 => ?_⟩
              have eb27 : h27 277 0 = D.1.nb := by rw [e27, up_row (by decide)]; exact eb24
              rw [eb27]
              refine ⟨by omega, by omega, fun h30 e30 h31 e31 => ?_⟩
              have eb30 : h30 277 0 = D.1.nb := by rw [e30, up_row (by decide)]; exact eb27
              rw [eb30, w_id (by omega) (by omega)] at e31
              have f21 : frF h7 h21 := by rw [e21]; exact frF.up (Or.inr (Or.inr (Or.inr (Or.inl ⟨rfl, by omega⟩))))
              have f24 : frF h21 h24 := by rw [e24]; exact frF.up (Or.inr (Or.inr (Or.inr (Or.inr (Or.inr (Or.inr (Or.inl rfl)))))))
              have f27 : frF h24 h27 := by rw [e27]; exact frF.up (Or.inr (Or.inr (Or.inr (Or.inr (Or.inr (Or.inr (Or.inl rfl)))))))
              have f30 : frF h27 h30 := by rw [e30]; exact frF.up (Or.inr (Or.inr (Or.inr (Or.inr (Or.inr (Or.inr (Or.inr (Or.inl ⟨rfl, by omega⟩))))))))
              have f31 : frF h30 h31 := by rw [e31]; exact frF.up (Or.inr (Or.inr (Or.inl ⟨rfl, by decide⟩)))
              have r31 : ∀ b, b ≠ 277 → b ≠ 278 → b ≠ 281 → b ≠ 282 → h31 b = h7 b := fun b q1 q2 q3 q4 => by rw [e31, up_row q1, e30, up_row q4, e27, up_row q3, e24, up_row q3, e21, up_row q2]
              have c31 : ∀ k, k ≠ 0 → h31 277 k = h7 277 k := fun k hk => by rw [e31, up_col hk, e30, up_row (by decide), e27, up_row (by decide), e24, up_row (by decide), e21, up_row (by decide)]
              refine hO _ rfl h31 (P7.wr ((((f21.tr f24).tr f27).tr f30).tr f31) (fun k _ => by rw [r31 245 (by decide) (by decide) (by decide) (by decide)]) ?_ (by rw [r31 245 (by decide) (by decide) (by decide) (by decide)]; exact P7.2.2.2))
              obtain ⟨a1, a2, a3, a4, a5, a6, a7, a8, a9, a10⟩ := R
              have nbE : (addB D (tL T (tN T q0)) a.2 c.2 t.2).1.nb = D.1.nb + 1 := rfl
              have st1 : ∀ j b, j ≠ 2 → j ≠ 3 → j ≠ 4 → j ≠ 5 → (addB D (tL T (tN T q0)) a.2 c.2 t.2).2.1 j b = D.2.1 j b := fun j b j2 j3 j4 j5 => by
                show mf_up (mf_up (mf_up (mf_up D.2.1 2 D.1.nb a.2) 3 D.1.nb c.2) 4 D.1.nb 5) 5 D.1.nb 0 j b = _
                rw [up_row j5, up_row j4, up_row j3, up_row j2]
              refine ⟨by rw [r31 276 (by decide) (by decide) (by decide) (by decide)]; exact a1, ⟨by rw [e31, up_self]; rfl, by rw [c31 1 (by decide)]; exact a2.2.1, by rw [c31 2 (by decide)]; exact a2.2.2⟩, fun b bb0 bb1 => ?_, fun k k0 k6' => by rw [r31 279 (by decide) (by decide) (by decide) (by decide), st1 1 k (by decide) (by decide) (by decide) (by decide)]; exact a4 k k0 k6', by rw [r31 280 (by decide) (by decide) (by decide) (by decide)]; exact a5, fun b bb0 bb1 => ?_, fun b bb0 bb1 => ?_, by rw [r31 245 (by decide) (by decide) (by decide) (by decide)]; exact a8, fun s s0 s3 => (a9 s s0 s3).to (by rw [r31 283 (by decide) (by decide) (by decide) (by decide)]) (by rw [r31 284 (by decide) (by decide) (by decide) (by decide)]) (fun i _ => by rw [r31 285 (by decide) (by decide) (by decide) (by decide)]) (by rw [r31 245 (by decide) (by decide) (by decide) (by decide)]; exact Int.le_refl _), by rw [r31 245 (by decide) (by decide) (by decide) (by decide)]; exact a10⟩
              · rw [nbE] at bb1
                show h31 278 b = pkS (if b = D.1.nb then tL T (tN T q0) else D.1.nm b)
                rw [e31, up_row (by decide), e30, up_row (by decide), e27, up_row (by decide), e24, up_row (by decide), e21, up_if]
                by_cases e : b = D.1.nb
                · rw [if_pos ⟨rfl, e⟩, if_pos e]
                · rw [if_neg (fun w => e w.2), if_neg e]; exact a3 b bb0 (by omega)
              · rw [nbE] at bb1
                have v281 : ∀ i, h31 281 i = if i = 2 * D.1.nb + 1 then c.2 else if i = 2 * D.1.nb then a.2 else h7 281 i := fun i => by
                  rw [e31, up_row (by decide), e30, up_row (by decide), e27, up_if, e24, up_if, e21, up_row (by decide)]
                  by_cases e1 : i = 2 * D.1.nb + 1
                  · rw [if_pos ⟨rfl, e1⟩, if_pos e1]
                  · rw [if_neg (fun w => e1 w.2), if_neg e1]
                    by_cases e2 : i = 2 * D.1.nb
                    · rw [if_pos ⟨rfl, e2⟩, if_pos e2]
                    · rw [if_neg (fun w => e2 w.2), if_neg e2]
                show h31 281 (2 * b) = mf_up (mf_up (mf_up (mf_up D.2.1 2 D.1.nb a.2) 3 D.1.nb c.2) 4 D.1.nb 5) 5 D.1.nb 0 2 b ∧ h31 281 (2 * b + 1) = mf_up (mf_up (mf_up (mf_up D.2.1 2 D.1.nb a.2) 3 D.1.nb c.2) 4 D.1.nb 5) 5 D.1.nb 0 3 b
                rw [up_row (by decide), up_row (by decide), up_row (by decide), up_if, up_row (by decide), up_row (by decide), up_if, up_row (by decide), v281, v281]
                by_cases e : b = D.1.nb
                · rw [if_neg (by omega), if_pos (by omega), if_pos ⟨rfl, e⟩, if_pos (by omega), if_pos ⟨rfl, e⟩]; exact ⟨rfl, rfl⟩
                · rw [if_neg (by omega), if_neg (by omega), if_neg (fun w => e w.2), if_neg (by omega), if_neg (by omega), if_neg (fun w => e w.2)]
                  exact a6 b bb0 (by omega)
              · rw [nbE] at bb1
                show h31 282 b = if b = D.1.nb then t.2 else D.1.tr b
                rw [e31, up_row (by decide), e30, up_if, e27, up_row (by decide), e24, up_row (by decide), e21, up_row (by decide)]
                by_cases e : b = D.1.nb
                · rw [if_pos ⟨rfl, e⟩, if_pos e]
                · rw [if_neg (fun w => e w.2), if_neg e]; exact a7 b bb0 (by omega)
        | succ m ih =>
          intro k km hk
          refine vX12_beingTold_20 hd ⟨fun z => absurd z (by rw [R1.2.1.1]; omega), fun _ => ⟨fun z => absurd P1.b0 z, fun _ => ⟨by omega, by omega, ?_⟩⟩⟩
          rw [R1.2.2.1 k (by omega) (by omega), w_id (x := (k : Int) + 1) (by omega) (by omega), e39]
          have nl := (o.1.nm k (by omega) (by omega)).2.2
          refine ⟨fun z v35 e35 => ?_, fun z => m_fail P1.b0 (fun h2 F2 f2 v39 e39' => ?_)⟩
          · rw [e35]
            refine ih (k + 1) (by omega) ?_
            show (hasN D.1 (tL T (tN T q0)) k || decide (D.1.nm (k : Int) = tL T (tN T q0))) = false
            rw [hk]
            simp only [Bool.false_or, decide_eq_false_iff_not]
            exact fun w => z (by rw [w])
          · rw [e39']
            have he : namS T D.1 (tN T q0) = .error (3, tA T (tN T q0)) := by
              unfold namS
              have hs : hasN D.1 (tL T (tN T q0)) (k + 1) = true := by
                show (hasN D.1 (tL T (tN T q0)) k || decide (D.1.nm (k : Int) = tL T (tN T q0))) = true
                rw [pkS_inj nl wl z]
                simp
              rw [if_pos ⟨k1, own⟩, if_neg (by omega), hasN_le (k + 1) D.1.nb.toNat (by omega) hs]
              rfl
            exact fb _ h2 _ he (P1.bad f2 F2 (by decide)) (by rw [f2.1 277 (by decide)]; exact R1.2.1.1) (k + 1) (by omega) (by omega)
      exact loop D.1.nb.toNat 0 (by omega) rfl
    · unfold namS; rw [if_neg no]
    · unfold namS; rw [if_pos ⟨k1, own⟩, if_pos k6]
theorem gt_st {F : aF} {s s' : Int} {cs : List Int} (s0 : 0 ≤ s) (s3 : s ≤ 3) (t0 : 0 ≤ s') (t3 : s' ≤ 3) : gtC (stC F s cs) s' = if s' = s then cs else gtC F s' := by
  have hs : s = 0 ∨ s = 1 ∨ s = 2 ∨ s = 3 := by omega
  have ht : s' = 0 ∨ s' = 1 ∨ s' = 2 ∨ s' = 3 := by omega
  rcases hs with rfl | rfl | rfl | rfl <;> rcases ht with rfl | rfl | rfl | rfl <;> rfl
theorem dlen_st {F : aF} {s : Int} {cs : List Int} (s0 : 0 ≤ s) (s3 : s ≤ 3) (h : gtC F s = []) : dlen (stC F s cs) = dlen F + cs.length := by
  have hs : s = 0 ∨ s = 1 ∨ s = 2 ∨ s = 3 := by omega
  unfold dlen
  rcases hs with rfl | rfl | rfl | rfl
  · have e : F.cO = [] := h
    show ((cs.length : Int) + F.cC.length + F.cT.length + F.cS.length) = _
    rw [e]; simp; omega
  · have e : F.cC = [] := h
    show ((F.cO.length : Int) + cs.length + F.cT.length + F.cS.length) = _
    rw [e]; simp; omega
  · have e : F.cT = [] := h
    show ((F.cO.length : Int) + F.cC.length + cs.length + F.cS.length) = _
    rw [e]; simp; omega
  · have e : F.cS = [] := h
    show ((F.cO.length : Int) + F.cC.length + F.cT.length + cs.length) = _
    rw [e]; simp
/-- codes are laid behind those that are told -/
theorem m_codes95 {s : Int} {cs : List Int} {b : Int} {h1 : mf_M} (s0 : 0 ≤ s) (s3 : s ≤ 3) (b0 : 0 ≤ b) (bl : b + cs.length ≤ 1600) (hc : h1 245 95 = cs.length) (hj : ∀ j : Nat, j < cs.length → h1 315 j = cs.getD j 0) (hK : ∀ h', (∀ a, a ≠ 245 → a ≠ 284 → a ≠ 285 → h' a = h1 a) → (∀ k, k ≠ 52 → h' 245 k = h1 245 k) → h' 245 52 = b + cs.length → (∀ k, k ≠ s → h' 284 k = h1 284 k) → h' 284 s = b + cs.length → (∀ i, ¬ (b ≤ i ∧ i < b + cs.length) → h' 285 i = h1 285 i) → (∀ j : Nat, j < cs.length → h' 285 (b + j) = cs.getD j 0) → L 0 h') : ∀ (m k : Nat) (h : mf_M), k + m = cs.length → (∀ a, a ≠ 245 → a ≠ 285 → h a = h1 a) → (∀ j, j ≠ 52 → h 245 j = h1 245 j) → h 245 52 = b + k → (∀ i, ¬ (b ≤ i ∧ i < b + k) → h 285 i = h1 285 i) → (∀ j : Nat, j < k → h 285 (b + j) = cs.getD j 0) → BX12_codesTold_95 C l d L s k h := by
  intro m
  induction m with
  | zero =>
    intro k h km r c e52 e1 e2
    have ek : k = cs.length := by omega
    subst ek
    refine vX12_codesTold_95 ⟨fun _ => ⟨s0, by omega, fun h3 e3 => ?_⟩, fun z => absurd (by rw [c 95 (by decide), hc]; omega) z⟩
    rw [e52] at e3
    exact hK h3 (fun a a1 a2 a3 => by rw [e3, up_row a2, r a a1 a3]) (fun j hj => by rw [e3, up_row (by decide), c j hj]) (by rw [e3, up_row (by decide)]; exact e52) (fun j hj => by rw [e3, up_col hj, r 284 (by decide) (by decide)]) (by rw [e3, up_self]) (fun i hi => by rw [e3, up_row (by decide)]; exact e1 i hi) (fun j hj => by rw [e3, up_row (by decide)]; exact e2 j hj)
  | succ m ih =>
    intro k h km r c e52 e1 e2
    refine vX12_codesTold_95 ⟨fun z => absurd z (by rw [c 95 (by decide), hc]; omega), fun _ => ⟨by omega, by omega, by rw [e52]; omega, by rw [e52]; omega, fun h8 e8 h9 e9 v10 e10 => ?_⟩⟩
    rw [e52, r 315 (by decide) (by decide), hj k (by omega)] at e8
    have s8 : h8 245 52 = b + k := by rw [e8, up_row (by decide)]; exact e52
    rw [s8, w_id (by omega) (by omega)] at e9
    rw [w_id (by omega) (by omega)] at e10
    rw [e10]
    refine ih (k + 1) h9 (by omega) (fun a a1 a2 => by rw [e9, up_row a1, e8, up_row a2, r a a1 a2]) (fun j hj => by rw [e9, up_col hj, e8, up_row (by decide), c j hj]) (by rw [e9, up_self]; omega) (fun i hi => ?_) (fun j hj => ?_)
    · rw [e9, up_row (by decide), e8, up_col (by omega)]; exact e1 i (by omega)
    · rw [e9, up_row (by decide), e8, up_if]
      by_cases e : j = k
      · rw [if_pos ⟨rfl, by omega⟩, e]
      · rw [if_neg (fun w => e (by omega))]; exact e2 j (by omega)
theorem N_codes {h : mf_M} {q0 : aQ} {s : Int} (hd : 9 ≤ d) (s0 : 0 ≤ s) (s3 : s ≤ 3) (o : okD D) (q1 : (tN T q0).1 ≤ T.2) (q2 : 0 ≤ (tN T q0).1) (t2 : T.2 ≤ 1600) (dl : dlen D.1 ≤ (tN T q0).1) (P : DMm h0 T n (tN T q0) D h) (hE : ∀ e, rulS T D q0 s = .error e → ∀ h', FNm h0 e h' → L 0 h') (hO : ∀ x, rulS T D q0 s = .ok x → ∀ h', DMm h0 T n x.1 x.2 h' → L 0 h') : mM C l d YX12_codesTold [(2, 245), (0, s), (0, tA T q0)] h L := by
  have R := P.2.2.1
  have td := R.2.2.2.2.2.2.2.2.1 s s0 s3
  have F23 : ∀ (h' : mf_M), ¬ h' 245 5 = 0 → L 0 h' → BX12_codesTold_23 C l d L s h' := fun h' F hK => vX12_codesTold_23 hd ⟨fun z => absurd z F, fun _ => hK⟩
  unfold rulS at hE hO
  refine wX12_codesTold (by omega) ⟨fun z => absurd P.b0 z, fun _ => ⟨s0, by omega, fun z => ?_, fun z => m_fail P.b0 (fun h1 F1 f1 => F23 h1 (P.bad f1 F1 (by decide)).2.1 (hE _ ?_ h1 (P.bad f1 F1 (by decide))))⟩⟩
  · have g0 : gtC D.1 s = [] := by
      rcases td with t | t
      · exact t.1
      · exact absurd z (by omega)
    rw [if_neg (fun w => w g0)] at hE hO
    have dl0 : 0 ≤ dlen D.1 := by unfold dlen; omega
    refine vX12_codesTold_23 hd ⟨fun _ => ?_, fun y => absurd P.b0 y⟩
    have kb : ∀ L' : Int → mf_M → Prop, L' (kdC s) h → mM C l 0 YX12_kindBy [(0, s)] h L' := fun L' hL => by
      unfold kdC at hL
      refine wX12_kindBy ⟨fun a => ⟨fun b => ?_, fun b => ?_⟩, fun a => ?_⟩
      · rw [if_neg a, if_neg b] at hL; exact hL
      · rw [if_neg a, if_pos b] at hL; exact hL
      · rw [if_pos a] at hL; exact hL
    refine kb _ (fun h4 e4 h5 e5 h6 e6 h7 e7 h8 e8 => ?_)
    have r8 : ∀ a, a ≠ 245 → h8 a = h a := fun a ha => by rw [e8, up_row ha, e7, up_row ha, e6, up_row ha, e5, up_row ha, e4, up_row ha]
    have c8 : ∀ k, k ≠ 55 → k ≠ 95 → k ≠ 97 → k ≠ 98 → k ≠ 99 → h8 245 k = h 245 k := fun k q1 q2 q3 q4 q5 => by rw [e8, up_col q5, e7, up_col q4, e6, up_col q3, e5, up_col q2, e4, up_col q1]
    have f8 : frF h h8 := frF.of (fun a q1 _ _ => r8 a q1) (fun k hk => by
      simp only [List.mem_cons, List.not_mem_nil, or_false] at hk
      exact c8 k (by omega) (by omega) (by omega) (by omega) (by omega))
    have P8 : DMm h0 T n (tN T q0) D h8 := P.wr f8 (fun k hk => c8 k (by omega) (by omega) (by omega) (by omega) (by omega)) (R.to (fun a a1 a2 => r8 a (by omega)) (c8 47 (by decide) (by decide) (by decide) (by decide) (by decide)) (c8 52 (by decide) (by decide) (by decide) (by decide) (by decide))) (by rw [c8 53 (by decide) (by decide) (by decide) (by decide) (by decide)]; exact P.2.2.2)
    have kdr : kdC s = 0 ∨ kdC s = 1 ∨ kdC s = 2 ∨ kdC s = 3 := by unfold kdC; split <;> (try split) <;> simp
    have PS : PSm h8 T (kdC s) (tN T q0) [] [] 0 [] h8 := ⟨frQs.rf h8, P8.2.1, ⟨by rw [e8, up_col (by decide), e7, up_col (by decide), e6, up_col (by decide), e5, up_self]; rfl, fun j hj => absurd hj (by simp)⟩, by show h8 245 97 = 0; rw [e8, up_col (by decide), e7, up_col (by decide), e6, up_self], by rw [e8, up_self]; rfl, by rw [e8, up_col (by decide), e7, up_self], by rw [e8, up_col (by decide), e7, up_col (by decide), e6, up_col (by decide), e5, up_col (by decide), e4, up_self]⟩
    have bad : ∀ e, cdsS T s (tN T q0) = .error e → ∀ h', FWm h8 e h' → ((h' 245 5 = 0 → 0 ≤ s ∧ s < 8 ∧ (∀ h14 : mf_M, h14 = mf_up h' 283 s (h' 245 52) → BX12_codesTold_95 C l d L s 0 h14)) ∧ (¬ h' 245 5 = 0 → L 0 h')) := fun e he h' F => ⟨fun y => absurd y F.2.1, fun _ => hE e (by rw [he]; rfl) h' ⟨F.1, F.2.1, P8.1.tr F.2.2.F⟩⟩
    have good : ∀ x, cdsS T s (tN T q0) = .ok x → ∀ h', PSm h8 T (kdC s) x.1 [] [] 0 x.2 h' → ((h' 245 5 = 0 → 0 ≤ s ∧ s < 8 ∧ (∀ h14 : mf_M, h14 = mf_up h' 283 s (h' 245 52) → BX12_codesTold_95 C l d L s 0 h14)) ∧ (¬ h' 245 5 = 0 → L 0 h')) := by
      intro x hx h' P'
      have cc := cds_ok s0 s3 q1 hx
      rw [hx, exB_o] at hO
      refine ⟨fun _ => ⟨s0, by omega, fun h14 e14 => ?_⟩, fun y => absurd P'.b0 y⟩
      have fq := P'.fr
      have cq : ∀ k, k = 47 ∨ k = 52 ∨ k = 53 → h' 245 k = h8 245 k := fun k hk => fq.2 k (by omega) (by omega) (by omega) (by omega) (by omega) (by omega) (by omega) (by omega) (by omega) (by omega)
      have R8 := P8.2.2.1
      have e52 : h' 245 52 = dlen D.1 := by rw [cq 52 (by decide)]; exact R8.2.2.2.2.2.2.2.2.2
      rw [e52] at e14
      have f14 : frF h' h14 := by rw [e14]; exact frF.up (Or.inr (Or.inr (Or.inr (Or.inr (Or.inr (Or.inr (Or.inr (Or.inr (Or.inl ⟨rfl, by omega⟩)))))))))
      have D' : DMm h0 T n x.1 D h' := ⟨P8.1.tr fq.F, P'.lx, R8.to (fun a a1 a2 => fq.1 a (by omega) (by omega) (by omega)) (cq 47 (by decide)) (cq 52 (by decide)), by rw [cq 53 (by decide)]; exact P8.2.2.2⟩
      refine m_codes95 (b := dlen D.1) (cs := x.2) (h1 := h14) s0 s3 dl0 (by omega) (by rw [e14, up_row (by decide)]; exact P'.cd) (by rw [e14, up_row (by decide)]; exact P'.cj) (fun h15 r15 c15 d52 a284 b284 a285 b285 => ?_) x.2.length 0 h14 (by omega) (fun _ _ _ => rfl) (fun _ _ => rfl) (by rw [e14, up_row (by decide), e52]; simp) (fun _ _ => rfl) (fun j hj => absurd hj (by omega))
      have f15 : frF h' h15 := by
        refine ⟨fun a q1 q2 q3 q4 => by rw [r15 a q1 (by omega) (by omega), e14, up_row (by omega)], fun k hk => by rw [r15 276 (by decide) (by decide) (by decide), e14, up_row (by decide)], fun k hk => by rw [r15 277 (by decide) (by decide) (by decide), e14, up_row (by decide)], fun k hk => by rw [r15 278 (by decide) (by decide) (by decide), e14, up_row (by decide)], fun k hk => by rw [r15 280 (by decide) (by decide) (by decide), e14, up_row (by decide)], fun k hk => by rw [r15 282 (by decide) (by decide) (by decide), e14, up_row (by decide)], fun k hk => by rw [r15 283 (by decide) (by decide) (by decide), e14, up_col (by omega)], fun k hk => by rw [a284 k (by omega), e14, up_row (by decide)], fun k hk => by rw [a285 k (by omega), e14, up_row (by decide)], fun k hk => ?_⟩
        simp only [List.mem_cons, List.not_mem_nil, or_false] at hk
        rw [c15 k (by omega), e14, up_row (by decide)]
      refine hO _ rfl h15 (D'.wr f15 (fun k hk => by rw [c15 k (by omega), e14, up_row (by decide)]) ?_ (by rw [c15 53 (by decide), e14, up_row (by decide)]; exact D'.2.2.2))
      obtain ⟨a1, a2, a3, a4, a5, a6, a7, a8, a9, a10⟩ := D'.2.2.1
      have rr : ∀ a, 276 ≤ a → a ≤ 282 → h15 a = h' a := fun a x1 x2 => by rw [r15 a (by omega) (by omega) (by omega), e14, up_row (by omega)]
      have st : (stC D.1 s x.2).nl = D.1.nl ∧ (stC D.1 s x.2).nc = D.1.nc ∧ (stC D.1 s x.2).nb = D.1.nb ∧ (stC D.1 s x.2).nw = D.1.nw ∧ (stC D.1 s x.2).nm = D.1.nm ∧ (stC D.1 s x.2).wm = D.1.wm ∧ (stC D.1 s x.2).tr = D.1.tr ∧ (stC D.1 s x.2).th = D.1.th := by
        have hs : s = 0 ∨ s = 1 ∨ s = 2 ∨ s = 3 := by omega
        rcases hs with rfl | rfl | rfl | rfl <;> exact ⟨rfl, rfl, rfl, rfl, rfl, rfl, rfl, rfl⟩
      refine ⟨?_, ?_, ?_, ?_, ?_, ?_, ?_, ?_, fun s' t0 t3 => ?_, ?_⟩
      · rw [rr 276 (by decide) (by decide)]; show h' 276 0 = (stC D.1 s x.2).nl ∧ h' 276 1 = (stC D.1 s x.2).nc; rw [st.1, st.2.1]; exact a1
      · rw [rr 277 (by decide) (by decide)]; show h' 277 0 = (stC D.1 s x.2).nb ∧ h' 277 1 = (stC D.1 s x.2).nw ∧ h' 277 2 = D.2.2; rw [st.2.2.1, st.2.2.2.1]; exact a2
      · rw [rr 278 (by decide) (by decide)]; show ∀ b, 0 ≤ b → b < (stC D.1 s x.2).nb → h' 278 b = pkS ((stC D.1 s x.2).nm b); rw [st.2.2.1, st.2.2.2.2.1]; exact a3
      · rw [rr 279 (by decide) (by decide)]; exact a4
      · rw [rr 280 (by decide) (by decide)]; show ∀ i, 0 ≤ i → i < 3 * (stC D.1 s x.2).nw → h' 280 i = (stC D.1 s x.2).wm i; rw [st.2.2.2.1, st.2.2.2.2.2.1]; exact a5
      · rw [rr 281 (by decide) (by decide)]; show ∀ b, 0 ≤ b → b < (stC D.1 s x.2).nb → _; rw [st.2.2.1]; exact a6
      · rw [rr 282 (by decide) (by decide)]; show ∀ b, 0 ≤ b → b < (stC D.1 s x.2).nb → h' 282 b = (stC D.1 s x.2).tr b; rw [st.2.2.1, st.2.2.2.2.2.2.1]; exact a7
      · rw [c15 47 (by decide), e14, up_row (by decide)]; show h' 245 47 = (stC D.1 s x.2).th; rw [st.2.2.2.2.2.2.2]; exact a8
      · show tldM h15 s' (gtC (stC D.1 s x.2) s')
        rw [gt_st s0 s3 t0 t3]
        by_cases e : s' = s
        · rw [if_pos e, e]
          have e283 : h15 283 s = dlen D.1 := by rw [r15 283 (by decide) (by decide) (by decide), e14, up_self]
          exact Or.inr ⟨cc.1, by rw [e283]; exact dl0, by rw [e283, b284], by rw [b284, d52]; exact Int.le_refl _, fun j hj => by rw [e283]; exact b285 j hj⟩
        · rw [if_neg e]
          exact (a9 s' t0 t3).to (by rw [r15 283 (by decide) (by decide) (by decide), e14, up_col e]) (by rw [a284 s' e, e14, up_row (by decide)]) (fun i hi => by rw [a285 i (by omega), e14, up_row (by decide)]) (by rw [d52, e52]; omega)
      · show h15 245 52 = dlen (stC D.1 s x.2)
        rw [d52, dlen_st s0 s3 g0]
    refine ⟨fun y => ?_, fun y => ?_⟩
    · refine M_qSums (W0 := []) (B := []) (by decide) t2 kdr (fun x hx => absurd hx (by simp)) PS (by simp only [List.length_nil]; omega) (by decide) (fun e he h9 F9 => bad e ?_ h9 F9.w) (fun x hx h9 P9 => good x ?_ h9 P9)
      · unfold cdsS; rw [if_neg y]; exact he
      · unfold cdsS; rw [if_neg y]; exact hx
    · refine M_qTest (by decide) t2 kdr PS (fun e he h9 F9 => bad e ?_ h9 F9) (fun x hx h9 P9 => good x ?_ h9 P9)
      · unfold cdsS; rw [if_pos y]
        have : kdC s = 1 := by rw [y]; rfl
        rw [this] at he
        exact he
      · unfold cdsS; rw [if_pos y]
        have : kdC s = 1 := by rw [y]; rfl
        rw [this] at hx
        exact hx
  · have g1 : gtC D.1 s ≠ [] := by
      rcases td with t | t
      · exact absurd t.2 z
      · exact t.1
    rw [if_pos g1]
/-- a statement -/
theorem N_sem {h : mf_M} {r : Except (Int × Int) (aQ × aW)} {x : aQ × aW} (hx : r = .ok x) (n0 : 0 ≤ n) (n1 : n < 1000) (P : DMm h0 T n x.1 x.2 h) (hE : ∀ e, semS T r = .error e → ∀ h', FNm h0 e h' → L 0 h') (hO : ∀ y, semS T r = .ok y → ∀ h', DMm h0 T (n + 1) y.1 y.2 h' → L 0 h') : mM C l 2 YX12_asksSign [(2, 245), (0, 59)] h (fun r30 h32 => (∀ h33 : mf_M, h33 = mf_up h32 245 53 (mf_w32 ((h32 245 53) + 1)) → L 0 h33)) := by
  unfold semS at hE hO
  rw [hx, exB_o] at hE hO
  refine M_asksSign (by decide) (by decide) (by decide) (by decide) P.2.1 (fun s h1 X1 f1 h2 e2 => ?_) (fun s h1 F1 f1 h2 e2 => ?_)
  · rw [if_pos s] at hO
    have P1 := P.lex f1 X1
    rw [P1.2.2.2, w_id (by omega) (by omega)] at e2
    have c2 : ∀ k, k ≠ 53 → h2 245 k = h1 245 k := fun k hk => by rw [e2, up_col hk]
    exact hO _ rfl h2 (P1.wr (by rw [e2]; exact frF.up (Or.inl ⟨rfl, by decide⟩)) (fun k hk => c2 k (by omega)) (P1.2.2.1.to (fun a a1 a2 => by rw [e2, up_row (by omega)]) (c2 47 (by decide)) (c2 52 (by decide))) (by rw [e2, up_self]))
  · rw [if_neg (by rw [s]; decide)] at hE
    have F := P.bad f1 F1 (by decide)
    exact hE _ rfl h2 ⟨⟨by rw [e2, up_col (by decide)]; exact F.1.1, by rw [e2, up_col (by decide)]; exact F.1.2⟩, by rw [e2, up_col (by decide)]; exact F.2.1, F.2.2.tr (by rw [e2]; exact frF.up (Or.inl ⟨rfl, by decide⟩))⟩
theorem F_sem {h : mf_M} {e : Int × Int} (F : FNm h0 e h) (hK : ∀ h', FNm h0 e h' → L 0 h') : mM C l 2 YX12_asksSign [(2, 245), (0, 59)] h (fun r30 h32 => (∀ h33 : mf_M, h33 = mf_up h32 245 53 (mf_w32 ((h32 245 53) + 1)) → L 0 h33)) :=
  F_sgn (by decide) F.2.1 (fun h2 e2 => hK h2 ⟨⟨by rw [e2, up_col (by decide)]; exact F.1.1, by rw [e2, up_col (by decide)]; exact F.1.2⟩, by rw [e2, up_col (by decide)]; exact F.2.1, F.2.2.tr (by rw [e2]; exact frF.up (Or.inl ⟨rfl, by decide⟩))⟩)
theorem N_stm {h : mf_M} (hd : 10 ≤ d) (o : okD D) (n0 : 0 ≤ n) (n80 : n < 80) (t2 : T.2 ≤ 1600) (X : ltM T q h) (P : DMm h0 T n q D h) (dl : dlen D.1 ≤ q.1) (hE : ∀ e, semS T (stmS T D q) = .error e → ∀ h', FNm h0 e h' → L 0 h') (hO : ∀ y, semS T (stmS T D q) = .ok y → ∀ h', DMm h0 T (n + 1) y.1 y.2 h' → L 0 h') : mM C l d YX12_statementTold [(2, 245)] h L := by
  have q0 := X.1.2.1
  have sE : ∀ e, stmS T D q = .error e → ∀ h', FNm h0 e h' → mM C l 2 YX12_asksSign [(2, 245), (0, 59)] h' (fun r30 h32 => (∀ h33 : mf_M, h33 = mf_up h32 245 53 (mf_w32 ((h32 245 53) + 1)) → L 0 h33)) := fun e he h' F => F_sem F (fun h2 F2 => hE e (by unfold semS; rw [he]; rfl) h2 F2)
  have sO : ∀ x, stmS T D q = .ok x → ∀ h', DMm h0 T n x.1 x.2 h' → mM C l 2 YX12_asksSign [(2, 245), (0, 59)] h' (fun r30 h32 => (∀ h33 : mf_M, h33 = mf_up h32 245 53 (mf_w32 ((h32 245 53) + 1)) → L 0 h33)) := fun x hx h' P' => N_sem hx n0 (by omega) P' hE hO
  refine wX12_statementTold hd (fun v1 e1 => ⟨fun _ => ?_, fun z => absurd (P.2.2.2.symm.trans z) (by omega)⟩)
  rw [X.2] at e1
  subst e1
  have tpos : 0 ≤ tX T q → q.1 + 1 ≤ (tN T q).1 ∧ (tN T q).1 ≤ T.2 := fun hx => tN_pos q0.2 (tX_ne hx)
  refine M_takes (k := 18) (by decide) (by decide) X.1 (fun (e : tX T q = 18) h1 X1 f1 => ⟨fun z => absurd z (by decide), fun _ => N_gloss (by decide) o (tpos (by omega)).2 (P.lex f1 X1) (fun er he => sE er (by unfold stmS; rw [if_pos e]; exact he)) (fun x hx => sO x (by unfold stmS; rw [if_pos e]; exact hx))⟩) (fun (n18 : ¬ tX T q = 18) h1 X1 f1 => ⟨fun _ => ?_, fun z => absurd rfl z⟩)
  refine M_takes (k := 19) (by decide) (by decide) X1.1 (fun (e : tX T q = 19) h2 X2 f2 => ⟨fun z => absurd z (by decide), fun _ => N_worm (by decide) o (tpos (by omega)).2 (P.lex (f1.tr f2) X2) (fun er he => sE er (by unfold stmS; rw [if_neg n18, if_pos e]; exact he)) (fun x hx => sO x (by unfold stmS; rw [if_neg n18, if_pos e]; exact hx))⟩) (fun (n19 : ¬ tX T q = 19) h2 X2 f2 => ⟨fun _ => ?_, fun z => absurd rfl z⟩)
  have g2 := f1.tr f2
  refine M_takes (k := 20) (by decide) (by decide) X2.1 (fun (e : tX T q = 20) h3 X3 f3 => ⟨fun z => absurd z (by decide), fun _ => N_being (by decide) o (tpos (by omega)).2 (P.lex (g2.tr f3) X3) (fun er he => sE er (by unfold stmS; rw [if_neg n18, if_neg n19, if_pos e]; exact he)) (fun x hx => sO x (by unfold stmS; rw [if_neg n18, if_neg n19, if_pos e]; exact hx))⟩) (fun (n20 : ¬ tX T q = 20) h3 X3 f3 => ⟨fun _ => ?_, fun z => absurd rfl z⟩)
  have g3 := g2.tr f3
  have rule : ∀ s : Int, 0 ≤ s → s ≤ 3 → tX T q = s + 23 → ∀ h', lxM T (tN T q) h' → frL h h' → mM C l 9 YX12_codesTold [(2, 245), (0, s), (0, tA T q)] h' (fun r34 h36 => mM C l 2 YX12_asksSign [(2, 245), (0, 59)] h36 (fun r37 h39 => (∀ h40 : mf_M, h40 = mf_up h39 245 53 (mf_w32 ((h39 245 53) + 1)) → L 0 h40))) := by
    intro s s0 s3 e h' X' f'
    have tp := tpos (by omega)
    have es : stmS T D q = rulS T D q s := by
      unfold stmS
      rw [if_neg n18, if_neg n19, if_neg n20, if_pos (by omega), show tX T q - 23 = s by omega]
    exact N_codes (by decide) s0 s3 o tp.2 (by omega) t2 (by omega) (P.lex f' X') (fun er he => sE er (by rw [es]; exact he)) (fun x hx => sO x (by rw [es]; exact hx))
  refine M_takes (k := 23) (by decide) (by decide) X3.1 (fun (e : tX T q = 23) h4 X4 f4 => ⟨fun z => absurd z (by decide), fun _ => rule 0 (by decide) (by decide) e h4 X4 (g3.tr f4)⟩) (fun (n23 : ¬ tX T q = 23) h4 X4 f4 => ⟨fun _ => ?_, fun z => absurd rfl z⟩)
  have g4 := g3.tr f4
  refine M_takes (k := 24) (by decide) (by decide) X4.1 (fun (e : tX T q = 24) h5 X5 f5 => ⟨fun z => absurd z (by decide), fun _ => rule 1 (by decide) (by decide) e h5 X5 (g4.tr f5)⟩) (fun (n24 : ¬ tX T q = 24) h5 X5 f5 => ⟨fun _ => ?_, fun z => absurd rfl z⟩)
  have g5 := g4.tr f5
  refine M_takes (k := 25) (by decide) (by decide) X5.1 (fun (e : tX T q = 25) h6 X6 f6 => ⟨fun z => absurd z (by decide), fun _ => rule 2 (by decide) (by decide) e h6 X6 (g5.tr f6)⟩) (fun (n25 : ¬ tX T q = 25) h6 X6 f6 => ⟨fun _ => ?_, fun z => absurd rfl z⟩)
  have g6 := g5.tr f6
  refine M_takes (k := 26) (by decide) (by decide) X6.1 (fun (e : tX T q = 26) h7 X7 f7 => ⟨fun z => absurd z (by decide), fun _ => rule 3 (by decide) (by decide) e h7 X7 (g6.tr f7)⟩) (fun (n26 : ¬ tX T q = 26) h7 X7 f7 => ⟨fun _ => ?_, fun z => absurd rfl z⟩)
  have g7 := g6.tr f7
  refine N_wrd (k := 27) (by decide) (by decide) (P.lex g7 X7.1) (fun e he h8 F8 => F_num (by decide) F8.2.1 (fun h9 e9 => ?_)) (fun y hy h8 P8 => ?_)
  · replace he : wrdS T q 27 = .error e := he
    have e27 : ¬ tX T q = 27 := fun w => by
      unfold wrdS at he
      rw [if_pos w] at he
      exact absurd he (by simp)
    have he' : stmS T D q = .error e := by
      unfold stmS
      unfold wrdS at he
      rw [if_neg e27] at he
      injection he with he
      rw [if_neg n18, if_neg n19, if_neg n20, if_neg (by omega), if_neg e27, he]
    exact sE e he' h9 ⟨⟨by rw [e9, up_col (by decide)]; exact F8.1.1, by rw [e9, up_col (by decide)]; exact F8.1.2⟩, by rw [e9, up_col (by decide)]; exact F8.2.1, F8.2.2.tr (by rw [e9]; exact frF.up (Or.inl ⟨rfl, by decide⟩))⟩
  · replace hy : wrdS T q 27 = .ok y := hy
    have e27 : tX T q = 27 := by
      unfold wrdS at hy
      by_cases w : tX T q = 27
      · exact w
      · rw [if_neg w] at hy; exact absurd hy (by simp)
    have ey : y = tN T q := by
      unfold wrdS at hy
      rw [if_pos e27] at hy
      injection hy with hy
      exact hy.symm
    subst ey
    have es : stmS T D q = thuS T D q := by
      unfold stmS
      rw [if_neg n18, if_neg n19, if_neg n20, if_neg (by omega), if_pos e27]
    refine N_num (by decide) P8 (fun e he h9 F9 v h10 e10 => ?_) (fun x hx h9 P9 _ h10 e10 => ?_)
    · refine sE e (by rw [es]; unfold thuS; rw [he]; rfl) h10 ⟨⟨by rw [e10, up_col (by decide)]; exact F9.1.1, by rw [e10, up_col (by decide)]; exact F9.1.2⟩, by rw [e10, up_col (by decide)]; exact F9.2.1, F9.2.2.tr (by rw [e10]; exact frF.up (Or.inl ⟨rfl, by decide⟩))⟩
    · refine sO (x.1, (D.1.s_th x.2, D.2.1, D.2.2)) (by rw [es]; unfold thuS; rw [hx]; rfl) h10 (P9.wr (by rw [e10]; exact frF.up (Or.inl ⟨rfl, by decide⟩)) (fun k hk => by rw [e10, up_col (by omega)]) ?_ (by rw [e10, up_col (by decide)]; exact P9.2.2.2))
      obtain ⟨a1, a2, a3, a4, a5, a6, a7, a8, a9, a10⟩ := P9.2.2.1
      have rr : ∀ a, a ≠ 245 → h10 a = h9 a := fun a ha => by rw [e10, up_row ha]
      exact ⟨by rw [rr 276 (by decide)]; exact a1, by rw [rr 277 (by decide)]; exact a2, by rw [rr 278 (by decide)]; exact a3, by rw [rr 279 (by decide)]; exact a4, by rw [rr 280 (by decide)]; exact a5, by rw [rr 281 (by decide)]; exact a6, by rw [rr 282 (by decide)]; exact a7, by rw [e10, up_self]; rfl, fun s s0 s3 => (a9 s s0 s3).to (by rw [rr 283 (by decide)]) (by rw [rr 284 (by decide)]) (fun i _ => by rw [rr 285 (by decide)]) (by rw [e10, up_col (by decide)]; exact Int.le_refl _), by rw [e10, up_col (by decide)]; exact a10⟩
end SpF2
