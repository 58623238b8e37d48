/-! a folio told: its size, its statements in a row -/
def fivD (D : aW) : Prop := ∀ b, 0 ≤ b → b < D.1.nb → D.2.1 4 b = 5 ∧ D.2.1 5 b = 0
theorem fiv_stm {T : aT} {D : aW} {q : aQ} {x : aQ × aW} (o : fivD D) (h : stmS T D q = .ok x) : fivD x.2 := by
  unfold stmS at h
  split at h
  · unfold gloS at h
    split at h
    · exact absurd h (by simp)
    · obtain ⟨a, _, h⟩ := exB_ok h
      obtain ⟨c, _, h⟩ := exB_ok h
      injection h with h
      rw [← h]
      intro b b0 b1
      show mf_up D.2.1 1 a.2 (mf_or (D.2.1 1 a.2) (mf_shl 1 c.2)) 4 b = 5 ∧ mf_up D.2.1 1 a.2 (mf_or (D.2.1 1 a.2) (mf_shl 1 c.2)) 5 b = 0
      rw [up_row (by decide), up_row (by decide)]
      exact o b b0 b1
  · split at h
    · unfold worS at h
      split at h
      · exact absurd h (by simp)
      · obtain ⟨a, _, h⟩ := exB_ok h
        obtain ⟨c, _, h⟩ := exB_ok h
        split at h
        · exact absurd h (by simp)
        · obtain ⟨e, _, h⟩ := exB_ok h
          injection h with h
          rw [← h]
          exact o
    · split at h
      · unfold beiS at h
        split at h
        · exact absurd h (by simp)
        · obtain ⟨x1, _, h⟩ := exB_ok h
          obtain ⟨x2, _, h⟩ := exB_ok h
          obtain ⟨x3, _, h⟩ := exB_ok h
          obtain ⟨x4, _, h⟩ := exB_ok h
          obtain ⟨x5, _, h⟩ := exB_ok h
          obtain ⟨x6, _, h⟩ := exB_ok h
          obtain ⟨x7, _, h⟩ := exB_ok h
          injection h with h
          rw [← h]
          intro b b0 b1
          have b1' : b < D.1.nb + 1 := b1
          show mf_up (mf_up (mf_up (mf_up D.2.1 2 D.1.nb x3.2) 3 D.1.nb x5.2) 4 D.1.nb 5) 5 D.1.nb 0 4 b = 5 ∧ mf_up (mf_up (mf_up (mf_up D.2.1 2 D.1.nb x3.2) 3 D.1.nb x5.2) 4 D.1.nb 5) 5 D.1.nb 0 5 b = 0
          by_cases e : b = D.1.nb
          · rw [e, up_row (by decide), up_self, up_self]
            exact ⟨rfl, rfl⟩
          · rw [up_row (by decide), up_col e, up_row (by decide), up_row (by decide), up_col e, up_row (by decide), up_row (by decide), up_row (by decide)]
            exact o b b0 (by omega)
      · split at h
        · unfold rulS at h
          split at h
          · exact absurd h (by simp)
          · obtain ⟨c, _, h⟩ := exB_ok h
            injection h with h
            rw [← h]
            intro b b0 b1
            refine o b b0 ?_
            have e : (stC D.1 (tX T q - 23) c.2).nb = D.1.nb := by
              unfold stC
              split
              · rfl
              · split
                · rfl
                · split <;> rfl
            exact e ▸ b1
        · split at h
          · obtain ⟨c, _, h⟩ := exB_ok h
            injection h with h
            rw [← h]
            exact o
          · exact absurd h (by simp)
theorem fiv_lop {T : aT} : ∀ (n : Nat) (k : Int) (q : aQ) (D : aW) (x : aW × Int), fivD D → lopS T n k q D = .ok x → fivD x.1
  | 0, k, q, D, x, o, h => by
    unfold lopS at h
    split at h
    · injection h with h
      rw [← h]; exact o
    · exact absurd h (by simp)
  | n + 1, k, q, D, x, o, h => by
    unfold lopS at h
    split at h
    · injection h with h
      rw [← h]; exact o
    · obtain ⟨y, h1, h2⟩ := exB_ok h
      obtain ⟨z, h3, _, h5⟩ := sem_ok h1
      have o3 := fiv_stm o h3
      exact fiv_lop n (k + 1) y.1 y.2 x (by rw [h5]; exact o3) h2
/-! loops that fill -/
def colI (r o : Int) (w : Int → Int) (k : Int) (h h' : mf_M) : Prop := (∀ j, ¬ (o ≤ j ∧ j < o + k) → h' r j = h r j) ∧ ∀ j, 0 ≤ j → j < k → h' r (o + j) = w j
theorem colI.z (r o : Int) (w : Int → Int) (h : mf_M) : colI r o w 0 h h := ⟨fun _ _ => rfl, fun j j0 j1 => absurd j1 (by omega)⟩
theorem colI.up {r o : Int} {w : Int → Int} {k v : Int} {h h' : mf_M} (c : colI r o w k h h') (k0 : 0 ≤ k) (e : v = w k) : colI r o w (k + 1) h (mf_up h' r (o + k) v) := by
  refine ⟨fun j hj => ?_, fun j j0 j1 => ?_⟩
  · rw [up_col (by omega)]; exact c.1 j (by omega)
  · by_cases z : j = k
    · rw [z, up_self, e]
    · rw [up_col (by omega)]; exact c.2 j j0 (by omega)
theorem colI.row {r o : Int} {w : Int → Int} {k : Int} {h h' h'' : mf_M} (c : colI r o w k h h') (e : h'' r = h' r) : colI r o w k h h'' := ⟨fun j hj => by rw [e]; exact c.1 j hj, fun j j0 j1 => by rw [e]; exact c.2 j j0 j1⟩
theorem loopI {N : Int} {B : Int → mf_M → Prop} {I : Int → mf_M → Prop} (st : ∀ k h', 0 ≤ k → k ≤ N → I k h' → (k < N → ∀ h'', I (k + 1) h'' → B (k + 1) h'') → B k h') : ∀ (m : Nat) (k : Int) (h : mf_M), 0 ≤ k → k + m = N → I k h → B k h
  | 0, k, h, k0, km, i => st k h k0 (by omega) i (fun z => absurd z (by omega))
  | m + 1, k, h, k0, km, i => st k h k0 (by omega) i (fun z h'' i'' => loopI st m (k + 1) h'' (by omega) (by omega) i'')
section FoM
variable {C : mf_G} {l : Launch} {d : Nat} {L : Int → mf_M → Prop} {h0 : mf_M} {T : aT} {n : Int} {q : aQ} {D : aW}
theorem look_end {h : mf_M} (X : lxM T q h) : (if tA T q < T.2 then tB T q else -1) = -1 ↔ tK T q = 0 := by
  have al := tA_le T X.2.1.2
  by_cases w : tA T q < T.2
  · rw [if_pos w]
    have b := (X.1.2.1 (tA T q)).1
    exact ⟨fun y => absurd y (by unfold tB; omega), fun y => absurd (tK_end.mp y) (by omega)⟩
  · rw [if_neg w]
    exact ⟨fun _ => tK_end.mpr (by omega), fun _ => rfl⟩
theorem N_lop (hd : 11 ≤ d) (t2 : T.2 ≤ 1600) {r : Except (Int × Int) (aW × Int)} (hE : ∀ e, r = .error e → ∀ h', FNm h0 e h' → BX12_folio_135 C l d L h') (hO : ∀ x, r = .ok x → ∀ (q : aQ) (h' : mf_M), DMm h0 T x.2 q x.1 h' → BX12_folio_135 C l d L h') : ∀ (m : Nat) (k : Int) (q : aQ) (D : aW) (h : mf_M), k + m = 80 → 1 ≤ k → okD D → dlen D.1 ≤ q.1 → DMm h0 T k q D h → lopS T m k q D = r → BX12_folio_113 C l d L h := by
  have bad : ∀ e, r = .error e → ∀ h', FNm h0 e h' → BX12_folio_113 C l d L h' := fun e he h' F => vX12_folio_113 hd ⟨fun _ => hE e he h' F, fun z => absurd z F.2.1⟩
  intro m
  induction m with
  | zero =>
    intro k q D h km k1 o dl P hr
    unfold lopS at hr
    refine vX12_folio_113 hd ⟨fun z => absurd P.b0 z, fun _ => m_look P.2.1 (fun h2 X2 f2 => ⟨fun y => ?_, fun y => ?_⟩)⟩
    · rw [if_pos ((look_end P.2.1).mp y)] at hr
      exact hO _ hr.symm q h2 (P.lex f2 X2.1)
    · rw [if_neg (fun z => y ((look_end P.2.1).mpr z))] at hr
      have P2 := P.lex f2 X2.1
      refine wX12_statementTold (by decide) (fun v1 e1 => ⟨fun z => absurd (P2.2.2.2.trans (by omega)) z, fun _ => m_fail P2.b0 (fun h3 F3 f3 => bad (5, tA T q) hr.symm h3 ?_)⟩)
      rw [X2.2] at e1
      subst e1
      exact P2.bad f3 F3 (by decide)
  | succ m ih =>
    intro k q D h km k1 o dl P hr
    unfold lopS at hr
    refine vX12_folio_113 hd ⟨fun z => absurd P.b0 z, fun _ => m_look P.2.1 (fun h2 X2 f2 => ⟨fun y => ?_, fun y => ?_⟩)⟩
    · rw [if_pos ((look_end P.2.1).mp y)] at hr
      exact hO _ hr.symm q h2 (P.lex f2 X2.1)
    · rw [if_neg (fun z => y ((look_end P.2.1).mpr z))] at hr
      have P2 := P.lex f2 X2.1
      refine N_stm (by decide) o (by omega) (by omega) t2 X2 P2 dl (fun e he h3 F3 => bad e (by rw [← hr, he]; rfl) h3 F3) (fun y' hy h3 P3 => ?_)
      rw [hy, exB_o] at hr
      obtain ⟨z, h5, h6, h7⟩ := sem_ok hy
      have oz := okD_stm o P.2.1.2.1.2 h5
      have kz : tK T z.1 ≠ 0 := fun w => by
        unfold sgB at h6
        rw [w] at h6
        exact absurd h6 (by simp)
      have tz := tN_pos oz.2.2.1 kz
      have e1 : y'.1 = tN T z.1 := by rw [h7]
      have e2 : y'.2 = z.2 := by rw [h7]
      exact ih (k + 1) y'.1 y'.2 h3 (by omega) (by omega) (by rw [e2]; exact oz.1) (by rw [e1, e2]; omega) P3 hr
theorem FNm.u276 {e : Int × Int} {h h' : mf_M} {k v : Int} (F : FNm h0 e h) (k2 : k < 2) (e1 : h' = mf_up h 276 k v) : FNm h0 e h' := by
  subst e1
  exact ⟨⟨by rw [up_row (by decide)]; exact F.1.1, by rw [up_row (by decide)]; exact F.1.2⟩, by rw [up_row (by decide)]; exact F.2.1, F.2.2.tr (frF.up (Or.inr (Or.inl ⟨rfl, k2⟩)))⟩
theorem DMm.u276 {h h' : mf_M} {a b a' b' k v : Int} (P : DMm h0 T n q (D0 a b) h) (e1 : h' = mf_up h 276 k v) (hk : (k = 0 ∧ v = a' ∧ b' = b) ∨ (k = 1 ∧ v = b' ∧ a' = a)) : DMm h0 T n q (D0 a' b') h' := by
  subst e1
  have r : ∀ x, x ≠ 276 → mf_up h 276 k v x = h x := fun x hx => up_row hx
  obtain ⟨⟨z1, z2⟩, z3, z4, z5, z6, z7, z8, z9, z10, z11⟩ := P.2.2.1
  refine P.wr (frF.up (Or.inr (Or.inl ⟨rfl, by omega⟩))) (fun c _ => by rw [r 245 (by decide)]) ⟨⟨?_, ?_⟩, by rw [r 277 (by decide)]; exact z3, fun b b0 b1 => absurd b1 (by show ¬ b < 0; omega), by rw [r 279 (by decide)]; exact z5, fun i i0 i1 => absurd i1 (by show ¬ i < 3 * 0; omega), fun b b0 b1 => absurd b1 (by show ¬ b < 0; omega), fun b b0 b1 => absurd b1 (by show ¬ b < 0; omega), by rw [r 245 (by decide)]; exact z9, fun s s0 s3 => ?_, by rw [r 245 (by decide)]; exact z11⟩ (by rw [r 245 (by decide)]; exact P.2.2.2)
  · show mf_up h 276 k v 276 0 = a'
    rcases hk with ⟨rfl, rfl, _⟩ | ⟨rfl, _, rfl⟩
    · rw [up_self]
    · rw [up_col (by decide)]; exact z1
  · show mf_up h 276 k v 276 1 = b'
    rcases hk with ⟨rfl, _, rfl⟩ | ⟨rfl, rfl, _⟩
    · rw [up_col (by decide)]; exact z2
    · rw [up_self]
  · exact (z10 s s0 s3).to (by rw [r 283 (by decide)]) (by rw [r 284 (by decide)]) (fun i _ => by rw [r 285 (by decide)]) (by rw [r 245 (by decide)]; exact Int.le_refl _)
theorem N_told {h : mf_M} {a b : Int} (hd : 4 ≤ d) (P : DMm h0 T n (0, false) (D0 a b) h) (hE : ∀ e, semS T (szS T) = .error e → ∀ h', FNm h0 e h' → L 0 h') (hO : ∀ z, semS T (szS T) = .ok z → ∀ h', DMm h0 T n z.1 (D0 z.2.1 z.2.2) h' → L 0 h') : mM C l d YX12_folioTold [(2, 245)] h L := by
  have tC : ∀ e, semS T (szS T) = .error e → ∀ h', FNm h0 e h' → mM C l 2 YX12_asksSign [(2, 245), (0, 59)] h' (fun _ h17 => L 0 h17) := fun e he h' F => F_sgn (by decide) F.2.1 (hE e he h' F)
  have tB : ∀ e, semS T (szS T) = .error e → ∀ h', FNm h0 e h' → ∀ v, (∀ h14 : mf_M, h14 = mf_up h' 276 1 v → mM C l 2 YX12_asksSign [(2, 245), (0, 59)] h14 (fun _ h17 => L 0 h17)) := fun e he h' F v h14 e14 => tC e he h14 (F.u276 (by decide) e14)
  have tA' : ∀ e, semS T (szS T) = .error e → ∀ h', FNm h0 e h' → ∀ v, (∀ h7 : mf_M, h7 = mf_up h' 276 0 v → mM C l 3 YX12_asks [(2, 245), (2, 249)] h7 (fun r8 h10 => mM C l 1 YX12_number [(2, 245), (0, 2), (0, 8)] h10 (fun r11 h13 => (∀ h14 : mf_M, h14 = mf_up h13 276 1 r11 → mM C l 2 YX12_asksSign [(2, 245), (0, 59)] h14 (fun r15 h17 => L 0 h17))))) := fun e he h' F v h7 e7 =>
    have F7 := F.u276 (by decide) e7
    F_wrd (by decide) F7.2.1 (F_num (by decide) F7.2.1 (tB e he h7 F7 0))
  unfold semS szS at hE hO tC tB tA'
  refine wX12_folioTold hd (N_wrd (k := 16) (by decide) (by decide) P (fun e he h1 F1 => F_num (by decide) F1.2.1 (tA' e (by replace he : wrdS T (0, false) 16 = .error e := he; rw [he]; rfl) h1 F1 0)) (fun y hy h1 P1 => ?_))
  replace hy : wrdS T (0, false) 16 = .ok y := hy
  rw [hy, exB_o] at hE hO tC tB tA'
  refine N_num (by decide) P1 (fun e he h2 F2 v => tA' e (by rw [he]; rfl) h2 F2 v) (fun x hx h2 P2 _ h3 e3 => ?_)
  rw [hx, exB_o] at hE hO tC tB tA'
  have P3 := P2.u276 (a' := x.2) (b' := b) e3 (Or.inl ⟨rfl, rfl, rfl⟩)
  refine N_wrd (k := 17) (by decide) (by decide) P3 (fun e he h4 F4 => F_num (by decide) F4.2.1 (tB e (by replace he : wrdS T x.1 17 = .error e := he; rw [he]; rfl) h4 F4 0)) (fun y4 hy4 h4 P4 => ?_)
  replace hy4 : wrdS T x.1 17 = .ok y4 := hy4
  rw [hy4, exB_o] at hE hO tC tB tA'
  refine N_num (by decide) P4 (fun e he h5 F5 v => tB e (by rw [he]; rfl) h5 F5 v) (fun x5 hx5 h5 P5 _ h6 e6 => ?_)
  rw [hx5, exB_o] at hE hO tC tB tA'
  have P6 := P5.u276 (a' := x.2) (b' := x5.2) e6 (Or.inr ⟨rfl, rfl, rfl⟩)
  rw [exB_o] at hE hO
  refine M_asksSign (by decide) (by decide) (by decide) (by decide) P6.2.1 (fun s h7 X7 f7 => ?_) (fun s h7 F7 f7 => ?_)
  · rw [if_pos s] at hO
    exact hO _ rfl h7 (P6.lex f7 X7)
  · rw [if_neg (by rw [s]; decide)] at hE
    exact hE _ rfl h7 (P6.bad f7 F7 (by decide))
end FoM
