/-! a folio's statements in the reference -/
def frF (h h' : mf_M) : Prop := (∀ a, a ≠ 245 → ¬ (276 ≤ a ∧ a ≤ 285) → a ≠ 315 → a ≠ 316 → h' a = h a) ∧ (∀ k, 2 ≤ k → h' 276 k = h 276 k) ∧ (∀ k, 3 ≤ k → h' 277 k = h 277 k) ∧ (∀ k, 8 ≤ k → h' 278 k = h 278 k) ∧ (∀ k, 36 ≤ k → h' 280 k = h 280 k) ∧ (∀ k, 8 ≤ k → h' 282 k = h 282 k) ∧ (∀ k, 4 ≤ k → h' 283 k = h 283 k) ∧ (∀ k, 4 ≤ k → h' 284 k = h 284 k) ∧ (∀ k, 1600 ≤ k → h' 285 k = h 285 k) ∧ (∀ k ∈ ([1, 48, 54, 59, 61, 65, 69, 70, 71, 105] : List Int), h' 245 k = h 245 k)
theorem frF.rf (h : mf_M) : frF h h := ⟨fun _ _ _ _ _ => rfl, fun _ _ => rfl, fun _ _ => rfl, fun _ _ => rfl, fun _ _ => rfl, fun _ _ => rfl, fun _ _ => rfl, fun _ _ => rfl, fun _ _ => rfl, fun _ _ => rfl⟩
theorem frF.tr {a b c : mf_M} (x : frF a b) (y : frF b c) : frF a c := ⟨fun r q1 q2 q3 q4 => (y.1 r q1 q2 q3 q4).trans (x.1 r q1 q2 q3 q4), fun k q => (y.2.1 k q).trans (x.2.1 k q), fun k q => (y.2.2.1 k q).trans (x.2.2.1 k q), fun k q => (y.2.2.2.1 k q).trans (x.2.2.2.1 k q), fun k q => (y.2.2.2.2.1 k q).trans (x.2.2.2.2.1 k q), fun k q => (y.2.2.2.2.2.1 k q).trans (x.2.2.2.2.2.1 k q), fun k q => (y.2.2.2.2.2.2.1 k q).trans (x.2.2.2.2.2.2.1 k q), fun k q => (y.2.2.2.2.2.2.2.1 k q).trans (x.2.2.2.2.2.2.2.1 k q), fun k q => (y.2.2.2.2.2.2.2.2.1 k q).trans (x.2.2.2.2.2.2.2.2.1 k q), fun k q => (y.2.2.2.2.2.2.2.2.2 k q).trans (x.2.2.2.2.2.2.2.2.2 k q)⟩
theorem frF.of {h h' : mf_M} (r : ∀ a, a ≠ 245 → a ≠ 315 → a ≠ 316 → h' a = h a) (c : ∀ k ∈ ([1, 48, 54, 59, 61, 65, 69, 70, 71, 105] : List Int), h' 245 k = h 245 k) : frF h h' := ⟨fun a q1 _ q3 q4 => r a q1 q3 q4, fun k _ => by rw [r 276 (by decide) (by decide) (by decide)], fun k _ => by rw [r 277 (by decide) (by decide) (by decide)], fun k _ => by rw [r 278 (by decide) (by decide) (by decide)], fun k _ => by rw [r 280 (by decide) (by decide) (by decide)], fun k _ => by rw [r 282 (by decide) (by decide) (by decide)], fun k _ => by rw [r 283 (by decide) (by decide) (by decide)], fun k _ => by rw [r 284 (by decide) (by decide) (by decide)], fun k _ => by rw [r 285 (by decide) (by decide) (by decide)], c⟩
theorem frL.F {h h' : mf_M} (f : frL h h') : frF h h' := frF.of (fun a q _ _ => f.1 a q) (fun k hk => by
  simp only [List.mem_cons, List.not_mem_nil, or_false] at hk
  exact f.2 k (by omega) (by omega) (by omega) (by omega) (by omega) (by omega))
theorem frQs.F {h h' : mf_M} (f : frQs h h') : frF h h' := frF.of f.1 (fun k hk => by
  simp only [List.mem_cons, List.not_mem_nil, or_false] at hk
  exact f.2 k (by omega) (by omega) (by omega) (by omega) (by omega) (by omega) (by omega) (by omega) (by omega) (by omega))
/-- a row of what is told was written -/
theorem frF.up {h : mf_M} {a k v : Int} (ha : (a = 245 ∧ k ∈ ([47, 52, 53, 55, 95, 97, 98, 99] : List Int)) ∨ (a = 276 ∧ k < 2) ∨ (a = 277 ∧ k < 3) ∨ (a = 278 ∧ k < 8) ∨ a = 279 ∨ (a = 280 ∧ k < 36) ∨ a = 281 ∨ (a = 282 ∧ k < 8) ∨ (a = 283 ∧ k < 4) ∨ (a = 284 ∧ k < 4) ∨ (a = 285 ∧ k < 1600)) : frF h (mf_up h a k v) := by
  have c245 : a = 245 → (k = 47 ∨ k = 52 ∨ k = 53 ∨ k = 55 ∨ k = 95 ∨ k = 97 ∨ k = 98 ∨ k = 99) := fun e => by
    rcases ha with z | z
    · simpa using z.2
    · omega
  have e1 : ∀ b j, ¬ (b = a ∧ j = k) → mf_up h a k v b j = h b j := fun b j n => by rw [up_if, if_neg n]
  have big : a = 245 ∨ (a = 276 ∧ k < 2) ∨ (a = 277 ∧ k < 3) ∨ (a = 278 ∧ k < 8) ∨ a = 279 ∨ (a = 280 ∧ k < 36) ∨ a = 281 ∨ (a = 282 ∧ k < 8) ∨ (a = 283 ∧ k < 4) ∨ (a = 284 ∧ k < 4) ∨ (a = 285 ∧ k < 1600) := ha.elim (fun z => Or.inl z.1) Or.inr
  refine ⟨fun b q1 q2 _ _ => up_row (by omega), fun j hj => e1 _ _ (by omega), fun j hj => e1 _ _ (by omega), fun j hj => e1 _ _ (by omega), fun j hj => e1 _ _ (by omega), fun j hj => e1 _ _ (by omega), fun j hj => e1 _ _ (by omega), fun j hj => e1 _ _ (by omega), fun j hj => e1 _ _ (by omega), fun j hj => e1 _ _ (fun z => ?_)⟩
  have := c245 z.1.symm
  simp only [List.mem_cons, List.not_mem_nil, or_false] at hj
  omega
def tldM (h : mf_M) (s : Int) (cs : List Int) : Prop := (cs = [] ∧ h 283 s = -1) ∨ (cs ≠ [] ∧ 0 ≤ h 283 s ∧ h 283 s + cs.length = h 284 s ∧ h 284 s ≤ h 245 52 ∧ ∀ j : Nat, j < cs.length → h 285 (h 283 s + j) = cs.getD j 0)
def dRM (D : aW) (h : mf_M) : Prop := (h 276 0 = D.1.nl ∧ h 276 1 = D.1.nc) ∧ (h 277 0 = D.1.nb ∧ h 277 1 = D.1.nw ∧ h 277 2 = D.2.2) ∧ (∀ b, 0 ≤ b → b < D.1.nb → h 278 b = pkS (D.1.nm b)) ∧ (∀ k, 0 ≤ k → k < 6 → h 279 k = D.2.1 1 k) ∧ (∀ i, 0 ≤ i → i < 3 * D.1.nw → h 280 i = D.1.wm i) ∧ (∀ b, 0 ≤ b → b < D.1.nb → h 281 (2 * b) = D.2.1 2 b ∧ h 281 (2 * b + 1) = D.2.1 3 b) ∧ (∀ b, 0 ≤ b → b < D.1.nb → h 282 b = D.1.tr b) ∧ h 245 47 = D.1.th ∧ (∀ s, 0 ≤ s → s ≤ 3 → tldM h s (gtC D.1 s)) ∧ h 245 52 = dlen D.1
def DMm (h0 : mf_M) (T : aT) (n : Int) (q : aQ) (D : aW) (h : mf_M) : Prop := frF h0 h ∧ lxM T q h ∧ dRM D h ∧ h 245 53 = n
def FNm (h0 : mf_M) (e : Int × Int) (h : mf_M) : Prop := flM e h ∧ ¬ h 245 5 = 0 ∧ frF h0 h
theorem tldM.to {h h' : mf_M} {s : Int} {cs : List Int} (t : tldM h s cs) (e3 : h' 283 s = h 283 s) (e4 : h' 284 s = h 284 s) (e5 : ∀ i, i < h 245 52 → h' 285 i = h 285 i) (e52 : h 245 52 ≤ h' 245 52) : tldM h' s cs := by
  rcases t with ⟨t1, t2⟩ | ⟨t1, t2, t3, t4, t5⟩
  · exact Or.inl ⟨t1, by rw [e3]; exact t2⟩
  · refine Or.inr ⟨t1, by rw [e3]; exact t2, by rw [e3, e4]; exact t3, by rw [e4]; omega, fun j hj => ?_⟩
    rw [e3, e5 _ (by omega)]; exact t5 j hj
theorem dRM.to {D : aW} {h h' : mf_M} (R : dRM D h) (r : ∀ a, 276 ≤ a → a ≤ 285 → h' a = h a) (e47 : h' 245 47 = h 245 47) (e52 : h' 245 52 = h 245 52) : dRM D h' := by
  obtain ⟨a1, a2, a3, a4, a5, a6, a7, a8, a9, a10⟩ := R
  exact ⟨by rw [r 276 (by decide) (by decide)]; exact a1, by rw [r 277 (by decide) (by decide)]; exact a2, by rw [r 278 (by decide) (by decide)]; exact a3, by rw [r 279 (by decide) (by decide)]; exact a4, by rw [r 280 (by decide) (by decide)]; exact a5, by rw [r 281 (by decide) (by decide)]; exact a6, by rw [r 282 (by decide) (by decide)]; exact a7, by rw [e47]; exact a8, fun s s0 s3 => (a9 s s0 s3).to (by rw [r 283 (by decide) (by decide)]) (by rw [r 284 (by decide) (by decide)]) (fun i _ => by rw [r 285 (by decide) (by decide)]) (by omega), by rw [e52]; exact a10⟩
section DMs
variable {h0 : mf_M} {T : aT} {n : Int} {q : aQ} {D : aW} {h h' : mf_M}
theorem DMm.lex {q' : aQ} (P : DMm h0 T n q D h) (f : frL h h') (X : lxM T q' h') : DMm h0 T n q' D h' := ⟨P.1.tr f.F, X, P.2.2.1.to (fun a a1 a2 => f.1 a (by omega)) (f.2 47 (by decide) (by decide) (by decide) (by decide) (by decide) (by decide)) (f.2 52 (by decide) (by decide) (by decide) (by decide) (by decide) (by decide)), by rw [f.2 53 (by decide) (by decide) (by decide) (by decide) (by decide) (by decide)]; exact P.2.2.2⟩
theorem DMm.bad {k p : Int} (P : DMm h0 T n q D h) (f : frL h h') (F : flM (k, p) h') (hk : k ≠ 0) : FNm h0 (k, p) h' := ⟨F, fun z => hk (F.1.symm.trans z), P.1.tr f.F⟩
theorem DMm.b0 (P : DMm h0 T n q D h) : h 245 5 = 0 := P.2.1.2.2.1
/-- what is told is written -/
theorem DMm.wr {D' : aW} {n' : Int} (P : DMm h0 T n q D h) (f : frF h h') (c : ∀ k, k = 2 ∨ k = 3 ∨ k = 4 ∨ k = 5 ∨ k = 6 → h' 245 k = h 245 k) (R : dRM D' h') (e : h' 245 53 = n') : DMm h0 T n' q D' h' := by
  obtain ⟨⟨t1, t2, t3, t4, t5⟩, q1, b, a, e1, e2, e6⟩ := P.2.1
  exact ⟨P.1.tr f, ⟨⟨t1, t2, by rw [c 3 (by decide)]; exact t3, by rw [f.1 246 (by decide) (by decide) (by decide) (by decide)]; exact t4, t5.keep (fun x hx => f.1 x (by omega) (by omega) (by omega) (by omega))⟩, q1, by rw [c 5 (by decide)]; exact b, by rw [c 2 (by decide)]; exact a, fun z => by rw [c 4 (by decide)]; exact e1 z, fun z => by rw [c 4 (by decide)]; exact e2 z, by rw [c 6 (by decide)]; exact e6⟩, R, e⟩
end DMs
section SpFo
variable {C : mf_G} {l : Launch} {d : Nat} {L : Int → mf_M → Prop} {h0 : mf_M} {T : aT} {n : Int} {q : aQ} {D : aW}
theorem N_num {lo hi : Int} {h : mf_M} (hd : 1 ≤ d) (P : DMm h0 T n q D h) (hE : ∀ e, numS T q lo hi = .error e → ∀ h', FNm h0 e h' → ∀ v, L v h') (hO : ∀ x, numS T q lo hi = .ok x → ∀ h', DMm h0 T n x.1 D h' → h' 245 10 = tA T q → L x.2 h') : mM C l d YX12_number [(2, 245), (0, lo), (0, hi)] h L := by
  refine M_number hd P.2.1 (fun k2 k4 a b h1 X1 e10 f1 => hO (tN T q, tV T q) ?_ h1 (P.lex f1 X1) e10) (fun k2 k4 no h1 F1 f1 => hE _ ?_ h1 (P.bad f1 F1 (by decide))) (fun no h1 F1 f1 => hE _ ?_ h1 (P.bad f1 F1 (by decide)) 0)
  · unfold numS; rw [if_pos ⟨k2, k4⟩, if_pos ⟨a, b⟩]
  · unfold numS; rw [if_pos ⟨k2, k4⟩, if_neg no]
  · unfold numS; rw [if_neg no]
theorem N_wrd {x : Int} {k : Nat} {h : mf_M} (hk : (x, k) ∈ wdI) (hd : 3 ≤ d) (P : DMm h0 T n q D h) (hE : ∀ e, wrdS T q k = .error e → ∀ h', FNm h0 e h' → L 0 h') (hO : ∀ y, wrdS T q k = .ok y → ∀ h', DMm h0 T n y D h' → L 0 h') : mM C l d YX12_asks [(2, 245), (2, x)] h L := by
  refine M_asks hk hd P.2.1 (fun e h1 X1 f1 => hO (tN T q) ?_ h1 (P.lex f1 X1)) (fun e h1 F1 f1 => hE _ ?_ h1 (P.bad f1 F1 (by decide)))
  · unfold wrdS; rw [if_pos e]
  · unfold wrdS; rw [if_neg e]
theorem F_num {lo hi : Int} {h : mf_M} (hd : 1 ≤ d) (F : ¬ h 245 5 = 0) (hK : L 0 h) : mM C l d YX12_number [(2, 245), (0, lo), (0, hi)] h L := wX12_number hd ⟨fun z => absurd z F, fun _ => hK⟩
theorem F_wrd {x : Int} {h : mf_M} (hd : 3 ≤ d) (F : ¬ h 245 5 = 0) (hK : L 0 h) : mM C l d YX12_asks [(2, 245), (2, x)] h L := wX12_asks hd ⟨fun _ => hK, fun z => absurd z F⟩
theorem F_sgn {c : Int} {h : mf_M} (hd : 2 ≤ d) (F : ¬ h 245 5 = 0) (hK : L 0 h) : mM C l d YX12_asksSign [(2, 245), (0, c)] h L := wX12_asksSign hd ⟨fun _ => hK, fun z => absurd z F⟩
theorem F_leaf {h : mf_M} (hd : 2 ≤ d) (F : ¬ h 245 5 = 0) (hK : L 0 h) : mM C l d YX12_leafTold [(2, 245)] h L := wX12_leafTold hd (F_num (by decide) F ⟨fun _ => hK, fun z => absurd z F⟩)
theorem F_cell {x : Int} {h : mf_M} (hd : 2 ≤ d) (F : ¬ h 245 5 = 0) (hK : L 0 h) : mM C l d YX12_cellTold [(2, 245), (0, x)] h L := wX12_cellTold hd (F_num (by decide) F ⟨fun _ => ⟨fun _ => hK, fun z => absurd z F⟩, fun z => absurd z F⟩)
theorem N_leaf {h : mf_M} (hd : 2 ≤ d) (o : okD D) (P : DMm h0 T n q D h) (hE : ∀ e, numS T q 0 (D.1.nl - 1) = .error e → ∀ h', FNm h0 e h' → L 0 h') (hO : ∀ x, numS T q 0 (D.1.nl - 1) = .ok x → ∀ h', DMm h0 T n x.1 D h' → h' 245 10 = tA T q → L x.2 h') : mM C l d YX12_leafTold [(2, 245)] h L := by
  have l6 := o.1.l6
  have l1 := o.2.1
  refine wX12_leafTold hd ?_
  rw [P.2.2.1.1.1, w_id (by omega) (by omega)]
  exact N_num (by decide) P (fun e he h1 F1 v => ⟨fun _ => hE e he h1 F1, fun z => absurd z F1.2.1⟩) (fun x hx h1 P1 e10 => ⟨fun z => absurd P1.b0 z, fun _ => hO x hx h1 P1 e10⟩)
theorem m_standsT {a c : Int} {h : mf_M} (R : dRM D h) (b8 : D.1.nb ≤ 8) (b0 : 0 ≤ D.1.nb) (hK1 : ¬ whoS D.2.1 D.1.nb a c = -1 → L 1 h) (hK0 : whoS D.2.1 D.1.nb a c = -1 → L 0 h) : mM C l d YX12_standsTold [(2, 245), (0, a), (0, c)] h L := by
  have loop : ∀ (m : Nat) (k : Int), 0 ≤ k → k + m = D.1.nb → whoS D.2.1 D.1.nb a c = findN (fun b => decide (D.2.1 2 b = a) && decide (D.2.1 3 b = c)) m k → BX12_standsTold_2 C l d L a c k h := by
    intro m
    induction m with
    | zero =>
      intro k k0 km hw
      exact vX12_standsTold_2 ⟨fun _ => hK0 (by rw [hw]; rfl), fun z => absurd (by rw [R.2.1.1]; omega) z⟩
    | succ m ih =>
      intro k k0 km hw
      obtain ⟨e1, e2⟩ := R.2.2.2.2.2.1 k k0 (by omega)
      have fe : findN (fun b => decide (D.2.1 2 b = a) && decide (D.2.1 3 b = c)) (m + 1) k = if (decide (D.2.1 2 k = a) && decide (D.2.1 3 k = c)) = true then k else findN (fun b => decide (D.2.1 2 b = a) && decide (D.2.1 3 b = c)) m (k + 1) := rfl
      rw [fe] at hw
      have go : ¬ (D.2.1 2 k = a ∧ D.2.1 3 k = c) → ∀ v, v = mf_w32 (k + 1) → BX12_standsTold_2 C l d L a c v h := fun hn v ev => by
        rw [w_id (by omega) (by omega)] at ev
        rw [ev]
        refine ih (k + 1) (by omega) (by omega) ?_
        rw [hw, if_neg (by simpa using hn)]
      refine vX12_standsTold_2 ⟨fun z => absurd z (by rw [R.2.1.1]; omega), fun _ => ?_⟩
      rw [w_id (x := 2 * k) (by omega) (by omega), w_id (x := 2 * k + 1) (by omega) (by omega), e1, e2]
      refine ⟨by omega, by omega, fun z => go (fun y => z y.1), fun z => ⟨by omega, by omega, fun y => go (fun w => y w.2), fun y => hK1 ?_⟩⟩
      rw [hw, if_pos (by simp [z, y])]
      omega
  exact wX12_standsTold (loop D.1.nb.toNat 0 (by decide) (by omega) rfl)
theorem N_cell {a : Int} {h : mf_M} (hd : 2 ≤ d) (o : okD D) (a0 : 0 ≤ a) (a6 : a < 6) (P : DMm h0 T n q D h) (hE : ∀ e, celS T D q a = .error e → ∀ h', FNm h0 e h' → L 0 h') (hO : ∀ x, celS T D q a = .ok x → ∀ h', DMm h0 T n x.1 D h' → L x.2 h') : mM C l d YX12_cellTold [(2, 245), (0, a)] h L := by
  have c8 := o.1.c8
  have c0 := o.1.c0
  refine wX12_cellTold hd ?_
  rw [P.2.2.1.1.2, w_id (by omega) (by omega)]
  refine N_num (by decide) P (fun e he h1 F1 v => ⟨fun _ => ⟨fun _ => hE e ?_ h1 F1, fun z => absurd z F1.2.1⟩, fun z => absurd z F1.2.1⟩) (fun x hx h1 P1 e10 => ⟨fun z => absurd P1.b0 z, fun _ => ⟨a0, a6, ?_⟩⟩)
  · unfold celS; rw [he]; rfl
  · rw [P1.2.2.1.2.2.2.1 a a0 a6, e10]
    have badc : freeB D.2.1 D.1.nb a x.2 = false → mM C l 0 YX12_fail [(2, 245), (0, 2), (0, tA T q)] h1 (fun r6 h8 => ((¬ h8 245 5 = 0 → L 0 h8) ∧ (h8 245 5 = 0 → L x.2 h8))) := fun hf => m_fail P1.b0 (fun h2 F2 f2 => ⟨fun _ => hE _ (by unfold celS; rw [hx, exB_o, if_neg (by rw [hf]; decide)]) h2 (P1.bad f2 F2 (by decide)), fun z => absurd z (P1.bad f2 F2 (by decide)).2.1⟩)
    have nf : ∀ p : ¬ (¬ bitS (D.2.1 1 a) x.2 = 1 ∧ whoS D.2.1 D.1.nb a x.2 = -1), freeB D.2.1 D.1.nb a x.2 = false := fun p => by
      cases e : freeB D.2.1 D.1.nb a x.2 with
      | false => rfl
      | true => exact absurd (freeB_iff.mp e) p
    refine ⟨fun z => badc (nf (fun w => w.1 z)), fun z => m_standsT P1.2.2.1 o.1.b8 o.1.b0 (fun w => ⟨fun y => absurd y (by decide), fun _ => ?_⟩) (fun w => ⟨fun _ => ⟨fun y => absurd P1.b0 y, fun _ => hO x ?_ h1 P1⟩, fun y => absurd rfl y⟩)⟩
    · rw [e10]
      exact badc (nf (fun v => w v.2))
    · unfold celS
      rw [hx, exB_o, if_pos (freeB_iff.mpr ⟨z, w⟩)]
theorem m_isFull {k room p : Int} {h : mf_M} (hd : 1 ≤ d) (P : DMm h0 T n q D h) (k0 : 0 ≤ k) (k6 : k < 6) (hY : h 277 k = room → ∀ h', FNm h0 (5, p) h' → L 1 h') (hN : ¬ h 277 k = room → L 0 h) : mM C l d YX12_isFull [(2, 245), (0, k), (0, room), (0, p)] h L := by
  refine wX12_isFull hd ⟨fun z => absurd P.b0 z, fun _ => ⟨k0, k6, fun z => ⟨fun _ => hN z, fun y => absurd P.b0 y⟩, fun z => m_fail P.b0 (fun h1 F1 f1 => ?_)⟩⟩
  have F := P.bad f1 F1 (by decide)
  exact ⟨fun y => absurd y F.2.1, fun _ => hY z h1 F⟩
/-- glosses -/
theorem N_gloss {h : mf_M} {q0 : aQ} (hd : 3 ≤ d) (o : okD D) (q1 : (tN T q0).1 ≤ T.2) (P : DMm h0 T n (tN T q0) D h) (hE : ∀ e, gloS T D q0 = .error e → ∀ h', FNm h0 e h' → L 0 h') (hO : ∀ x, gloS T D q0 = .ok x → ∀ h', DMm h0 T n x.1 x.2 h' → L 0 h') : mM C l d YX12_glossTold [(2, 245), (0, tA T q0)] h L := by
  have l6 := o.1.l6
  have gr := o.2.2.2.2.1
  unfold gloS at hE hO
  refine wX12_glossTold hd (m_isFull (by decide) P (by decide) (by decide) (fun z h1 F1 => ⟨fun y => absurd y (by decide), fun _ => hE _ ?_ h1 F1⟩) (fun z => ⟨fun _ => ?_, fun y => absurd rfl y⟩))
  · rw [P.2.2.1.2.1.2.2] at z
    rw [if_pos (by omega)]
  · rw [P.2.2.1.2.1.2.2] at z
    rw [if_neg (by omega)] at hE hO
    refine N_leaf (by decide) o P (fun e he h1 F1 => F_cell (by decide) F1.2.1 ⟨fun y => absurd y F1.2.1, fun _ => hE e (by rw [he]; rfl) h1 F1⟩) (fun a ha h1 P1 _ => ?_)
    have na := num_ok q1 ha
    rw [ha, exB_o] at hE hO
    refine N_cell (by decide) o (by omega) (by omega) P1 (fun e he h2 F2 => ⟨fun y => absurd y F2.2.1, fun _ => hE e (by rw [he]; rfl) h2 F2⟩) (fun c hc h2 P2 => ⟨fun _ => ⟨by omega, by omega, fun h3 e3 h4 e4 => ?_⟩, fun y => absurd P2.b0 y⟩)
    rw [hc, exB_o] at hO
    have R := P2.2.2.1
    rw [R.2.2.2.1 a.2 (by omega) (by omega)] at e3
    have e277 : h3 277 2 = D.2.2 := by rw [e3, up_row (by decide)]; exact R.2.1.2.2
    rw [e277, w_id (by omega) (by omega)] at e4
    have f3 : frF h2 h3 := by rw [e3]; exact frF.up (Or.inr (Or.inr (Or.inr (Or.inr (Or.inl rfl)))))
    have f4 : frF h3 h4 := by rw [e4]; exact frF.up (Or.inr (Or.inr (Or.inl ⟨rfl, by decide⟩)))
    have r4 : ∀ b, b ≠ 277 → b ≠ 279 → h4 b = h2 b := fun b b1 b2 => by rw [e4, up_row b1, e3, up_row b2]
    refine hO _ rfl h4 (P2.wr (f3.tr f4) (fun k _ => by rw [r4 245 (by decide) (by decide)]) ?_ (by rw [r4 245 (by decide) (by decide)]; exact P2.2.2.2))
    obtain ⟨a1, a2, a3, a4, a5, a6, a7, a8, a9, a10⟩ := R
    refine ⟨by rw [r4 276 (by decide) (by decide)]; exact a1, ⟨by rw [e4, up_col (by decide), e3, up_row (by decide)]; exact a2.1, by rw [e4, up_col (by decide), e3, up_row (by decide)]; exact a2.2.1, by rw [e4, up_self]⟩, by rw [r4 278 (by decide) (by decide)]; exact a3, fun k k0 k6 => ?_, by rw [r4 280 (by decide) (by decide)]; exact a5, fun b b0 b1 => ?_, by rw [r4 282 (by decide) (by decide)]; exact a7, by rw [r4 245 (by decide) (by decide)]; exact a8, fun s s0 s3 => (a9 s s0 s3).to (by rw [r4 283 (by decide) (by decide)]) (by rw [r4 284 (by decide) (by decide)]) (fun i _ => by rw [r4 285 (by decide) (by decide)]) (by rw [r4 245 (by decide) (by decide)]; exact Int.le_refl _), by rw [r4 245 (by decide) (by decide)]; exact a10⟩
    · show h4 279 k = mf_up D.2.1 1 a.2 (mf_or (D.2.1 1 a.2) (mf_shl 1 c.2)) 1 k
      rw [e4, up_row (by decide), e3, up_if, up_if]
      by_cases e : k = a.2
      · rw [if_pos ⟨rfl, e⟩, if_pos ⟨rfl, e⟩]
      · rw [if_neg (fun z => e z.2), if_neg (fun z => e z.2)]; exact a4 k k0 k6
    · show h4 281 (2 * b) = mf_up D.2.1 1 a.2 (mf_or (D.2.1 1 a.2) (mf_shl 1 c.2)) 2 b ∧ h4 281 (2 * b + 1) = mf_up D.2.1 1 a.2 (mf_or (D.2.1 1 a.2) (mf_shl 1 c.2)) 3 b
      rw [up_row (by decide), up_row (by decide), r4 281 (by decide) (by decide)]; exact a6 b b0 b1
/-- holes of worms -/
theorem N_worm {h : mf_M} {q0 : aQ} (hd : 3 ≤ d) (o : okD D) (q1 : (tN T q0).1 ≤ T.2) (P : DMm h0 T n (tN T q0) D h) (hE : ∀ e, worS T D q0 = .error e → ∀ h', FNm h0 e h' → L 0 h') (hO : ∀ x, worS T D q0 = .ok x → ∀ h', DMm h0 T n x.1 x.2 h' → L 0 h') : mM C l d YX12_wormTold [(2, 245), (0, tA T q0)] h L := by
  have w12 := o.1.w12
  have w0 := o.1.w0
  have c8 := o.1.c8
  have c0 := o.1.c0
  have F43 : ∀ (x y : Int) (h' : mf_M), ¬ h' 245 5 = 0 → L 0 h' → BX12_wormTold_43 C l d L x y h' := fun x y h' F hK => vX12_wormTold_43 (by omega) (F_num (by decide) F ⟨fun z => absurd z F, fun _ => hK⟩)
  unfold worS at hE hO
  refine wX12_wormTold hd (m_isFull (by decide) P (by decide) (by decide) (fun z h1 F1 => ⟨fun y => absurd y (by decide), fun _ => hE _ ?_ h1 F1⟩) (fun z => ⟨fun _ => ?_, fun y => absurd rfl y⟩))
  · rw [P.2.2.1.2.1.2.1] at z
    rw [if_pos (by omega)]
  · rw [P.2.2.1.2.1.2.1] at z
    rw [if_neg (by omega)] at hE hO
    refine N_leaf (by decide) o P (fun e he h1 F1 => F_leaf (by decide) F1.2.1 ⟨fun _ => F43 _ _ _ F1.2.1 (hE e (by rw [he]; rfl) h1 F1), fun y => absurd y F1.2.1⟩) (fun a ha h1 P1 _ => ?_)
    have na := num_ok q1 ha
    rw [ha, exB_o] at hE hO
    refine N_leaf (by decide) o P1 (fun e he h2 F2 => ⟨fun _ => F43 _ _ _ F2.2.1 (hE e (by rw [he]; rfl) h2 F2), fun y => absurd y F2.2.1⟩) (fun b hb h2 P2 e10 => ⟨fun y => absurd P2.b0 y, fun _ => ?_⟩)
    have nb := num_ok na.2.2.1 hb
    rw [hb, exB_o] at hE hO
    refine ⟨fun y => ?_, fun y => ?_⟩
    · rw [if_neg y] at hE hO
      refine vX12_wormTold_43 (by omega) ?_
      rw [P2.2.2.1.1.2, w_id (by omega) (by omega)]
      refine N_num (by decide) P2 (fun e he h3 F3 v => ⟨fun w => absurd w F3.2.1, fun _ => hE e (by rw [he]; rfl) h3 F3⟩) (fun c hc h3 P3 _ => ⟨fun _ v4 e4 => ?_, fun w => absurd P3.b0 w⟩)
      rw [hc, exB_o] at hO
      have R := P3.2.2.1
      rw [R.2.1.2.1, w_id (by omega) (by omega)] at e4
      rw [e4]
      rw [w_id (x := 3 * D.1.nw + 1) (by omega) (by omega), w_id (x := 3 * D.1.nw + 2) (by omega) (by omega)]
      refine ⟨by omega, by omega, fun h5 e5 => ⟨by omega, by omega, fun h6 e6 => ⟨by omega, by omega, fun h7 e7 h8 e8 => ?_⟩⟩⟩
      have e277 : h7 277 1 = D.1.nw := by rw [e7, up_row (by decide), e6, up_row (by decide), e5, up_row (by decide)]; exact R.2.1.2.1
      rw [e277, w_id (by omega) (by omega)] at e8
      have f5 : frF h3 h5 := by rw [e5]; exact frF.up (Or.inr (Or.inr (Or.inr (Or.inr (Or.inr (Or.inl ⟨rfl, by omega⟩))))))
      have f6 : frF h5 h6 := by rw [e6]; exact frF.up (Or.inr (Or.inr (Or.inr (Or.inr (Or.inr (Or.inl ⟨rfl, by omega⟩))))))
      have f7 : frF h6 h7 := by rw [e7]; exact frF.up (Or.inr (Or.inr (Or.inr (Or.inr (Or.inr (Or.inl ⟨rfl, by omega⟩))))))
      have f8 : frF h7 h8 := by rw [e8]; exact frF.up (Or.inr (Or.inr (Or.inl ⟨rfl, by decide⟩)))
      have r8 : ∀ b, b ≠ 277 → b ≠ 280 → h8 b = h3 b := fun b b1 b2 => by rw [e8, up_row b1, e7, up_row b2, e6, up_row b2, e5, up_row b2]
      have c8' : ∀ k, k ≠ 1 → h8 277 k = h3 277 k := fun k hk => by rw [e8, up_col hk, e7, up_row (by decide), e6, up_row (by decide), e5, up_row (by decide)]
      refine hO _ rfl h8 (P3.wr (((f5.tr f6).tr f7).tr f8) (fun k _ => by rw [r8 245 (by decide) (by decide)]) ?_ (by rw [r8 245 (by decide) (by decide)]; exact P3.2.2.2))
      obtain ⟨a1, a2, a3, a4, a5, a6, a7, a8, a9, a10⟩ := R
      refine ⟨by rw [r8 276 (by decide) (by decide)]; exact a1, ⟨by rw [c8' 0 (by decide)]; exact a2.1, by rw [e8, up_self]; rfl, by rw [c8' 2 (by decide)]; exact a2.2.2⟩, by rw [r8 278 (by decide) (by decide)]; exact a3, by rw [r8 279 (by decide) (by decide)]; exact a4, fun i i0 i1 => ?_, by rw [r8 281 (by decide) (by decide)]; exact a6, by rw [r8 282 (by decide) (by decide)]; exact a7, by rw [r8 245 (by decide) (by decide)]; exact a8, fun s s0 s3 => (a9 s s0 s3).to (by rw [r8 283 (by decide) (by decide)]) (by rw [r8 284 (by decide) (by decide)]) (fun i _ => by rw [r8 285 (by decide) (by decide)]) (by rw [r8 245 (by decide) (by decide)]; exact Int.le_refl _), by rw [r8 245 (by decide) (by decide)]; exact a10⟩
      have i1' : i < 3 * (D.1.nw + 1) := i1
      show h8 280 i = if i = 3 * D.1.nw then a.2 else if i = 3 * D.1.nw + 1 then b.2 else if i = 3 * D.1.nw + 2 then c.2 else D.1.wm i
      rw [e8, up_row (by decide), e7, up_if, e6, up_if, e5, up_if]
      by_cases k2 : i = 3 * D.1.nw + 2
      · rw [if_pos ⟨rfl, k2⟩, if_neg (by omega), if_neg (by omega), if_pos k2]
      · rw [if_neg (fun z => k2 z.2)]
        by_cases k1 : i = 3 * D.1.nw + 1
        · rw [if_pos ⟨rfl, k1⟩, if_neg (by omega), if_pos k1]
        · rw [if_neg (fun z => k1 z.2)]
          by_cases k0 : i = 3 * D.1.nw
          · rw [if_pos ⟨rfl, k0⟩, if_pos k0]
          · rw [if_neg (fun z => k0 z.2), if_neg k0, if_neg k1, if_neg k2]; exact a5 i i0 (by omega)
    · rw [if_pos y] at hE
      rw [e10]
      exact m_fail P2.b0 (fun h3 F3 f3 => F43 _ _ _ (P2.bad f3 F3 (by decide)).2.1 (hE _ rfl h3 (P2.bad f3 F3 (by decide))))
end SpFo
