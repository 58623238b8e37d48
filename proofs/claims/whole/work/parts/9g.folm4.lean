/-! a folio told: it stands -/
theorem loop1 {N r o : Int} {w : Int → Int} {B : Int → mf_M → Prop} {E : mf_M → Prop} {h : mf_M} (N0 : 0 ≤ N) (st : ∀ k h', 0 ≤ k → k ≤ N → (∀ a, a ≠ r → h' a = h a) → colI r o w k h h' → (k = N → E h') → (k < N → ∀ v, v = w k → B (k + 1) (mf_up h' r (o + k) v)) → B k h') (hE : ∀ h', (∀ a, a ≠ r → h' a = h a) → colI r o w N h h' → E h') : B 0 h :=
  loopI (N := N) (I := fun k h' => (∀ a, a ≠ r → h' a = h a) ∧ colI r o w k h h') (fun k h' k0 k1 i go => st k h' k0 k1 i.1 i.2 (fun z => hE h' i.1 (z ▸ i.2)) (fun z v ev => go z _ ⟨fun a ha => by rw [up_row ha]; exact i.1 a ha, i.2.up k0 ev⟩)) N.toNat 0 h (by decide) (by omega) ⟨fun _ _ => rfl, colI.z r o w h⟩
theorem loop2 {N r r' o : Int} {w w' : Int → Int} {B : Int → mf_M → Prop} {E : mf_M → Prop} {h : mf_M} (N0 : 0 ≤ N) (hr : r ≠ r') (st : ∀ k h', 0 ≤ k → k ≤ N → (∀ a, a ≠ r → a ≠ r' → h' a = h a) → colI r o w k h h' → colI r' o w' k h h' → (k = N → E h') → (k < N → ∀ v v', v = w k → v' = w' k → B (k + 1) (mf_up (mf_up h' r (o + k) v) r' (o + k) v')) → B k h') (hE : ∀ h', (∀ a, a ≠ r → a ≠ r' → h' a = h a) → colI r o w N h h' → colI r' o w' N h h' → E h') : B 0 h :=
  loopI (N := N) (I := fun k h' => (∀ a, a ≠ r → a ≠ r' → h' a = h a) ∧ colI r o w k h h' ∧ colI r' o w' k h h') (fun k h' k0 k1 i go => st k h' k0 k1 i.1 i.2.1 i.2.2 (fun z => hE h' i.1 (z ▸ i.2.1) (z ▸ i.2.2)) (fun z v v' ev ev' => go z _ ⟨fun a ha ha' => by rw [up_row ha', up_row ha]; exact i.1 a ha ha', (i.2.1.up k0 ev).row (up_row hr), (i.2.2.row (up_row (Ne.symm hr))).up k0 ev'⟩)) N.toNat 0 h (by decide) (by omega) ⟨fun _ _ _ => rfl, colI.z r o w h, colI.z r' o w' h⟩
def stdW (h h' : mf_M) : Prop := (∀ a, a ≠ 245 → ¬ (276 ≤ a ∧ a ≤ 286) → h' a = h a) ∧ (∀ k, k ≠ 48 → k ≠ 54 → k ≠ 65 → k ≠ 69 → h' 245 k = h 245 k) ∧ (h' 245 54 = 1 ∧ h' 245 48 = h 245 47 ∧ h' 245 65 = 0 ∧ h' 245 69 = 0) ∧ (∀ j, 0 ≤ j → j < 2 → h' 276 (2 + j) = h 276 j) ∧ (∀ j, 0 ≤ j → j < 3 → h' 277 (3 + j) = h 277 j) ∧ (∀ j, 0 ≤ j → j < 8 → h' 278 (8 + j) = h 278 j) ∧ (∀ j, 0 ≤ j → j < 8 → h' 282 (8 + j) = h 282 j) ∧ (∀ j, 0 ≤ j → j < 36 → h' 280 (36 + j) = h 280 j) ∧ (∀ j, 0 ≤ j → j < 4 → h' 283 (4 + j) = h 283 j) ∧ (∀ j, 0 ≤ j → j < 4 → h' 284 (4 + j) = h 284 j) ∧ (∀ j, 0 ≤ j → j < h 245 52 → h' 285 (1600 + j) = h 285 j) ∧ (h' 286 0 = 0 ∧ h' 286 39 = 0) ∧ (∀ k, 0 ≤ k → k < 6 → h' 286 (1 + k) = h 279 k) ∧ ∀ b, 0 ≤ b → b < h 277 0 → h' 286 (7 + 4 * b) = h 281 (2 * b) ∧ h' 286 (8 + 4 * b) = h 281 (2 * b + 1) ∧ h' 286 (9 + 4 * b) = 5 ∧ h' 286 (10 + 4 * b) = 0
section StM
variable {C : mf_G} {l : Launch} {d : Nat} {L : Int → mf_M → Prop}
theorem M_stands {h : mf_M} (c0 : 0 ≤ h 245 52) (c1 : h 245 52 ≤ 1600) (b0 : 0 ≤ h 277 0) (b8 : h 277 0 ≤ 8) (hK : ∀ h', stdW h h' → L 0 h') : mM C l d YX12_stands [(2, 245)] h L := by
  refine wX12_stands (fun h1 e1 => ?_)
  have r1 : ∀ a, a ≠ 245 → h1 a = h a := fun a ha => by rw [e1, up_row ha]
  have s1 : ∀ k, k ≠ 54 → h1 245 k = h 245 k := fun k hk => by rw [e1, up_col hk]
  have s54 : h1 245 54 = 1 := by rw [e1, up_self]
  refine loop1 (N := 2) (r := 276) (o := 2) (w := h 276) (B := BX12_stands_7 C l d L) (E := BX12_stands_34 C l d L 0) (by decide) (fun k h' k0 k2 f c e go => vX12_stands_7 ⟨fun z => e (by omega), fun z => ?_⟩) (fun h2 r2 c2 => ?_)
  · have wk : mf_w32 (2 + k) = 2 + k := w_id (by omega) (by omega)
    rw [wk]
    refine ⟨k0, by omega, by omega, by omega, fun h5 e5 v6 e6 => ?_⟩
    rw [w_id (by omega) (by omega)] at e6
    rw [e5, e6]
    exact go (by omega) _ (by rw [c.1 k (by omega), r1 276 (by decide)])
  refine loop1 (N := 3) (r := 277) (o := 3) (w := h 277) (B := BX12_stands_34 C l d L) (E := BX12_stands_61 C l d L 0) (by decide) (fun k h' k0 k2 f c e go => vX12_stands_34 ⟨fun z => e (by omega), fun z => ?_⟩) (fun h3 r3 c3 => ?_)
  · have wk : mf_w32 (3 + k) = 3 + k := w_id (by omega) (by omega)
    rw [wk]
    refine ⟨k0, by omega, by omega, by omega, fun h5 e5 v6 e6 => ?_⟩
    rw [w_id (by omega) (by omega)] at e6
    rw [e5, e6]
    exact go (by omega) _ (by rw [c.1 k (by omega), r2 277 (by decide), r1 277 (by decide)])
  refine loop2 (N := 8) (r := 278) (r' := 282) (o := 8) (w := h 278) (w' := h 282) (B := BX12_stands_61 C l d L) (E := BX12_stands_105 C l d L 0) (by decide) (by decide) (fun k h' k0 k2 f c c' e go => vX12_stands_61 ⟨fun z => e (by omega), fun z => ?_⟩) (fun h4 r4 c4 c4' => ?_)
  · have wk : mf_w32 (8 + k) = 8 + k := w_id (by omega) (by omega)
    rw [wk]
    refine ⟨k0, by omega, by omega, by omega, fun h5 e5 h6 e6 v6 e7 => ?_⟩
    rw [w_id (by omega) (by omega)] at e7
    rw [e6, e5, e7]
    exact go (by omega) _ _ (by rw [c.1 k (by omega), r3 278 (by decide), r2 278 (by decide), r1 278 (by decide)]) (by rw [up_row (by decide), c'.1 k (by omega), r3 282 (by decide), r2 282 (by decide), r1 282 (by decide)])
  refine loop1 (N := 36) (r := 280) (o := 36) (w := h 280) (B := BX12_stands_105 C l d L) (E := fun h5 => ∀ h6 : mf_M, h6 = mf_up h5 245 48 (h5 245 47) → BX12_stands_142 C l d L 0 h6) (by decide) (fun k h' k0 k2 f c e go => vX12_stands_105 ⟨fun z => e (by omega), fun z => ?_⟩) (fun h5 r5 c5 h6 e6 => ?_)
  · have wk : mf_w32 (36 + k) = 36 + k := w_id (by omega) (by omega)
    rw [wk]
    refine ⟨k0, by omega, by omega, by omega, fun h5 e5 v6 e6 => ?_⟩
    rw [w_id (by omega) (by omega)] at e6
    rw [e5, e6]
    exact go (by omega) _ (by rw [c.1 k (by omega), r4 280 (by decide) (by decide), r3 280 (by decide), r2 280 (by decide), r1 280 (by decide)])
  have r6 : ∀ a, a ≠ 245 → h6 a = h5 a := fun a ha => by rw [e6, up_row ha]
  have q5 : h5 245 = h1 245 := by rw [r5 245 (by decide), r4 245 (by decide) (by decide), r3 245 (by decide), r2 245 (by decide)]
  have s6 : ∀ k, k ≠ 48 → k ≠ 54 → h6 245 k = h 245 k := fun k hk hk' => by rw [e6, up_col hk, q5, s1 k hk']
  have s48 : h6 245 48 = h 245 47 := by rw [e6, up_self, q5, s1 47 (by decide)]
  have s54' : h6 245 54 = 1 := by rw [e6, up_col (by decide), q5, s54]
  have p6 : ∀ a, a ≠ 245 → a ≠ 276 → a ≠ 277 → a ≠ 278 → a ≠ 280 → a ≠ 282 → h6 a = h a := fun a q1 q2 q3 q4 q6 q7 => by rw [r6 a q1, r5 a q6, r4 a q4 q7, r3 a q3, r2 a q2, r1 a q1]
  have k276 : ∀ j, 0 ≤ j → j < 2 → h6 276 (2 + j) = h 276 j := fun j j0 j1 => by rw [r6 276 (by decide), r5 276 (by decide), r4 276 (by decide) (by decide), r3 276 (by decide)]; exact c2.2 j j0 j1
  have k277 : ∀ j, 0 ≤ j → j < 3 → h6 277 (3 + j) = h 277 j := fun j j0 j1 => by rw [r6 277 (by decide), r5 277 (by decide), r4 277 (by decide) (by decide)]; exact c3.2 j j0 j1
  have k2770 : h6 277 0 = h 277 0 := by rw [r6 277 (by decide), r5 277 (by decide), r4 277 (by decide) (by decide), c3.1 0 (by omega), r2 277 (by decide), r1 277 (by decide)]
  have k278 : ∀ j, 0 ≤ j → j < 8 → h6 278 (8 + j) = h 278 j := fun j j0 j1 => by rw [r6 278 (by decide), r5 278 (by decide)]; exact c4.2 j j0 j1
  have k282 : ∀ j, 0 ≤ j → j < 8 → h6 282 (8 + j) = h 282 j := fun j j0 j1 => by rw [r6 282 (by decide), r5 282 (by decide)]; exact c4'.2 j j0 j1
  have k280 : ∀ j, 0 ≤ j → j < 36 → h6 280 (36 + j) = h 280 j := fun j j0 j1 => by rw [r6 280 (by decide)]; exact c5.2 j j0 j1
  clear r6 r5 r4 r3 r2 r1 c2 c3 c4 c4' c5 q5 s1 s54
  refine loop2 (N := 4) (r := 283) (r' := 284) (o := 4) (w := h 283) (w' := h 284) (B := BX12_stands_142 C l d L) (E := BX12_stands_183 C l d L 0) (by decide) (by decide) (fun k h' k0 k2 f c c' e go => vX12_stands_142 ⟨fun z => e (by omega), fun z => ?_⟩) (fun h7 r7 c7 c7' => ?_)
  · have wk : mf_w32 (4 + k) = 4 + k := w_id (by omega) (by omega)
    rw [wk]
    refine ⟨k0, by omega, by omega, by omega, fun h5 e5 h6 e6 v6 e7 => ?_⟩
    rw [w_id (by omega) (by omega)] at e7
    rw [e6, e5, e7]
    exact go (by omega) _ _ (by rw [c.1 k (by omega), p6 283 (by decide) (by decide) (by decide) (by decide) (by decide) (by decide)]) (by rw [up_row (by decide), c'.1 k (by omega), p6 284 (by decide) (by decide) (by decide) (by decide) (by decide) (by decide)])
  have c52 : h7 245 52 = h 245 52 := by rw [r7 245 (by decide) (by decide), s6 52 (by decide) (by decide)]
  refine loop1 (N := h 245 52) (r := 285) (o := 1600) (w := h 285) (B := BX12_stands_183 C l d L) (E := BX12_stands_215 C l d L 0) c0 (fun k h' k0 k2 f c e go => vX12_stands_183 ⟨fun z => e (by rw [f 245 (by decide), c52] at z; omega), fun z => ?_⟩) (fun h8 r8 c8 => ?_)
  · rw [f 245 (by decide), c52] at z
    have wk : mf_w32 (1600 + k) = 1600 + k := w_id (by omega) (by omega)
    rw [wk]
    refine ⟨k0, by omega, by omega, by omega, fun h5 e5 v6 e6 => ?_⟩
    rw [w_id (by omega) (by omega)] at e6
    rw [e5, e6]
    exact go (by omega) _ (by rw [c.1 k (by omega), r7 285 (by decide) (by decide), p6 285 (by decide) (by decide) (by decide) (by decide) (by decide) (by decide)])
  refine loop1 (N := 160) (r := 286) (o := 0) (w := fun _ => 0) (B := BX12_stands_215 C l d L) (E := BX12_stands_237 C l d L 0) (by decide) (fun k h' k0 k2 f c e go => vX12_stands_215 ⟨fun z => e (by omega), fun z => ?_⟩) (fun h9 r9 c9 => ?_)
  · refine ⟨k0, by omega, fun h5 e5 v6 e6 => ?_⟩
    rw [w_id (by omega) (by omega)] at e6
    have g := go (by omega) 0 rfl
    rw [Int.zero_add] at g
    rw [e5, e6]
    exact g
  refine loop1 (N := 6) (r := 286) (o := 1) (w := h 279) (B := BX12_stands_237 C l d L) (E := BX12_stands_265 C l d L 0) (by decide) (fun k h' k0 k2 f c e go => vX12_stands_237 ⟨fun z => e (by omega), fun z => ?_⟩) (fun h10 r10 c10 => ?_)
  · have wk : mf_w32 (1 + k) = 1 + k := w_id (by omega) (by omega)
    rw [wk]
    refine ⟨k0, by omega, by omega, by omega, fun h5 e5 v6 e6 => ?_⟩
    rw [w_id (by omega) (by omega)] at e6
    rw [e5, e6]
    exact go (by omega) _ (by rw [f 279 (by decide), r9 279 (by decide), r8 279 (by decide), r7 279 (by decide) (by decide), p6 279 (by decide) (by decide) (by decide) (by decide) (by decide) (by decide)])
  have p10 : ∀ a, a ≠ 283 → a ≠ 284 → a ≠ 285 → a ≠ 286 → h10 a = h6 a := fun a q1 q2 q3 q4 => by rw [r10 a q4, r9 a q4, r8 a q3, r7 a q1 q2]
  have z0 : ∀ i, 0 ≤ i → i < 160 → ¬ (1 ≤ i ∧ i < 7) → h10 286 i = 0 := fun i i0 i1 hi => by
    rw [c10.1 i (by omega)]
    have := c9.2 i i0 i1
    rw [Int.zero_add] at this
    exact this
  have z1 : ∀ k, 0 ≤ k → k < 6 → h10 286 (1 + k) = h 279 k := c10.2
  have k283 : ∀ j, 0 ≤ j → j < 4 → h10 283 (4 + j) = h 283 j := fun j j0 j1 => by rw [r10 283 (by decide), r9 283 (by decide), r8 283 (by decide)]; exact c7.2 j j0 j1
  have k284 : ∀ j, 0 ≤ j → j < 4 → h10 284 (4 + j) = h 284 j := fun j j0 j1 => by rw [r10 284 (by decide), r9 284 (by decide), r8 284 (by decide)]; exact c7'.2 j j0 j1
  have k285 : ∀ j, 0 ≤ j → j < h 245 52 → h10 285 (1600 + j) = h 285 j := fun j j0 j1 => by rw [r10 285 (by decide), r9 285 (by decide)]; exact c8.2 j j0 j1
  refine loopI (N := h 277 0) (B := BX12_stands_265 C l d L) (I := fun k h' => (∀ a, a ≠ 286 → h' a = h10 a) ∧ (∀ i, i < 7 ∨ 7 + 4 * k ≤ i → h' 286 i = h10 286 i) ∧ ∀ b, 0 ≤ b → b < k → h' 286 (7 + 4 * b) = h 281 (2 * b) ∧ h' 286 (8 + 4 * b) = h 281 (2 * b + 1) ∧ h' 286 (9 + 4 * b) = 5 ∧ h' 286 (10 + 4 * b) = 0) (fun k h' k0 k1 i go => vX12_stands_265 ⟨fun z => ?_, fun z => ?_⟩) (h 277 0).toNat 0 h10 (by decide) (by omega) ⟨fun _ _ => rfl, fun _ _ => rfl, fun b _ hb => absurd hb (by omega)⟩
  · have e277 : h' 277 0 = h 277 0 := by rw [i.1 277 (by decide), p10 277 (by decide) (by decide) (by decide) (by decide), k2770]
    intro h11 e11 h12 e12
    have r12 : ∀ a, a ≠ 245 → h12 a = h' a := fun a ha => by rw [e12, up_row ha, e11, up_row ha]
    have w12 : ∀ a, a ≠ 245 → a ≠ 286 → h12 a = h10 a := fun a q1 q2 => by rw [r12 a q1, i.1 a q2]
    have q12 : ∀ a, a ≠ 245 → a ≠ 283 → a ≠ 284 → a ≠ 285 → a ≠ 286 → h12 a = h6 a := fun a q0 q1 q2 q3 q4 => by rw [w12 a q0 q4, p10 a q1 q2 q3 q4]
    have s12 : ∀ k, k ≠ 65 → k ≠ 69 → h12 245 k = h6 245 k := fun k q1 q2 => by rw [e12, up_col q1, e11, up_col q2, i.1 245 (by decide), p10 245 (by decide) (by decide) (by decide) (by decide)]
    have kN : k = h 277 0 := by omega
    rw [kN] at i
    refine hK h12 ⟨fun a a1 a2 => by rw [q12 a a1 (by omega) (by omega) (by omega) (by omega), p6 a a1 (by omega) (by omega) (by omega) (by omega) (by omega)], fun k q1 q2 q3 q4 => by rw [s12 k q3 q4, s6 k q1 q2], ⟨by rw [s12 54 (by decide) (by decide)]; exact s54', by rw [s12 48 (by decide) (by decide)]; exact s48, by rw [e12, up_self], by rw [e12, up_col (by decide), e11, up_self]⟩, fun j j0 j1 => by rw [q12 276 (by decide) (by decide) (by decide) (by decide) (by decide)]; exact k276 j j0 j1, fun j j0 j1 => by rw [q12 277 (by decide) (by decide) (by decide) (by decide) (by decide)]; exact k277 j j0 j1, fun j j0 j1 => by rw [q12 278 (by decide) (by decide) (by decide) (by decide) (by decide)]; exact k278 j j0 j1, fun j j0 j1 => by rw [q12 282 (by decide) (by decide) (by decide) (by decide) (by decide)]; exact k282 j j0 j1, fun j j0 j1 => by rw [q12 280 (by decide) (by decide) (by decide) (by decide) (by decide)]; exact k280 j j0 j1, fun j j0 j1 => by rw [w12 283 (by decide) (by decide)]; exact k283 j j0 j1, fun j j0 j1 => by rw [w12 284 (by decide) (by decide)]; exact k284 j j0 j1, fun j j0 j1 => by rw [w12 285 (by decide) (by decide)]; exact k285 j j0 j1, ⟨by rw [r12 286 (by decide), i.2.1 0 (by omega)]; exact z0 0 (by decide) (by decide) (by decide), by rw [r12 286 (by decide), i.2.1 39 (by omega)]; exact z0 39 (by decide) (by decide) (by decide)⟩, fun k k0 k1 => by rw [r12 286 (by decide), i.2.1 (1 + k) (by omega)]; exact z1 k k0 k1, fun b b0 b1 => by rw [r12 286 (by decide)]; exact i.2.2 b b0 b1⟩
  · have e277 : h' 277 0 = h 277 0 := by rw [i.1 277 (by decide), p10 277 (by decide) (by decide) (by decide) (by decide), k2770]
    rw [e277] at z
    have w1 : mf_w32 (2 * k) = 2 * k := w_id (by omega) (by omega)
    have w2 : mf_w32 (4 * k) = 4 * k := w_id (by omega) (by omega)
    have w3 : mf_w32 (7 + 4 * k) = 7 + 4 * k := w_id (by omega) (by omega)
    have w4 : mf_w32 (2 * k + 1) = 2 * k + 1 := w_id (by omega) (by omega)
    have w5 : mf_w32 (7 + 4 * k + 1) = 7 + 4 * k + 1 := w_id (by omega) (by omega)
    have w6 : mf_w32 (7 + 4 * k + 2) = 7 + 4 * k + 2 := w_id (by omega) (by omega)
    have w7 : mf_w32 (k + 1) = k + 1 := w_id (by omega) (by omega)
    rw [w1, w2, w3, w4, w5, w6, w7]
    have e281 : ∀ j, h' 281 j = h 281 j := fun j => by rw [i.1 281 (by decide), p10 281 (by decide) (by decide) (by decide) (by decide), p6 281 (by decide) (by decide) (by decide) (by decide) (by decide) (by decide)]
    refine ⟨by omega, by omega, by omega, by omega, fun h7 e7 => ⟨by omega, by omega, by omega, by omega, fun h12 e12 => ⟨by omega, by omega, fun h15 e15 v16 e16 => ?_⟩⟩⟩
    rw [e16]
    have ot : ∀ j, j ≠ 7 + 4 * k → j ≠ 7 + 4 * k + 1 → j ≠ 7 + 4 * k + 2 → h15 286 j = h' 286 j := fun j q1 q2 q3 => by rw [e15, up_col q3, e12, up_col q2, e7, up_col q1]
    refine go (by omega) h15 ⟨fun a ha => by rw [e15, up_row ha, e12, up_row ha, e7, up_row ha]; exact i.1 a ha, fun j hj => by rw [ot j (by omega) (by omega) (by omega)]; exact i.2.1 j (by omega), fun b b0 b1 => ?_⟩
    by_cases z2 : b = k
    · subst z2
      refine ⟨?_, ?_, ?_, ?_⟩
      · rw [e15, up_col (by omega), e12, up_col (by omega), e7, up_self, e281]
      · rw [e15, up_col (by omega), e12, show 8 + 4 * b = 7 + 4 * b + 1 by omega, up_self, e7, up_row (by decide), e281]
      · rw [e15, show 9 + 4 * b = 7 + 4 * b + 2 by omega, up_self]
      · rw [ot _ (by omega) (by omega) (by omega), i.2.1 _ (by omega)]
        exact z0 _ (by omega) (by omega) (by omega)
    · rw [ot _ (by omega) (by omega) (by omega), ot _ (by omega) (by omega) (by omega), ot _ (by omega) (by omega) (by omega), ot _ (by omega) (by omega) (by omega)]
      exact i.2.2 b b0 (by omega)
end StM
