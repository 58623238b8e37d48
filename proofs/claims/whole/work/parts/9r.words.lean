/-! the words are made -/
theorem lb_ok : ∀ k : Fin 174, mf_and (mf_lb (k.val : Int)) 255 = mf_lb (k.val : Int) ∧ 0 ≤ mf_lb (k.val : Int) ∧ mf_lb (k.val : Int) < 128 := by decide +kernel
theorem lb_at {i : Int} (i0 : 0 ≤ i) (i1 : i < 174) : mf_and (mf_lb i) 255 = mf_lb i ∧ 0 ≤ mf_lb i ∧ mf_lb i < 128 := by
  have := lb_ok ⟨i.toNat, by omega⟩
  simp only [] at this
  rw [show ((i.toNat : Nat) : Int) = i by omega] at this
  exact this
def adL0 (x : Int) : Int := mf_w32 ((mf_w32 (x * 27)) + 0)
def adL (x c : Int) : Int := mf_w32 ((mf_w32 (x * 27)) + (mf_w32 ((mf_w32 (c - 97)) + 1)))
def pkF (s e : Int) : Nat → Int → Int → Int
  | 0, x, _ => x
  | m + 1, x, i => if s + 6 ≤ i then x else if e ≤ i then pkF s e m (adL0 x) (i + 1) else if 174 ≤ i then pkF s e m (adL0 x) (i + 1) else pkF s e m (adL x (mf_lb i)) (i + 1)
def wdF : Nat → Int → Int → Int → mf_M → mf_M
  | 0, _, _, _, h => h
  | m + 1, a, s, i, h => if 174 ≤ i then h else if ¬ mf_lb i = 32 then wdF m a s (i + 1) h else if 34 ≤ a then wdF m a s (i + 1) h else wdF m (a + 1) (i + 1) (i + 1) (mf_up h 2 a (pkF s i 7 0 s))
section Wds
variable {C : mf_G} {l : Launch} {d n : Nat} {K : mf_Kt} {g h : mf_M}
theorem x_chr {i : Int} (hd : 4 ≤ d) (i0 : 0 ≤ i) (i1 : i < 174) (hK : K (mf_lb i) g h) : mf_MT C l d YJ0_charAt_5068e [(2, (-2)), (0, i)] n n g h K := by
  have b := lb_at i0 i1
  refine mJ0_charAt_5068e (x0 := 0) hd (mJ0_isLatin1_aae02 (x0 := 0) ⟨fun z => absurd z (by decide), fun _ => ⟨fun z => absurd rfl z, fun _ => ⟨fun z => absurd z (by decide), fun _ => mJ1_charAt_3b067 (x0 := 0) (by decide) (mJ0_checkIndex_df160 (by decide) (mJ3_checkIndex_8e157 ⟨fun z => absurd z (by omega), fun _ => ⟨fun _ => ?_, fun z => absurd i1 z⟩⟩))⟩⟩⟩)
  rw [b.1]
  exact ⟨i0, i1, b.2.1, b.2.2, b.2.1, b.2.2, hK⟩
theorem x_lng (hd : 1 ≤ d) (hK : K 174 g h) : mf_MT C l d YJ0_length_8abf5 [(2, (-2))] n n g h K := by
  refine mJ0_length_8abf5 (x0 := 0) hd (mJ0_coder_7d493 (x0 := 0) ⟨fun z => absurd z (by decide), fun _ => ?_⟩)
  rw [show mf_shr 174 0 = 174 by decide]
  exact hK
theorem x_pk {s e : Int} (hd : 5 ≤ d) (s0 : 0 ≤ s) (s1 : s ≤ 1000) : ∀ (m : Nat) (x i : Int), 0 ≤ i → i ≤ s + 6 → s + 6 < i + m → K (pkF s e m x i) g h → JX10_packListed_4 C l d n K s e x i g h := by
  intro m
  induction m with
  | zero => intro x i i0 i6 im; exact absurd im (by omega)
  | succ m ih =>
    intro x i i0 i6 im hK
    unfold pkF at hK
    have w6 : mf_w32 (s + 6) = s + 6 := w_id (by omega) (by omega)
    refine bX10_packListed_4 hd ?_
    rw [w6]
    have w1 : mf_w32 (i + 1) = i + 1 := w_id (by omega) (by omega)
    refine ⟨fun z => by rw [if_pos z] at hK; exact hK, fun z => ⟨fun y v1 e1 v ev => ?_, fun y => x_lng (by decide) ⟨fun w v1 e1 v ev => ?_, fun w => x_chr (by decide) i0 (by omega) (fun v1 e1 v ev => ?_)⟩⟩⟩
    · rw [if_neg z, if_pos y] at hK
      rw [ev, w1, e1]
      exact ih _ (i + 1) (by omega) (by omega) (by omega) hK
    · rw [if_neg z, if_neg y, if_pos w] at hK
      rw [ev, w1, e1]
      exact ih _ (i + 1) (by omega) (by omega) (by omega) hK
    · rw [if_neg z, if_neg y, if_neg w] at hK
      rw [ev, w1, e1]
      exact ih _ (i + 1) (by omega) (by omega) (by omega) hK
theorem x_wds (hd : 6 ≤ d) (g0 : g 1 0 = 2) : ∀ (m : Nat) (a s i : Int) (h : mf_M), 0 ≤ a → a ≤ i → 0 ≤ s → s ≤ i → i ≤ 174 → 174 < i + m → K 0 g (wdF m a s i h) → JX10_init_18 C l d 2 3 3 K 1 a s i g h := by
  have i20 : mf_is 3 (g 1 0) 20 := by rw [g0]; exact ⟨by decide, by decide, by decide +kernel⟩
  have ln : mf_len (g 1 0) = 34 := by rw [g0]; decide +kernel
  intro m
  induction m with
  | zero => intro a s i h a0 a1 s0 s1 i1 im; exact absurd im (by omega)
  | succ m ih =>
    intro a s i h a0 a1 s0 s1 i1 im hK
    unfold wdF at hK
    have w1 : mf_w32 (i + 1) = i + 1 := w_id (by omega) (by omega)
    refine bX10_init_18 hd (by decide) ⟨by decide, x_lng (by decide) ⟨fun z => ⟨rfl, by rw [if_pos z] at hK; exact hK⟩, fun z => x_chr (by decide) (by omega) (by omega) ⟨fun y v ev => ?_, fun y => ⟨⟨by decide, by decide, by decide +kernel⟩, i20, fun w v ev => ?_, fun w => mX10_packListed (x_pk (by decide) s0 (by omega) 7 0 s s0 (by omega) (by omega) ⟨a0, by omega, fun h1 e1 v ev v2 ev2 v3 ev3 => ?_⟩)⟩⟩⟩⟩
    · rw [if_neg z, if_pos y] at hK
      rw [ev, w1]
      exact ih a s (i + 1) h a0 (by omega) s0 (by omega) (by omega) (by omega) hK
    · rw [ln] at w
      rw [if_neg z, if_neg (fun q => q y), if_pos w] at hK
      rw [ev, w1]
      exact ih a s (i + 1) h a0 (by omega) s0 (by omega) (by omega) (by omega) hK
    · rw [ln] at w
      rw [if_neg z, if_neg (fun q => q y), if_neg w] at hK
      rw [g0] at e1
      rw [ev, ev2, ev3, w1, w_id (by omega) (by omega), e1]
      exact ih (a + 1) (i + 1) (i + 1) _ (by omega) (by omega) (by omega) (by omega) (by omega) (by omega) hK
theorem wdF_fr : ∀ (m : Nat) (a s i : Int) (h : mf_M) (r : Int), r ≠ 2 → wdF m a s i h r = h r
  | 0, _, _, _, _, _, _ => rfl
  | m + 1, a, s, i, h, r, hr => by
    unfold wdF
    split
    · rfl
    · split
      · exact wdF_fr m _ _ _ _ r hr
      · split
        · exact wdF_fr m _ _ _ _ r hr
        · rw [wdF_fr m _ _ _ _ r hr, up_row hr]
theorem wdF_at : ∀ w : Fin 34, wdF 175 0 0 0 (fun _ _ => 0) 2 (w.val : Int) = pkP (wdX.getD w.val []) := by decide +kernel
theorem c10 (hd : 6 ≤ d) (F : frs 2 g h) (hK : K 0 (mf_up g 1 0 2) (wdF 175 0 0 0 h)) : mf_MT C l d YX10_init [(2, 1)] 2 3 g h K := by
  refine mX10_init (by omega) ⟨by decide, by decide +kernel, moreR (by decide), fun j => F.1 _ (by decide) _, fun j => F.2 _ (by decide) _, ⟨by decide, by decide, by decide +kernel⟩, fun g1 e1 => ?_⟩
  replace e1 : g1 = mf_up g 1 0 2 := e1
  subst e1
  exact x_wds hd (up_self _ _ _ _) 175 0 0 0 h (by decide) (by decide) (by decide) (by decide) (by decide) (by decide) hK
end Wds
