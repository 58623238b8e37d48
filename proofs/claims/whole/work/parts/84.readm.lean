/-! the best order of reading, in the reference -/
def pwS (N : Int) : Nat → Int
  | 0 => 1
  | n + 1 => pwS N n * N
def digS (N row n k : Int) : Int := row / pwS N (n - 1 - k).toNat % N
/-- how many meet by a row, told as one number -/
def cIS (F : aF) : Nat → Int → mf_M → Int
  | 0, _, _ => 0
  | n + 1, t, σ => prS σ F.nl F.nc F.nb (t / pwS (F.nl + 1) n) + cIS F n (t % pwS (F.nl + 1) n) (dyS F (t / pwS (F.nl + 1) n) σ).1
def fmS (c : Int → Int) : Nat → Int × Int
  | 0 => (-1, 0)
  | m + 1 => if (fmS c m).1 = -1 ∨ c m < (fmS c m).1 then (c m, (m : Int)) else fmS c m
def bestS (S : aS) (n : Int) : Int × Int := fmS (fun t => cIS S.F n.toNat t S.st) (pwS (S.F.nl + 1) n.toNat).toNat
def readS (S : aS) (n k : Int) : Int := if (S.F.nl ≠ 0 ∧ 1 ≤ n ∧ n ≤ 3 ∧ S.st 0 0 + n ≤ 999) ∧ -1 ≤ k ∧ k ≤ n - 1 then (if k = -1 then (bestS S n).1 else digS (S.F.nl + 1) (bestS S n).2 n k) else -1
theorem pw_range {N : Int} (h1 : 1 ≤ N) (h7 : N ≤ 7) {k : Nat} (hk : k ≤ 3) : 1 ≤ pwS N k ∧ pwS N k ≤ 343 := by
  have hN : N = 1 ∨ N = 2 ∨ N = 3 ∨ N = 4 ∨ N = 5 ∨ N = 6 ∨ N = 7 := by omega
  have hk' : k = 0 ∨ k = 1 ∨ k = 2 ∨ k = 3 := by omega
  rcases hN with rfl | rfl | rfl | rfl | rfl | rfl | rfl <;> rcases hk' with rfl | rfl | rfl | rfl <;> decide
theorem pw_dig {N : Int} (h1 : 1 ≤ N) (h7 : N ≤ 7) {t : Int} (t0 : 0 ≤ t) {j m : Nat} (hm : j + m + 1 ≤ 3) : (t % pwS N (m + 1)) / pwS N m = t / pwS N m % N ∧ (t % pwS N (m + 1)) % pwS N m = t % pwS N m := by
  have hN : N = 1 ∨ N = 2 ∨ N = 3 ∨ N = 4 ∨ N = 5 ∨ N = 6 ∨ N = 7 := by omega
  have hm' : m = 0 ∨ m = 1 ∨ m = 2 := by omega
  rcases hN with rfl | rfl | rfl | rfl | rfl | rfl | rfl <;> rcases hm' with rfl | rfl | rfl <;> simp only [pwS] <;> omega
theorem cIS_range (F : aF) (h8 : F.nb ≤ 8) : ∀ (n : Nat) (t : Int) (σ : mf_M), 0 ≤ cIS F n t σ ∧ cIS F n t σ ≤ 64 * n
  | 0, _, _ => ⟨Int.le_refl _, by simp [cIS]⟩
  | n + 1, t, σ => by
    unfold cIS
    have h1 := prS_range σ F.nl F.nc F.nb (t / pwS (F.nl + 1) n) h8
    have h2 := cIS_range F h8 n (t % pwS (F.nl + 1) n) (dyS F (t / pwS (F.nl + 1) n) σ).1
    omega
theorem fm_best {c : Int → Int} (hc : ∀ t, 0 ≤ c t) : ∀ (m : Nat), (m = 0 ∧ fmS c m = (-1, 0)) ∨ (0 < m ∧ 0 ≤ (fmS c m).2 ∧ (fmS c m).2 < m ∧ c (fmS c m).2 = (fmS c m).1 ∧ ∀ i : Int, 0 ≤ i → i < m → (fmS c m).1 ≤ c i ∧ (i < (fmS c m).2 → (fmS c m).1 < c i))
  | 0 => Or.inl ⟨rfl, rfl⟩
  | m + 1 => by
    right
    unfold fmS
    rcases fm_best hc m with ⟨h1, h2⟩ | ⟨h1, h2, h3, h4, h5⟩
    · subst h1
      rw [h2, if_pos (Or.inl rfl)]
      refine ⟨by omega, by simp, by simp, rfl, fun i i0 i1 => ?_⟩
      have : i = 0 := by omega
      subst this
      exact ⟨Int.le_refl _, fun q => absurd q (by simp)⟩
    · have hne : ¬ (fmS c m).1 = -1 := by rw [← h4]; have := hc (fmS c m).2; omega
      by_cases hlt : c m < (fmS c m).1
      · rw [if_pos (Or.inr hlt)]
        refine ⟨by omega, by simp, by simp; omega, rfl, fun i i0 i1 => ?_⟩
        simp only []
        by_cases e : i = m
        · rw [e]; exact ⟨Int.le_refl _, fun q => absurd q (by omega)⟩
        · have := (h5 i i0 (by omega)).1
          exact ⟨by omega, fun _ => by omega⟩
      · rw [if_neg (fun q => q.elim hne hlt)]
        refine ⟨by omega, h2, by omega, h4, fun i i0 i1 => ?_⟩
        by_cases e : i = m
        · rw [e]; exact ⟨by omega, fun q => absurd q (by omega)⟩
        · exact h5 i i0 (by omega)
section SpRe
variable {C : mf_G} {l : Launch} {d : Nat} {L : Int → mf_M → Prop} {S : aS}
theorem m_rowsOf {h : mf_M} {nl n : Int} (hd : 1 ≤ d) (hl : h 276 2 = nl) (l0 : 0 ≤ nl) (l6 : nl ≤ 6) (n3 : n ≤ 3) (hK : L (pwS (nl + 1) n.toNat) h) : ∀ (m k : Nat), (k : Int) + m = (if 0 ≤ n then n else 0) → BX12_rowsOf_4 C l d L n (pwS (nl + 1) k) k h := by
  intro m
  induction m with
  | zero =>
    intro k hk
    have e : n.toNat = k := by split at hk <;> omega
    rw [e] at hK
    exact vX12_rowsOf_4 hd ⟨fun _ => hK, fun q => absurd (by split at hk <;> omega) q⟩
  | succ m ih =>
    intro k hk
    have hk3 : k + 1 ≤ 3 := by split at hk <;> omega
    have r1 := pw_range (N := nl + 1) (by omega) (by omega) (k := k + 1) hk3
    refine vX12_rowsOf_4 hd ⟨fun q => absurd q (by split at hk <;> omega), fun _ => wX12_leaves (fun v4 e4 v5 e5 => ?_)⟩
    rw [hl, w_id (x := nl + 1) (by omega) (by omega)] at e4
    have e4' : v4 = mf_w32 (pwS (nl + 1) (k + 1)) := e4
    rw [w_id (by omega) (by omega)] at e4' e5
    rw [e4', e5]
    exact ih (k + 1) (by omega)
theorem M_rowsOf {h : mf_M} {nl n : Int} (hd : 1 ≤ d) (hl : h 276 2 = nl) (l0 : 0 ≤ nl) (l6 : nl ≤ 6) (n3 : n ≤ 3) (hK : L (pwS (nl + 1) n.toNat) h) : mM C l d YX12_rowsOf [(2, 245), (0, n)] h L :=
  wX12_rowsOf (m_rowsOf hd hl l0 l6 n3 hK n.toNat 0 (by split <;> omega))
theorem M_openingAt {h : mf_M} {nl row n k : Int} (hd : 2 ≤ d) (hl : h 276 2 = nl) (l0 : 0 ≤ nl) (l6 : nl ≤ 6) (n3 : n ≤ 3) (r0 : 0 ≤ row) (r1 : row ≤ 1000) (k0 : 0 ≤ k) (k1 : k < n) (hK : L (digS (nl + 1) row n k) h) : mM C l d YX12_openingAt [(2, 245), (0, row), (0, n), (0, k)] h L := by
  refine wX12_openingAt hd ?_
  rw [w_id (x := n - 1) (by omega) (by omega), w_id (x := n - 1 - k) (by omega) (by omega)]
  refine M_rowsOf (by decide) hl l0 l6 (by omega) ?_
  have hp := pw_range (N := nl + 1) (by omega) (by omega) (k := (n - 1 - k).toNat) (by omega)
  have hq : row / pwS (nl + 1) (n - 1 - k).toNat ≤ row := Int.ediv_le_self _ r0
  have hq0 : 0 ≤ row / pwS (nl + 1) (n - 1 - k).toNat := Int.ediv_nonneg r0 (by omega)
  refine ⟨by omega, wX12_leaves ⟨?_, ?_⟩⟩
  · rw [hl, w_id (by omega) (by omega)]; omega
  · rw [hl, w_id (x := nl + 1) (by omega) (by omega), Int.tdiv_eq_ediv_of_nonneg r0, w_id (by omega) (by omega), Int.tmod_eq_emod_of_nonneg hq0]
    exact hK
theorem m_readI {h0 : mf_M} {n k best least all row : Int} (hd : 5 ≤ d) (R : RM S h0) (hl : S.F.nl ≠ 0) (n1 : 1 ≤ n) (n3 : n ≤ 3) (r0 : 0 ≤ row) (r1 : row ≤ 1000) (hK : ∀ h', RT S h0 h' S.st → h' 245 62 = 0 → ∀ v1, v1 = cIS S.F n.toNat (row % pwS (S.F.nl + 1) n.toNat) S.st → ((least = (-1) → (∀ v5 : Int, v5 = mf_w32 (row + 1) → BX12_reading_46 C l d L n k row v1 all v5 h')) ∧ (¬ least = (-1) → ((v1 < least → (∀ v6 : Int, v6 = mf_w32 (row + 1) → BX12_reading_46 C l d L n k row v1 all v6 h')) ∧ (¬ v1 < least → (∀ v7 : Int, v7 = mf_w32 (row + 1) → BX12_reading_46 C l d L n k best least all v7 h')))))) : ∀ (m : Nat) (j : Int) (h σ : mf_M), 0 ≤ j → j + m = n → RT S h0 h σ → σ 0 0 + m ≤ 999 → 0 ≤ h 245 62 → h 245 62 ≤ 64 * j → h 245 62 + cIS S.F m (row % pwS (S.F.nl + 1) m) σ = cIS S.F n.toNat (row % pwS (S.F.nl + 1) n.toNat) S.st → BX12_reading_56 C l d L n k best least all row j h := by
  have l0 := R.ok.F.l0
  have l6 := R.ok.F.l6
  have b8 := R.ok.F.b8
  intro m
  induction m with
  | zero =>
    intro j h σ j0 jn T h9 m0 m1 hc
    refine vX12_reading_56 hd ⟨fun _ v1 e1 => M_triesAnew R T (fun h1 T1 e62 r1 => ?_), fun q => absurd (by omega) q⟩
    have ev : v1 = cIS S.F n.toNat (row % pwS (S.F.nl + 1) n.toNat) S.st := by rw [e1, ← hc]; simp [cIS]
    exact hK h1 T1 e62 v1 ev
  | succ m ih =>
    intro j h σ j0 jn T h9 m0 m1 hc
    have hl' : h 276 2 = S.F.nl := (T.fo R).l
    have dg := pw_dig (N := S.F.nl + 1) (by omega) (by omega) r0 (j := j.toNat) (m := m) (by omega)
    have hp := pw_range (N := S.F.nl + 1) (by omega) (by omega) (k := m) (by omega)
    have ed : digS (S.F.nl + 1) row n j = (row % pwS (S.F.nl + 1) (m + 1)) / pwS (S.F.nl + 1) m := by
      unfold digS
      rw [show (n - 1 - j).toNat = m by omega, dg.1]
    have hr : 0 ≤ digS (S.F.nl + 1) row n j ∧ digS (S.F.nl + 1) row n j ≤ S.F.nl := by
      unfold digS
      have q1 := Int.emod_nonneg (row / pwS (S.F.nl + 1) (n - 1 - j).toNat) (b := S.F.nl + 1) (by omega)
      have q2 := Int.emod_lt_of_pos (row / pwS (S.F.nl + 1) (n - 1 - j).toNat) (b := S.F.nl + 1) (by omega)
      omega
    refine vX12_reading_56 hd ⟨fun q => absurd q (by omega), fun _ => M_openingAt (by decide) hl' l0 l6 n3 r0 r1 j0 (by omega) (T_dayBy (by decide) R T hl (by omega) (by omega) (by omega) (fun h2 T2 _ mr _ v14 e14 => ?_))⟩
    rw [w_id (by omega) (by omega)] at e14
    rw [e14]
    have el := dy_len S.F (digS (S.F.nl + 1) row n j) σ
    have pr := prS_range σ S.F.nl S.F.nc S.F.nb (digS (S.F.nl + 1) row n j) b8
    have e62 := mr m0 (by rw [el]; omega)
    rw [el] at e62
    have edy : (dyS S.F (digS (S.F.nl + 1) row n j) σ).1 0 0 = σ 0 0 + 1 := dy_day _ _ _
    refine ih (j + 1) h2 _ (by omega) (by omega) T2 (by rw [edy]; omega) (by omega) (by omega) ?_
    have e0 : cIS S.F (m + 1) (row % pwS (S.F.nl + 1) (m + 1)) σ = prS σ S.F.nl S.F.nc S.F.nb ((row % pwS (S.F.nl + 1) (m + 1)) / pwS (S.F.nl + 1) m) + cIS S.F m ((row % pwS (S.F.nl + 1) (m + 1)) % pwS (S.F.nl + 1) m) (dyS S.F ((row % pwS (S.F.nl + 1) (m + 1)) / pwS (S.F.nl + 1) m) σ).1 := rfl
    rw [e0, ← ed, dg.2] at hc
    rw [e62]
    omega
theorem m_readO {h0 : mf_M} {n k : Int} (hd : 5 ≤ d) (R : RM S h0) (hl : S.F.nl ≠ 0) (n1 : 1 ≤ n) (n3 : n ≤ 3) (h9 : S.st 0 0 + n ≤ 999) (k0 : -1 ≤ k) (k1 : k ≤ n - 1) (hK : ∀ h', RM S h' → frM h0 h' → L (if k = -1 then (bestS S n).1 else digS (S.F.nl + 1) (bestS S n).2 n k) h') : ∀ (m i : Nat) (h : mf_M), (i : Int) + m = pwS (S.F.nl + 1) n.toNat → RT S h0 h S.st → h 245 62 = 0 → BX12_reading_46 C l d L n k (fmS (fun t => cIS S.F n.toNat t S.st) i).2 (fmS (fun t => cIS S.F n.toNat t S.st) i).1 (pwS (S.F.nl + 1) n.toNat) i h := by
  have l0 := R.ok.F.l0
  have l6 := R.ok.F.l6
  have hp := pw_range (N := S.F.nl + 1) (by omega) (by omega) (k := n.toNat) (by omega)
  have nn : ∀ t, 0 ≤ (fun t => cIS S.F n.toNat t S.st) t := fun t => (cIS_range S.F R.ok.F.b8 _ _ _).1
  intro m
  induction m with
  | zero =>
    intro i h him T e62
    have ei : bestS S n = fmS (fun t => cIS S.F n.toNat t S.st) i := by unfold bestS; congr 1; omega
    rw [← ei]
    refine vX12_reading_46 (by omega) ⟨fun _ => M_takesBack R T (fun h1 R1 f1 _ => ?_), fun q => absurd (by omega) q⟩
    have k2 := hK h1 R1 f1
    refine ⟨fun q => ?_, fun q => ?_⟩
    · rw [if_neg q] at k2
      have hb : 0 ≤ (bestS S n).2 ∧ (bestS S n).2 ≤ 1000 := by
        rw [ei]
        rcases fm_best nn i with ⟨q1, q2⟩ | ⟨q1, q2, q3, -⟩
        · rw [q2]; decide
        · omega
      exact M_openingAt (by decide) R1.fo.l l0 l6 n3 hb.1 hb.2 (by omega) (by omega) k2
    · rw [if_pos q] at k2; exact k2
  | succ m ih =>
    intro i h him T e62
    have emod : (i : Int) % pwS (S.F.nl + 1) n.toNat = i := Int.emod_eq_of_lt (by omega) (by omega)
    refine vX12_reading_46 (by omega) ⟨fun q => absurd q (by omega), fun _ => m_readI hd R hl n1 n3 (by omega) (by omega) (fun h1 T1 z1 v1 e1 => ?_) n.toNat 0 h S.st (by decide) (by omega) T (by omega) (by omega) (by omega) (by rw [e62, Int.zero_add])⟩
    rw [emod] at e1
    have nxt := ih (i + 1) h1 (by omega) T1 z1
    rw [show ((i + 1 : Nat) : Int) = (i : Int) + 1 by omega] at nxt
    unfold fmS at nxt
    rw [w_id (x := (i : Int) + 1) (by omega) (by omega)]
    refine ⟨fun q v5 e5 => ?_, fun q => ⟨fun z v6 e6 => ?_, fun z v7 e7 => ?_⟩⟩
    · rw [if_pos (Or.inl q)] at nxt
      rw [e5, e1]; exact nxt
    · rw [e1] at z
      rw [if_pos (Or.inr z)] at nxt
      rw [e6, e1]; exact nxt
    · rw [e1] at z
      rw [if_neg (fun y => y.elim q z)] at nxt
      rw [e7]; exact nxt
theorem M_reading {h : mf_M} {n k : Int} (hd : 5 ≤ d) (R : RM S h) (hK : ∀ h', RM S h' → frX h h' → L (readS S n k) h') : mM C l d YX12_reading [(2, 245), (0, n), (0, k)] h L := by
  unfold readS at hK
  have k0 := hK h R (frX.rf h)
  have l0 := R.ok.F.l0
  have l6 := R.ok.F.l6
  refine wX12_reading (by omega) (M_isAhead (by decide) R (by decide) (by decide) (fun hn => ⟨fun z => absurd z (by decide), fun _ => m_isIn ?_⟩) (fun hn => ⟨fun _ => ?_, fun z => absurd rfl z⟩))
  · rw [w_id (x := n - 1) (by omega) (by omega)]
    by_cases hk : -1 ≤ k ∧ k ≤ n - 1
    · rw [if_pos hk]
      rw [if_pos ⟨hn, hk⟩] at hK
      refine ⟨fun _ => M_rowsOf (by decide) R.fo.l l0 l6 (by omega) (M_putsAside R (fun h1 T1 z1 _ => ?_)), fun z => absurd z (by decide)⟩
      have hp := pw_range (N := S.F.nl + 1) (by omega) (by omega) (k := n.toNat) (by omega)
      exact m_readO hd R hn.1 hn.2.1 hn.2.2.1 hn.2.2.2 hk.1 hk.2 (fun h2 R2 f2 => hK h2 R2 f2.X) (pwS (S.F.nl + 1) n.toNat).toNat 0 h1 (by omega) T1 z1
    · rw [if_neg hk]
      rw [if_neg (fun z => hk z.2)] at k0
      exact ⟨fun z => absurd rfl z, fun _ => k0⟩
  · rw [if_neg (fun z => hn z.1)] at k0; exact k0
end SpRe
