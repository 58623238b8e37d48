/-! the class's face: what is asked of it -/
def frP (h h' : mf_M) : Prop := ∀ x, x ≠ 47 → x ≠ 48 → x ≠ 50 → h' x = h x
theorem frP.N {h h' : mf_M} (f : frP h h') : frN h h' := by
  refine ⟨fun a q1 q2 _ q4 _ _ _ _ => f a q1 q2 q4, by rw [f 51 (by decide) (by decide) (by decide)], fun a ha q => ?_⟩
  have : a = 53 ∨ a = 67 ∨ a = 74 ∨ a = 81 := by simpa using ha
  rw [f a (by omega) (by omega) (by omega)]; exact q
def bcA (x : Int) : Int := mf_w32 (x - (mf_and (mf_ushr x 1) 1431655765))
def bcB (x : Int) : Int := mf_w32 ((mf_and x 858993459) + (mf_and (mf_ushr x 2) 858993459))
def bcC (x : Int) : Int := mf_and (mf_w32 (x + (mf_ushr x 4))) 252645135
def bcD (x : Int) : Int := mf_w32 (x + (mf_ushr x 8))
def bcE (x : Int) : Int := mf_w32 (x + (mf_ushr x 16))
theorem bc_all : ∀ n : Fin 256, mf_and (bcE (bcD (bcC (bcB (bcA (n.val : Int)))))) 63 = popS (n.val : Int) := by decide +kernel
section SxF
variable {C : mf_G} {l : Launch} {d : Nat} {K : mf_Kt} {g h : mf_M} {S : aS}
theorem x_bits {w : Int} (h0 : 0 ≤ w) (h1 : w < 256) (hK : K (popS w) g h) : xM C l d YJ6_bitCount_0f7a4 [(0, w)] g h K := by
  refine wJ6_bitCount_0f7a4 (fun v1 e1 v2 e2 v3 e3 v4 e4 v5 e5 => ?_)
  have key := bc_all ⟨w.toNat, by omega⟩
  have ew : ((w.toNat : Nat) : Int) = w := by omega
  simp only [ew] at key
  have f1 : v1 = bcA w := e1
  have f2 : v2 = bcB v1 := e2
  have f3 : v3 = bcC v2 := e3
  have f4 : v4 = bcD v3 := e4
  have f5 : v5 = bcE v4 := e5
  rw [f5, f4, f3, f2, f1, key]
  exact hK
theorem x_openingOf {F : aF} {f day : Int} (hd : 4 ≤ d) (hf : f = 11 ∨ f = 28) (ok : okF F) (fo : folX F f h) (d0 : 0 ≤ day) (d1 : day ≤ 1000000) (hK : ∀ h', frP h h' → K (openF F.nl F.cO day) g h') : xM C l d YX0_openingOf [(2, 46), (2, f), (0, day)] g h K := by
  refine wX0_openingOf hd (fun h1 e1 => ⟨isf hf, ?_⟩)
  have r1 : ∀ x, x ≠ 48 → h1 x = h x := fun x q => by rw [e1, up_row q]
  have fo1 : folX F f h1 := fo.keep (fun x h1 h2 => r1 x (by omega))
  have only : ∀ c ∈ F.cO, 40 ≤ c → c < 60 → c - 40 = 0 := fun c hc q1 q2 => by
    have := (ok.rO (List.ne_nil_of_mem hc)).2.2 c hc q1 q2; omega
  have hE : ∀ c ∈ F.cO, 40 ≤ c → c < 60 → h1 48 (c - 40) = (fun k => if k = 0 then day else 0) (c - 40) := fun c hc q1 q2 => by
    rw [only c hc q1 q2, e1, up_self]; simp
  have hrange : ∀ c ∈ F.cO, 40 ≤ c → c < 60 → -1000000 ≤ (fun k => if k = 0 then day else 0) (c - 40) ∧ (fun k => if k = 0 then day else 0) (c - 40) ≤ 1000000 := by
    intro c hc q1 q2
    rw [only c hc q1 q2]
    simp; omega
  refine x_reckon (f := false) (by omega) (isf6 hf) ⟨by omega, by omega, by omega⟩ (by omega) (by decide) (by decide) fo1.sO (fun hne => (ok.rO hne).1) (fun c hc q1 q2 => by rw [hE c hc q1 q2]; exact hrange c hc q1 q2) (fun h5 f5 => ?_)
  have fr : frP h h5 := fun x q1 q2 q3 => by rw [f5 x q1 q3, r1 x q2]
  have e8 : h5 f 8 = F.nl := by rw [fr f (by omega) (by omega) (by omega)]; exact fo.l
  have ev : valS (h1 48) (mtX h1) F.cO = if F.cO = [] then 0 else valS (fun k => if k = 0 then day else 0) mt0 F.cO := by
    by_cases hne : F.cO = []
    · rw [if_pos hne, hne]; rfl
    · rw [if_neg hne]
      unfold valS
      rw [evS_congr (F := fun k => if k = 0 then day else 0) F.cO [] hE, evS_mt (nt := mt0) F.cO [] (ok.rO hne).2.1]
  have l0 := ok.l0
  have l6 := ok.l6
  rw [ev, e8]
  unfold openF at hK
  refine ⟨fun q => ?_, fun q => ?_⟩
  · rw [w_id (by omega) (by omega)]
    by_cases hne : F.cO = []
    · rw [if_pos hne] at hK ⊢
      refine x_fmod (by decide) (by decide) (by omega) (by omega) ?_
      rw [Int.zero_emod]; exact hK h5 fr
    · rw [if_neg hne] at hK ⊢
      have hv := val_range (E := fun k => if k = 0 then day else 0) (mt := mt0) (fun _ => Or.inl rfl) hrange (ok.rO hne).1
      simp only [Bool.false_eq_true, if_false] at hv
      exact x_fmod (by omega) (by omega) (by omega) (by omega) (hK h5 fr)
  · have hz := ok.z (by omega)
    rw [if_pos hz.2.2.2.1] at hK
    exact hK h5 fr
theorem X_opn {day : Int} (hd : 4 ≤ d) (R : RX S g h) (d0 : 0 ≤ day) (d1 : day ≤ 1000000) (hK : ∀ h', RX S g h' → frP h h' → K (opnS S day) g h') : xM C l d YX0_openingOf [(2, 46), (2, g 0 12), (0, day)] g h K :=
  x_openingOf hd R.fi R.ok.F R.fo d0 d1 (fun h' f => hK h' (R.keep f.N) f)
theorem X_fault {w : Int} (R : RX S g h) (hK : K (faultS S w) g h) : xM C l d YX11_fault [(2, 0), (0, w)] g h K := by
  unfold faultS at hK
  refine wX11_fault ⟨fun q => ⟨fun z => ?_, fun z => ?_⟩, fun q => ?_⟩
  · rw [if_neg q, if_neg z] at hK; exact hK
  · rw [if_neg q, if_pos z] at hK; rw [R.pl]; exact hK
  · rw [if_pos q] at hK; rw [R.fa]; exact hK
theorem X_status {w : Int} (R : RX S g h) (hK : K (statusS S w) g h) : xM C l d YX11_status [(2, 0), (0, w)] g h K := by
  unfold statusS at hK
  refine wX11_status ⟨fun q => ?_, fun q => ⟨fun z => ⟨by omega, z, ?_⟩, fun z => ?_⟩⟩
  · rw [if_neg (by omega)] at hK; exact hK
  · rw [if_pos (by omega)] at hK; rw [R.rf w (by omega) z]; exact hK
  · rw [if_neg (by omega)] at hK; exact hK
theorem X_octet {k : Int} (R : RX S g h) (hK : K (octetS S k) g h) : xM C l d YX11_octet [(2, 0), (0, k)] g h K := by
  unfold octetS at hK
  have o := R.ok.oc
  have e := R.oc
  refine wX11_octet ⟨fun q => ?_, fun q => ⟨fun z => ?_, fun z => ⟨fun y => ⟨by omega, y, ?_⟩, fun y => absurd y (by omega)⟩⟩⟩
  · rw [if_neg (by omega)] at hK; exact hK
  · rw [if_neg (by omega)] at hK; exact hK
  · rw [if_pos (by omega)] at hK
    have := R.os k.toNat (by omega)
    rw [show ((k.toNat : Nat) : Int) = k by omega] at this
    rw [this]; exact hK
theorem RX.s_tn (R : RX S g h) {n : Int} (h0 : 0 ≤ n) (h1 : n ≤ S.tn) : RX (S.s_tn n) g (mf_up h 3 1 n) := by
  have hf := R.fi
  have r : ∀ a, a ≠ 3 → mf_up h 3 1 n a = h a := fun a q => up_row q
  have t1 := R.ok.tn1
  refine ⟨R.ok.s_tn h0 (by omega), R.cf, up_self _ _ _ _, by rw [r 4 (by decide)]; exact fun i q1 q2 => R.tp i q1 (by have : i < n := q2; omega), by rw [r 0 (by decide)]; exact R.fa, by rw [r 0 (by decide)]; exact R.pl, by rw [r 243 (by decide)]; exact R.rf, R.wd.keep (r 2 (by decide)), R.fo.keep (fun x h1 h2 => r x (by omega)), ?_, R.kp.keep (by rw [r 88 (by decide)]) (r _ (by decide)), by rw [r 88 (by decide)]; exact R.kb, by rw [r 0 (by decide)]; exact R.un, by rw [r 0 (by decide)]; exact R.nx, fun j hj => ?_, by rw [r 51 (by decide)]; exact R.sn, by rw [r 65 (by decide), r 66 (by decide)]; exact R.ss, by rw [r 0 (by decide)]; exact R.sd, by rw [r 0 (by decide)]; exact R.oc, by rw [r 244 (by decide)]; exact R.os, fun a ha => ?_⟩
  · rw [vX_row (h := h) (by rw [r 88 (by decide)]) (fun j j1 j2 => r _ (by omega))]; exact R.vi
  · obtain ⟨u1, u2, u3⟩ := R.us j hj
    exact ⟨by rw [vX_row (h := h) (by rw [r _ (by show ¬ 103 + 7 * ((S.nx - 1 - j) % 20) = 3; omega)]) (fun i j1 j2 => r _ (by show ¬ 103 + 7 * ((S.nx - 1 - j) % 20) + i = 3; omega))]; exact u1, u2.keep (by rw [r _ (by show ¬ 103 + 7 * ((S.nx - 1 - j) % 20) = 3; omega)]) (r _ (by show ¬ 103 + 7 * ((S.nx - 1 - j) % 20) + 6 = 3; omega)), by rw [r _ (by show ¬ 103 + 7 * ((S.nx - 1 - j) % 20) = 3; omega)]; exact u3⟩
  · have : a = 53 ∨ a = 67 ∨ a = 74 ∨ a = 81 := by simpa using ha
    rw [r a (by omega)]; exact R.tr a ha
theorem X_end {n : Int} (R : RX S g h) (hK : ∀ h', RX (endS S n).2 g h' → frH h h' → K (endS S n).1 g h') : xM C l d YX11_end [(2, 0), (0, n)] g h K := by
  unfold endS at hK
  refine wX11_end ⟨fun q h1 e1 => ?_, fun q => ⟨fun z h2 e2 => ?_, fun z h3 e3 => ?_⟩⟩
  · rw [if_pos (by omega)] at hK
    rw [e1]; exact hK _ (R.ref (by decide) (by decide)) (frH.up (by decide))
  · rw [R.tn] at z
    rw [if_neg (by omega)] at hK
    rw [e2]; exact hK _ (R.s_tn (by omega) z) (frH.up (by decide))
  · rw [R.tn] at z
    rw [if_pos (by omega)] at hK
    rw [e3]; exact hK _ (R.ref (by decide) (by decide)) (frH.up (by decide))
end SxF
