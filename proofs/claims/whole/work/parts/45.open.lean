/-! rules of a folio in the reference; the opening; who meets whom -/
def codM (h : mf_M) (s : Int) (cs : List Int) : Prop := 0 ≤ h 283 (4 + s) ∧ h 283 (4 + s) + cs.length = h 284 (4 + s) ∧ h 284 (4 + s) ≤ 1600 ∧ ∀ j : Nat, j < cs.length → h 285 (1600 + h 283 (4 + s) + j) = cs.getD j 0
/-- only what a look at codes writes has changed -/
def frQ (h h' : mf_M) : Prop := (∀ a, a ≠ 245 → a ≠ 317 → h' a = h a) ∧ ∀ k, k ≠ 101 → k ≠ 55 → k ≠ 58 → h' 245 k = h 245 k
theorem frQ.rf (h : mf_M) : frQ h h := ⟨fun _ _ _ => rfl, fun _ _ _ _ => rfl⟩
theorem frQ.tr {a b c : mf_M} (h1 : frQ a b) (h2 : frQ b c) : frQ a c := ⟨fun x q1 q2 => (h2.1 x q1 q2).trans (h1.1 x q1 q2), fun k q1 q2 q3 => (h2.2 k q1 q2 q3).trans (h1.2 k q1 q2 q3)⟩
theorem frE.Q {a b : mf_M} (h : frE a b) : frQ a b := ⟨h.1, fun k q1 q2 _ => h.2 k q1 q2⟩
theorem frQ.up58 (h : mf_M) (v : Int) : frQ h (mf_up h 245 58 v) := ⟨fun a h1 _ => up_row h1, fun k _ _ h1 => up_col h1⟩
theorem evS_congr {E F mt : Int → Int} : ∀ (cs st : List Int), (∀ c ∈ cs, 40 ≤ c → c < 60 → E (c - 40) = F (c - 40)) → evS E mt cs st = evS F mt cs st
  | [], _, _ => rfl
  | c :: cs, st, h => by
    unfold evS
    have e : stepS E mt c st = stepS F mt c st := by
      unfold stepS
      by_cases h1 : 1000 ≤ c
      · rw [if_pos h1, if_pos h1]
      · rw [if_neg h1, if_neg h1]
        by_cases h2 : 60 ≤ c
        · rw [if_pos h2, if_pos h2]
        · rw [if_neg h2, if_neg h2]
          by_cases h3 : 40 ≤ c
          · rw [if_pos h3, if_pos h3, h c List.mem_cons_self h3 (by omega)]
          · rw [if_neg h3, if_neg h3]
    rw [e]
    exact evS_congr cs _ (fun x hx => h x (List.mem_cons_of_mem _ hx))
theorem evS_mt {E mt nt : Int → Int} : ∀ (cs st : List Int), (∀ c ∈ cs, ¬ (60 ≤ c ∧ c < 1000)) → evS E mt cs st = evS E nt cs st
  | [], _, _ => rfl
  | c :: cs, st, h => by
    unfold evS
    have e : stepS E mt c st = stepS E nt c st := by
      unfold stepS
      by_cases h1 : 1000 ≤ c
      · rw [if_pos h1, if_pos h1]
      · rw [if_neg h1, if_neg h1, if_neg (fun h2 => h c List.mem_cons_self ⟨h2, by omega⟩), if_neg (fun h2 => h c List.mem_cons_self ⟨h2, by omega⟩)]
    rw [e]
    exact evS_mt cs _ (fun x hx => h x (List.mem_cons_of_mem _ hx))
/-- a rule's codes: told, of its kind, with parts that may stand there -/
def ruleS (cs : List Int) (f : Bool) (most : Int) : Prop := okT cs [] f ∧ (∀ c ∈ cs, ¬ (60 ≤ c ∧ c < 1000)) ∧ ∀ c ∈ cs, 40 ≤ c → c < 60 → c ≤ most
def mt0 : Int → Int := fun _ => 0
section SpO
variable {C : mf_G} {l : Launch} {d : Nat} {L : Int → mf_M → Prop} {h : mf_M}
theorem m_codesTell {s b nb : Int} {cs : List Int} {f : Bool} {most : Int} (hd : 2 ≤ d) (hs0 : 0 ≤ s) (hs3 : s ≤ 3) (hc : codM h s cs) (hr : ruleS cs f most) (hn8 : nb ≤ 8) (hbe : most ≤ 40 ∨ (0 ≤ b ∧ b < nb)) (ho1 : -2147483647 ≤ h 245 59) (ho2 : h 245 59 ≤ 2147483647)
    (hE : ∀ c ∈ cs, 40 ≤ c → c < 60 → -1000000 ≤ envS (vM h 286 0 nb) (fun i => h 282 (8 + i)) (h 245 58) (h 245 59) (h 245 60) b (c - 40) ∧ envS (vM h 286 0 nb) (fun i => h 282 (8 + i)) (h 245 58) (h 245 59) (h 245 60) b (c - 40) ≤ 1000000)
    (hK : ∀ h', frE h h' → L (valS (envS (vM h 286 0 nb) (fun i => h 282 (8 + i)) (h 245 58) (h 245 59) (h 245 60) b) mt0 cs) h') : mM C l d YX12_codesTell [(2, 245), (0, s), (0, b)] h L := by
  obtain ⟨c1, c2, c3, c4⟩ := hc
  obtain ⟨r1, r2, r3⟩ := hr
  have main : ∀ r1v : Int, ∀ h4 : mf_M, h4 = mf_up h 245 55 r1v → ∀ h5 : mf_M, h5 = mf_up h4 245 101 0 → 0 ≤ mf_w32 (4 + s) ∧ mf_w32 (4 + s) < 8 ∧ (∀ v8 : Int, v8 = h5 283 (mf_w32 (4 + s)) → BX12_codesTell_22 C l d L s b v8 h5) := by
    intro r1v h4 e4 h5 e5
    have hf : frE h h5 := by rw [e5, e4]; exact (frE.up55 _ _).tr (frE.up101 _ _)
    rw [w_id (by omega) (by omega)]
    refine ⟨by omega, by omega, fun v8 ev8 => ?_⟩
    rw [hf.1 283 (by decide) (by decide)] at ev8
    subst ev8
    refine m_tellL (h0 := h) (nb := nb) (en := h 284 (4 + s)) (mt := mt0) (f := f) hd hs0 hs3 rfl c3 hn8 ho1 ho2 (fun _ => Or.inl rfl) cs _ [] [] h5 hf c1 c2 c4 r2 (fun c hc h40 h60 => ?_) hE r1 trivial (by simp) ?_ hK
    · have := r3 c hc (by omega) h60
      rcases hbe with q | q
      · omega
      · exact q
    · show h5 245 101 = 0
      rw [e5, up_self]
  refine wX12_codesTell (by omega) (wX12_kindBy ⟨fun q => ⟨fun z => main _, fun z => main _⟩, fun q => main _⟩)
/-- the opening of a day -/
def openF (nl : Int) (cO : List Int) (day : Int) : Int := if cO = [] then 0 else valS (fun k => if k = 0 then day else 0) mt0 cO % (nl + 1)
theorem okT_val {E mt : Int → Int} (hmt : ∀ v, mt v = 0 ∨ mt v = 1) : ∀ (cs st : List Int) (ty : List Bool) (f : Bool), (∀ c ∈ cs, 40 ≤ c → c < 60 → -1000000 ≤ E (c - 40) ∧ E (c - 40) ≤ 1000000) → okT cs ty f → okV st ty → okV (evS E mt cs st) [f]
  | [], st, ty, f, _, ho, hv => by unfold okT at ho; subst ho; exact hv
  | c :: cs, st, ty, f, hE, ho, hv => by
    obtain ⟨ty', h1, h2⟩ := okV_step (hE c List.mem_cons_self) hmt ho hv
    unfold evS
    exact okT_val hmt cs _ ty' f (fun x hx => hE x (List.mem_cons_of_mem _ hx)) h1 h2
theorem val_range {E mt : Int → Int} (hmt : ∀ v, mt v = 0 ∨ mt v = 1) {cs : List Int} {f : Bool} (hE : ∀ c ∈ cs, 40 ≤ c → c < 60 → -1000000 ≤ E (c - 40) ∧ E (c - 40) ≤ 1000000) (ho : okT cs [] f) : (if f then valS E mt cs = 0 ∨ valS E mt cs = 1 else -1000000 ≤ valS E mt cs ∧ valS E mt cs ≤ 1000000) := by
  have h1 := okT_val hmt cs [] [] f hE ho trivial
  unfold valS
  match evS E mt cs [], h1 with
  | [v], h1 => exact h1.1
theorem emod_of_tmod {a m : Int} (hm : 0 < m) : (if 0 ≤ a.tmod m then a.tmod m else a.tmod m + m) = a % m := by
  have h1 := Int.emod_nonneg a (by omega : m ≠ 0)
  have h2 := Int.emod_lt_of_pos a hm
  rcases Int.lt_or_le a 0 with h0 | h0
  · have h5 : a.tmod m = -((-a) % m) := by
      have h6 := Int.neg_tmod a m
      have h7 := Int.tmod_eq_emod_of_nonneg (a := -a) (b := m) (by omega)
      omega
    have h8 := Int.emod_nonneg (-a) (by omega : m ≠ 0)
    have h9 := Int.emod_lt_of_pos (-a) hm
    by_cases hz : a % m = 0
    · have : (-a) % m = 0 := Int.emod_eq_zero_of_dvd (Int.dvd_neg.mpr (Int.dvd_of_emod_eq_zero hz))
      rw [h5, this, hz]; simp
    · have : (-a) % m = m - a % m := by
        have h8 : -a = (m - a % m) + m * (-(a / m) - 1) := by
          have h9 := Int.emod_add_mul_ediv a m
          rw [Int.mul_sub, Int.mul_neg]
          omega
        rw [h8, Int.add_mul_emod_self_left, Int.emod_eq_of_lt (by omega) (by omega)]
      rw [if_neg (by omega), h5]
      omega
  · rw [Int.tmod_eq_emod_of_nonneg h0, if_pos h1]
/-- whether a rule is told, in the reference -/
def toldM (h : mf_M) (s : Int) (cs : List Int) : Prop := (cs = [] ∧ h 283 (4 + s) = -1) ∨ (cs ≠ [] ∧ codM h s cs)
theorem m_openingOn {day nl nb : Int} {cO : List Int} (hd : 3 ≤ d) (hf : h 245 54 = 0 → cO = []) (hnl : h 276 2 = nl) (hl0 : 0 ≤ nl) (hl6 : nl ≤ 6) (ht : toldM h 0 cO) (hr : cO ≠ [] → ruleS cO false 40) (hday0 : 0 ≤ day) (hday : day ≤ 1000000) (ho1' : -2147483647 ≤ h 245 59) (ho2' : h 245 59 ≤ 2147483647) (hK : ∀ h', frQ h h' → L (openF nl cO day) h') : mM C l d YX12_openingOn [(2, 245), (0, day)] h L := by
  unfold openF at hK
  have ho1 : ∀ h1, frQ h h1 → -2147483647 ≤ h1 245 59 := fun h1 q => by rw [q.2 59 (by decide) (by decide) (by decide)]; exact ho1'
  have ho2 : ∀ h1, frQ h h1 → h1 245 59 ≤ 2147483647 := fun h1 q => by rw [q.2 59 (by decide) (by decide) (by decide)]; exact ho2'
  refine wX12_openingOn hd ⟨fun q => ?_, fun q => ⟨fun z h1 e1 => ?_, fun z => ?_⟩⟩
  · rw [if_pos (hf q)] at hK; exact hK h (frQ.rf h)
  · rcases ht with ⟨e, ht⟩ | ⟨hne, ht⟩
    · exact absurd ht z
    · rw [if_neg hne] at hK
      have hr := hr hne
      have hf1 : frQ h h1 := by rw [e1]; exact frQ.up58 _ _
      have r283 : h1 283 = h 283 := hf1.1 283 (by decide) (by decide)
      have r284 : h1 284 = h 284 := hf1.1 284 (by decide) (by decide)
      have r285 : h1 285 = h 285 := hf1.1 285 (by decide) (by decide)
      have hcod : codM h1 0 cO := by unfold codM; rw [r283, r284, r285]; exact ht
      have h58 : h1 245 58 = day := by rw [e1, up_self]
      have only : ∀ c ∈ cO, 40 ≤ c → c < 60 → c - 40 = 0 := fun c hc q1 q2 => by have := hr.2.2 c hc q1 q2; omega
      have hEe : ∀ c ∈ cO, 40 ≤ c → c < 60 → envS (vM h1 286 0 8) (fun i => h1 282 (8 + i)) (h1 245 58) (h1 245 59) (h1 245 60) 0 (c - 40) = (fun k => if k = 0 then day else 0) (c - 40) := by
        intro c hc q1 q2
        rw [only c hc q1 q2, h58]
        simp [envS]
      have hrange : ∀ c ∈ cO, 40 ≤ c → c < 60 → -1000000 ≤ (fun k => if k = 0 then day else 0) (c - 40) ∧ (fun k => if k = 0 then day else 0) (c - 40) ≤ 1000000 := by
        intro c hc q1 q2
        rw [only c hc q1 q2]
        simp; omega
      refine m_codesTell (nb := 8) (f := false) (most := 40) (by omega) (by decide) (by decide) hcod hr (by decide) (Or.inl (by decide)) ?_ ?_ ?_ ?_
      · exact ho1 h1 hf1
      · exact ho2 h1 hf1
      · intro c hc q1 q2; rw [hEe c hc q1 q2]; exact hrange c hc q1 q2
      · intro h4 hf4
        have ev : valS (envS (vM h1 286 0 8) (fun i => h1 282 (8 + i)) (h1 245 58) (h1 245 59) (h1 245 60) 0) mt0 cO = valS (fun k => if k = 0 then day else 0) mt0 cO := by
          unfold valS
          rw [evS_congr (F := fun k => if k = 0 then day else 0) cO [] hEe]
        rw [ev]
        have hv := val_range (E := fun k => if k = 0 then day else 0) (mt := mt0) (fun _ => Or.inl rfl) hrange hr.1
        simp only [Bool.false_eq_true, if_false] at hv
        generalize valS (fun k => if k = 0 then day else 0) mt0 cO = v at hK hv
        have hf14 : frQ h h4 := hf1.tr hf4.Q
        have e276 : h4 276 2 = nl := by rw [hf14.1 276 (by decide) (by decide)]; exact hnl
        refine wX12_leaves ?_
        rw [e276, w_id (x := nl + 1) (by omega) (by omega)]
        have hm := emod_of_tmod (a := v) (m := nl + 1) (by omega)
        have hmr := Int.emod_nonneg v (by omega : nl + 1 ≠ 0)
        have hml := Int.emod_lt_of_pos v (by omega : 0 < nl + 1)
        have htr : -7 ≤ v.tmod (nl + 1) ∧ v.tmod (nl + 1) ≤ 7 := by split at hm <;> omega
        rw [w_id (x := v.tmod (nl + 1)) (by omega) (by omega)]
        refine ⟨by omega, fun v9 ev9 => ⟨fun q9 => ?_, fun q9 => wX12_leaves ?_⟩⟩
        · rw [ev9] at q9 ⊢
          rw [if_pos q9] at hm
          rw [hm]; exact hK h4 hf14
        · rw [ev9] at q9 ⊢
          rw [if_neg q9] at hm
          rw [e276, w_id (x := v.tmod (nl + 1) + nl) (by omega) (by omega), w_id (by omega) (by omega)]
          have e : v.tmod (nl + 1) + nl + 1 = v % (nl + 1) := by omega
          rw [e]; exact hK h4 hf14
  · rcases ht with ⟨e, ht⟩ | ⟨hne, ht⟩
    · rw [if_pos e] at hK; exact hK h (frQ.rf h)
    · have := ht.1
      rw [show (4 : Int) + 0 = 4 from rfl, z] at this
      omega
end SpO
