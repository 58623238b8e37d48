theorem stS_inS {nl nc nb a o : Int} {tr : Int → Int} {cT : List Int} (ha0 : 0 ≤ a) (ha : a < nb) : ∀ (n : Nat) (b : Int) (σ : mf_M), 0 ≤ b → b + n = nb → stS σ nl nc nb → stS (inS nl nc tr cT o a n b σ).1 nl nc nb
  | 0, _, σ, _, _, hs => hs
  | n + 1, b, σ, hb0, hbn, hs => by
    unfold inS
    split
    · exact stS_inS ha0 ha n (b + 1) _ (by omega) (by omega) (hs.meet ha0 ha hb0 (by omega))
    · exact stS_inS ha0 ha n (b + 1) _ (by omega) (by omega) hs
section SpL
variable {C : mf_G} {l : Launch} {d : Nat} {L : Int → mf_M → Prop} {nl nc nb o : Int} {tr : Int → Int} {cO cC cT cS : List Int}
/-- what holds while a day goes by -/
def inD (h : mf_M) (nl nc nb o : Int) (tr : Int → Int) (cO cC cT cS : List Int) : Prop := folM h nl nc nb tr cO cC cT cS ∧ stS (vM h 286 0 nb) nl nc nb ∧ h 245 59 = o ∧ h 245 58 = h 286 0 ∧ (h 245 61 = 0 → ∃ ks, kpM h 286 0 ks)
theorem inD.next {h h' : mf_M} {ms : List (Int × Int)} (hi : inD h nl nc nb o tr cO cC cT cS) (hR : dR h h' ms) (hs : stS (vM h' 286 0 nb) nl nc nb) : inD h' nl nc nb o tr cO cC cT cS :=
  ⟨hi.1.keep hR.1.1, hs, hR.2.2.1.trans hi.2.2.1, by rw [hR.2.1, hR.2.2.2.1]; exact hi.2.2.2.1, hR.x hi.2.2.2.2⟩
theorem m_inner (hd : 4 ≤ d) (ho1 : -1000 ≤ o) (ho2 : o ≤ 1000) {a : Int} (ha0 : 0 ≤ a) : ∀ (n : Nat) (b : Int) (h : mf_M), a < b → b + n = nb → inD h nl nc nb o tr cO cC cT cS →
    (∀ h', vM h' 286 0 nb = (inS nl nc tr cT o a n b (vM h 286 0 nb)).1 → dR h h' (inS nl nc tr cT o a n b (vM h 286 0 nb)).2 → BX12_dayBy_17 C l d L o (a + 1) h') → BX12_dayBy_29 C l d L o a b h := by
  intro n
  induction n with
  | zero =>
    intro b h hab hbn hi hK
    refine vX12_dayBy_29 hd (wX12_beingMany ⟨fun _ v4 e4 => ?_, fun q => absurd (by rw [hi.1.2.2.1]; omega) q⟩)
    have h8 := hi.1.2.2.2.2.2.1.2
    rw [e4, w_id (by omega) (by omega)]
    exact hK h rfl (dR.ofE (frE.rf h))
  | succ n ih =>
    intro b h hab hbn hi hK
    have h8 := hi.1.2.2.2.2.2.1.2
    obtain ⟨F1, F2, F3, ⟨F4, F4'⟩, ⟨F5, F5'⟩, ⟨F6, F6'⟩, -⟩ := id hi.1
    refine vX12_dayBy_29 hd (wX12_beingMany ⟨fun q => absurd q (by rw [F3]; omega), fun _ => ?_⟩)
    refine m_doMeet (nb := nb) (by omega) F1 F2 (by omega) F4' (by omega) F5' F6' ha0 (by omega) (by omega) (by omega) hi.2.1.1 ho1 ho2 ?_
    have hw : mf_w32 (b + 1) = b + 1 := w_id (by omega) (by omega)
    rw [hw]
    unfold inS at hK
    by_cases hm : metB (vM h 286 0 nb) nl nc o a b = true
    · rw [if_pos hm]
      rw [if_pos hm] at hK
      refine ⟨fun z => absurd z (by decide), fun _ => ?_⟩
      refine m_meet (by omega) hi.1 hi.2.1 ha0 hab (by omega) hi.2.2.1 ho1 ho2 hi.2.2.2.1 hi.2.2.2.2 (fun h' hv hR v12 e12 => ?_)
      rw [e12]
      refine ih (b + 1) h' (by omega) (by omega) (hi.next hR (by rw [hv]; exact hi.2.1.meet ha0 (by omega) (by omega) (by omega))) (fun h2 hv2 hR2 => ?_)
      rw [hv] at hv2 hR2
      exact hK h2 hv2 (hR.tr hR2)
    · rw [if_neg hm]
      rw [if_neg hm] at hK
      refine ⟨fun _ v8 e8 => ?_, fun z => absurd rfl z⟩
      rw [e8]
      exact ih (b + 1) h (by omega) (by omega) hi hK
theorem m_outer (hd : 4 ≤ d) (ho1 : -1000 ≤ o) (ho2 : o ≤ 1000) : ∀ (n : Nat) (a : Int) (h : mf_M), 0 ≤ a → a + n = nb → inD h nl nc nb o tr cO cC cT cS →
    (∀ h', vM h' 286 0 nb = (outS nl nc nb tr cT o n a (vM h 286 0 nb)).1 → dR h h' (outS nl nc nb tr cT o n a (vM h 286 0 nb)).2 → stS (vM h' 286 0 nb) nl nc nb → BX12_dayBy_67 C l d L 0 h') → BX12_dayBy_17 C l d L o a h := by
  intro n
  induction n with
  | zero =>
    intro a h ha0 han hi hK
    refine vX12_dayBy_17 (by omega) (wX12_beingMany ⟨fun _ => ?_, fun q => absurd (by rw [hi.1.2.2.1]; omega) q⟩)
    exact hK h rfl (dR.ofE (frE.rf h)) hi.2.1
  | succ n ih =>
    intro a h ha0 han hi hK
    have h8 := hi.1.2.2.2.2.2.1.2
    refine vX12_dayBy_17 (by omega) (wX12_beingMany ⟨fun q => absurd q (by rw [hi.1.2.2.1]; omega), fun _ v4 e4 => ?_⟩)
    rw [e4, w_id (by omega) (by omega)]
    refine m_inner hd ho1 ho2 ha0 (nb - (a + 1)).toNat (a + 1) h (by omega) (by omega) hi (fun h' hv hR => ?_)
    have hs' : stS (vM h' 286 0 nb) nl nc nb := by rw [hv]; exact stS_inS ha0 (by omega) _ _ _ (by omega) (by omega) hi.2.1
    refine ih (a + 1) h' (by omega) (by omega) (hi.next hR hs') (fun h2 hv2 hR2 hs2 => ?_)
    rw [hv] at hv2 hR2
    unfold outS at hK
    exact hK h2 hv2 (hR.tr hR2) hs2
theorem rule_env {σ : mf_M} {cs : List Int} {f : Bool} {x b : Int} (hr : ruleS cs f 45) : ∀ c ∈ cs, 40 ≤ c → c < 60 → envS σ tr (σ 0 0) o x b (c - 40) = envS σ tr (σ 0 0) o 0 b (c - 40) := by
  intro c hc q1 q2
  have := hr.2.2 c hc q1 q2
  unfold envS
  have h6 : ¬ c - 40 = 6 := by omega
  simp only [h6, if_false]
/-- a rule of a being without another one, as told -/
theorem m_tellB {h : mf_M} {s b : Int} {cs : List Int} {f : Bool} (hd : 2 ≤ d) (hs0 : 0 ≤ s) (hs3 : s ≤ 3) (hi : inD h nl nc nb o tr cO cC cT cS) (ho1 : -1000 ≤ o) (ho2 : o ≤ 1000) (hc : codM h s cs) (hr : ruleS cs f 45) (hb0 : 0 ≤ b) (hb : b < nb)
    (hK : ∀ h', frE h h' → (if f then valS (envS (vM h 286 0 nb) tr (vM h 286 0 nb 0 0) o 0 b) mt0 cs = 0 ∨ valS (envS (vM h 286 0 nb) tr (vM h 286 0 nb 0 0) o 0 b) mt0 cs = 1 else -1000000 ≤ valS (envS (vM h 286 0 nb) tr (vM h 286 0 nb 0 0) o 0 b) mt0 cs ∧ valS (envS (vM h 286 0 nb) tr (vM h 286 0 nb 0 0) o 0 b) mt0 cs ≤ 1000000) → L (valS (envS (vM h 286 0 nb) tr (vM h 286 0 nb 0 0) o 0 b) mt0 cs) h') : mM C l d YX12_codesTell [(2, 245), (0, s), (0, b)] h L := by
  obtain ⟨F1, F2, F3, ⟨F4, F4'⟩, ⟨F5, F5'⟩, ⟨F6, F6'⟩, F7, F8, -⟩ := id hi.1
  have e58 : h 245 58 = vM h 286 0 nb 0 0 := by rw [vM_day]; exact hi.2.2.2.1
  have rng := fun k => env_range (o := o) (other := 0) (tr := tr) hi.2.1 F4' F5' F6' hb0 hb F8 (by decide) (by decide) k
  have ev := rule_env (tr := tr) (o := o) (σ := vM h 286 0 nb) (x := h 245 60) (b := b) hr
  have trE : ∀ (σ : mf_M) (x y z : Int), envS σ (fun i => h 282 (8 + i)) x y z b = envS σ tr x y z b := fun σ x y z => env_tr (F7 b hb0 hb).symm
  refine m_codesTell (nb := nb) (f := f) (most := 45) hd hs0 hs3 hc hr F6' (Or.inr ⟨hb0, hb⟩) (by rw [hi.2.2.1]; omega) (by rw [hi.2.2.1]; omega) ?_ ?_
  · intro c hc2 q1 q2
    rw [trE, e58, hi.2.2.1, ev c hc2 q1 q2]
    exact rng _
  · intro h' hE
    rw [trE, e58, hi.2.2.1]
    have e1 : valS (envS (vM h 286 0 nb) tr (vM h 286 0 nb 0 0) o (h 245 60) b) mt0 cs = valS (envS (vM h 286 0 nb) tr (vM h 286 0 nb 0 0) o 0 b) mt0 cs := by
      unfold valS
      rw [evS_congr cs [] ev]
    rw [e1]
    exact hK h' hE (val_range (mt := mt0) (fun _ => Or.inl rfl) (fun c _ _ _ => rng _) hr.1)
/-- all reap -/
theorem m_reap (hd : 4 ≤ d) (ho1 : -1000 ≤ o) (ho2 : o ≤ 1000) : ∀ (n : Nat) (b : Int) (h : mf_M), 0 ≤ b → b + n = nb → inD h nl nc nb o tr cO cC cT cS →
    (∀ h', vM h' 286 0 nb = reapS tr cC o n b (vM h 286 0 nb) → dR h h' [] → inD h' nl nc nb o tr cO cC cT cS → BX12_dayBy_150 C l d L 0 h') → BX12_dayBy_67 C l d L b h := by
  intro n
  induction n with
  | zero =>
    intro b h hb0 hbn hi hK
    refine vX12_dayBy_67 (by omega) (wX12_beingMany ⟨fun _ => ?_, fun q => absurd (by rw [hi.1.2.2.1]; omega) q⟩)
    exact hK h rfl (dR.ofE (frE.rf h)) hi
  | succ n ih =>
    intro b h hb0 hbn hi hK
    obtain ⟨F1, F2, F3, ⟨F4, F4'⟩, ⟨F5, F5'⟩, ⟨F6, F6'⟩, F7, F8, F9, F10, F11, F12, F13, F14, F15, F16⟩ := id hi.1
    have pos := hi.2.1.1 b hb0 (by omega)
    have purse := hi.2.1.2.1 b hb0 (by omega)
    have step : ∀ (v : Int) (h1 : mf_M), frE h h1 → v = cornS (vM h 286 0 nb) tr cC o b → -1000000 ≤ v → v ≤ 1000000 → BX12_dayBy_100 C l d L b v h1 := by
      intro v h1 hE hv v1 v2
      have w1 : vM h1 286 0 nb = vM h 286 0 nb := vM_row (hE.1 286 (by decide) (by decide))
      have e4 : h1 286 (9 + 4 * b) = vM h 286 0 nb 4 b := by rw [← w1, vM_be (by omega) (by omega) hb0 (by omega)]; congr 1
      have fin : ∀ h2 : mf_M, h2 = mf_up h1 286 (9 + 4 * b) (clipS (vM h 286 0 nb 4 b + c99 v)) → BX12_dayBy_67 C l d L (b + 1) h2 := by
        intro h2 e2
        have w2 : vM h2 286 0 nb = mf_up (vM h 286 0 nb) 4 b (clipS (vM h 286 0 nb 4 b + c99 (cornS (vM h 286 0 nb) tr cC o b))) := by
          rw [e2, vM_up (j := 4) (k := b) (by omega) (by omega) (by omega) hb0 (by omega), w1, ← hv]
        have Dl : dR h1 h2 [] := by
          have hr : ∀ r, r ≠ 286 → h2 r = h1 r := fun r q => by rw [e2, up_row q]
          have hk : ∀ k, k ≠ 9 + 4 * b → h2 286 k = h1 286 k := fun k q => by rw [e2, up_col q]
          refine ⟨⟨fun x _ q2 _ _ => hr x q2, fun k _ _ _ _ _ _ => by rw [hr 245 (by decide)]⟩, by rw [hr 245 (by decide)], by rw [hr 245 (by decide)], hk 0 (by omega), ⟨fun _ k hk2 => hk k (by omega), fun _ ks hks => kpM_hi (fun k hk2 => hk k (by omega)) hks⟩, fun _ x _ _ => by rw [hr 288 (by decide)]; simp [cntS], fun _ _ => by rw [hr 245 (by decide)]; simp⟩
        have D2 : dR h h2 [] := by simpa using (dR.ofE hE).tr Dl
        refine ih (b + 1) h2 (by omega) (by omega) (hi.next D2 (by rw [w2]; exact hi.2.1.up4 (clip_range _).1 (clip_range _).2)) (fun h3 hv3 hR3 hi3 => ?_)
        rw [w2] at hv3
        unfold reapS at hK
        exact hK h3 hv3 (by simpa using D2.tr hR3) hi3
      have hw : mf_w32 (b + 1) = b + 1 := w_id (by omega) (by omega)
      refine vX12_dayBy_100 (by omega) (m_purseOf hb0 (by omega) ?_)
      rw [e4, hw]
      refine ⟨fun q => ⟨fun z => ?_, fun z => ?_⟩, fun q => ?_⟩
      · rw [w64_id (by omega) (by omega)]
        refine m_purseIs hb0 (by omega) (fun v7 e7 => ?_)
        rw [e7]
        refine fin _ ?_
        unfold c99
        rw [if_neg (by omega), if_neg (by omega)]
      · rw [w64_id (by omega) (by omega)]
        refine m_purseIs hb0 (by omega) (fun v7 e7 => ?_)
        rw [e7]
        refine fin _ ?_
        unfold c99
        rw [if_neg (by omega), if_pos (by omega)]
      · rw [w64_id (by omega) (by omega)]
        refine m_purseIs hb0 (by omega) (fun v7 e7 => ?_)
        rw [e7]
        refine fin _ ?_
        unfold c99
        rw [if_pos (by omega)]
    refine vX12_dayBy_67 (by omega) (wX12_beingMany ⟨fun q => absurd q (by rw [F3]; omega), fun _ => ⟨fun q => ?_, fun q => ?_⟩⟩)
    · rcases F10 with ⟨_, z⟩ | ⟨hne, hcod⟩
      · exact absurd z q
      · refine m_tellB (f := false) (by omega) (by decide) (by decide) hi ho1 ho2 hcod (F14 hne) hb0 (by omega) (fun h1 hE hv => ?_)
        simp only [Bool.false_eq_true, if_false] at hv
        refine step _ h1 hE ?_ hv.1 hv.2
        unfold cornS
        rw [if_neg hne]
    · refine m_cellOf hb0 (by omega) ?_
      have e3 : h 286 (8 + 4 * b) = vM h 286 0 nb 3 b := by rw [vM_be (by omega) (by omega) hb0 (by omega)]; congr 1
      refine step _ h (frE.rf h) ?_ (by rw [e3]; omega) (by rw [e3]; omega)
      unfold cornS
      rcases F10 with ⟨e, _⟩ | ⟨hne, hcod⟩
      · rw [if_pos e, e3]
      · have := hcod.1
        rw [show (4 : Int) + 1 = 5 from rfl, q] at this
        omega
end SpL
