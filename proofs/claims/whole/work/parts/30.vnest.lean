/-! a nest mate's own method is called -/
section MfNest
variable {C : mf_G} {l : Launch} {Y : mf_Y} {R : Room} {n0 : Nat} {Z : mf_Zt} {X : mf_Xt} {pc : Nat} {lv : List (Nat × mf_AV)} {st : List mf_AV} {n : Nat} {g h : mf_M}
theorem mf_callVN {Yc : mf_Y} {np d n2 index ci : Nat} {K : mf_Kt} {as rest : List mf_AV} {a : Int} {r : vw_C} {host : String} (hd : decode Y.2.1 pc = .ok (.invokevirtual index, 3)) (hl : Cond.methodLinkNest Y.1.cls index Yc.1 host ∈ mf_nest) (ok : mf_ok Yc np) (hin : Cond.instanceMethod Yc.1 ∈ mf_tbl) (hse : Cond.selects Yc.1.cls Yc.1 Yc.1 ∈ mf_tbl) (hr : mf_KL[ci]? = some r) (hcl : r.1 = Yc.1.cls)
    (hst : st = as.reverse ++ (2, a) :: rest) (hnp : as.length = np) (hw8 : mf_words rest ≤ 8) (hroom : mf_room R d n0 n2) (h2 : n ≤ n2) (hi : mf_is n a ci) (hM : mf_MT C l d Yc ((2, a) :: as) n n2 g h K)
    (k : ∀ x g' h', K x g' h' → mf_AW C l Y R n0 Z X (pc + 3) lv (mf_push Yc.2.2.2 x rest) n2 g' h') : mf_AW C l Y R n0 Z X pc lv st n g h := by
  intro p e s m args below meth c H locs ls sv lc hC hX hl0 hL hS hR hF hn
  subst hst
  obtain ⟨vs, ws, rfl, hlen, hS1, hS2⟩ := mf_S.split hS
  obtain ⟨w, sr, rfl, hw1, hS3⟩ := mf_S1 hS2
  obtain ⟨q, rfl, rfl, hq, hc⟩ := mf_isV hi hw1
  obtain ⟨V, ⟨cell, q1, q2, q3, q4⟩, hV⟩ := mf_obj hR hq hc hr
  obtain ⟨hx, hb, hml, hrt, hlk, hown, hts, hK, hsz, hnm, hNw⟩ := id hC
  have hrev := hS1.rev
  rw [List.reverse_reverse] at hrev
  have cb := va_cnB (R := R) (rm := mf_rm d n n2) (mc := n2 - n) (ms := mf_sl n2 - mf_sl n) (ret := Yc.2.2.2) (ws := mf_ws Yc) np hts (mf_goodIn ok.1) rfl rfl rfl (hNw.1 _ hl) (hts _ ok.2.1) ok.2.2.1 ⟨hroom.1, by
    have h1 := hroom.2.1
    have h2 := ok.2.2.2
    show 8 + (Yc.2.2.1 + 11) + 64 * d ≤ R.locals
    omega⟩
  refine mf_back h2 hC hX hl0 hL hS3 hR hF hn (va_runVN (As := vs.reverse) (rest := sr) ⟨hx, hb, hml, hown, hts⟩ hM ⟨cb, hts _ hin, hts _ hse⟩ ⟨mf_blind, ⟨cell, q1, by rw [q3]; rfl, by rw [q2, ← hcl]; exact (hK.1 ci r hr).2.1⟩, fun U hU hW => ⟨_, rfl, ⟨hw1, hrev⟩, by rw [hU]; exact hR, mf_K.moved hW hK, by rw [hU]; exact hNw.moved hW hF.2.1⟩⟩ rfl (by rw [List.length_reverse, hlen, List.length_reverse, hnp]) hl0.1 (by rw [List.reverse_reverse]) (lv_room (by rw [hS3.cats]; exact hw8)) hd (mf_hf hn h2 hroom)) k
end MfNest
