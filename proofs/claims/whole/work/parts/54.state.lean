/-! what is told and what stands, as numbers: the folio, the state; how the reference holds it -/
def aF : Type := Int × Int × Int × Int × Int × (Int → List Int) × (Int → Int) × (Int → Int) × List Int × List Int × List Int × List Int
def aF.nl (o : aF) : Int := o.1
def aF.nc (o : aF) : Int := o.2.1
def aF.nb (o : aF) : Int := o.2.2.1
def aF.nw (o : aF) : Int := o.2.2.2.1
def aF.th (o : aF) : Int := o.2.2.2.2.1
def aF.nm (o : aF) : Int → List Int := o.2.2.2.2.2.1
def aF.tr (o : aF) : Int → Int := o.2.2.2.2.2.2.1
def aF.wm (o : aF) : Int → Int := o.2.2.2.2.2.2.2.1
def aF.cO (o : aF) : List Int := o.2.2.2.2.2.2.2.2.1
def aF.cC (o : aF) : List Int := o.2.2.2.2.2.2.2.2.2.1
def aF.cT (o : aF) : List Int := o.2.2.2.2.2.2.2.2.2.2.1
def aF.cS (o : aF) : List Int := o.2.2.2.2.2.2.2.2.2.2.2
def aF.s_nl (o : aF) (v : Int) : aF := (v, o.nc, o.nb, o.nw, o.th, o.nm, o.tr, o.wm, o.cO, o.cC, o.cT, o.cS)
def aF.s_nc (o : aF) (v : Int) : aF := (o.nl, v, o.nb, o.nw, o.th, o.nm, o.tr, o.wm, o.cO, o.cC, o.cT, o.cS)
def aF.s_nb (o : aF) (v : Int) : aF := (o.nl, o.nc, v, o.nw, o.th, o.nm, o.tr, o.wm, o.cO, o.cC, o.cT, o.cS)
def aF.s_nw (o : aF) (v : Int) : aF := (o.nl, o.nc, o.nb, v, o.th, o.nm, o.tr, o.wm, o.cO, o.cC, o.cT, o.cS)
def aF.s_th (o : aF) (v : Int) : aF := (o.nl, o.nc, o.nb, o.nw, v, o.nm, o.tr, o.wm, o.cO, o.cC, o.cT, o.cS)
def aF.s_nm (o : aF) (v : Int → List Int) : aF := (o.nl, o.nc, o.nb, o.nw, o.th, v, o.tr, o.wm, o.cO, o.cC, o.cT, o.cS)
def aF.s_tr (o : aF) (v : Int → Int) : aF := (o.nl, o.nc, o.nb, o.nw, o.th, o.nm, v, o.wm, o.cO, o.cC, o.cT, o.cS)
def aF.s_wm (o : aF) (v : Int → Int) : aF := (o.nl, o.nc, o.nb, o.nw, o.th, o.nm, o.tr, v, o.cO, o.cC, o.cT, o.cS)
def aF.s_cO (o : aF) (v : List Int) : aF := (o.nl, o.nc, o.nb, o.nw, o.th, o.nm, o.tr, o.wm, v, o.cC, o.cT, o.cS)
def aF.s_cC (o : aF) (v : List Int) : aF := (o.nl, o.nc, o.nb, o.nw, o.th, o.nm, o.tr, o.wm, o.cO, v, o.cT, o.cS)
def aF.s_cT (o : aF) (v : List Int) : aF := (o.nl, o.nc, o.nb, o.nw, o.th, o.nm, o.tr, o.wm, o.cO, o.cC, v, o.cS)
def aF.s_cS (o : aF) (v : List Int) : aF := (o.nl, o.nc, o.nb, o.nw, o.th, o.nm, o.tr, o.wm, o.cO, o.cC, o.cT, v)
def aS : Type := aF × (Int → Int) × Int × mf_M × (List (Int × Int × Int)) × (List (mf_M × List (Int × Int × Int))) × Int × (List (Int × Int)) × Int × (Int → Int) × Int × Int × List Int
def aS.F (o : aS) : aF := o.1
def aS.tp (o : aS) : Int → Int := o.2.1
def aS.tn (o : aS) : Int := o.2.2.1
def aS.st (o : aS) : mf_M := o.2.2.2.1
def aS.ks (o : aS) : List (Int × Int × Int) := o.2.2.2.2.1
def aS.un (o : aS) : List (mf_M × List (Int × Int × Int)) := o.2.2.2.2.2.1
def aS.nx (o : aS) : Int := o.2.2.2.2.2.2.1
def aS.sn (o : aS) : List (Int × Int) := o.2.2.2.2.2.2.2.1
def aS.sd (o : aS) : Int := o.2.2.2.2.2.2.2.2.1
def aS.rf (o : aS) : Int → Int := o.2.2.2.2.2.2.2.2.2.1
def aS.fa (o : aS) : Int := o.2.2.2.2.2.2.2.2.2.2.1
def aS.pl (o : aS) : Int := o.2.2.2.2.2.2.2.2.2.2.2.1
def aS.oc (o : aS) : List Int := o.2.2.2.2.2.2.2.2.2.2.2.2
def aS.s_F (o : aS) (v : aF) : aS := (v, o.tp, o.tn, o.st, o.ks, o.un, o.nx, o.sn, o.sd, o.rf, o.fa, o.pl, o.oc)
def aS.s_tp (o : aS) (v : Int → Int) : aS := (o.F, v, o.tn, o.st, o.ks, o.un, o.nx, o.sn, o.sd, o.rf, o.fa, o.pl, o.oc)
def aS.s_tn (o : aS) (v : Int) : aS := (o.F, o.tp, v, o.st, o.ks, o.un, o.nx, o.sn, o.sd, o.rf, o.fa, o.pl, o.oc)
def aS.s_st (o : aS) (v : mf_M) : aS := (o.F, o.tp, o.tn, v, o.ks, o.un, o.nx, o.sn, o.sd, o.rf, o.fa, o.pl, o.oc)
def aS.s_ks (o : aS) (v : List (Int × Int × Int)) : aS := (o.F, o.tp, o.tn, o.st, v, o.un, o.nx, o.sn, o.sd, o.rf, o.fa, o.pl, o.oc)
def aS.s_un (o : aS) (v : List (mf_M × List (Int × Int × Int))) : aS := (o.F, o.tp, o.tn, o.st, o.ks, v, o.nx, o.sn, o.sd, o.rf, o.fa, o.pl, o.oc)
def aS.s_nx (o : aS) (v : Int) : aS := (o.F, o.tp, o.tn, o.st, o.ks, o.un, v, o.sn, o.sd, o.rf, o.fa, o.pl, o.oc)
def aS.s_sn (o : aS) (v : List (Int × Int)) : aS := (o.F, o.tp, o.tn, o.st, o.ks, o.un, o.nx, v, o.sd, o.rf, o.fa, o.pl, o.oc)
def aS.s_sd (o : aS) (v : Int) : aS := (o.F, o.tp, o.tn, o.st, o.ks, o.un, o.nx, o.sn, v, o.rf, o.fa, o.pl, o.oc)
def aS.s_rf (o : aS) (v : Int → Int) : aS := (o.F, o.tp, o.tn, o.st, o.ks, o.un, o.nx, o.sn, o.sd, v, o.fa, o.pl, o.oc)
def aS.s_fa (o : aS) (v : Int) : aS := (o.F, o.tp, o.tn, o.st, o.ks, o.un, o.nx, o.sn, o.sd, o.rf, v, o.pl, o.oc)
def aS.s_pl (o : aS) (v : Int) : aS := (o.F, o.tp, o.tn, o.st, o.ks, o.un, o.nx, o.sn, o.sd, o.rf, o.fa, v, o.oc)
def aS.s_oc (o : aS) (v : List Int) : aS := (o.F, o.tp, o.tn, o.st, o.ks, o.un, o.nx, o.sn, o.sd, o.rf, o.fa, o.pl, v)
def okF (F : aF) : Prop := (0 ≤ F.nl) ∧ (F.nl ≤ 6) ∧ (0 ≤ F.nc) ∧ (F.nc ≤ 8) ∧ (0 ≤ F.nb) ∧ (F.nb ≤ 8) ∧ (0 ≤ F.nw) ∧ (F.nw ≤ 12) ∧ (0 ≤ F.th) ∧ (F.th ≤ 100) ∧ (F.nl = 0 → F.nc = 0 ∧ F.nb = 0 ∧ F.nw = 0 ∧ F.cO = [] ∧ F.cC = [] ∧ F.cT = [] ∧ F.cS = []) ∧ (F.nl ≠ 0 → 2 ≤ F.nc) ∧ (∀ b, 0 ≤ b → b < F.nb → 0 ≤ F.tr b ∧ F.tr b ≤ 9) ∧ (F.cO ≠ [] → ruleS F.cO false 40) ∧ (F.cC ≠ [] → ruleS F.cC false 45) ∧ (F.cT ≠ [] → ruleS F.cT false 46) ∧ (F.cS ≠ [] → ruleS F.cS true 45) ∧ (∀ b, 0 ≤ b → b < F.nb → 1 ≤ (F.nm b).length ∧ (F.nm b).length ≤ 6 ∧ ∀ x ∈ F.nm b, 1 ≤ x ∧ x ≤ 26) ∧ (∀ w, 0 ≤ w → w < F.nw → 0 ≤ F.wm (3 * w) ∧ F.wm (3 * w) < F.nl ∧ 0 ≤ F.wm (3 * w + 1) ∧ F.wm (3 * w + 1) < F.nl ∧ 0 ≤ F.wm (3 * w + 2) ∧ F.wm (3 * w + 2) < F.nc)
theorem okF.l0 {F : aF} (o : okF F) : 0 ≤ F.nl := o.1
theorem okF.l6 {F : aF} (o : okF F) : F.nl ≤ 6 := o.2.1
theorem okF.c0 {F : aF} (o : okF F) : 0 ≤ F.nc := o.2.2.1
theorem okF.c8 {F : aF} (o : okF F) : F.nc ≤ 8 := o.2.2.2.1
theorem okF.b0 {F : aF} (o : okF F) : 0 ≤ F.nb := o.2.2.2.2.1
theorem okF.b8 {F : aF} (o : okF F) : F.nb ≤ 8 := o.2.2.2.2.2.1
theorem okF.w0 {F : aF} (o : okF F) : 0 ≤ F.nw := o.2.2.2.2.2.2.1
theorem okF.w12 {F : aF} (o : okF F) : F.nw ≤ 12 := o.2.2.2.2.2.2.2.1
theorem okF.t0 {F : aF} (o : okF F) : 0 ≤ F.th := o.2.2.2.2.2.2.2.2.1
theorem okF.t100 {F : aF} (o : okF F) : F.th ≤ 100 := o.2.2.2.2.2.2.2.2.2.1
theorem okF.z {F : aF} (o : okF F) : F.nl = 0 → F.nc = 0 ∧ F.nb = 0 ∧ F.nw = 0 ∧ F.cO = [] ∧ F.cC = [] ∧ F.cT = [] ∧ F.cS = [] := o.2.2.2.2.2.2.2.2.2.2.1
theorem okF.c2 {F : aF} (o : okF F) : F.nl ≠ 0 → 2 ≤ F.nc := o.2.2.2.2.2.2.2.2.2.2.2.1
theorem okF.tr {F : aF} (o : okF F) : ∀ b, 0 ≤ b → b < F.nb → 0 ≤ F.tr b ∧ F.tr b ≤ 9 := o.2.2.2.2.2.2.2.2.2.2.2.2.1
theorem okF.rO {F : aF} (o : okF F) : F.cO ≠ [] → ruleS F.cO false 40 := o.2.2.2.2.2.2.2.2.2.2.2.2.2.1
theorem okF.rC {F : aF} (o : okF F) : F.cC ≠ [] → ruleS F.cC false 45 := o.2.2.2.2.2.2.2.2.2.2.2.2.2.2.1
theorem okF.rT {F : aF} (o : okF F) : F.cT ≠ [] → ruleS F.cT false 46 := o.2.2.2.2.2.2.2.2.2.2.2.2.2.2.2.1
theorem okF.rS {F : aF} (o : okF F) : F.cS ≠ [] → ruleS F.cS true 45 := o.2.2.2.2.2.2.2.2.2.2.2.2.2.2.2.2.1
theorem okF.nm {F : aF} (o : okF F) : ∀ b, 0 ≤ b → b < F.nb → 1 ≤ (F.nm b).length ∧ (F.nm b).length ≤ 6 ∧ ∀ x ∈ F.nm b, 1 ≤ x ∧ x ≤ 26 := o.2.2.2.2.2.2.2.2.2.2.2.2.2.2.2.2.2.1
theorem okF.wm {F : aF} (o : okF F) : ∀ w, 0 ≤ w → w < F.nw → 0 ≤ F.wm (3 * w) ∧ F.wm (3 * w) < F.nl ∧ 0 ≤ F.wm (3 * w + 1) ∧ F.wm (3 * w + 1) < F.nl ∧ 0 ≤ F.wm (3 * w + 2) ∧ F.wm (3 * w + 2) < F.nc := o.2.2.2.2.2.2.2.2.2.2.2.2.2.2.2.2.2.2
/-- what stands: ranges; none stands on a gloss; no gloss on leaves that there are not -/
def okP (F : aF) (σ : mf_M) (ks : List (Int × Int × Int)) : Prop := (stS σ F.nl F.nc F.nb) ∧ (∀ k, 0 ≤ k → k < 6 → 0 ≤ σ 1 k ∧ σ 1 k < 2 ^ F.nc.toNat) ∧ (∀ k, F.nl ≤ k → k < 6 → σ 1 k = 0) ∧ (∀ b, 0 ≤ b → b < F.nb → ¬ bitS (σ 1 (σ 2 b)) (σ 3 b) = 1) ∧ (∀ b c, 0 ≤ b → b < F.nb → 0 ≤ c → c < F.nb → b ≠ c → ¬ (σ 2 b = σ 2 c ∧ σ 3 b = σ 3 c)) ∧ (ks.length ≤ 40 ∧ ∀ q ∈ ks, 0 ≤ q.1 ∧ q.1 ≤ 999 ∧ 0 ≤ q.2.1 ∧ q.2.1 < 8 ∧ 0 ≤ q.2.2 ∧ q.2.2 < 8)
theorem okP.st {F : aF} {σ : mf_M} {ks : List (Int × Int × Int)} (o : okP F σ ks) : stS σ F.nl F.nc F.nb := o.1
theorem okP.gl {F : aF} {σ : mf_M} {ks : List (Int × Int × Int)} (o : okP F σ ks) : ∀ k, 0 ≤ k → k < 6 → 0 ≤ σ 1 k ∧ σ 1 k < 2 ^ F.nc.toNat := o.2.1
theorem okP.gz {F : aF} {σ : mf_M} {ks : List (Int × Int × Int)} (o : okP F σ ks) : ∀ k, F.nl ≤ k → k < 6 → σ 1 k = 0 := o.2.2.1
theorem okP.ng {F : aF} {σ : mf_M} {ks : List (Int × Int × Int)} (o : okP F σ ks) : ∀ b, 0 ≤ b → b < F.nb → ¬ bitS (σ 1 (σ 2 b)) (σ 3 b) = 1 := o.2.2.2.1
theorem okP.ds {F : aF} {σ : mf_M} {ks : List (Int × Int × Int)} (o : okP F σ ks) : ∀ b c, 0 ≤ b → b < F.nb → 0 ≤ c → c < F.nb → b ≠ c → ¬ (σ 2 b = σ 2 c ∧ σ 3 b = σ 3 c) := o.2.2.2.2.1
theorem okP.ks {F : aF} {σ : mf_M} {ks : List (Int × Int × Int)} (o : okP F σ ks) : ks.length ≤ 40 ∧ ∀ q ∈ ks, 0 ≤ q.1 ∧ q.1 ≤ 999 ∧ 0 ≤ q.2.1 ∧ q.2.1 < 8 ∧ 0 ≤ q.2.2 ∧ q.2.2 < 8 := o.2.2.2.2.2
def okS (S : aS) : Prop := (okF S.F) ∧ (okP S.F S.st S.ks) ∧ (0 ≤ S.tn) ∧ (S.tn ≤ 1600) ∧ (∀ i, 0 ≤ S.tp i ∧ S.tp i ≤ 255) ∧ (S.un.length ≤ 20) ∧ (∀ q ∈ S.un, okP S.F q.1 q.2) ∧ (0 ≤ S.nx) ∧ (S.nx < 20) ∧ (S.sn.length ≤ 16) ∧ (∀ q ∈ S.sn, 0 ≤ q.1 ∧ q.1 < S.F.nb ∧ 0 ≤ q.2 ∧ q.2 < S.F.nc) ∧ (0 ≤ S.sd) ∧ (S.sd < 2147483648) ∧ (S.oc.length ≤ 57)
theorem okS.F {S : aS} (o : okS S) : okF S.F := o.1
theorem okS.P {S : aS} (o : okS S) : okP S.F S.st S.ks := o.2.1
theorem okS.tn0 {S : aS} (o : okS S) : 0 ≤ S.tn := o.2.2.1
theorem okS.tn1 {S : aS} (o : okS S) : S.tn ≤ 1600 := o.2.2.2.1
theorem okS.tp {S : aS} (o : okS S) : ∀ i, 0 ≤ S.tp i ∧ S.tp i ≤ 255 := o.2.2.2.2.1
theorem okS.un {S : aS} (o : okS S) : S.un.length ≤ 20 := o.2.2.2.2.2.1
theorem okS.us {S : aS} (o : okS S) : ∀ q ∈ S.un, okP S.F q.1 q.2 := o.2.2.2.2.2.2.1
theorem okS.nx0 {S : aS} (o : okS S) : 0 ≤ S.nx := o.2.2.2.2.2.2.2.1
theorem okS.nx1 {S : aS} (o : okS S) : S.nx < 20 := o.2.2.2.2.2.2.2.2.1
theorem okS.sn {S : aS} (o : okS S) : S.sn.length ≤ 16 := o.2.2.2.2.2.2.2.2.2.1
theorem okS.ss {S : aS} (o : okS S) : ∀ q ∈ S.sn, 0 ≤ q.1 ∧ q.1 < S.F.nb ∧ 0 ≤ q.2 ∧ q.2 < S.F.nc := o.2.2.2.2.2.2.2.2.2.2.1
theorem okS.sd0 {S : aS} (o : okS S) : 0 ≤ S.sd := o.2.2.2.2.2.2.2.2.2.2.2.1
theorem okS.sd1 {S : aS} (o : okS S) : S.sd < 2147483648 := o.2.2.2.2.2.2.2.2.2.2.2.2.1
theorem okS.oc {S : aS} (o : okS S) : S.oc.length ≤ 57 := o.2.2.2.2.2.2.2.2.2.2.2.2.2
def pkS (l : List Int) : Int := l.foldl (fun a x => 27 * a + x) 0
def wdM : List (Int × List Int) := [(248, [102, 111, 108, 105, 111]), (249, [99, 101, 108, 108, 115]), (250, [103, 108, 111, 115, 115]), (251, [119, 111, 114, 109]), (252, [98, 101, 105, 110, 103]), (253, [111, 110]), (254, [97, 116]), (255, [116, 114, 97, 100, 101]), (256, [111, 112, 101, 110, 115]), (257, [99, 111, 114, 110]), (258, [116, 111, 108, 108]), (259, [115, 116, 101, 112, 115]), (260, [116, 104, 117, 109, 98]), (261, [100, 97, 121]), (262, [108, 101, 97, 102]), (263, [99, 101, 108, 108]), (264, [112, 117, 114, 115, 101]), (265, [111, 112, 101, 110]), (266, [111, 116, 104, 101, 114]), (267, [110, 117, 109, 98, 101, 114]), (268, [109, 101, 116]), (269, [109, 101, 101, 116, 115]), (270, [111, 114]), (271, [97, 110, 100]), (272, [110, 111, 116]), (273, [97, 108, 108]), (274, [109, 105, 110]), (275, [109, 97, 120]), (293, [102, 105, 114, 115, 116]), (294, [108, 97, 115, 116]), (295, [111, 102, 116, 101, 110]), (296, [116, 111, 116, 97, 108]), (297, [109, 111, 115, 116]), (298, [108, 101, 97, 115, 116]), (299, [110, 111, 116]), (300, [97, 110, 100]), (301, [111, 114]), (302, [97, 108, 108]), (303, [109, 105, 110]), (304, [109, 97, 120]), (305, [100, 97, 121]), (306, [108, 101, 97, 102]), (307, [99, 101, 108, 108]), (308, [116, 114, 97, 100, 101]), (309, [112, 117, 114, 115, 101]), (310, [111, 112, 101, 110]), (311, [111, 116, 104, 101, 114]), (312, [110, 117, 109, 98, 101, 114]), (313, [109, 101, 116]), (314, [109, 101, 101, 116, 115])]
def wordsM (h : mf_M) : Prop := ∀ q ∈ wdM, ∀ j : Nat, j < q.2.length → h q.1 j = q.2.getD j 0
/-- the folio that stands, in the reference -/
def folR (F : aF) (h : mf_M) : Prop := (h 276 2 = F.nl) ∧ (h 276 3 = F.nc) ∧ (h 277 3 = F.nb) ∧ (h 277 4 = F.nw) ∧ (h 245 48 = F.th) ∧ (h 245 54 = if F.nl = 0 then 0 else 1) ∧ (∀ b, 0 ≤ b → b < F.nb → h 278 (8 + b) = pkS (F.nm b)) ∧ (∀ b, 0 ≤ b → b < F.nb → F.tr b = h 282 (8 + b)) ∧ (∀ i, 0 ≤ i → i < 3 * F.nw → h 280 (36 + i) = F.wm i) ∧ (toldM h 0 F.cO) ∧ (toldM h 1 F.cC) ∧ (toldM h 2 F.cT) ∧ (toldM h 3 F.cS)
theorem folR.l {F : aF} {h : mf_M} (o : folR F h) : h 276 2 = F.nl := o.1
theorem folR.c {F : aF} {h : mf_M} (o : folR F h) : h 276 3 = F.nc := o.2.1
theorem folR.b {F : aF} {h : mf_M} (o : folR F h) : h 277 3 = F.nb := o.2.2.1
theorem folR.w {F : aF} {h : mf_M} (o : folR F h) : h 277 4 = F.nw := o.2.2.2.1
theorem folR.t {F : aF} {h : mf_M} (o : folR F h) : h 245 48 = F.th := o.2.2.2.2.1
theorem folR.i {F : aF} {h : mf_M} (o : folR F h) : h 245 54 = if F.nl = 0 then 0 else 1 := o.2.2.2.2.2.1
theorem folR.nm {F : aF} {h : mf_M} (o : folR F h) : ∀ b, 0 ≤ b → b < F.nb → h 278 (8 + b) = pkS (F.nm b) := o.2.2.2.2.2.2.1
theorem folR.tr {F : aF} {h : mf_M} (o : folR F h) : ∀ b, 0 ≤ b → b < F.nb → F.tr b = h 282 (8 + b) := o.2.2.2.2.2.2.2.1
theorem folR.wm {F : aF} {h : mf_M} (o : folR F h) : ∀ i, 0 ≤ i → i < 3 * F.nw → h 280 (36 + i) = F.wm i := o.2.2.2.2.2.2.2.2.1
theorem folR.tO {F : aF} {h : mf_M} (o : folR F h) : toldM h 0 F.cO := o.2.2.2.2.2.2.2.2.2.1
theorem folR.tC {F : aF} {h : mf_M} (o : folR F h) : toldM h 1 F.cC := o.2.2.2.2.2.2.2.2.2.2.1
theorem folR.tT {F : aF} {h : mf_M} (o : folR F h) : toldM h 2 F.cT := o.2.2.2.2.2.2.2.2.2.2.2.1
theorem folR.tS {F : aF} {h : mf_M} (o : folR F h) : toldM h 3 F.cS := o.2.2.2.2.2.2.2.2.2.2.2.2
abbrev aD : mf_M × List (Int × Int × Int) := (fun _ _ => 0, [])
def RM (S : aS) (h : mf_M) : Prop := (okS S) ∧ (h 245 1 = S.tn) ∧ (∀ i, 0 ≤ i → i < S.tn → h 246 i = S.tp i) ∧ (h 245 7 = S.fa) ∧ (h 245 8 = S.pl) ∧ (∀ i, 0 ≤ i → i < 6 → h 247 i = S.rf i) ∧ (wordsM h) ∧ (folR S.F h) ∧ (vM h 286 0 S.F.nb = S.st) ∧ (kpM h 286 0 S.ks) ∧ (h 245 61 = 0) ∧ (h 245 69 = S.un.length) ∧ (h 245 70 = S.nx) ∧ (∀ j : Nat, j < S.un.length → vM h 292 (160 * ((S.nx - j) % 20)) S.F.nb = (S.un.getD j aD).1 ∧ kpM h 292 (160 * ((S.nx - j) % 20)) (S.un.getD j aD).2) ∧ (h 245 65 = S.sn.length) ∧ (∀ j : Nat, j < S.sn.length → h 290 (2 * j) = (S.sn.getD j (0, 0)).1 ∧ h 290 (2 * j + 1) = (S.sn.getD j (0, 0)).2) ∧ (h 245 71 = S.sd) ∧ (h 245 105 = S.oc.length) ∧ (∀ j : Nat, j < S.oc.length → h 318 j = S.oc.getD j 0) ∧ (-1000 ≤ h 245 59 ∧ h 245 59 ≤ 1000)
theorem RM.ok {S : aS} {h : mf_M} (o : RM S h) : okS S := o.1
theorem RM.tn {S : aS} {h : mf_M} (o : RM S h) : h 245 1 = S.tn := o.2.1
theorem RM.tp {S : aS} {h : mf_M} (o : RM S h) : ∀ i, 0 ≤ i → i < S.tn → h 246 i = S.tp i := o.2.2.1
theorem RM.fa {S : aS} {h : mf_M} (o : RM S h) : h 245 7 = S.fa := o.2.2.2.1
theorem RM.pl {S : aS} {h : mf_M} (o : RM S h) : h 245 8 = S.pl := o.2.2.2.2.1
theorem RM.rf {S : aS} {h : mf_M} (o : RM S h) : ∀ i, 0 ≤ i → i < 6 → h 247 i = S.rf i := o.2.2.2.2.2.1
theorem RM.wd {S : aS} {h : mf_M} (o : RM S h) : wordsM h := o.2.2.2.2.2.2.1
theorem RM.fo {S : aS} {h : mf_M} (o : RM S h) : folR S.F h := o.2.2.2.2.2.2.2.1
theorem RM.vi {S : aS} {h : mf_M} (o : RM S h) : vM h 286 0 S.F.nb = S.st := o.2.2.2.2.2.2.2.2.1
theorem RM.kp {S : aS} {h : mf_M} (o : RM S h) : kpM h 286 0 S.ks := o.2.2.2.2.2.2.2.2.2.1
theorem RM.th {S : aS} {h : mf_M} (o : RM S h) : h 245 61 = 0 := o.2.2.2.2.2.2.2.2.2.2.1
theorem RM.un {S : aS} {h : mf_M} (o : RM S h) : h 245 69 = S.un.length := o.2.2.2.2.2.2.2.2.2.2.2.1
theorem RM.nx {S : aS} {h : mf_M} (o : RM S h) : h 245 70 = S.nx := o.2.2.2.2.2.2.2.2.2.2.2.2.1
theorem RM.us {S : aS} {h : mf_M} (o : RM S h) : ∀ j : Nat, j < S.un.length → vM h 292 (160 * ((S.nx - j) % 20)) S.F.nb = (S.un.getD j aD).1 ∧ kpM h 292 (160 * ((S.nx - j) % 20)) (S.un.getD j aD).2 := o.2.2.2.2.2.2.2.2.2.2.2.2.2.1
theorem RM.sn {S : aS} {h : mf_M} (o : RM S h) : h 245 65 = S.sn.length := o.2.2.2.2.2.2.2.2.2.2.2.2.2.2.1
theorem RM.ss {S : aS} {h : mf_M} (o : RM S h) : ∀ j : Nat, j < S.sn.length → h 290 (2 * j) = (S.sn.getD j (0, 0)).1 ∧ h 290 (2 * j + 1) = (S.sn.getD j (0, 0)).2 := o.2.2.2.2.2.2.2.2.2.2.2.2.2.2.2.1
theorem RM.sd {S : aS} {h : mf_M} (o : RM S h) : h 245 71 = S.sd := o.2.2.2.2.2.2.2.2.2.2.2.2.2.2.2.2.1
theorem RM.oc {S : aS} {h : mf_M} (o : RM S h) : h 245 105 = S.oc.length := o.2.2.2.2.2.2.2.2.2.2.2.2.2.2.2.2.2.1
theorem RM.os {S : aS} {h : mf_M} (o : RM S h) : ∀ j : Nat, j < S.oc.length → h 318 j = S.oc.getD j 0 := o.2.2.2.2.2.2.2.2.2.2.2.2.2.2.2.2.2.2.1
theorem RM.ao {S : aS} {h : mf_M} (o : RM S h) : -1000 ≤ h 245 59 ∧ h 245 59 ≤ 1000 := o.2.2.2.2.2.2.2.2.2.2.2.2.2.2.2.2.2.2.2
/-- what was written is nothing that stays; the class's own cells are as they were -/
def frM (h h' : mf_M) : Prop := (∀ a, a ≠ 245 → a ≠ 286 → a ≠ 287 → a ≠ 288 → a ≠ 289 → a ≠ 291 → a ≠ 315 → a ≠ 316 → a ≠ 317 → h' a = h a) ∧ (∀ k ∈ ([1, 7, 8, 48, 54, 61, 65, 69, 70, 71, 105] : List Int), h' 245 k = h 245 k) ∧ (-1000 ≤ h 245 59 ∧ h 245 59 ≤ 1000 → -1000 ≤ h' 245 59 ∧ h' 245 59 ≤ 1000) ∧ ∀ k, 0 ≤ k → h' 286 k = h 286 k
def frX (h h' : mf_M) : Prop := ∀ a, a < 245 → h' a = h a
theorem frM.X {h h' : mf_M} (f : frM h h') : frX h h' := fun a ha => f.1 a (by omega) (by omega) (by omega) (by omega) (by omega) (by omega) (by omega) (by omega) (by omega)
theorem frX.rf (h : mf_M) : frX h h := fun _ _ => rfl
theorem frX.tr {a b c : mf_M} (h1 : frX a b) (h2 : frX b c) : frX a c := fun x hx => (h2 x hx).trans (h1 x hx)
theorem frM.rf (h : mf_M) : frM h h := ⟨fun _ _ _ _ _ _ _ _ _ _ => rfl, fun _ _ => rfl, id, fun _ _ => rfl⟩
theorem frM.tr {a b c : mf_M} (h1 : frM a b) (h2 : frM b c) : frM a c := ⟨fun x q1 q2 q3 q4 q5 q6 q7 q8 q9 => (h2.1 x q1 q2 q3 q4 q5 q6 q7 q8 q9).trans (h1.1 x q1 q2 q3 q4 q5 q6 q7 q8 q9), fun k hk => (h2.2.1 k hk).trans (h1.2.1 k hk), fun q => h2.2.2.1 (h1.2.2.1 q), fun k hk => (h2.2.2.2 k hk).trans (h1.2.2.2 k hk)⟩
theorem frQ.M {h h' : mf_M} (f : frQ h h') : frM h h' := ⟨fun a q1 _ _ _ _ _ _ _ q8 => f.1 a q1 q8, fun k hk => f.2 k (by rintro rfl; simp at hk) (by rintro rfl; simp at hk) (by rintro rfl; simp at hk), fun q => by rw [f.2 59 (by decide) (by decide) (by decide)]; exact q, fun k _ => by rw [f.1 286 (by decide) (by decide)]⟩
theorem frE.M {h h' : mf_M} (f : frE h h') : frM h h' := f.Q.M
theorem vM_pos {h h' : mf_M} {r b s c nb : Int} (e : ∀ k, 0 ≤ k → k < 39 → h' s (c + k) = h r (b + k)) (h8 : nb ≤ 8) : vM h' s c nb = vM h r b nb := by
  funext i m
  unfold vM
  by_cases e0 : i = 0
  · have := e 0 (by decide) (by decide)
    rw [Int.add_zero, Int.add_zero] at this
    rw [if_pos e0, if_pos e0, this]
  · rw [if_neg e0, if_neg e0]
    by_cases e1 : i = 1
    · rw [if_pos e1, if_pos e1]
      by_cases e2 : 0 ≤ m ∧ m < 6
      · rw [if_pos e2, if_pos e2, Int.add_assoc, Int.add_assoc, e (1 + m) (by omega) (by omega)]
      · rw [if_neg e2, if_neg e2]
    · rw [if_neg e1, if_neg e1]
      by_cases e2 : 2 ≤ i ∧ i ≤ 5 ∧ 0 ≤ m ∧ m < nb
      · rw [if_pos e2, if_pos e2]
        have := e (5 + i + 4 * m) (by omega) (by omega)
        rw [show c + (5 + i + 4 * m) = c + 5 + i + 4 * m by omega, show b + (5 + i + 4 * m) = b + 5 + i + 4 * m by omega] at this
        exact this
      · rw [if_neg e2, if_neg e2]
theorem kpM_pos {h h' : mf_M} {r b s c : Int} {ks : List (Int × Int × Int)} (e : ∀ k, 39 ≤ k → k < 160 → h' s (c + k) = h r (b + k)) (hk : kpM h r b ks) : kpM h' s c ks := by
  obtain ⟨h1, h2, h3⟩ := hk
  refine ⟨by rw [e 39 (by decide) (by decide)]; exact h1, h2, fun k hk => ?_⟩
  obtain ⟨f1, f2, f3⟩ := h3 k hk
  refine ⟨?_, ?_, ?_⟩
  · rw [Int.add_assoc, e _ (by omega) (by omega), ← Int.add_assoc]; exact f1
  · rw [Int.add_assoc, Int.add_assoc, e _ (by omega) (by omega), ← Int.add_assoc, ← Int.add_assoc]; exact f2
  · rw [Int.add_assoc, Int.add_assoc, e _ (by omega) (by omega), ← Int.add_assoc, ← Int.add_assoc]; exact f3
theorem kpM.row {h h' : mf_M} {r b : Int} {ks : List (Int × Int × Int)} (e : h' r = h r) (hk : kpM h r b ks) : kpM h' r b ks := by
  unfold kpM at hk ⊢
  rw [e]; exact hk
theorem folR.keep {F : aF} {h h' : mf_M} (hr : folR F h) (f1 : ∀ a ∈ ([276, 277, 278, 280, 282, 283, 284, 285] : List Int), h' a = h a) (f2 : ∀ k ∈ ([48, 54] : List Int), h' 245 k = h 245 k) : folR F h' := by
  have e1 := f1 276 (by simp)
  have e2 := f1 277 (by simp)
  have e3 := f1 278 (by simp)
  have e4 := f1 280 (by simp)
  have e5 := f1 282 (by simp)
  have e6 := f1 283 (by simp)
  have e7 := f1 284 (by simp)
  have e8 := f1 285 (by simp)
  refine ⟨by rw [e1]; exact hr.l, by rw [e1]; exact hr.c, by rw [e2]; exact hr.b, by rw [e2]; exact hr.w, by rw [f2 48 (by simp)]; exact hr.t, by rw [f2 54 (by simp)]; exact hr.i, by rw [e3]; exact hr.nm, by rw [e5]; exact hr.tr, by rw [e4]; exact hr.wm, hr.tO.keep e6 e7 e8, hr.tC.keep e6 e7 e8, hr.tT.keep e6 e7 e8, hr.tS.keep e6 e7 e8⟩
theorem wordsM.keep {h h' : mf_M} (f : ∀ a, (248 ≤ a ∧ a ≤ 275) ∨ (293 ≤ a ∧ a ≤ 314) → h' a = h a) (hw : wordsM h) : wordsM h' := by
  intro q hq j hj
  have : (248 ≤ q.1 ∧ q.1 ≤ 275) ∨ (293 ≤ q.1 ∧ q.1 ≤ 314) := by
    have h9 : ∀ q ∈ wdM, (248 ≤ q.1 ∧ q.1 ≤ 275) ∨ (293 ≤ q.1 ∧ q.1 ≤ 314) := by decide
    exact h9 q hq
  rw [f q.1 this]; exact hw q hq j hj
theorem RM.keep {S : aS} {h h' : mf_M} (R : RM S h) (f : frM h h') : RM S h' := by
  have r : ∀ a, a ≠ 245 → a ≠ 286 → a ≠ 287 → a ≠ 288 → a ≠ 289 → a ≠ 291 → a ≠ 315 → a ≠ 316 → a ≠ 317 → h' a = h a := f.1
  have r2 : h' 292 = h 292 := r 292 (by decide) (by decide) (by decide) (by decide) (by decide) (by decide) (by decide) (by decide) (by decide)
  have r0 : h' 290 = h 290 := r 290 (by decide) (by decide) (by decide) (by decide) (by decide) (by decide) (by decide) (by decide) (by decide)
  have r8 : h' 318 = h 318 := r 318 (by decide) (by decide) (by decide) (by decide) (by decide) (by decide) (by decide) (by decide) (by decide)
  have r46 : h' 246 = h 246 := r 246 (by decide) (by decide) (by decide) (by decide) (by decide) (by decide) (by decide) (by decide) (by decide)
  have r47 : h' 247 = h 247 := r 247 (by decide) (by decide) (by decide) (by decide) (by decide) (by decide) (by decide) (by decide) (by decide)
  refine ⟨R.ok, by rw [f.2.1 1 (by simp)]; exact R.tn, by rw [r46]; exact R.tp, by rw [f.2.1 7 (by simp)]; exact R.fa, by rw [f.2.1 8 (by simp)]; exact R.pl, by rw [r47]; exact R.rf, R.wd.keep (fun a ha => r a (by omega) (by omega) (by omega) (by omega) (by omega) (by omega) (by omega) (by omega) (by omega)), R.fo.keep (fun a ha => ?_) (fun k hk => f.2.1 k ?_), by rw [vM_pos (h := h) (r := 286) (b := 0) (fun k hk _ => by rw [Int.zero_add]; exact f.2.2.2 k hk) R.ok.F.b8]; exact R.vi, kpM_pos (fun k hk _ => by rw [Int.zero_add]; exact f.2.2.2 k (by omega)) R.kp, by rw [f.2.1 61 (by simp)]; exact R.th, by rw [f.2.1 69 (by simp)]; exact R.un, by rw [f.2.1 70 (by simp)]; exact R.nx, fun j hj => ⟨by rw [vM_row r2]; exact (R.us j hj).1, (R.us j hj).2.row r2⟩, by rw [f.2.1 65 (by simp)]; exact R.sn, by rw [r0]; exact R.ss, by rw [f.2.1 71 (by simp)]; exact R.sd, by rw [f.2.1 105 (by simp)]; exact R.oc, by rw [r8]; exact R.os, f.2.2.1 R.ao⟩
  · simp only [List.mem_cons, List.not_mem_nil, or_false] at ha
    exact r a (by omega) (by omega) (by omega) (by omega) (by omega) (by omega) (by omega) (by omega) (by omega)
  · simp only [List.mem_cons, List.not_mem_nil, or_false] at hk ⊢
    omega
/-- the folio of the reference's own relation, where there is one -/
theorem RM.fol {S : aS} {h : mf_M} (R : RM S h) (hl : S.F.nl ≠ 0) : folM h S.F.nl S.F.nc S.F.nb S.F.tr S.F.cO S.F.cC S.F.cT S.F.cS := by
  have o := R.ok.F
  have f := R.fo
  have := o.l0
  exact ⟨f.l, f.c, f.b, ⟨by omega, o.l6⟩, ⟨o.c2 hl, o.c8⟩, ⟨o.b0, o.b8⟩, f.tr, o.tr, f.tO, f.tC, f.tT, f.tS, o.rO, o.rC, o.rT, o.rS⟩
def refS (S : aS) (i : Int) : aS := S.s_rf (fun j => if j = i then mf_w32 (S.rf i + 1) else S.rf j)
theorem okS.ref {S : aS} (o : okS S) (i : Int) : okS (refS S i) := ⟨o.F, o.P, o.tn0, o.tn1, o.tp, o.un, o.us, o.nx0, o.nx1, o.sn, o.ss, o.sd0, o.sd1, o.oc⟩
theorem RM.ref {S : aS} {h : mf_M} (R : RM S h) {i : Int} (h0 : 0 ≤ i) (h6 : i < 6) : RM (refS S i) (mf_up h 247 i (mf_w32 (h 247 i + 1))) := by
  have r : ∀ a, a ≠ 247 → mf_up h 247 i (mf_w32 (h 247 i + 1)) a = h a := fun a q => up_row q
  refine ⟨R.ok.ref i, by rw [r 245 (by decide)]; exact R.tn, by rw [r 246 (by decide)]; exact R.tp, by rw [r 245 (by decide)]; exact R.fa, by rw [r 245 (by decide)]; exact R.pl, fun j hj0 hj => ?_, R.wd.keep (fun a ha => r a (by omega)), R.fo.keep (fun a ha => r a ?_) (fun k hk => by rw [r 245 (by decide)]), by rw [vM_row (r 286 (by decide))]; exact R.vi, R.kp.row (r 286 (by decide)), by rw [r 245 (by decide)]; exact R.th, by rw [r 245 (by decide)]; exact R.un, by rw [r 245 (by decide)]; exact R.nx, fun j hj => ⟨by rw [vM_row (r 292 (by decide))]; exact (R.us j hj).1, (R.us j hj).2.row (r 292 (by decide))⟩, by rw [r 245 (by decide)]; exact R.sn, by rw [r 290 (by decide)]; exact R.ss, by rw [r 245 (by decide)]; exact R.sd, by rw [r 245 (by decide)]; exact R.oc, by rw [r 318 (by decide)]; exact R.os, by rw [r 245 (by decide)]; exact R.ao⟩
  · rw [up_if]
    show _ = if j = i then mf_w32 (S.rf i + 1) else S.rf j
    by_cases e : j = i
    · rw [if_pos ⟨rfl, e⟩, if_pos e, R.rf i h0 h6]
    · rw [if_neg (fun q => e q.2), if_neg e, R.rf j hj0 hj]
  · simp only [List.mem_cons, List.not_mem_nil, or_false] at ha; omega
theorem frX.up {h : mf_M} {a i v : Int} (ha : 245 ≤ a) : frX h (mf_up h a i v) := fun b hb => up_row (by omega)
