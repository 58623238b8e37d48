/-! what a day does to the folk, as numbers -/
def fillS (v : Int) : Int := if v < 9999 then v + 1 else v
def paysS (σ : mf_M) (a b much : Int) : mf_M :=
  let v := if σ 4 a < much then σ 4 a else much
  let σ1 := mf_up σ 4 a (clipS (σ 4 a - v))
  mf_up σ1 4 b (clipS (σ1 4 b + v))
def tollS (σ : mf_M) (tr : Int → Int) (cT : List Int) (o a b : Int) : Int := if cT = [] then 1 else valS (envS σ tr (σ 0 0) o (tr b) a) mt0 cT
def meetS (tr : Int → Int) (cT : List Int) (o a b : Int) (σ : mf_M) : mf_M :=
  let σ1 := mf_up σ 5 a (fillS (σ 5 a))
  let σ2 := mf_up σ1 5 b (fillS (σ1 5 b))
  let t := tollS σ2 tr cT o a b
  if t < 0 then paysS σ2 b a (-t) else paysS σ2 a b t
/-- the second ones of a pair, n of them from b on: the state and who met -/
def inS (nl nc : Int) (tr : Int → Int) (cT : List Int) (o a : Int) : Nat → Int → mf_M → mf_M × List (Int × Int)
  | 0, _, σ => (σ, [])
  | n + 1, b, σ => if metB σ nl nc o a b then (let q := inS nl nc tr cT o a n (b + 1) (meetS tr cT o a b σ); (q.1, (a, b) :: q.2)) else inS nl nc tr cT o a n (b + 1) σ
def outS (nl nc nb : Int) (tr : Int → Int) (cT : List Int) (o : Int) : Nat → Int → mf_M → mf_M × List (Int × Int)
  | 0, _, σ => (σ, [])
  | n + 1, a, σ => let q := inS nl nc tr cT o a (nb - (a + 1)).toNat (a + 1) σ; let r := outS nl nc nb tr cT o n (a + 1) q.1; (r.1, q.2 ++ r.2)
def c99 (v : Int) : Int := if v < -99 then -99 else if 99 < v then 99 else v
def cornS (σ : mf_M) (tr : Int → Int) (cC : List Int) (o b : Int) : Int := if cC = [] then σ 3 b else valS (envS σ tr (σ 0 0) o 0 b) mt0 cC
def reapS (tr : Int → Int) (cC : List Int) (o : Int) : Nat → Int → mf_M → mf_M
  | 0, _, σ => σ
  | n + 1, b, σ => reapS tr cC o n (b + 1) (mf_up σ 4 b (clipS (σ 4 b + c99 (cornS σ tr cC o b))))
def freeB (σ : mf_M) (nb leaf c : Int) : Bool := !(decide (bitS (σ 1 leaf) c = 1)) && decide (whoS σ nb leaf c = -1)
def goesB (σ : mf_M) (nc nb : Int) (tr : Int → Int) (cS : List Int) (o b : Int) : Bool := (!cS.isEmpty) && decide (valS (envS σ tr (σ 0 0) o 0 b) mt0 cS = 1) && decide (σ 3 b + 1 < nc) && freeB σ nb (σ 2 b) (σ 3 b + 1)
def walkS (nc nb : Int) (tr : Int → Int) (cS : List Int) (o : Int) : Nat → Int → mf_M → mf_M
  | 0, _, σ => σ
  | n + 1, b, σ => walkS nc nb tr cS o n (b + 1) (if goesB σ nc nb tr cS o b then mf_up σ 3 b (σ 3 b + 1) else σ)
/-- the day: the state behind it, and who met, in order -/
def dayS (nl nc nb : Int) (tr : Int → Int) (cC cT cS : List Int) (o : Int) (σ : mf_M) : mf_M × List (Int × Int) :=
  let q := outS nl nc nb tr cT o nb.toNat 0 σ
  let σ2 := reapS tr cC o nb.toNat 0 q.1
  let σ3 := walkS nc nb tr cS o nb.toNat 0 σ2
  (mf_up σ3 0 0 (σ3 0 0 + 1), q.2)
