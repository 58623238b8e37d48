theorem mf_returnN {C : mf_G} {l : Launch} {Y : mf_Y} {R : Room} {n0 : Nat} {X : mf_Xt} {pc : Nat} {lv : List (Nat × mf_AV)} {n n1 : Nat} {g h : mf_M} {K : mf_Kt} (hd : decode Y.2.1 pc = .ok (.return_, 1)) (hr : Y.2.2.2 = none) (hn : n = n1) (hK : K 0 g h) : mf_AW C l Y R n0 (mf_Zm C Y n0 n1 K) X pc lv [] n g h := by
  subst hn
  exact mf_return hd hr hK
