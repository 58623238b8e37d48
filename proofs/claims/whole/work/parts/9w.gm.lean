/-! the reference's pointers and words -/
theorem lm_pm : (mf_pm.all (fun q => lmg335.contains (245, q.1, q.2))) = true := by decide +kernel
theorem lm_wd : (wdM.all (fun q => (List.range q.2.length).all (fun j => lmh330.contains (q.1, (j : Int), q.2.getD j 0)))) = true := by decide +kernel
theorem GM_of {g : mf_M} (E : ent lmg335 g) : mf_GM g := fun q hq => by
  have := List.all_eq_true.mp lm_pm q hq
  exact E (245, q.1, q.2) (List.contains_iff_mem.mp this)
theorem wdM_of {h : mf_M} (E : ent lmh330 h) : wordsM h := fun q hq j hj => by
  have h1 := List.all_eq_true.mp lm_wd q hq
  have h2 := List.all_eq_true.mp h1 j (List.mem_range.mpr hj)
  exact E (q.1, (j : Int), q.2.getD j 0) (List.contains_iff_mem.mp h2)
