-- X7_forget forget()V
theorem r100_0 {d : Nat} {X : Nat × (Nat → Int)} {v : Nat → Int} {M : PH} {K : PV → PS → Prop} : pm_Run d 100 0 [vA 103] [] (GF X, M, PTF v) K ↔ K PU (GF X, pm_sa M 103 (pm_up (M 103) 2 0), PTF v) := by
  refine (px_go (by decide +kernel : pm_fe 100 0 = some (.aload_n 0, 1)) rfl).trans ?_
  refine (px_go (by decide +kernel : pm_fe 100 1 = some (.iconst 0, 1)) rfl).trans ?_
  refine (ry_put0 (idx := 18) (ci := 7) (k := 2) (by decide +kernel : 103 < 283 ∧ SHF 103 = (7, 3)) (by decide +kernel)).trans ?_
  refine (px_rv (by decide +kernel)).trans ?_
  exact Iff.rfl
