-- J7_fill_53178 fill([II)V
theorem r307_0 {d : Nat} {r nr : Nat} {X : Nat × (Nat → Int)} {v : Nat → Int} {M : PH} {K : PV → PS → Prop} {l1 : Int} (hr : r < 283 ∧ SHF r = (100, nr)) : pm_Run d 307 0 [vA r, vI l1, PU, PU] [] (GF X, M, PTF v) K ↔ pm_Run d 307 5 [vA r, vI l1, vI 0, vI (nr : Int)] [] (GF X, M, PTF v) K := by
  refine (px_go (by decide +kernel : pm_fe 307 0 = some (.iconst 0, 1)) rfl).trans ?_
  refine (px_go (by decide +kernel : pm_fe 307 1 = some (.istore_n 2, 1)) rfl).trans ?_
  refine (px_go (by decide +kernel : pm_fe 307 2 = some (.aload_n 0, 1)) rfl).trans ?_
  refine (ry_alen hr (by decide) (by decide +kernel)).trans ?_
  refine (px_go (by decide +kernel : pm_fe 307 4 = some (.istore_n 3, 1)) rfl).trans ?_
  exact Iff.rfl
theorem r307_5 {d : Nat} {r nr : Nat} {X : Nat × (Nat → Int)} {v : Nat → Int} {M : PH} {K : PV → PS → Prop} {l1 l2 l3 : Int} (h1 : inR l2) (h2 : inR l3) : pm_Run d 307 5 [vA r, vI l1, vI l2, vI l3] [] (GF X, M, PTF v) K ↔ if l3 ≤ l2 then pm_Run d 307 20 [vA r, vI l1, vI l2, vI l3] [] (GF X, M, PTF v) K else pm_Run d 307 10 [vA r, vI l1, vI l2, vI l3] [] (GF X, M, PTF v) K := by
  refine (px_go (by decide +kernel : pm_fe 307 5 = some (.iload_n 2, 1)) rfl).trans ?_
  refine (px_go (by decide +kernel : pm_fe 307 6 = some (.iload_n 3, 1)) rfl).trans ?_
  refine (ry_ic_ge (off := 13) (tgt := 20) h1 h2 (by decide +kernel)).trans ?_
  exact Iff.rfl
theorem r307_10 {d : Nat} {r nr : Nat} {X : Nat × (Nat → Int)} {v : Nat → Int} {M : PH} {K : PV → PS → Prop} {l1 l2 l3 : Int} (hr : r < 283 ∧ SHF r = (100, nr)) (h1 : 0 ≤ l2) (h2 : l2 < nr) : pm_Run d 307 10 [vA r, vI l1, vI l2, vI l3] [] (GF X, M, PTF v) K ↔ pm_Run d 307 14 [vA r, vI l1, vI l2, vI l3] [] (GF X, pm_sa M r (pm_up (M r) l2.toNat l1), PTF v) K := by
  refine (px_go (by decide +kernel : pm_fe 307 10 = some (.aload_n 0, 1)) rfl).trans ?_
  refine (px_go (by decide +kernel : pm_fe 307 11 = some (.iload_n 2, 1)) rfl).trans ?_
  refine (px_go (by decide +kernel : pm_fe 307 12 = some (.iload_n 1, 1)) rfl).trans ?_
  refine (ry_iast hr h1 h2 (by decide +kernel)).trans ?_
  exact Iff.rfl
theorem r307_14 {d : Nat} {r nr : Nat} {X : Nat × (Nat → Int)} {v : Nat → Int} {M : PH} {K : PV → PS → Prop} {l1 l2 l3 : Int} : pm_Run d 307 14 [vA r, vI l1, vI l2, vI l3] [] (GF X, M, PTF v) K ↔ pm_Run d 307 5 [vA r, vI l1, vI (l2 + 1), vI l3] [] (GF X, M, PTF v) K := by
  refine (px_go (by decide +kernel : pm_fe 307 14 = some (.iinc 2 1, 3)) rfl).trans ?_
  refine (px_goto (off := (-12)) (tgt := 5) (by decide +kernel)).trans ?_
  exact Iff.rfl
theorem r307_20 {d : Nat} {r nr : Nat} {X : Nat × (Nat → Int)} {v : Nat → Int} {M : PH} {K : PV → PS → Prop} {l1 l2 l3 : Int} : pm_Run d 307 20 [vA r, vI l1, vI l2, vI l3] [] (GF X, M, PTF v) K ↔ K PU (GF X, M, PTF v) := by
  refine (px_rv (by decide +kernel)).trans ?_
  exact Iff.rfl
