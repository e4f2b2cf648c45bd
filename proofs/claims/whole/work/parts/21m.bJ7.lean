-- J7_fill_53178 fill([II)V
theorem en307 {d : Nat} {p0 p1 : Int} {S : PS} {K : PV → PS → Prop} : pm_Call (d + 1) 307 [.inr (.inr (.inl p0)), .inl p1] S K ↔ pm_Run d 307 0 [.inr (.inr (.inl p0)), .inl p1, PU, PU] [] S K := pm_Call_s.trans (and_iff_right (show 2 ≤ pm_ml 307 from by decide +kernel))
theorem b307_0 {d : Nat} {G : PG} {M T : PH} {K : PV → PS → Prop} {l0 l1 : Int} (h1 : 0 ≤ l0 ∧ l0.toNat < G.1 ∧ 100 ≤ (G.2.2.1 l0.toNat).1 ∧ (G.2.2.1 l0.toNat).1 ≤ 104) : pm_Run d 307 0 [.inr (.inr (.inl l0)), .inl l1, PU, PU] [] (G, M, T) K ↔ pm_Run d 307 5 [.inr (.inr (.inl l0)), .inl l1, .inl 0, .inl ((G.2.2.1 l0.toNat).2 : Int)] [] (G, M, T) K := by
  refine (px_go (by decide +kernel : pm_fe 307 0 = some (.iconst 0, 1)) rfl).trans ?_
  refine (px_go (by decide +kernel : pm_fe 307 1 = some (.istore_n 2, 1)) rfl).trans ?_
  refine (px_go (by decide +kernel : pm_fe 307 2 = some (.aload_n 0, 1)) rfl).trans ?_
  refine (px_alen (by decide +kernel) h1).trans ?_
  refine (px_go (by decide +kernel : pm_fe 307 4 = some (.istore_n 3, 1)) rfl).trans ?_
  exact Iff.rfl
theorem b307_5 {d : Nat} {G : PG} {M T : PH} {K : PV → PS → Prop} {l0 l1 l2 l3 : Int} : pm_Run d 307 5 [.inr (.inr (.inl l0)), .inl l1, .inl l2, .inl l3] [] (G, M, T) K ↔ if pm_sg l3 ≤ pm_sg l2 then pm_Run d 307 20 [.inr (.inr (.inl l0)), .inl l1, .inl l2, .inl l3] [] (G, M, T) K else pm_Run d 307 10 [.inr (.inr (.inl l0)), .inl l1, .inl l2, .inl l3] [] (G, M, T) K := by
  refine (px_go (by decide +kernel : pm_fe 307 5 = some (.iload_n 2, 1)) rfl).trans ?_
  refine (px_go (by decide +kernel : pm_fe 307 6 = some (.iload_n 3, 1)) rfl).trans ?_
  refine (px_ic_ge (off := 13) (tgt := 20) (by decide +kernel)).trans ?_
  exact Iff.rfl
theorem b307_10 {d : Nat} {G : PG} {M T : PH} {K : PV → PS → Prop} {l0 l1 l2 l3 : Int} (h1 : pm_ar G l0 100 l2) : pm_Run d 307 10 [.inr (.inr (.inl l0)), .inl l1, .inl l2, .inl l3] [] (G, M, T) K ↔ pm_Run d 307 5 [.inr (.inr (.inl l0)), .inl l1, .inl (l2 + 1), .inl l3] [] (G, pm_sa M l0.toNat (pm_up (M l0.toNat) (pm_sg l2).toNat l1), T) K := by
  refine (px_go (by decide +kernel : pm_fe 307 10 = some (.aload_n 0, 1)) rfl).trans ?_
  refine (px_go (by decide +kernel : pm_fe 307 11 = some (.iload_n 2, 1)) rfl).trans ?_
  refine (px_go (by decide +kernel : pm_fe 307 12 = some (.iload_n 1, 1)) rfl).trans ?_
  refine (px_iastore (by decide +kernel)).trans ((and_iff_right h1).trans ?_)
  refine (px_go (by decide +kernel : pm_fe 307 14 = some (.iinc 2 1, 3)) rfl).trans ?_
  refine (px_goto (off := (-12)) (tgt := 5) (by decide +kernel)).trans ?_
  exact Iff.rfl
theorem b307_20 {d : Nat} {G : PG} {M T : PH} {K : PV → PS → Prop} {l0 l1 l2 l3 : Int} : pm_Run d 307 20 [.inr (.inr (.inl l0)), .inl l1, .inl l2, .inl l3] [] (G, M, T) K ↔ K PU (G, M, T) := by
  refine (px_rv (by decide +kernel)).trans ?_
  exact Iff.rfl
