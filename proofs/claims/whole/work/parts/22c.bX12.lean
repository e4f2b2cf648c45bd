-- X12_isSea isSea()Z
theorem en226 {d : Nat} {a : Int} {S : PS} {K : PV → PS → Prop} : pm_Call (d + 1) 226 [.inr (.inr (.inl a))] S K ↔ pm_Run d 226 0 [.inr (.inr (.inl a))] [] S K := pm_Call_s.trans (and_iff_right (show 1 ≤ pm_ml 226 from by decide +kernel))
theorem b226_0 {d : Nat} {G : PG} {M T : PH} {K : PV → PS → Prop} {l0 : Int} (h1 : pm_ob G l0 12) (h2 : pm_ar G (T l0.toNat 14) 100 (M l0.toNat 13)) : pm_Run d 226 0 [.inr (.inr (.inl l0))] [] (G, M, T) K ↔ if pm_sg (M (T l0.toNat 14).toNat (pm_sg (M l0.toNat 13)).toNat) ≤ 0 then pm_Run d 226 16 [.inr (.inr (.inl l0))] [] (G, M, T) K else pm_Run d 226 12 [.inr (.inr (.inl l0))] [] (G, M, T) K := by
  refine (px_go (by decide +kernel : pm_fe 226 0 = some (.aload_n 0, 1)) rfl).trans ?_
  refine (px_get2 (idx := 54) (ci := 12) (k := 14) (by decide +kernel)).trans ((and_iff_right h1).trans ?_)
  refine (px_go (by decide +kernel : pm_fe 226 4 = some (.aload_n 0, 1)) rfl).trans ?_
  refine (px_get0 (idx := 51) (ci := 12) (k := 13) (by decide +kernel)).trans ((and_iff_right h1).trans ?_)
  refine (px_iaload (by decide +kernel) h2).trans ?_
  refine (px_if_le (off := 7) (tgt := 16) (by decide +kernel)).trans ?_
  exact Iff.rfl
theorem b226_12 {d : Nat} {G : PG} {M T : PH} {K : PV → PS → Prop} {l0 : Int} : pm_Run d 226 12 [.inr (.inr (.inl l0))] [] (G, M, T) K ↔ pm_Run d 226 17 [.inr (.inr (.inl l0))] [.inl 1] (G, M, T) K := by
  refine (px_go (by decide +kernel : pm_fe 226 12 = some (.iconst 1, 1)) rfl).trans ?_
  refine (px_goto (off := 4) (tgt := 17) (by decide +kernel)).trans ?_
  exact Iff.rfl
theorem b226_16 {d : Nat} {G : PG} {M T : PH} {K : PV → PS → Prop} {l0 : Int} : pm_Run d 226 16 [.inr (.inr (.inl l0))] [] (G, M, T) K ↔ pm_Run d 226 17 [.inr (.inr (.inl l0))] [.inl 0] (G, M, T) K := by
  refine (px_go (by decide +kernel : pm_fe 226 16 = some (.iconst 0, 1)) rfl).trans ?_
  exact Iff.rfl
theorem b226_17 {d : Nat} {G : PG} {M T : PH} {K : PV → PS → Prop} {l0 s0 : Int} (h1 : s0 = 0 ∨ s0 = 1) : pm_Run d 226 17 [.inr (.inr (.inl l0))] [.inl s0] (G, M, T) K ↔ K (.inl s0) (G, M, T) := by
  refine (px_rz (by decide +kernel)).trans ((and_iff_right h1).trans ?_)
  exact Iff.rfl
-- X12_isPlace isPlace(I)Z
theorem en227 {d : Nat} {a p0 : Int} {S : PS} {K : PV → PS → Prop} : pm_Call (d + 1) 227 [.inr (.inr (.inl a)), .inl p0] S K ↔ pm_Run d 227 0 [.inr (.inr (.inl a)), .inl p0] [] S K := pm_Call_s.trans (and_iff_right (show 2 ≤ pm_ml 227 from by decide +kernel))
theorem b227_0 {d : Nat} {G : PG} {M T : PH} {K : PV → PS → Prop} {l0 l1 : Int} : pm_Run d 227 0 [.inr (.inr (.inl l0)), .inl l1] [] (G, M, T) K ↔ if pm_sg l1 < 0 then pm_Run d 227 21 [.inr (.inr (.inl l0)), .inl l1] [] (G, M, T) K else pm_Run d 227 4 [.inr (.inr (.inl l0)), .inl l1] [] (G, M, T) K := by
  refine (px_go (by decide +kernel : pm_fe 227 0 = some (.iload_n 1, 1)) rfl).trans ?_
  refine (px_if_lt (off := 20) (tgt := 21) (by decide +kernel)).trans ?_
  exact Iff.rfl
theorem b227_4 {d : Nat} {G : PG} {M T : PH} {K : PV → PS → Prop} {l0 l1 : Int} (h1 : pm_ob G l0 12) (h2 : pm_ar G (T l0.toNat 14) 100 (M l0.toNat 13)) : pm_Run d 227 4 [.inr (.inr (.inl l0)), .inl l1] [] (G, M, T) K ↔ if pm_sg (M (T l0.toNat 14).toNat (pm_sg (M l0.toNat 13)).toNat) ≤ pm_sg l1 then pm_Run d 227 21 [.inr (.inr (.inl l0)), .inl l1] [] (G, M, T) K else pm_Run d 227 17 [.inr (.inr (.inl l0)), .inl l1] [] (G, M, T) K := by
  refine (px_go (by decide +kernel : pm_fe 227 4 = some (.iload_n 1, 1)) rfl).trans ?_
  refine (px_go (by decide +kernel : pm_fe 227 5 = some (.aload_n 0, 1)) rfl).trans ?_
  refine (px_get2 (idx := 54) (ci := 12) (k := 14) (by decide +kernel)).trans ((and_iff_right h1).trans ?_)
  refine (px_go (by decide +kernel : pm_fe 227 9 = some (.aload_n 0, 1)) rfl).trans ?_
  refine (px_get0 (idx := 51) (ci := 12) (k := 13) (by decide +kernel)).trans ((and_iff_right h1).trans ?_)
  refine (px_iaload (by decide +kernel) h2).trans ?_
  refine (px_ic_ge (off := 7) (tgt := 21) (by decide +kernel)).trans ?_
  exact Iff.rfl
theorem b227_17 {d : Nat} {G : PG} {M T : PH} {K : PV → PS → Prop} {l0 l1 : Int} : pm_Run d 227 17 [.inr (.inr (.inl l0)), .inl l1] [] (G, M, T) K ↔ pm_Run d 227 22 [.inr (.inr (.inl l0)), .inl l1] [.inl 1] (G, M, T) K := by
  refine (px_go (by decide +kernel : pm_fe 227 17 = some (.iconst 1, 1)) rfl).trans ?_
  refine (px_goto (off := 4) (tgt := 22) (by decide +kernel)).trans ?_
  exact Iff.rfl
theorem b227_21 {d : Nat} {G : PG} {M T : PH} {K : PV → PS → Prop} {l0 l1 : Int} : pm_Run d 227 21 [.inr (.inr (.inl l0)), .inl l1] [] (G, M, T) K ↔ pm_Run d 227 22 [.inr (.inr (.inl l0)), .inl l1] [.inl 0] (G, M, T) K := by
  refine (px_go (by decide +kernel : pm_fe 227 21 = some (.iconst 0, 1)) rfl).trans ?_
  exact Iff.rfl
theorem b227_22 {d : Nat} {G : PG} {M T : PH} {K : PV → PS → Prop} {l0 l1 s0 : Int} (h1 : s0 = 0 ∨ s0 = 1) : pm_Run d 227 22 [.inr (.inr (.inl l0)), .inl l1] [.inl s0] (G, M, T) K ↔ K (.inl s0) (G, M, T) := by
  refine (px_rz (by decide +kernel)).trans ((and_iff_right h1).trans ?_)
  exact Iff.rfl
-- X12_isMoon isMoon(I)Z
theorem en228 {d : Nat} {a p0 : Int} {S : PS} {K : PV → PS → Prop} : pm_Call (d + 1) 228 [.inr (.inr (.inl a)), .inl p0] S K ↔ pm_Run d 228 0 [.inr (.inr (.inl a)), .inl p0] [] S K := pm_Call_s.trans (and_iff_right (show 2 ≤ pm_ml 228 from by decide +kernel))
theorem b228_0 {d : Nat} {G : PG} {M T : PH} {K : PV → PS → Prop} {l0 l1 : Int} : pm_Run d 228 0 [.inr (.inr (.inl l0)), .inl l1] [] (G, M, T) K ↔ if pm_sg l1 < 0 then pm_Run d 228 21 [.inr (.inr (.inl l0)), .inl l1] [] (G, M, T) K else pm_Run d 228 4 [.inr (.inr (.inl l0)), .inl l1] [] (G, M, T) K := by
  refine (px_go (by decide +kernel : pm_fe 228 0 = some (.iload_n 1, 1)) rfl).trans ?_
  refine (px_if_lt (off := 20) (tgt := 21) (by decide +kernel)).trans ?_
  exact Iff.rfl
theorem b228_4 {d : Nat} {G : PG} {M T : PH} {K : PV → PS → Prop} {l0 l1 : Int} (h1 : pm_ob G l0 12) (h2 : pm_ar G (T l0.toNat 15) 100 (M l0.toNat 13)) : pm_Run d 228 4 [.inr (.inr (.inl l0)), .inl l1] [] (G, M, T) K ↔ if pm_sg (M (T l0.toNat 15).toNat (pm_sg (M l0.toNat 13)).toNat) ≤ pm_sg l1 then pm_Run d 228 21 [.inr (.inr (.inl l0)), .inl l1] [] (G, M, T) K else pm_Run d 228 17 [.inr (.inr (.inl l0)), .inl l1] [] (G, M, T) K := by
  refine (px_go (by decide +kernel : pm_fe 228 4 = some (.iload_n 1, 1)) rfl).trans ?_
  refine (px_go (by decide +kernel : pm_fe 228 5 = some (.aload_n 0, 1)) rfl).trans ?_
  refine (px_get2 (idx := 57) (ci := 12) (k := 15) (by decide +kernel)).trans ((and_iff_right h1).trans ?_)
  refine (px_go (by decide +kernel : pm_fe 228 9 = some (.aload_n 0, 1)) rfl).trans ?_
  refine (px_get0 (idx := 51) (ci := 12) (k := 13) (by decide +kernel)).trans ((and_iff_right h1).trans ?_)
  refine (px_iaload (by decide +kernel) h2).trans ?_
  refine (px_ic_ge (off := 7) (tgt := 21) (by decide +kernel)).trans ?_
  exact Iff.rfl
theorem b228_17 {d : Nat} {G : PG} {M T : PH} {K : PV → PS → Prop} {l0 l1 : Int} : pm_Run d 228 17 [.inr (.inr (.inl l0)), .inl l1] [] (G, M, T) K ↔ pm_Run d 228 22 [.inr (.inr (.inl l0)), .inl l1] [.inl 1] (G, M, T) K := by
  refine (px_go (by decide +kernel : pm_fe 228 17 = some (.iconst 1, 1)) rfl).trans ?_
  refine (px_goto (off := 4) (tgt := 22) (by decide +kernel)).trans ?_
  exact Iff.rfl
theorem b228_21 {d : Nat} {G : PG} {M T : PH} {K : PV → PS → Prop} {l0 l1 : Int} : pm_Run d 228 21 [.inr (.inr (.inl l0)), .inl l1] [] (G, M, T) K ↔ pm_Run d 228 22 [.inr (.inr (.inl l0)), .inl l1] [.inl 0] (G, M, T) K := by
  refine (px_go (by decide +kernel : pm_fe 228 21 = some (.iconst 0, 1)) rfl).trans ?_
  exact Iff.rfl
theorem b228_22 {d : Nat} {G : PG} {M T : PH} {K : PV → PS → Prop} {l0 l1 s0 : Int} (h1 : s0 = 0 ∨ s0 = 1) : pm_Run d 228 22 [.inr (.inr (.inl l0)), .inl l1] [.inl s0] (G, M, T) K ↔ K (.inl s0) (G, M, T) := by
  refine (px_rz (by decide +kernel)).trans ((and_iff_right h1).trans ?_)
  exact Iff.rfl
-- X12_isHarbor isHarbor(I)Z
theorem en229 {d : Nat} {a p0 : Int} {S : PS} {K : PV → PS → Prop} : pm_Call (d + 1) 229 [.inr (.inr (.inl a)), .inl p0] S K ↔ pm_Run d 229 0 [.inr (.inr (.inl a)), .inl p0] [] S K := pm_Call_s.trans (and_iff_right (show 2 ≤ pm_ml 229 from by decide +kernel))
theorem b229_0 {d : Nat} {G : PG} {M T : PH} {K : PV → PS → Prop} {l0 l1 : Int} : pm_Run d 229 0 [.inr (.inr (.inl l0)), .inl l1] [] (G, M, T) K ↔ if pm_sg l1 < 0 then pm_Run d 229 21 [.inr (.inr (.inl l0)), .inl l1] [] (G, M, T) K else pm_Run d 229 4 [.inr (.inr (.inl l0)), .inl l1] [] (G, M, T) K := by
  refine (px_go (by decide +kernel : pm_fe 229 0 = some (.iload_n 1, 1)) rfl).trans ?_
  refine (px_if_lt (off := 20) (tgt := 21) (by decide +kernel)).trans ?_
  exact Iff.rfl
theorem b229_4 {d : Nat} {G : PG} {M T : PH} {K : PV → PS → Prop} {l0 l1 : Int} (h1 : pm_ob G l0 12) (h2 : pm_ar G (T l0.toNat 19) 100 (M l0.toNat 13)) : pm_Run d 229 4 [.inr (.inr (.inl l0)), .inl l1] [] (G, M, T) K ↔ if pm_sg (M (T l0.toNat 19).toNat (pm_sg (M l0.toNat 13)).toNat) ≤ pm_sg l1 then pm_Run d 229 21 [.inr (.inr (.inl l0)), .inl l1] [] (G, M, T) K else pm_Run d 229 17 [.inr (.inr (.inl l0)), .inl l1] [] (G, M, T) K := by
  refine (px_go (by decide +kernel : pm_fe 229 4 = some (.iload_n 1, 1)) rfl).trans ?_
  refine (px_go (by decide +kernel : pm_fe 229 5 = some (.aload_n 0, 1)) rfl).trans ?_
  refine (px_get2 (idx := 69) (ci := 12) (k := 19) (by decide +kernel)).trans ((and_iff_right h1).trans ?_)
  refine (px_go (by decide +kernel : pm_fe 229 9 = some (.aload_n 0, 1)) rfl).trans ?_
  refine (px_get0 (idx := 51) (ci := 12) (k := 13) (by decide +kernel)).trans ((and_iff_right h1).trans ?_)
  refine (px_iaload (by decide +kernel) h2).trans ?_
  refine (px_ic_ge (off := 7) (tgt := 21) (by decide +kernel)).trans ?_
  exact Iff.rfl
theorem b229_17 {d : Nat} {G : PG} {M T : PH} {K : PV → PS → Prop} {l0 l1 : Int} : pm_Run d 229 17 [.inr (.inr (.inl l0)), .inl l1] [] (G, M, T) K ↔ pm_Run d 229 22 [.inr (.inr (.inl l0)), .inl l1] [.inl 1] (G, M, T) K := by
  refine (px_go (by decide +kernel : pm_fe 229 17 = some (.iconst 1, 1)) rfl).trans ?_
  refine (px_goto (off := 4) (tgt := 22) (by decide +kernel)).trans ?_
  exact Iff.rfl
theorem b229_21 {d : Nat} {G : PG} {M T : PH} {K : PV → PS → Prop} {l0 l1 : Int} : pm_Run d 229 21 [.inr (.inr (.inl l0)), .inl l1] [] (G, M, T) K ↔ pm_Run d 229 22 [.inr (.inr (.inl l0)), .inl l1] [.inl 0] (G, M, T) K := by
  refine (px_go (by decide +kernel : pm_fe 229 21 = some (.iconst 0, 1)) rfl).trans ?_
  exact Iff.rfl
theorem b229_22 {d : Nat} {G : PG} {M T : PH} {K : PV → PS → Prop} {l0 l1 s0 : Int} (h1 : s0 = 0 ∨ s0 = 1) : pm_Run d 229 22 [.inr (.inr (.inl l0)), .inl l1] [.inl s0] (G, M, T) K ↔ K (.inl s0) (G, M, T) := by
  refine (px_rz (by decide +kernel)).trans ((and_iff_right h1).trans ?_)
  exact Iff.rfl
-- X12_atOf atOf(I)I
theorem en230 {d : Nat} {a p0 : Int} {S : PS} {K : PV → PS → Prop} : pm_Call (d + 1) 230 [.inr (.inr (.inl a)), .inl p0] S K ↔ pm_Run d 230 0 [.inr (.inr (.inl a)), .inl p0] [] S K := pm_Call_s.trans (and_iff_right (show 2 ≤ pm_ml 230 from by decide +kernel))
theorem b230_0 {d : Nat} {G : PG} {M T : PH} {K : PV → PS → Prop} {l0 l1 : Int} (h1 : pm_ob G l0 12) (h2 : pm_ar G (T l0.toNat 20) 100 ((8 * (M l0.toNat 13)) + l1)) : pm_Run d 230 0 [.inr (.inr (.inl l0)), .inl l1] [] (G, M, T) K ↔ K (.inl (M (T l0.toNat 20).toNat (pm_sg ((8 * (M l0.toNat 13)) + l1)).toNat)) (G, M, T) := by
  refine (px_go (by decide +kernel : pm_fe 230 0 = some (.aload_n 0, 1)) rfl).trans ?_
  refine (px_get2 (idx := 72) (ci := 12) (k := 20) (by decide +kernel)).trans ((and_iff_right h1).trans ?_)
  refine (px_go (by decide +kernel : pm_fe 230 4 = some (.bipush 8, 2)) rfl).trans ?_
  refine (px_go (by decide +kernel : pm_fe 230 6 = some (.aload_n 0, 1)) rfl).trans ?_
  refine (px_get0 (idx := 51) (ci := 12) (k := 13) (by decide +kernel)).trans ((and_iff_right h1).trans ?_)
  refine (px_go (by decide +kernel : pm_fe 230 10 = some (.imul, 1)) rfl).trans ?_
  refine (px_go (by decide +kernel : pm_fe 230 11 = some (.iload_n 1, 1)) rfl).trans ?_
  refine (px_go (by decide +kernel : pm_fe 230 12 = some (.iadd, 1)) rfl).trans ?_
  refine (px_iaload (by decide +kernel) h2).trans ?_
  refine (px_ri (by decide +kernel)).trans ?_
  exact Iff.rfl
-- X12_depthOf depthOf(I)I
theorem en231 {d : Nat} {a p0 : Int} {S : PS} {K : PV → PS → Prop} : pm_Call (d + 1) 231 [.inr (.inr (.inl a)), .inl p0] S K ↔ pm_Run d 231 0 [.inr (.inr (.inl a)), .inl p0] [] S K := pm_Call_s.trans (and_iff_right (show 2 ≤ pm_ml 231 from by decide +kernel))
theorem b231_0 {d : Nat} {G : PG} {M T : PH} {K : PV → PS → Prop} {l0 l1 : Int} (h1 : pm_ob G l0 12) (h2 : pm_ar G (T l0.toNat 22) 100 ((8 * (M l0.toNat 13)) + l1)) : pm_Run d 231 0 [.inr (.inr (.inl l0)), .inl l1] [] (G, M, T) K ↔ K (.inl (M (T l0.toNat 22).toNat (pm_sg ((8 * (M l0.toNat 13)) + l1)).toNat)) (G, M, T) := by
  refine (px_go (by decide +kernel : pm_fe 231 0 = some (.aload_n 0, 1)) rfl).trans ?_
  refine (px_get2 (idx := 78) (ci := 12) (k := 22) (by decide +kernel)).trans ((and_iff_right h1).trans ?_)
  refine (px_go (by decide +kernel : pm_fe 231 4 = some (.bipush 8, 2)) rfl).trans ?_
  refine (px_go (by decide +kernel : pm_fe 231 6 = some (.aload_n 0, 1)) rfl).trans ?_
  refine (px_get0 (idx := 51) (ci := 12) (k := 13) (by decide +kernel)).trans ((and_iff_right h1).trans ?_)
  refine (px_go (by decide +kernel : pm_fe 231 10 = some (.imul, 1)) rfl).trans ?_
  refine (px_go (by decide +kernel : pm_fe 231 11 = some (.iload_n 1, 1)) rfl).trans ?_
  refine (px_go (by decide +kernel : pm_fe 231 12 = some (.iadd, 1)) rfl).trans ?_
  refine (px_iaload (by decide +kernel) h2).trans ?_
  refine (px_ri (by decide +kernel)).trans ?_
  exact Iff.rfl
-- X12_copies copies(II)V
theorem en232 {d : Nat} {a p0 p1 : Int} {S : PS} {K : PV → PS → Prop} : pm_Call (d + 1) 232 [.inr (.inr (.inl a)), .inl p0, .inl p1] S K ↔ pm_Run d 232 0 [.inr (.inr (.inl a)), .inl p0, .inl p1, PU] [] S K := pm_Call_s.trans (and_iff_right (show 3 ≤ pm_ml 232 from by decide +kernel))
theorem b232_0 {d : Nat} {G : PG} {M T : PH} {K : PV → PS → Prop} {l0 l1 l2 : Int} (h1 : pm_ob G l0 12) (h2 : pm_ar G (T l0.toNat 54) 100 l2) (h3 : pm_ar G (T l0.toNat 54) 100 l1) : pm_Run d 232 0 [.inr (.inr (.inl l0)), .inl l1, .inl l2, PU] [] (G, M, T) K ↔ pm_Run d 232 14 [.inr (.inr (.inl l0)), .inl l1, .inl l2, .inl 0] [] (G, pm_sa M (T l0.toNat 54).toNat (pm_up (M (T l0.toNat 54).toNat) (pm_sg l1).toNat (M (T l0.toNat 54).toNat (pm_sg l2).toNat)), T) K := by
  refine (px_go (by decide +kernel : pm_fe 232 0 = some (.aload_n 0, 1)) rfl).trans ?_
  refine (px_get2 (idx := 177) (ci := 12) (k := 54) (by decide +kernel)).trans ((and_iff_right h1).trans ?_)
  refine (px_go (by decide +kernel : pm_fe 232 4 = some (.iload_n 1, 1)) rfl).trans ?_
  refine (px_go (by decide +kernel : pm_fe 232 5 = some (.aload_n 0, 1)) rfl).trans ?_
  refine (px_get2 (idx := 177) (ci := 12) (k := 54) (by decide +kernel)).trans ((and_iff_right h1).trans ?_)
  refine (px_go (by decide +kernel : pm_fe 232 9 = some (.iload_n 2, 1)) rfl).trans ?_
  refine (px_iaload (by decide +kernel) h2).trans ?_
  refine (px_iastore (by decide +kernel)).trans ((and_iff_right h3).trans ?_)
  refine (px_go (by decide +kernel : pm_fe 232 12 = some (.iconst 0, 1)) rfl).trans ?_
  refine (px_go (by decide +kernel : pm_fe 232 13 = some (.istore_n 3, 1)) rfl).trans ?_
  exact Iff.rfl
theorem b232_14 {d : Nat} {G : PG} {M T : PH} {K : PV → PS → Prop} {l0 l1 l2 l3 : Int} : pm_Run d 232 14 [.inr (.inr (.inl l0)), .inl l1, .inl l2, .inl l3] [] (G, M, T) K ↔ if pm_sg 3 ≤ pm_sg l3 then pm_Run d 232 65 [.inr (.inr (.inl l0)), .inl l1, .inl l2, .inl l3] [] (G, M, T) K else pm_Run d 232 19 [.inr (.inr (.inl l0)), .inl l1, .inl l2, .inl l3] [] (G, M, T) K := by
  refine (px_go (by decide +kernel : pm_fe 232 14 = some (.iload_n 3, 1)) rfl).trans ?_
  refine (px_go (by decide +kernel : pm_fe 232 15 = some (.iconst 3, 1)) rfl).trans ?_
  refine (px_ic_ge (off := 49) (tgt := 65) (by decide +kernel)).trans ?_
  exact Iff.rfl
theorem b232_19 {d : Nat} {G : PG} {M T : PH} {K : PV → PS → Prop} {l0 l1 l2 l3 : Int} (h1 : pm_ob G l0 12) (h2 : pm_ar G (T l0.toNat 55) 100 ((3 * l2) + l3)) (h3 : pm_ar G (T l0.toNat 55) 100 ((3 * l1) + l3)) (h4 : pm_ar G (T l0.toNat 56) 100 ((3 * l2) + l3)) (h5 : pm_ar G (T l0.toNat 56) 100 ((3 * l1) + l3)) : pm_Run d 232 19 [.inr (.inr (.inl l0)), .inl l1, .inl l2, .inl l3] [] (G, M, T) K ↔ pm_Run d 232 59 [.inr (.inr (.inl l0)), .inl l1, .inl l2, .inl l3] [] (G, pm_sa (pm_sa M (T l0.toNat 55).toNat (pm_up (M (T l0.toNat 55).toNat) (pm_sg ((3 * l1) + l3)).toNat (M (T l0.toNat 55).toNat (pm_sg ((3 * l2) + l3)).toNat))) (T l0.toNat 56).toNat (pm_up ((pm_sa M (T l0.toNat 55).toNat (pm_up (M (T l0.toNat 55).toNat) (pm_sg ((3 * l1) + l3)).toNat (M (T l0.toNat 55).toNat (pm_sg ((3 * l2) + l3)).toNat))) (T l0.toNat 56).toNat) (pm_sg ((3 * l1) + l3)).toNat ((pm_sa M (T l0.toNat 55).toNat (pm_up (M (T l0.toNat 55).toNat) (pm_sg ((3 * l1) + l3)).toNat (M (T l0.toNat 55).toNat (pm_sg ((3 * l2) + l3)).toNat))) (T l0.toNat 56).toNat (pm_sg ((3 * l2) + l3)).toNat)), T) K := by
  refine (px_go (by decide +kernel : pm_fe 232 19 = some (.aload_n 0, 1)) rfl).trans ?_
  refine (px_get2 (idx := 180) (ci := 12) (k := 55) (by decide +kernel)).trans ((and_iff_right h1).trans ?_)
  refine (px_go (by decide +kernel : pm_fe 232 23 = some (.iconst 3, 1)) rfl).trans ?_
  refine (px_go (by decide +kernel : pm_fe 232 24 = some (.iload_n 1, 1)) rfl).trans ?_
  refine (px_go (by decide +kernel : pm_fe 232 25 = some (.imul, 1)) rfl).trans ?_
  refine (px_go (by decide +kernel : pm_fe 232 26 = some (.iload_n 3, 1)) rfl).trans ?_
  refine (px_go (by decide +kernel : pm_fe 232 27 = some (.iadd, 1)) rfl).trans ?_
  refine (px_go (by decide +kernel : pm_fe 232 28 = some (.aload_n 0, 1)) rfl).trans ?_
  refine (px_get2 (idx := 180) (ci := 12) (k := 55) (by decide +kernel)).trans ((and_iff_right h1).trans ?_)
  refine (px_go (by decide +kernel : pm_fe 232 32 = some (.iconst 3, 1)) rfl).trans ?_
  refine (px_go (by decide +kernel : pm_fe 232 33 = some (.iload_n 2, 1)) rfl).trans ?_
  refine (px_go (by decide +kernel : pm_fe 232 34 = some (.imul, 1)) rfl).trans ?_
  refine (px_go (by decide +kernel : pm_fe 232 35 = some (.iload_n 3, 1)) rfl).trans ?_
  refine (px_go (by decide +kernel : pm_fe 232 36 = some (.iadd, 1)) rfl).trans ?_
  refine (px_iaload (by decide +kernel) h2).trans ?_
  refine (px_iastore (by decide +kernel)).trans ((and_iff_right h3).trans ?_)
  refine (px_go (by decide +kernel : pm_fe 232 39 = some (.aload_n 0, 1)) rfl).trans ?_
  refine (px_get2 (idx := 183) (ci := 12) (k := 56) (by decide +kernel)).trans ((and_iff_right h1).trans ?_)
  refine (px_go (by decide +kernel : pm_fe 232 43 = some (.iconst 3, 1)) rfl).trans ?_
  refine (px_go (by decide +kernel : pm_fe 232 44 = some (.iload_n 1, 1)) rfl).trans ?_
  refine (px_go (by decide +kernel : pm_fe 232 45 = some (.imul, 1)) rfl).trans ?_
  refine (px_go (by decide +kernel : pm_fe 232 46 = some (.iload_n 3, 1)) rfl).trans ?_
  refine (px_go (by decide +kernel : pm_fe 232 47 = some (.iadd, 1)) rfl).trans ?_
  refine (px_go (by decide +kernel : pm_fe 232 48 = some (.aload_n 0, 1)) rfl).trans ?_
  refine (px_get2 (idx := 183) (ci := 12) (k := 56) (by decide +kernel)).trans ((and_iff_right h1).trans ?_)
  refine (px_go (by decide +kernel : pm_fe 232 52 = some (.iconst 3, 1)) rfl).trans ?_
  refine (px_go (by decide +kernel : pm_fe 232 53 = some (.iload_n 2, 1)) rfl).trans ?_
  refine (px_go (by decide +kernel : pm_fe 232 54 = some (.imul, 1)) rfl).trans ?_
  refine (px_go (by decide +kernel : pm_fe 232 55 = some (.iload_n 3, 1)) rfl).trans ?_
  refine (px_go (by decide +kernel : pm_fe 232 56 = some (.iadd, 1)) rfl).trans ?_
  refine (px_iaload (by decide +kernel) h4).trans ?_
  refine (px_iastore (by decide +kernel)).trans ((and_iff_right h5).trans ?_)
  exact Iff.rfl
theorem b232_59 {d : Nat} {G : PG} {M T : PH} {K : PV → PS → Prop} {l0 l1 l2 l3 : Int} : pm_Run d 232 59 [.inr (.inr (.inl l0)), .inl l1, .inl l2, .inl l3] [] (G, M, T) K ↔ pm_Run d 232 14 [.inr (.inr (.inl l0)), .inl l1, .inl l2, .inl (l3 + 1)] [] (G, M, T) K := by
  refine (px_go (by decide +kernel : pm_fe 232 59 = some (.iinc 3 1, 3)) rfl).trans ?_
  refine (px_goto (off := (-48)) (tgt := 14) (by decide +kernel)).trans ?_
  exact Iff.rfl
theorem b232_65 {d : Nat} {G : PG} {M T : PH} {K : PV → PS → Prop} {l0 l1 l2 l3 : Int} : pm_Run d 232 65 [.inr (.inr (.inl l0)), .inl l1, .inl l2, .inl l3] [] (G, M, T) K ↔ pm_Run d 232 67 [.inr (.inr (.inl l0)), .inl l1, .inl l2, .inl 0] [] (G, M, T) K := by
  refine (px_go (by decide +kernel : pm_fe 232 65 = some (.iconst 0, 1)) rfl).trans ?_
  refine (px_go (by decide +kernel : pm_fe 232 66 = some (.istore_n 3, 1)) rfl).trans ?_
  exact Iff.rfl
theorem b232_67 {d : Nat} {G : PG} {M T : PH} {K : PV → PS → Prop} {l0 l1 l2 l3 : Int} : pm_Run d 232 67 [.inr (.inr (.inl l0)), .inl l1, .inl l2, .inl l3] [] (G, M, T) K ↔ if pm_sg 8 ≤ pm_sg l3 then pm_Run d 232 101 [.inr (.inr (.inl l0)), .inl l1, .inl l2, .inl l3] [] (G, M, T) K else pm_Run d 232 73 [.inr (.inr (.inl l0)), .inl l1, .inl l2, .inl l3] [] (G, M, T) K := by
  refine (px_go (by decide +kernel : pm_fe 232 67 = some (.iload_n 3, 1)) rfl).trans ?_
  refine (px_go (by decide +kernel : pm_fe 232 68 = some (.bipush 8, 2)) rfl).trans ?_
  refine (px_ic_ge (off := 31) (tgt := 101) (by decide +kernel)).trans ?_
  exact Iff.rfl
theorem b232_73 {d : Nat} {G : PG} {M T : PH} {K : PV → PS → Prop} {l0 l1 l2 l3 : Int} (h1 : pm_ob G l0 12) (h2 : pm_ar G (T l0.toNat 57) 100 ((8 * l2) + l3)) (h3 : pm_ar G (T l0.toNat 57) 100 ((8 * l1) + l3)) : pm_Run d 232 73 [.inr (.inr (.inl l0)), .inl l1, .inl l2, .inl l3] [] (G, M, T) K ↔ pm_Run d 232 67 [.inr (.inr (.inl l0)), .inl l1, .inl l2, .inl (l3 + 1)] [] (G, pm_sa M (T l0.toNat 57).toNat (pm_up (M (T l0.toNat 57).toNat) (pm_sg ((8 * l1) + l3)).toNat (M (T l0.toNat 57).toNat (pm_sg ((8 * l2) + l3)).toNat)), T) K := by
  refine (px_go (by decide +kernel : pm_fe 232 73 = some (.aload_n 0, 1)) rfl).trans ?_
  refine (px_get2 (idx := 186) (ci := 12) (k := 57) (by decide +kernel)).trans ((and_iff_right h1).trans ?_)
  refine (px_go (by decide +kernel : pm_fe 232 77 = some (.bipush 8, 2)) rfl).trans ?_
  refine (px_go (by decide +kernel : pm_fe 232 79 = some (.iload_n 1, 1)) rfl).trans ?_
  refine (px_go (by decide +kernel : pm_fe 232 80 = some (.imul, 1)) rfl).trans ?_
  refine (px_go (by decide +kernel : pm_fe 232 81 = some (.iload_n 3, 1)) rfl).trans ?_
  refine (px_go (by decide +kernel : pm_fe 232 82 = some (.iadd, 1)) rfl).trans ?_
  refine (px_go (by decide +kernel : pm_fe 232 83 = some (.aload_n 0, 1)) rfl).trans ?_
  refine (px_get2 (idx := 186) (ci := 12) (k := 57) (by decide +kernel)).trans ((and_iff_right h1).trans ?_)
  refine (px_go (by decide +kernel : pm_fe 232 87 = some (.bipush 8, 2)) rfl).trans ?_
  refine (px_go (by decide +kernel : pm_fe 232 89 = some (.iload_n 2, 1)) rfl).trans ?_
  refine (px_go (by decide +kernel : pm_fe 232 90 = some (.imul, 1)) rfl).trans ?_
  refine (px_go (by decide +kernel : pm_fe 232 91 = some (.iload_n 3, 1)) rfl).trans ?_
  refine (px_go (by decide +kernel : pm_fe 232 92 = some (.iadd, 1)) rfl).trans ?_
  refine (px_iaload (by decide +kernel) h2).trans ?_
  refine (px_iastore (by decide +kernel)).trans ((and_iff_right h3).trans ?_)
  refine (px_go (by decide +kernel : pm_fe 232 95 = some (.iinc 3 1, 3)) rfl).trans ?_
  refine (px_goto (off := (-31)) (tgt := 67) (by decide +kernel)).trans ?_
  exact Iff.rfl
theorem b232_101 {d : Nat} {G : PG} {M T : PH} {K : PV → PS → Prop} {l0 l1 l2 l3 : Int} : pm_Run d 232 101 [.inr (.inr (.inl l0)), .inl l1, .inl l2, .inl l3] [] (G, M, T) K ↔ pm_Run d 232 103 [.inr (.inr (.inl l0)), .inl l1, .inl l2, .inl 0] [] (G, M, T) K := by
  refine (px_go (by decide +kernel : pm_fe 232 101 = some (.iconst 0, 1)) rfl).trans ?_
  refine (px_go (by decide +kernel : pm_fe 232 102 = some (.istore_n 3, 1)) rfl).trans ?_
  exact Iff.rfl
theorem b232_103 {d : Nat} {G : PG} {M T : PH} {K : PV → PS → Prop} {l0 l1 l2 l3 : Int} : pm_Run d 232 103 [.inr (.inr (.inl l0)), .inl l1, .inl l2, .inl l3] [] (G, M, T) K ↔ if pm_sg 24 ≤ pm_sg l3 then pm_Run d 232 159 [.inr (.inr (.inl l0)), .inl l1, .inl l2, .inl l3] [] (G, M, T) K else pm_Run d 232 109 [.inr (.inr (.inl l0)), .inl l1, .inl l2, .inl l3] [] (G, M, T) K := by
  refine (px_go (by decide +kernel : pm_fe 232 103 = some (.iload_n 3, 1)) rfl).trans ?_
  refine (px_go (by decide +kernel : pm_fe 232 104 = some (.bipush 24, 2)) rfl).trans ?_
  refine (px_ic_ge (off := 53) (tgt := 159) (by decide +kernel)).trans ?_
  exact Iff.rfl
theorem b232_109 {d : Nat} {G : PG} {M T : PH} {K : PV → PS → Prop} {l0 l1 l2 l3 : Int} (h1 : pm_ob G l0 12) (h2 : pm_ar G (T l0.toNat 58) 100 ((24 * l2) + l3)) (h3 : pm_ar G (T l0.toNat 58) 100 ((24 * l1) + l3)) (h4 : pm_ar G (T l0.toNat 59) 100 ((24 * l2) + l3)) (h5 : pm_ar G (T l0.toNat 59) 100 ((24 * l1) + l3)) : pm_Run d 232 109 [.inr (.inr (.inl l0)), .inl l1, .inl l2, .inl l3] [] (G, M, T) K ↔ pm_Run d 232 153 [.inr (.inr (.inl l0)), .inl l1, .inl l2, .inl l3] [] (G, pm_sa (pm_sa M (T l0.toNat 58).toNat (pm_up (M (T l0.toNat 58).toNat) (pm_sg ((24 * l1) + l3)).toNat (M (T l0.toNat 58).toNat (pm_sg ((24 * l2) + l3)).toNat))) (T l0.toNat 59).toNat (pm_up ((pm_sa M (T l0.toNat 58).toNat (pm_up (M (T l0.toNat 58).toNat) (pm_sg ((24 * l1) + l3)).toNat (M (T l0.toNat 58).toNat (pm_sg ((24 * l2) + l3)).toNat))) (T l0.toNat 59).toNat) (pm_sg ((24 * l1) + l3)).toNat ((pm_sa M (T l0.toNat 58).toNat (pm_up (M (T l0.toNat 58).toNat) (pm_sg ((24 * l1) + l3)).toNat (M (T l0.toNat 58).toNat (pm_sg ((24 * l2) + l3)).toNat))) (T l0.toNat 59).toNat (pm_sg ((24 * l2) + l3)).toNat)), T) K := by
  refine (px_go (by decide +kernel : pm_fe 232 109 = some (.aload_n 0, 1)) rfl).trans ?_
  refine (px_get2 (idx := 189) (ci := 12) (k := 58) (by decide +kernel)).trans ((and_iff_right h1).trans ?_)
  refine (px_go (by decide +kernel : pm_fe 232 113 = some (.bipush 24, 2)) rfl).trans ?_
  refine (px_go (by decide +kernel : pm_fe 232 115 = some (.iload_n 1, 1)) rfl).trans ?_
  refine (px_go (by decide +kernel : pm_fe 232 116 = some (.imul, 1)) rfl).trans ?_
  refine (px_go (by decide +kernel : pm_fe 232 117 = some (.iload_n 3, 1)) rfl).trans ?_
  refine (px_go (by decide +kernel : pm_fe 232 118 = some (.iadd, 1)) rfl).trans ?_
  refine (px_go (by decide +kernel : pm_fe 232 119 = some (.aload_n 0, 1)) rfl).trans ?_
  refine (px_get2 (idx := 189) (ci := 12) (k := 58) (by decide +kernel)).trans ((and_iff_right h1).trans ?_)
  refine (px_go (by decide +kernel : pm_fe 232 123 = some (.bipush 24, 2)) rfl).trans ?_
  refine (px_go (by decide +kernel : pm_fe 232 125 = some (.iload_n 2, 1)) rfl).trans ?_
  refine (px_go (by decide +kernel : pm_fe 232 126 = some (.imul, 1)) rfl).trans ?_
  refine (px_go (by decide +kernel : pm_fe 232 127 = some (.iload_n 3, 1)) rfl).trans ?_
  refine (px_go (by decide +kernel : pm_fe 232 128 = some (.iadd, 1)) rfl).trans ?_
  refine (px_iaload (by decide +kernel) h2).trans ?_
  refine (px_iastore (by decide +kernel)).trans ((and_iff_right h3).trans ?_)
  refine (px_go (by decide +kernel : pm_fe 232 131 = some (.aload_n 0, 1)) rfl).trans ?_
  refine (px_get2 (idx := 192) (ci := 12) (k := 59) (by decide +kernel)).trans ((and_iff_right h1).trans ?_)
  refine (px_go (by decide +kernel : pm_fe 232 135 = some (.bipush 24, 2)) rfl).trans ?_
  refine (px_go (by decide +kernel : pm_fe 232 137 = some (.iload_n 1, 1)) rfl).trans ?_
  refine (px_go (by decide +kernel : pm_fe 232 138 = some (.imul, 1)) rfl).trans ?_
  refine (px_go (by decide +kernel : pm_fe 232 139 = some (.iload_n 3, 1)) rfl).trans ?_
  refine (px_go (by decide +kernel : pm_fe 232 140 = some (.iadd, 1)) rfl).trans ?_
  refine (px_go (by decide +kernel : pm_fe 232 141 = some (.aload_n 0, 1)) rfl).trans ?_
  refine (px_get2 (idx := 192) (ci := 12) (k := 59) (by decide +kernel)).trans ((and_iff_right h1).trans ?_)
  refine (px_go (by decide +kernel : pm_fe 232 145 = some (.bipush 24, 2)) rfl).trans ?_
  refine (px_go (by decide +kernel : pm_fe 232 147 = some (.iload_n 2, 1)) rfl).trans ?_
  refine (px_go (by decide +kernel : pm_fe 232 148 = some (.imul, 1)) rfl).trans ?_
  refine (px_go (by decide +kernel : pm_fe 232 149 = some (.iload_n 3, 1)) rfl).trans ?_
  refine (px_go (by decide +kernel : pm_fe 232 150 = some (.iadd, 1)) rfl).trans ?_
  refine (px_iaload (by decide +kernel) h4).trans ?_
  refine (px_iastore (by decide +kernel)).trans ((and_iff_right h5).trans ?_)
  exact Iff.rfl
theorem b232_153 {d : Nat} {G : PG} {M T : PH} {K : PV → PS → Prop} {l0 l1 l2 l3 : Int} : pm_Run d 232 153 [.inr (.inr (.inl l0)), .inl l1, .inl l2, .inl l3] [] (G, M, T) K ↔ pm_Run d 232 103 [.inr (.inr (.inl l0)), .inl l1, .inl l2, .inl (l3 + 1)] [] (G, M, T) K := by
  refine (px_go (by decide +kernel : pm_fe 232 153 = some (.iinc 3 1, 3)) rfl).trans ?_
  refine (px_goto (off := (-53)) (tgt := 103) (by decide +kernel)).trans ?_
  exact Iff.rfl
theorem b232_159 {d : Nat} {G : PG} {M T : PH} {K : PV → PS → Prop} {l0 l1 l2 l3 : Int} : pm_Run d 232 159 [.inr (.inr (.inl l0)), .inl l1, .inl l2, .inl l3] [] (G, M, T) K ↔ K PU (G, M, T) := by
  refine (px_rv (by decide +kernel)).trans ?_
  exact Iff.rfl
-- X12_begin begin()V
theorem en233 {d : Nat} {a : Int} {S : PS} {K : PV → PS → Prop} : pm_Call (d + 1) 233 [.inr (.inr (.inl a))] S K ↔ pm_Run d 233 0 [.inr (.inr (.inl a)), PU] [] S K := pm_Call_s.trans (and_iff_right (show 1 ≤ pm_ml 233 from by decide +kernel))
theorem b233_0 {d : Nat} {G : PG} {M T : PH} {K : PV → PS → Prop} {l0 : Int} (h1 : pm_ob G l0 12) (h2 : pm_ar G (T l0.toNat 54) 100 0) : pm_Run d 233 0 [.inr (.inr (.inl l0)), PU] [] (G, M, T) K ↔ pm_Run d 233 17 [.inr (.inr (.inl l0)), PU] [] (G, pm_sa (pm_sa (pm_sa M (T l0.toNat 54).toNat (pm_up (M (T l0.toNat 54).toNat) (pm_sg 0).toNat 0)) l0.toNat (pm_up ((pm_sa M (T l0.toNat 54).toNat (pm_up (M (T l0.toNat 54).toNat) (pm_sg 0).toNat 0)) l0.toNat) 61 0)) l0.toNat (pm_up ((pm_sa (pm_sa M (T l0.toNat 54).toNat (pm_up (M (T l0.toNat 54).toNat) (pm_sg 0).toNat 0)) l0.toNat (pm_up ((pm_sa M (T l0.toNat 54).toNat (pm_up (M (T l0.toNat 54).toNat) (pm_sg 0).toNat 0)) l0.toNat) 61 0)) l0.toNat) 71 0), T) K := by
  refine (px_go (by decide +kernel : pm_fe 233 0 = some (.aload_n 0, 1)) rfl).trans ?_
  refine (px_get2 (idx := 177) (ci := 12) (k := 54) (by decide +kernel)).trans ((and_iff_right h1).trans ?_)
  refine (px_go (by decide +kernel : pm_fe 233 4 = some (.iconst 0, 1)) rfl).trans ?_
  refine (px_go (by decide +kernel : pm_fe 233 5 = some (.iconst 0, 1)) rfl).trans ?_
  refine (px_iastore (by decide +kernel)).trans ((and_iff_right h2).trans ?_)
  refine (px_go (by decide +kernel : pm_fe 233 7 = some (.aload_n 0, 1)) rfl).trans ?_
  refine (px_go (by decide +kernel : pm_fe 233 8 = some (.iconst 0, 1)) rfl).trans ?_
  refine (px_put0 (idx := 198) (ci := 12) (k := 61) (by decide +kernel)).trans ((and_iff_right h1).trans ?_)
  refine (px_go (by decide +kernel : pm_fe 233 12 = some (.aload_n 0, 1)) rfl).trans ?_
  refine (px_go (by decide +kernel : pm_fe 233 13 = some (.iconst 0, 1)) rfl).trans ?_
  refine (px_put0 (idx := 228) (ci := 12) (k := 71) (by decide +kernel)).trans ((and_iff_right h1).trans ?_)
  exact Iff.rfl
theorem b233_17 {d : Nat} {G : PG} {M T : PH} {K : PV → PS → Prop} {l0 : Int} : pm_Run d 233 17 [.inr (.inr (.inl l0)), PU] [] (G, M, T) K ↔ pm_Run d 233 19 [.inr (.inr (.inl l0)), .inl 0] [] (G, M, T) K := by
  refine (px_go (by decide +kernel : pm_fe 233 17 = some (.iconst 0, 1)) rfl).trans ?_
  refine (px_go (by decide +kernel : pm_fe 233 18 = some (.istore_n 1, 1)) rfl).trans ?_
  exact Iff.rfl
theorem b233_19 {d : Nat} {G : PG} {M T : PH} {K : PV → PS → Prop} {l0 l1 : Int} : pm_Run d 233 19 [.inr (.inr (.inl l0)), .inl l1] [] (G, M, T) K ↔ if pm_sg 3 ≤ pm_sg l1 then pm_Run d 233 68 [.inr (.inr (.inl l0)), .inl l1] [] (G, M, T) K else pm_Run d 233 24 [.inr (.inr (.inl l0)), .inl l1] [] (G, M, T) K := by
  refine (px_go (by decide +kernel : pm_fe 233 19 = some (.iload_n 1, 1)) rfl).trans ?_
  refine (px_go (by decide +kernel : pm_fe 233 20 = some (.iconst 3, 1)) rfl).trans ?_
  refine (px_ic_ge (off := 47) (tgt := 68) (by decide +kernel)).trans ?_
  exact Iff.rfl
theorem b233_24 {d : Nat} {G : PG} {M T : PH} {K : PV → PS → Prop} {l0 l1 : Int} (h1 : pm_ob G l0 12) (h2 : pm_ar G (T l0.toNat 16) 100 ((3 * (M l0.toNat 13)) + l1)) (h3 : pm_ar G (T l0.toNat 55) 100 l1) (h4 : pm_ar G (T l0.toNat 18) 100 ((3 * ((pm_sa M (T l0.toNat 55).toNat (pm_up (M (T l0.toNat 55).toNat) (pm_sg l1).toNat (M (T l0.toNat 16).toNat (pm_sg ((3 * (M l0.toNat 13)) + l1)).toNat))) l0.toNat 13)) + l1)) (h5 : pm_ar G (T l0.toNat 56) 100 l1) : pm_Run d 233 24 [.inr (.inr (.inl l0)), .inl l1] [] (G, M, T) K ↔ pm_Run d 233 62 [.inr (.inr (.inl l0)), .inl l1] [] (G, pm_sa (pm_sa M (T l0.toNat 55).toNat (pm_up (M (T l0.toNat 55).toNat) (pm_sg l1).toNat (M (T l0.toNat 16).toNat (pm_sg ((3 * (M l0.toNat 13)) + l1)).toNat))) (T l0.toNat 56).toNat (pm_up ((pm_sa M (T l0.toNat 55).toNat (pm_up (M (T l0.toNat 55).toNat) (pm_sg l1).toNat (M (T l0.toNat 16).toNat (pm_sg ((3 * (M l0.toNat 13)) + l1)).toNat))) (T l0.toNat 56).toNat) (pm_sg l1).toNat ((pm_sa M (T l0.toNat 55).toNat (pm_up (M (T l0.toNat 55).toNat) (pm_sg l1).toNat (M (T l0.toNat 16).toNat (pm_sg ((3 * (M l0.toNat 13)) + l1)).toNat))) (T l0.toNat 18).toNat (pm_sg ((3 * ((pm_sa M (T l0.toNat 55).toNat (pm_up (M (T l0.toNat 55).toNat) (pm_sg l1).toNat (M (T l0.toNat 16).toNat (pm_sg ((3 * (M l0.toNat 13)) + l1)).toNat))) l0.toNat 13)) + l1)).toNat)), T) K := by
  refine (px_go (by decide +kernel : pm_fe 233 24 = some (.aload_n 0, 1)) rfl).trans ?_
  refine (px_get2 (idx := 180) (ci := 12) (k := 55) (by decide +kernel)).trans ((and_iff_right h1).trans ?_)
  refine (px_go (by decide +kernel : pm_fe 233 28 = some (.iload_n 1, 1)) rfl).trans ?_
  refine (px_go (by decide +kernel : pm_fe 233 29 = some (.aload_n 0, 1)) rfl).trans ?_
  refine (px_get2 (idx := 60) (ci := 12) (k := 16) (by decide +kernel)).trans ((and_iff_right h1).trans ?_)
  refine (px_go (by decide +kernel : pm_fe 233 33 = some (.iconst 3, 1)) rfl).trans ?_
  refine (px_go (by decide +kernel : pm_fe 233 34 = some (.aload_n 0, 1)) rfl).trans ?_
  refine (px_get0 (idx := 51) (ci := 12) (k := 13) (by decide +kernel)).trans ((and_iff_right h1).trans ?_)
  refine (px_go (by decide +kernel : pm_fe 233 38 = some (.imul, 1)) rfl).trans ?_
  refine (px_go (by decide +kernel : pm_fe 233 39 = some (.iload_n 1, 1)) rfl).trans ?_
  refine (px_go (by decide +kernel : pm_fe 233 40 = some (.iadd, 1)) rfl).trans ?_
  refine (px_iaload (by decide +kernel) h2).trans ?_
  refine (px_iastore (by decide +kernel)).trans ((and_iff_right h3).trans ?_)
  refine (px_go (by decide +kernel : pm_fe 233 43 = some (.aload_n 0, 1)) rfl).trans ?_
  refine (px_get2 (idx := 183) (ci := 12) (k := 56) (by decide +kernel)).trans ((and_iff_right h1).trans ?_)
  refine (px_go (by decide +kernel : pm_fe 233 47 = some (.iload_n 1, 1)) rfl).trans ?_
  refine (px_go (by decide +kernel : pm_fe 233 48 = some (.aload_n 0, 1)) rfl).trans ?_
  refine (px_get2 (idx := 66) (ci := 12) (k := 18) (by decide +kernel)).trans ((and_iff_right h1).trans ?_)
  refine (px_go (by decide +kernel : pm_fe 233 52 = some (.iconst 3, 1)) rfl).trans ?_
  refine (px_go (by decide +kernel : pm_fe 233 53 = some (.aload_n 0, 1)) rfl).trans ?_
  refine (px_get0 (idx := 51) (ci := 12) (k := 13) (by decide +kernel)).trans ((and_iff_right h1).trans ?_)
  refine (px_go (by decide +kernel : pm_fe 233 57 = some (.imul, 1)) rfl).trans ?_
  refine (px_go (by decide +kernel : pm_fe 233 58 = some (.iload_n 1, 1)) rfl).trans ?_
  refine (px_go (by decide +kernel : pm_fe 233 59 = some (.iadd, 1)) rfl).trans ?_
  refine (px_iaload (by decide +kernel) h4).trans ?_
  refine (px_iastore (by decide +kernel)).trans ((and_iff_right h5).trans ?_)
  exact Iff.rfl
theorem b233_62 {d : Nat} {G : PG} {M T : PH} {K : PV → PS → Prop} {l0 l1 : Int} : pm_Run d 233 62 [.inr (.inr (.inl l0)), .inl l1] [] (G, M, T) K ↔ pm_Run d 233 19 [.inr (.inr (.inl l0)), .inl (l1 + 1)] [] (G, M, T) K := by
  refine (px_go (by decide +kernel : pm_fe 233 62 = some (.iinc 1 1, 3)) rfl).trans ?_
  refine (px_goto (off := (-46)) (tgt := 19) (by decide +kernel)).trans ?_
  exact Iff.rfl
theorem b233_68 {d : Nat} {G : PG} {M T : PH} {K : PV → PS → Prop} {l0 l1 : Int} : pm_Run d 233 68 [.inr (.inr (.inl l0)), .inl l1] [] (G, M, T) K ↔ pm_Run d 233 70 [.inr (.inr (.inl l0)), .inl 0] [] (G, M, T) K := by
  refine (px_go (by decide +kernel : pm_fe 233 68 = some (.iconst 0, 1)) rfl).trans ?_
  refine (px_go (by decide +kernel : pm_fe 233 69 = some (.istore_n 1, 1)) rfl).trans ?_
  exact Iff.rfl
theorem b233_70 {d : Nat} {G : PG} {M T : PH} {K : PV → PS → Prop} {l0 l1 : Int} : pm_Run d 233 70 [.inr (.inr (.inl l0)), .inl l1] [] (G, M, T) K ↔ if pm_sg 8 ≤ pm_sg l1 then pm_Run d 233 102 [.inr (.inr (.inl l0)), .inl l1] [] (G, M, T) K else pm_Run d 233 76 [.inr (.inr (.inl l0)), .inl l1] [] (G, M, T) K := by
  refine (px_go (by decide +kernel : pm_fe 233 70 = some (.iload_n 1, 1)) rfl).trans ?_
  refine (px_go (by decide +kernel : pm_fe 233 71 = some (.bipush 8, 2)) rfl).trans ?_
  refine (px_ic_ge (off := 29) (tgt := 102) (by decide +kernel)).trans ?_
  exact Iff.rfl
theorem b233_76 {d : Nat} {G : PG} {M T : PH} {K : PV → PS → Prop} {l0 l1 : Int} (h1 : pm_ob G l0 12) (h2 : pm_ar G (T l0.toNat 21) 100 ((8 * (M l0.toNat 13)) + l1)) (h3 : pm_ar G (T l0.toNat 57) 100 l1) : pm_Run d 233 76 [.inr (.inr (.inl l0)), .inl l1] [] (G, M, T) K ↔ pm_Run d 233 70 [.inr (.inr (.inl l0)), .inl (l1 + 1)] [] (G, pm_sa M (T l0.toNat 57).toNat (pm_up (M (T l0.toNat 57).toNat) (pm_sg l1).toNat (M (T l0.toNat 21).toNat (pm_sg ((8 * (M l0.toNat 13)) + l1)).toNat)), T) K := by
  refine (px_go (by decide +kernel : pm_fe 233 76 = some (.aload_n 0, 1)) rfl).trans ?_
  refine (px_get2 (idx := 186) (ci := 12) (k := 57) (by decide +kernel)).trans ((and_iff_right h1).trans ?_)
  refine (px_go (by decide +kernel : pm_fe 233 80 = some (.iload_n 1, 1)) rfl).trans ?_
  refine (px_go (by decide +kernel : pm_fe 233 81 = some (.aload_n 0, 1)) rfl).trans ?_
  refine (px_get2 (idx := 75) (ci := 12) (k := 21) (by decide +kernel)).trans ((and_iff_right h1).trans ?_)
  refine (px_go (by decide +kernel : pm_fe 233 85 = some (.bipush 8, 2)) rfl).trans ?_
  refine (px_go (by decide +kernel : pm_fe 233 87 = some (.aload_n 0, 1)) rfl).trans ?_
  refine (px_get0 (idx := 51) (ci := 12) (k := 13) (by decide +kernel)).trans ((and_iff_right h1).trans ?_)
  refine (px_go (by decide +kernel : pm_fe 233 91 = some (.imul, 1)) rfl).trans ?_
  refine (px_go (by decide +kernel : pm_fe 233 92 = some (.iload_n 1, 1)) rfl).trans ?_
  refine (px_go (by decide +kernel : pm_fe 233 93 = some (.iadd, 1)) rfl).trans ?_
  refine (px_iaload (by decide +kernel) h2).trans ?_
  refine (px_iastore (by decide +kernel)).trans ((and_iff_right h3).trans ?_)
  refine (px_go (by decide +kernel : pm_fe 233 96 = some (.iinc 1 1, 3)) rfl).trans ?_
  refine (px_goto (off := (-29)) (tgt := 70) (by decide +kernel)).trans ?_
  exact Iff.rfl
theorem b233_102 {d : Nat} {G : PG} {M T : PH} {K : PV → PS → Prop} {l0 l1 : Int} : pm_Run d 233 102 [.inr (.inr (.inl l0)), .inl l1] [] (G, M, T) K ↔ pm_Run d 233 104 [.inr (.inr (.inl l0)), .inl 0] [] (G, M, T) K := by
  refine (px_go (by decide +kernel : pm_fe 233 102 = some (.iconst 0, 1)) rfl).trans ?_
  refine (px_go (by decide +kernel : pm_fe 233 103 = some (.istore_n 1, 1)) rfl).trans ?_
  exact Iff.rfl
theorem b233_104 {d : Nat} {G : PG} {M T : PH} {K : PV → PS → Prop} {l0 l1 : Int} : pm_Run d 233 104 [.inr (.inr (.inl l0)), .inl l1] [] (G, M, T) K ↔ if pm_sg 24 ≤ pm_sg l1 then pm_Run d 233 162 [.inr (.inr (.inl l0)), .inl l1] [] (G, M, T) K else pm_Run d 233 110 [.inr (.inr (.inl l0)), .inl l1] [] (G, M, T) K := by
  refine (px_go (by decide +kernel : pm_fe 233 104 = some (.iload_n 1, 1)) rfl).trans ?_
  refine (px_go (by decide +kernel : pm_fe 233 105 = some (.bipush 24, 2)) rfl).trans ?_
  refine (px_ic_ge (off := 55) (tgt := 162) (by decide +kernel)).trans ?_
  exact Iff.rfl
theorem b233_110 {d : Nat} {G : PG} {M T : PH} {K : PV → PS → Prop} {l0 l1 : Int} (h1 : pm_ob G l0 12) (h2 : pm_ar G (T l0.toNat 19) 100 (M l0.toNat 13)) : pm_Run d 233 110 [.inr (.inr (.inl l0)), .inl l1] [] (G, M, T) K ↔ if pm_sg (3 * (M (T l0.toNat 19).toNat (pm_sg (M l0.toNat 13)).toNat)) ≤ pm_sg l1 then pm_Run d 233 147 [.inr (.inr (.inl l0)), .inl l1] [.inl l1, .inr (.inr (.inl (T l0.toNat 58)))] (G, M, T) K else pm_Run d 233 130 [.inr (.inr (.inl l0)), .inl l1] [.inl l1, .inr (.inr (.inl (T l0.toNat 58)))] (G, M, T) K := by
  refine (px_go (by decide +kernel : pm_fe 233 110 = some (.aload_n 0, 1)) rfl).trans ?_
  refine (px_get2 (idx := 189) (ci := 12) (k := 58) (by decide +kernel)).trans ((and_iff_right h1).trans ?_)
  refine (px_go (by decide +kernel : pm_fe 233 114 = some (.iload_n 1, 1)) rfl).trans ?_
  refine (px_go (by decide +kernel : pm_fe 233 115 = some (.iload_n 1, 1)) rfl).trans ?_
  refine (px_go (by decide +kernel : pm_fe 233 116 = some (.iconst 3, 1)) rfl).trans ?_
  refine (px_go (by decide +kernel : pm_fe 233 117 = some (.aload_n 0, 1)) rfl).trans ?_
  refine (px_get2 (idx := 69) (ci := 12) (k := 19) (by decide +kernel)).trans ((and_iff_right h1).trans ?_)
  refine (px_go (by decide +kernel : pm_fe 233 121 = some (.aload_n 0, 1)) rfl).trans ?_
  refine (px_get0 (idx := 51) (ci := 12) (k := 13) (by decide +kernel)).trans ((and_iff_right h1).trans ?_)
  refine (px_iaload (by decide +kernel) h2).trans ?_
  refine (px_go (by decide +kernel : pm_fe 233 126 = some (.imul, 1)) rfl).trans ?_
  refine (px_ic_ge (off := 20) (tgt := 147) (by decide +kernel)).trans ?_
  exact Iff.rfl
theorem b233_130 {d : Nat} {G : PG} {M T : PH} {K : PV → PS → Prop} {l0 l1 s0 s1 : Int} (h1 : pm_ob G l0 12) (h2 : pm_ar G (T l0.toNat 23) 100 ((24 * (M l0.toNat 13)) + l1)) : pm_Run d 233 130 [.inr (.inr (.inl l0)), .inl l1] [.inl s0, .inr (.inr (.inl s1))] (G, M, T) K ↔ pm_Run d 233 148 [.inr (.inr (.inl l0)), .inl l1] [.inl (M (T l0.toNat 23).toNat (pm_sg ((24 * (M l0.toNat 13)) + l1)).toNat), .inl s0, .inr (.inr (.inl s1))] (G, M, T) K := by
  refine (px_go (by decide +kernel : pm_fe 233 130 = some (.aload_n 0, 1)) rfl).trans ?_
  refine (px_get2 (idx := 81) (ci := 12) (k := 23) (by decide +kernel)).trans ((and_iff_right h1).trans ?_)
  refine (px_go (by decide +kernel : pm_fe 233 134 = some (.bipush 24, 2)) rfl).trans ?_
  refine (px_go (by decide +kernel : pm_fe 233 136 = some (.aload_n 0, 1)) rfl).trans ?_
  refine (px_get0 (idx := 51) (ci := 12) (k := 13) (by decide +kernel)).trans ((and_iff_right h1).trans ?_)
  refine (px_go (by decide +kernel : pm_fe 233 140 = some (.imul, 1)) rfl).trans ?_
  refine (px_go (by decide +kernel : pm_fe 233 141 = some (.iload_n 1, 1)) rfl).trans ?_
  refine (px_go (by decide +kernel : pm_fe 233 142 = some (.iadd, 1)) rfl).trans ?_
  refine (px_iaload (by decide +kernel) h2).trans ?_
  refine (px_goto (off := 4) (tgt := 148) (by decide +kernel)).trans ?_
  exact Iff.rfl
theorem b233_147 {d : Nat} {G : PG} {M T : PH} {K : PV → PS → Prop} {l0 l1 s0 s1 : Int} : pm_Run d 233 147 [.inr (.inr (.inl l0)), .inl l1] [.inl s0, .inr (.inr (.inl s1))] (G, M, T) K ↔ pm_Run d 233 148 [.inr (.inr (.inl l0)), .inl l1] [.inl 0, .inl s0, .inr (.inr (.inl s1))] (G, M, T) K := by
  refine (px_go (by decide +kernel : pm_fe 233 147 = some (.iconst 0, 1)) rfl).trans ?_
  exact Iff.rfl
theorem b233_148 {d : Nat} {G : PG} {M T : PH} {K : PV → PS → Prop} {l0 l1 s0 s1 s2 : Int} (h1 : pm_ar G s2 100 s1) (h2 : pm_ob G l0 12) (h3 : pm_ar G (T l0.toNat 59) 100 l1) : pm_Run d 233 148 [.inr (.inr (.inl l0)), .inl l1] [.inl s0, .inl s1, .inr (.inr (.inl s2))] (G, M, T) K ↔ pm_Run d 233 104 [.inr (.inr (.inl l0)), .inl (l1 + 1)] [] (G, pm_sa (pm_sa M s2.toNat (pm_up (M s2.toNat) (pm_sg s1).toNat s0)) (T l0.toNat 59).toNat (pm_up ((pm_sa M s2.toNat (pm_up (M s2.toNat) (pm_sg s1).toNat s0)) (T l0.toNat 59).toNat) (pm_sg l1).toNat 0), T) K := by
  refine (px_iastore (by decide +kernel)).trans ((and_iff_right h1).trans ?_)
  refine (px_go (by decide +kernel : pm_fe 233 149 = some (.aload_n 0, 1)) rfl).trans ?_
  refine (px_get2 (idx := 192) (ci := 12) (k := 59) (by decide +kernel)).trans ((and_iff_right h2).trans ?_)
  refine (px_go (by decide +kernel : pm_fe 233 153 = some (.iload_n 1, 1)) rfl).trans ?_
  refine (px_go (by decide +kernel : pm_fe 233 154 = some (.iconst 0, 1)) rfl).trans ?_
  refine (px_iastore (by decide +kernel)).trans ((and_iff_right h3).trans ?_)
  refine (px_go (by decide +kernel : pm_fe 233 156 = some (.iinc 1 1, 3)) rfl).trans ?_
  refine (px_goto (off := (-55)) (tgt := 104) (by decide +kernel)).trans ?_
  exact Iff.rfl
theorem b233_162 {d : Nat} {G : PG} {M T : PH} {K : PV → PS → Prop} {l0 l1 : Int} : pm_Run d 233 162 [.inr (.inr (.inl l0)), .inl l1] [] (G, M, T) K ↔ K PU (G, M, T) := by
  refine (px_rv (by decide +kernel)).trans ?_
  exact Iff.rfl
-- X12_ring ring(I)I
theorem en234 {d : Nat} {a p0 : Int} {S : PS} {K : PV → PS → Prop} : pm_Call (d + 1) 234 [.inr (.inr (.inl a)), .inl p0] S K ↔ pm_Run d 234 0 [.inr (.inr (.inl a)), .inl p0] [] S K := pm_Call_s.trans (and_iff_right (show 2 ≤ pm_ml 234 from by decide +kernel))
theorem b234_0 {d : Nat} {G : PG} {M T : PH} {K : PV → PS → Prop} {l0 l1 : Int} (h1 : pm_ob G l0 12) : pm_Run d 234 0 [.inr (.inr (.inl l0)), .inl l1] [] (G, M, T) K ↔ K (.inl (2 + (pm_rem ((M l0.toNat 60) + l1) 20))) (G, M, T) := by
  refine (px_go (by decide +kernel : pm_fe 234 0 = some (.iconst 2, 1)) rfl).trans ?_
  refine (px_go (by decide +kernel : pm_fe 234 1 = some (.aload_n 0, 1)) rfl).trans ?_
  refine (px_get0 (idx := 195) (ci := 12) (k := 60) (by decide +kernel)).trans ((and_iff_right h1).trans ?_)
  refine (px_go (by decide +kernel : pm_fe 234 5 = some (.iload_n 1, 1)) rfl).trans ?_
  refine (px_go (by decide +kernel : pm_fe 234 6 = some (.iadd, 1)) rfl).trans ?_
  refine (px_go (by decide +kernel : pm_fe 234 7 = some (.bipush 20, 2)) rfl).trans ?_
  refine (px_irem (by decide +kernel)).trans ((and_iff_right (by decide : pm_sg (20 : Int) ≠ (0 : Int))).trans ?_)
  refine (px_go (by decide +kernel : pm_fe 234 10 = some (.iadd, 1)) rfl).trans ?_
  refine (px_ri (by decide +kernel)).trans ?_
  exact Iff.rfl
-- X12_keeps keeps()V
theorem en235 {d : Nat} {a : Int} {S : PS} {K : PV → PS → Prop} : pm_Call (d + 1) 235 [.inr (.inr (.inl a))] S K ↔ pm_Run d 235 0 [.inr (.inr (.inl a))] [] S K := pm_Call_s.trans (and_iff_right (show 1 ≤ pm_ml 235 from by decide +kernel))
theorem b235_0 {d : Nat} {G : PG} {M T : PH} {K : PV → PS → Prop} {l0 : Int} (h1 : pm_ob G l0 12) : pm_Run d 235 0 [.inr (.inr (.inl l0))] [] (G, M, T) K ↔ if pm_sg (M l0.toNat 61) ≠ pm_sg 20 then pm_Run d 235 32 [.inr (.inr (.inl l0))] [] (G, M, T) K else pm_Run d 235 9 [.inr (.inr (.inl l0))] [] (G, M, T) K := by
  refine (px_go (by decide +kernel : pm_fe 235 0 = some (.aload_n 0, 1)) rfl).trans ?_
  refine (px_get0 (idx := 198) (ci := 12) (k := 61) (by decide +kernel)).trans ((and_iff_right h1).trans ?_)
  refine (px_go (by decide +kernel : pm_fe 235 4 = some (.bipush 20, 2)) rfl).trans ?_
  refine (px_ic_ne (off := 26) (tgt := 32) (by decide +kernel)).trans ?_
  exact Iff.rfl
theorem b235_9 {d : Nat} {G : PG} {M T : PH} {K : PV → PS → Prop} {l0 : Int} (h1 : pm_ob G l0 12) : pm_Run d 235 9 [.inr (.inr (.inl l0))] [] (G, M, T) K ↔ pm_Run d 235 32 [.inr (.inr (.inl l0))] [] (G, pm_sa (pm_sa M l0.toNat (pm_up (M l0.toNat) 60 (pm_rem ((M l0.toNat 60) + 1) 20))) l0.toNat (pm_up ((pm_sa M l0.toNat (pm_up (M l0.toNat) 60 (pm_rem ((M l0.toNat 60) + 1) 20))) l0.toNat) 61 (((pm_sa M l0.toNat (pm_up (M l0.toNat) 60 (pm_rem ((M l0.toNat 60) + 1) 20))) l0.toNat 61) - 1)), T) K := by
  refine (px_go (by decide +kernel : pm_fe 235 9 = some (.aload_n 0, 1)) rfl).trans ?_
  refine (px_go (by decide +kernel : pm_fe 235 10 = some (.aload_n 0, 1)) rfl).trans ?_
  refine (px_get0 (idx := 195) (ci := 12) (k := 60) (by decide +kernel)).trans ((and_iff_right h1).trans ?_)
  refine (px_go (by decide +kernel : pm_fe 235 14 = some (.iconst 1, 1)) rfl).trans ?_
  refine (px_go (by decide +kernel : pm_fe 235 15 = some (.iadd, 1)) rfl).trans ?_
  refine (px_go (by decide +kernel : pm_fe 235 16 = some (.bipush 20, 2)) rfl).trans ?_
  refine (px_irem (by decide +kernel)).trans ((and_iff_right (by decide : pm_sg (20 : Int) ≠ (0 : Int))).trans ?_)
  refine (px_put0 (idx := 195) (ci := 12) (k := 60) (by decide +kernel)).trans ((and_iff_right h1).trans ?_)
  refine (px_go (by decide +kernel : pm_fe 235 22 = some (.aload_n 0, 1)) rfl).trans ?_
  refine (px_go (by decide +kernel : pm_fe 235 23 = some (.dup, 1)) rfl).trans ?_
  refine (px_get0 (idx := 198) (ci := 12) (k := 61) (by decide +kernel)).trans ((and_iff_right h1).trans ?_)
  refine (px_go (by decide +kernel : pm_fe 235 27 = some (.iconst 1, 1)) rfl).trans ?_
  refine (px_go (by decide +kernel : pm_fe 235 28 = some (.isub, 1)) rfl).trans ?_
  refine (px_put0 (idx := 198) (ci := 12) (k := 61) (by decide +kernel)).trans ((and_iff_right h1).trans ?_)
  exact Iff.rfl
theorem b235_32 {d : Nat} {G : PG} {M T : PH} {K : PV → PS → Prop} {l0 : Int} (h1 : pm_ob G l0 12) : pm_Run d 235 32 [.inr (.inr (.inl l0))] [] (G, M, T) K ↔ pm_Call d 234 [.inr (.inr (.inl l0)), .inl (M l0.toNat 61)] (G, M, T) (fun r S1 => pm_Run d 235 41 [.inr (.inr (.inl l0))] (pm_push r [.inr (.inr (.inl l0))]) S1 K) := by
  refine (px_go (by decide +kernel : pm_fe 235 32 = some (.aload_n 0, 1)) rfl).trans ?_
  refine (px_go (by decide +kernel : pm_fe 235 33 = some (.aload_n 0, 1)) rfl).trans ?_
  refine (px_go (by decide +kernel : pm_fe 235 34 = some (.aload_n 0, 1)) rfl).trans ?_
  refine (px_get0 (idx := 198) (ci := 12) (k := 61) (by decide +kernel)).trans ((and_iff_right h1).trans ?_)
  refine (px_v1 (idx := 442) (m' := 234) (ci := 12) (by decide +kernel)).trans ((and_iff_right ⟨h1, (by simp [pm_wl_n, pm_wl_c, pm_w] : pm_wl [.inr (.inr (.inl l0))] ≤ 8)⟩).trans ?_)
  exact Iff.rfl
theorem b235_41 {d : Nat} {G : PG} {M T : PH} {K : PV → PS → Prop} {l0 s0 s1 : Int} (h1 : pm_ob G s1 12) : pm_Run d 235 41 [.inr (.inr (.inl l0))] [.inl s0, .inr (.inr (.inl s1))] (G, M, T) K ↔ pm_Call d 232 [.inr (.inr (.inl s1)), .inl s0, .inl 0] (G, M, T) (fun r S1 => pm_Run d 235 45 [.inr (.inr (.inl l0))] (pm_push r []) S1 K) := by
  refine (px_go (by decide +kernel : pm_fe 235 41 = some (.iconst 0, 1)) rfl).trans ?_
  refine (px_v2 (idx := 445) (m' := 232) (ci := 12) (by decide +kernel)).trans ((and_iff_right ⟨h1, (by simp [pm_wl_n, pm_wl_c, pm_w] : pm_wl [] ≤ 8)⟩).trans ?_)
  exact Iff.rfl
theorem b235_45 {d : Nat} {G : PG} {M T : PH} {K : PV → PS → Prop} {l0 : Int} (h1 : pm_ob G l0 12) : pm_Run d 235 45 [.inr (.inr (.inl l0))] [] (G, M, T) K ↔ K PU (G, pm_sa M l0.toNat (pm_up (M l0.toNat) 61 ((M l0.toNat 61) + 1)), T) := by
  refine (px_go (by decide +kernel : pm_fe 235 45 = some (.aload_n 0, 1)) rfl).trans ?_
  refine (px_go (by decide +kernel : pm_fe 235 46 = some (.dup, 1)) rfl).trans ?_
  refine (px_get0 (idx := 198) (ci := 12) (k := 61) (by decide +kernel)).trans ((and_iff_right h1).trans ?_)
  refine (px_go (by decide +kernel : pm_fe 235 50 = some (.iconst 1, 1)) rfl).trans ?_
  refine (px_go (by decide +kernel : pm_fe 235 51 = some (.iadd, 1)) rfl).trans ?_
  refine (px_put0 (idx := 198) (ci := 12) (k := 61) (by decide +kernel)).trans ((and_iff_right h1).trans ?_)
  refine (px_rv (by decide +kernel)).trans ?_
  exact Iff.rfl
-- X12_undo undo()Z
theorem en236 {d : Nat} {a : Int} {S : PS} {K : PV → PS → Prop} : pm_Call (d + 1) 236 [.inr (.inr (.inl a))] S K ↔ pm_Run d 236 0 [.inr (.inr (.inl a))] [] S K := pm_Call_s.trans (and_iff_right (show 1 ≤ pm_ml 236 from by decide +kernel))
theorem b236_0 {d : Nat} {G : PG} {M T : PH} {K : PV → PS → Prop} {l0 : Int} (h1 : pm_ob G l0 12) : pm_Run d 236 0 [.inr (.inr (.inl l0))] [] (G, M, T) K ↔ if pm_sg (M l0.toNat 61) ≠ 0 then pm_Run d 236 21 [.inr (.inr (.inl l0))] [] (G, M, T) K else pm_Run d 236 7 [.inr (.inr (.inl l0))] [] (G, M, T) K := by
  refine (px_go (by decide +kernel : pm_fe 236 0 = some (.aload_n 0, 1)) rfl).trans ?_
  refine (px_get0 (idx := 198) (ci := 12) (k := 61) (by decide +kernel)).trans ((and_iff_right h1).trans ?_)
  refine (px_if_ne (off := 17) (tgt := 21) (by decide +kernel)).trans ?_
  exact Iff.rfl
theorem b236_7 {d : Nat} {G : PG} {M T : PH} {K : PV → PS → Prop} {l0 : Int} (h1 : pm_ob G l0 12) : pm_Run d 236 7 [.inr (.inr (.inl l0))] [] (G, M, T) K ↔ pm_Call d 224 [.inr (.inr (.inl l0)), .inl 4] (G, M, T) (fun r S1 => pm_Run d 236 12 [.inr (.inr (.inl l0))] (pm_push r []) S1 K) := by
  refine (px_go (by decide +kernel : pm_fe 236 7 = some (.aload_n 0, 1)) rfl).trans ?_
  refine (px_go (by decide +kernel : pm_fe 236 8 = some (.iconst 4, 1)) rfl).trans ?_
  refine (px_v1 (idx := 243) (m' := 224) (ci := 12) (by decide +kernel)).trans ((and_iff_right ⟨h1, (by simp [pm_wl_n, pm_wl_c, pm_w] : pm_wl [] ≤ 8)⟩).trans ?_)
  exact Iff.rfl
theorem b236_12 {d : Nat} {G : PG} {M T : PH} {K : PV → PS → Prop} {l0 s0 : Int} : pm_Run d 236 12 [.inr (.inr (.inl l0))] [.inl s0] (G, M, T) K ↔ if pm_sg s0 < 0 then pm_Run d 236 19 [.inr (.inr (.inl l0))] [] (G, M, T) K else pm_Run d 236 15 [.inr (.inr (.inl l0))] [] (G, M, T) K := by
  refine (px_if_lt (off := 7) (tgt := 19) (by decide +kernel)).trans ?_
  exact Iff.rfl
theorem b236_15 {d : Nat} {G : PG} {M T : PH} {K : PV → PS → Prop} {l0 : Int} : pm_Run d 236 15 [.inr (.inr (.inl l0))] [] (G, M, T) K ↔ pm_Run d 236 20 [.inr (.inr (.inl l0))] [.inl 1] (G, M, T) K := by
  refine (px_go (by decide +kernel : pm_fe 236 15 = some (.iconst 1, 1)) rfl).trans ?_
  refine (px_goto (off := 4) (tgt := 20) (by decide +kernel)).trans ?_
  exact Iff.rfl
theorem b236_19 {d : Nat} {G : PG} {M T : PH} {K : PV → PS → Prop} {l0 : Int} : pm_Run d 236 19 [.inr (.inr (.inl l0))] [] (G, M, T) K ↔ pm_Run d 236 20 [.inr (.inr (.inl l0))] [.inl 0] (G, M, T) K := by
  refine (px_go (by decide +kernel : pm_fe 236 19 = some (.iconst 0, 1)) rfl).trans ?_
  exact Iff.rfl
theorem b236_20 {d : Nat} {G : PG} {M T : PH} {K : PV → PS → Prop} {l0 s0 : Int} (h1 : s0 = 0 ∨ s0 = 1) : pm_Run d 236 20 [.inr (.inr (.inl l0))] [.inl s0] (G, M, T) K ↔ K (.inl s0) (G, M, T) := by
  refine (px_rz (by decide +kernel)).trans ((and_iff_right h1).trans ?_)
  exact Iff.rfl
theorem b236_21 {d : Nat} {G : PG} {M T : PH} {K : PV → PS → Prop} {l0 : Int} (h1 : pm_ob G l0 12) : pm_Run d 236 21 [.inr (.inr (.inl l0))] [] (G, M, T) K ↔ pm_Call d 234 [.inr (.inr (.inl l0)), .inl ((pm_sa M l0.toNat (pm_up (M l0.toNat) 61 ((M l0.toNat 61) - 1))) l0.toNat 61)] (G, pm_sa M l0.toNat (pm_up (M l0.toNat) 61 ((M l0.toNat 61) - 1)), T) (fun r S1 => pm_Run d 236 41 [.inr (.inr (.inl l0))] (pm_push r [.inl 0, .inr (.inr (.inl l0))]) S1 K) := by
  refine (px_go (by decide +kernel : pm_fe 236 21 = some (.aload_n 0, 1)) rfl).trans ?_
  refine (px_go (by decide +kernel : pm_fe 236 22 = some (.dup, 1)) rfl).trans ?_
  refine (px_get0 (idx := 198) (ci := 12) (k := 61) (by decide +kernel)).trans ((and_iff_right h1).trans ?_)
  refine (px_go (by decide +kernel : pm_fe 236 26 = some (.iconst 1, 1)) rfl).trans ?_
  refine (px_go (by decide +kernel : pm_fe 236 27 = some (.isub, 1)) rfl).trans ?_
  refine (px_put0 (idx := 198) (ci := 12) (k := 61) (by decide +kernel)).trans ((and_iff_right h1).trans ?_)
  refine (px_go (by decide +kernel : pm_fe 236 31 = some (.aload_n 0, 1)) rfl).trans ?_
  refine (px_go (by decide +kernel : pm_fe 236 32 = some (.iconst 0, 1)) rfl).trans ?_
  refine (px_go (by decide +kernel : pm_fe 236 33 = some (.aload_n 0, 1)) rfl).trans ?_
  refine (px_go (by decide +kernel : pm_fe 236 34 = some (.aload_n 0, 1)) rfl).trans ?_
  refine (px_get0 (idx := 198) (ci := 12) (k := 61) (by decide +kernel)).trans ((and_iff_right h1).trans ?_)
  refine (px_v1 (idx := 442) (m' := 234) (ci := 12) (by decide +kernel)).trans ((and_iff_right ⟨h1, (by simp [pm_wl_n, pm_wl_c, pm_w] : pm_wl [.inl 0, .inr (.inr (.inl l0))] ≤ 8)⟩).trans ?_)
  exact Iff.rfl
theorem b236_41 {d : Nat} {G : PG} {M T : PH} {K : PV → PS → Prop} {l0 s0 s1 s2 : Int} (h1 : pm_ob G s2 12) : pm_Run d 236 41 [.inr (.inr (.inl l0))] [.inl s0, .inl s1, .inr (.inr (.inl s2))] (G, M, T) K ↔ pm_Call d 232 [.inr (.inr (.inl s2)), .inl s1, .inl s0] (G, M, T) (fun r S1 => pm_Run d 236 44 [.inr (.inr (.inl l0))] (pm_push r []) S1 K) := by
  refine (px_v2 (idx := 445) (m' := 232) (ci := 12) (by decide +kernel)).trans ((and_iff_right ⟨h1, (by simp [pm_wl_n, pm_wl_c, pm_w] : pm_wl [] ≤ 8)⟩).trans ?_)
  exact Iff.rfl
theorem b236_44 {d : Nat} {G : PG} {M T : PH} {K : PV → PS → Prop} {l0 : Int} : pm_Run d 236 44 [.inr (.inr (.inl l0))] [] (G, M, T) K ↔ K (.inl 1) (G, M, T) := by
  refine (px_go (by decide +kernel : pm_fe 236 44 = some (.iconst 1, 1)) rfl).trans ?_
  refine (px_rz (by decide +kernel)).trans ((and_iff_right (by decide : (1 : Int) = (0 : Int) ∨ (1 : Int) = (1 : Int))).trans ?_)
  exact Iff.rfl
-- X12_bidTo bidTo(II)I
theorem en237 {d : Nat} {a p0 p1 : Int} {S : PS} {K : PV → PS → Prop} : pm_Call (d + 1) 237 [.inr (.inr (.inl a)), .inl p0, .inl p1] S K ↔ pm_Run d 237 0 [.inr (.inr (.inl a)), .inl p0, .inl p1, PU, PU] [] S K := pm_Call_s.trans (and_iff_right (show 3 ≤ pm_ml 237 from by decide +kernel))
theorem b237_0 {d : Nat} {G : PG} {M T : PH} {K : PV → PS → Prop} {l0 l1 l2 : Int} : pm_Run d 237 0 [.inr (.inr (.inl l0)), .inl l1, .inl l2, PU, PU] [] (G, M, T) K ↔ pm_Run d 237 5 [.inr (.inr (.inl l0)), .inl l1, .inl l2, .inl 0, .inl 0] [] (G, M, T) K := by
  refine (px_go (by decide +kernel : pm_fe 237 0 = some (.iconst 0, 1)) rfl).trans ?_
  refine (px_go (by decide +kernel : pm_fe 237 1 = some (.istore_n 3, 1)) rfl).trans ?_
  refine (px_go (by decide +kernel : pm_fe 237 2 = some (.iconst 0, 1)) rfl).trans ?_
  refine (px_go (by decide +kernel : pm_fe 237 3 = some (.istore 4, 2)) rfl).trans ?_
  exact Iff.rfl
theorem b237_5 {d : Nat} {G : PG} {M T : PH} {K : PV → PS → Prop} {l0 l1 l2 l3 l4 : Int} (h1 : pm_ob G l0 12) (h2 : pm_ar G (T l0.toNat 19) 100 (M l0.toNat 13)) : pm_Run d 237 5 [.inr (.inr (.inl l0)), .inl l1, .inl l2, .inl l3, .inl l4] [] (G, M, T) K ↔ if pm_sg (M (T l0.toNat 19).toNat (pm_sg (M l0.toNat 13)).toNat) ≤ pm_sg l4 then pm_Run d 237 44 [.inr (.inr (.inl l0)), .inl l1, .inl l2, .inl l3, .inl l4] [] (G, M, T) K else pm_Run d 237 19 [.inr (.inr (.inl l0)), .inl l1, .inl l2, .inl l3, .inl l4] [] (G, M, T) K := by
  refine (px_go (by decide +kernel : pm_fe 237 5 = some (.iload 4, 2)) rfl).trans ?_
  refine (px_go (by decide +kernel : pm_fe 237 7 = some (.aload_n 0, 1)) rfl).trans ?_
  refine (px_get2 (idx := 69) (ci := 12) (k := 19) (by decide +kernel)).trans ((and_iff_right h1).trans ?_)
  refine (px_go (by decide +kernel : pm_fe 237 11 = some (.aload_n 0, 1)) rfl).trans ?_
  refine (px_get0 (idx := 51) (ci := 12) (k := 13) (by decide +kernel)).trans ((and_iff_right h1).trans ?_)
  refine (px_iaload (by decide +kernel) h2).trans ?_
  refine (px_ic_ge (off := 28) (tgt := 44) (by decide +kernel)).trans ?_
  exact Iff.rfl
theorem b237_19 {d : Nat} {G : PG} {M T : PH} {K : PV → PS → Prop} {l0 l1 l2 l3 l4 : Int} (h1 : pm_ob G l0 12) (h2 : pm_ar G (T l0.toNat 58) 100 (((24 * l1) + (3 * l4)) + l2)) : pm_Run d 237 19 [.inr (.inr (.inl l0)), .inl l1, .inl l2, .inl l3, .inl l4] [] (G, M, T) K ↔ pm_Run d 237 5 [.inr (.inr (.inl l0)), .inl l1, .inl l2, .inl (l3 + (M (T l0.toNat 58).toNat (pm_sg (((24 * l1) + (3 * l4)) + l2)).toNat)), .inl (l4 + 1)] [] (G, M, T) K := by
  refine (px_go (by decide +kernel : pm_fe 237 19 = some (.iload_n 3, 1)) rfl).trans ?_
  refine (px_go (by decide +kernel : pm_fe 237 20 = some (.aload_n 0, 1)) rfl).trans ?_
  refine (px_get2 (idx := 189) (ci := 12) (k := 58) (by decide +kernel)).trans ((and_iff_right h1).trans ?_)
  refine (px_go (by decide +kernel : pm_fe 237 24 = some (.bipush 24, 2)) rfl).trans ?_
  refine (px_go (by decide +kernel : pm_fe 237 26 = some (.iload_n 1, 1)) rfl).trans ?_
  refine (px_go (by decide +kernel : pm_fe 237 27 = some (.imul, 1)) rfl).trans ?_
  refine (px_go (by decide +kernel : pm_fe 237 28 = some (.iconst 3, 1)) rfl).trans ?_
  refine (px_go (by decide +kernel : pm_fe 237 29 = some (.iload 4, 2)) rfl).trans ?_
  refine (px_go (by decide +kernel : pm_fe 237 31 = some (.imul, 1)) rfl).trans ?_
  refine (px_go (by decide +kernel : pm_fe 237 32 = some (.iadd, 1)) rfl).trans ?_
  refine (px_go (by decide +kernel : pm_fe 237 33 = some (.iload_n 2, 1)) rfl).trans ?_
  refine (px_go (by decide +kernel : pm_fe 237 34 = some (.iadd, 1)) rfl).trans ?_
  refine (px_iaload (by decide +kernel) h2).trans ?_
  refine (px_go (by decide +kernel : pm_fe 237 36 = some (.iadd, 1)) rfl).trans ?_
  refine (px_go (by decide +kernel : pm_fe 237 37 = some (.istore_n 3, 1)) rfl).trans ?_
  refine (px_go (by decide +kernel : pm_fe 237 38 = some (.iinc 4 1, 3)) rfl).trans ?_
  refine (px_goto (off := (-36)) (tgt := 5) (by decide +kernel)).trans ?_
  exact Iff.rfl
theorem b237_44 {d : Nat} {G : PG} {M T : PH} {K : PV → PS → Prop} {l0 l1 l2 l3 l4 : Int} : pm_Run d 237 44 [.inr (.inr (.inl l0)), .inl l1, .inl l2, .inl l3, .inl l4] [] (G, M, T) K ↔ K (.inl l3) (G, M, T) := by
  refine (px_go (by decide +kernel : pm_fe 237 44 = some (.iload_n 3, 1)) rfl).trans ?_
  refine (px_ri (by decide +kernel)).trans ?_
  exact Iff.rfl
-- X12_dueTo dueTo(II)I
theorem en238 {d : Nat} {a p0 p1 : Int} {S : PS} {K : PV → PS → Prop} : pm_Call (d + 1) 238 [.inr (.inr (.inl a)), .inl p0, .inl p1] S K ↔ pm_Run d 238 0 [.inr (.inr (.inl a)), .inl p0, .inl p1, PU, PU] [] S K := pm_Call_s.trans (and_iff_right (show 3 ≤ pm_ml 238 from by decide +kernel))
theorem b238_0 {d : Nat} {G : PG} {M T : PH} {K : PV → PS → Prop} {l0 l1 l2 : Int} : pm_Run d 238 0 [.inr (.inr (.inl l0)), .inl l1, .inl l2, PU, PU] [] (G, M, T) K ↔ pm_Run d 238 5 [.inr (.inr (.inl l0)), .inl l1, .inl l2, .inl 0, .inl 0] [] (G, M, T) K := by
  refine (px_go (by decide +kernel : pm_fe 238 0 = some (.iconst 0, 1)) rfl).trans ?_
  refine (px_go (by decide +kernel : pm_fe 238 1 = some (.istore_n 3, 1)) rfl).trans ?_
  refine (px_go (by decide +kernel : pm_fe 238 2 = some (.iconst 0, 1)) rfl).trans ?_
  refine (px_go (by decide +kernel : pm_fe 238 3 = some (.istore 4, 2)) rfl).trans ?_
  exact Iff.rfl
theorem b238_5 {d : Nat} {G : PG} {M T : PH} {K : PV → PS → Prop} {l0 l1 l2 l3 l4 : Int} (h1 : pm_ob G l0 12) (h2 : pm_ar G (T l0.toNat 19) 100 (M l0.toNat 13)) : pm_Run d 238 5 [.inr (.inr (.inl l0)), .inl l1, .inl l2, .inl l3, .inl l4] [] (G, M, T) K ↔ if pm_sg (M (T l0.toNat 19).toNat (pm_sg (M l0.toNat 13)).toNat) ≤ pm_sg l4 then pm_Run d 238 44 [.inr (.inr (.inl l0)), .inl l1, .inl l2, .inl l3, .inl l4] [] (G, M, T) K else pm_Run d 238 19 [.inr (.inr (.inl l0)), .inl l1, .inl l2, .inl l3, .inl l4] [] (G, M, T) K := by
  refine (px_go (by decide +kernel : pm_fe 238 5 = some (.iload 4, 2)) rfl).trans ?_
  refine (px_go (by decide +kernel : pm_fe 238 7 = some (.aload_n 0, 1)) rfl).trans ?_
  refine (px_get2 (idx := 69) (ci := 12) (k := 19) (by decide +kernel)).trans ((and_iff_right h1).trans ?_)
  refine (px_go (by decide +kernel : pm_fe 238 11 = some (.aload_n 0, 1)) rfl).trans ?_
  refine (px_get0 (idx := 51) (ci := 12) (k := 13) (by decide +kernel)).trans ((and_iff_right h1).trans ?_)
  refine (px_iaload (by decide +kernel) h2).trans ?_
  refine (px_ic_ge (off := 28) (tgt := 44) (by decide +kernel)).trans ?_
  exact Iff.rfl
theorem b238_19 {d : Nat} {G : PG} {M T : PH} {K : PV → PS → Prop} {l0 l1 l2 l3 l4 : Int} (h1 : pm_ob G l0 12) (h2 : pm_ar G (T l0.toNat 59) 100 (((24 * l1) + (3 * l4)) + l2)) : pm_Run d 238 19 [.inr (.inr (.inl l0)), .inl l1, .inl l2, .inl l3, .inl l4] [] (G, M, T) K ↔ pm_Run d 238 5 [.inr (.inr (.inl l0)), .inl l1, .inl l2, .inl (l3 + (M (T l0.toNat 59).toNat (pm_sg (((24 * l1) + (3 * l4)) + l2)).toNat)), .inl (l4 + 1)] [] (G, M, T) K := by
  refine (px_go (by decide +kernel : pm_fe 238 19 = some (.iload_n 3, 1)) rfl).trans ?_
  refine (px_go (by decide +kernel : pm_fe 238 20 = some (.aload_n 0, 1)) rfl).trans ?_
  refine (px_get2 (idx := 192) (ci := 12) (k := 59) (by decide +kernel)).trans ((and_iff_right h1).trans ?_)
  refine (px_go (by decide +kernel : pm_fe 238 24 = some (.bipush 24, 2)) rfl).trans ?_
  refine (px_go (by decide +kernel : pm_fe 238 26 = some (.iload_n 1, 1)) rfl).trans ?_
  refine (px_go (by decide +kernel : pm_fe 238 27 = some (.imul, 1)) rfl).trans ?_
  refine (px_go (by decide +kernel : pm_fe 238 28 = some (.iconst 3, 1)) rfl).trans ?_
  refine (px_go (by decide +kernel : pm_fe 238 29 = some (.iload 4, 2)) rfl).trans ?_
  refine (px_go (by decide +kernel : pm_fe 238 31 = some (.imul, 1)) rfl).trans ?_
  refine (px_go (by decide +kernel : pm_fe 238 32 = some (.iadd, 1)) rfl).trans ?_
  refine (px_go (by decide +kernel : pm_fe 238 33 = some (.iload_n 2, 1)) rfl).trans ?_
  refine (px_go (by decide +kernel : pm_fe 238 34 = some (.iadd, 1)) rfl).trans ?_
  refine (px_iaload (by decide +kernel) h2).trans ?_
  refine (px_go (by decide +kernel : pm_fe 238 36 = some (.iadd, 1)) rfl).trans ?_
  refine (px_go (by decide +kernel : pm_fe 238 37 = some (.istore_n 3, 1)) rfl).trans ?_
  refine (px_go (by decide +kernel : pm_fe 238 38 = some (.iinc 4 1, 3)) rfl).trans ?_
  refine (px_goto (off := (-36)) (tgt := 5) (by decide +kernel)).trans ?_
  exact Iff.rfl
theorem b238_44 {d : Nat} {G : PG} {M T : PH} {K : PV → PS → Prop} {l0 l1 l2 l3 l4 : Int} : pm_Run d 238 44 [.inr (.inr (.inl l0)), .inl l1, .inl l2, .inl l3, .inl l4] [] (G, M, T) K ↔ K (.inl l3) (G, M, T) := by
  refine (px_go (by decide +kernel : pm_fe 238 44 = some (.iload_n 3, 1)) rfl).trans ?_
  refine (px_ri (by decide +kernel)).trans ?_
  exact Iff.rfl
-- X12_bidBy bidBy(II)I
theorem en239 {d : Nat} {a p0 p1 : Int} {S : PS} {K : PV → PS → Prop} : pm_Call (d + 1) 239 [.inr (.inr (.inl a)), .inl p0, .inl p1] S K ↔ pm_Run d 239 0 [.inr (.inr (.inl a)), .inl p0, .inl p1, PU, PU] [] S K := pm_Call_s.trans (and_iff_right (show 3 ≤ pm_ml 239 from by decide +kernel))
theorem b239_0 {d : Nat} {G : PG} {M T : PH} {K : PV → PS → Prop} {l0 l1 l2 : Int} : pm_Run d 239 0 [.inr (.inr (.inl l0)), .inl l1, .inl l2, PU, PU] [] (G, M, T) K ↔ pm_Run d 239 5 [.inr (.inr (.inl l0)), .inl l1, .inl l2, .inl 0, .inl 0] [] (G, M, T) K := by
  refine (px_go (by decide +kernel : pm_fe 239 0 = some (.iconst 0, 1)) rfl).trans ?_
  refine (px_go (by decide +kernel : pm_fe 239 1 = some (.istore_n 3, 1)) rfl).trans ?_
  refine (px_go (by decide +kernel : pm_fe 239 2 = some (.iconst 0, 1)) rfl).trans ?_
  refine (px_go (by decide +kernel : pm_fe 239 3 = some (.istore 4, 2)) rfl).trans ?_
  exact Iff.rfl
theorem b239_5 {d : Nat} {G : PG} {M T : PH} {K : PV → PS → Prop} {l0 l1 l2 l3 l4 : Int} (h1 : pm_ob G l0 12) (h2 : pm_ar G (T l0.toNat 15) 100 (M l0.toNat 13)) : pm_Run d 239 5 [.inr (.inr (.inl l0)), .inl l1, .inl l2, .inl l3, .inl l4] [] (G, M, T) K ↔ if pm_sg (M (T l0.toNat 15).toNat (pm_sg (M l0.toNat 13)).toNat) ≤ pm_sg l4 then pm_Run d 239 44 [.inr (.inr (.inl l0)), .inl l1, .inl l2, .inl l3, .inl l4] [] (G, M, T) K else pm_Run d 239 19 [.inr (.inr (.inl l0)), .inl l1, .inl l2, .inl l3, .inl l4] [] (G, M, T) K := by
  refine (px_go (by decide +kernel : pm_fe 239 5 = some (.iload 4, 2)) rfl).trans ?_
  refine (px_go (by decide +kernel : pm_fe 239 7 = some (.aload_n 0, 1)) rfl).trans ?_
  refine (px_get2 (idx := 57) (ci := 12) (k := 15) (by decide +kernel)).trans ((and_iff_right h1).trans ?_)
  refine (px_go (by decide +kernel : pm_fe 239 11 = some (.aload_n 0, 1)) rfl).trans ?_
  refine (px_get0 (idx := 51) (ci := 12) (k := 13) (by decide +kernel)).trans ((and_iff_right h1).trans ?_)
  refine (px_iaload (by decide +kernel) h2).trans ?_
  refine (px_ic_ge (off := 28) (tgt := 44) (by decide +kernel)).trans ?_
  exact Iff.rfl
theorem b239_19 {d : Nat} {G : PG} {M T : PH} {K : PV → PS → Prop} {l0 l1 l2 l3 l4 : Int} (h1 : pm_ob G l0 12) (h2 : pm_ar G (T l0.toNat 58) 100 (((24 * l1) + (3 * l2)) + l4)) : pm_Run d 239 19 [.inr (.inr (.inl l0)), .inl l1, .inl l2, .inl l3, .inl l4] [] (G, M, T) K ↔ pm_Run d 239 5 [.inr (.inr (.inl l0)), .inl l1, .inl l2, .inl (l3 + (M (T l0.toNat 58).toNat (pm_sg (((24 * l1) + (3 * l2)) + l4)).toNat)), .inl (l4 + 1)] [] (G, M, T) K := by
  refine (px_go (by decide +kernel : pm_fe 239 19 = some (.iload_n 3, 1)) rfl).trans ?_
  refine (px_go (by decide +kernel : pm_fe 239 20 = some (.aload_n 0, 1)) rfl).trans ?_
  refine (px_get2 (idx := 189) (ci := 12) (k := 58) (by decide +kernel)).trans ((and_iff_right h1).trans ?_)
  refine (px_go (by decide +kernel : pm_fe 239 24 = some (.bipush 24, 2)) rfl).trans ?_
  refine (px_go (by decide +kernel : pm_fe 239 26 = some (.iload_n 1, 1)) rfl).trans ?_
  refine (px_go (by decide +kernel : pm_fe 239 27 = some (.imul, 1)) rfl).trans ?_
  refine (px_go (by decide +kernel : pm_fe 239 28 = some (.iconst 3, 1)) rfl).trans ?_
  refine (px_go (by decide +kernel : pm_fe 239 29 = some (.iload_n 2, 1)) rfl).trans ?_
  refine (px_go (by decide +kernel : pm_fe 239 30 = some (.imul, 1)) rfl).trans ?_
  refine (px_go (by decide +kernel : pm_fe 239 31 = some (.iadd, 1)) rfl).trans ?_
  refine (px_go (by decide +kernel : pm_fe 239 32 = some (.iload 4, 2)) rfl).trans ?_
  refine (px_go (by decide +kernel : pm_fe 239 34 = some (.iadd, 1)) rfl).trans ?_
  refine (px_iaload (by decide +kernel) h2).trans ?_
  refine (px_go (by decide +kernel : pm_fe 239 36 = some (.iadd, 1)) rfl).trans ?_
  refine (px_go (by decide +kernel : pm_fe 239 37 = some (.istore_n 3, 1)) rfl).trans ?_
  refine (px_go (by decide +kernel : pm_fe 239 38 = some (.iinc 4 1, 3)) rfl).trans ?_
  refine (px_goto (off := (-36)) (tgt := 5) (by decide +kernel)).trans ?_
  exact Iff.rfl
theorem b239_44 {d : Nat} {G : PG} {M T : PH} {K : PV → PS → Prop} {l0 l1 l2 l3 l4 : Int} : pm_Run d 239 44 [.inr (.inr (.inl l0)), .inl l1, .inl l2, .inl l3, .inl l4] [] (G, M, T) K ↔ K (.inl l3) (G, M, T) := by
  refine (px_go (by decide +kernel : pm_fe 239 44 = some (.iload_n 3, 1)) rfl).trans ?_
  refine (px_ri (by decide +kernel)).trans ?_
  exact Iff.rfl
-- X12_dueBy dueBy(II)I
theorem en240 {d : Nat} {a p0 p1 : Int} {S : PS} {K : PV → PS → Prop} : pm_Call (d + 1) 240 [.inr (.inr (.inl a)), .inl p0, .inl p1] S K ↔ pm_Run d 240 0 [.inr (.inr (.inl a)), .inl p0, .inl p1, PU, PU] [] S K := pm_Call_s.trans (and_iff_right (show 3 ≤ pm_ml 240 from by decide +kernel))
theorem b240_0 {d : Nat} {G : PG} {M T : PH} {K : PV → PS → Prop} {l0 l1 l2 : Int} : pm_Run d 240 0 [.inr (.inr (.inl l0)), .inl l1, .inl l2, PU, PU] [] (G, M, T) K ↔ pm_Run d 240 5 [.inr (.inr (.inl l0)), .inl l1, .inl l2, .inl 0, .inl 0] [] (G, M, T) K := by
  refine (px_go (by decide +kernel : pm_fe 240 0 = some (.iconst 0, 1)) rfl).trans ?_
  refine (px_go (by decide +kernel : pm_fe 240 1 = some (.istore_n 3, 1)) rfl).trans ?_
  refine (px_go (by decide +kernel : pm_fe 240 2 = some (.iconst 0, 1)) rfl).trans ?_
  refine (px_go (by decide +kernel : pm_fe 240 3 = some (.istore 4, 2)) rfl).trans ?_
  exact Iff.rfl
theorem b240_5 {d : Nat} {G : PG} {M T : PH} {K : PV → PS → Prop} {l0 l1 l2 l3 l4 : Int} (h1 : pm_ob G l0 12) (h2 : pm_ar G (T l0.toNat 15) 100 (M l0.toNat 13)) : pm_Run d 240 5 [.inr (.inr (.inl l0)), .inl l1, .inl l2, .inl l3, .inl l4] [] (G, M, T) K ↔ if pm_sg (M (T l0.toNat 15).toNat (pm_sg (M l0.toNat 13)).toNat) ≤ pm_sg l4 then pm_Run d 240 44 [.inr (.inr (.inl l0)), .inl l1, .inl l2, .inl l3, .inl l4] [] (G, M, T) K else pm_Run d 240 19 [.inr (.inr (.inl l0)), .inl l1, .inl l2, .inl l3, .inl l4] [] (G, M, T) K := by
  refine (px_go (by decide +kernel : pm_fe 240 5 = some (.iload 4, 2)) rfl).trans ?_
  refine (px_go (by decide +kernel : pm_fe 240 7 = some (.aload_n 0, 1)) rfl).trans ?_
  refine (px_get2 (idx := 57) (ci := 12) (k := 15) (by decide +kernel)).trans ((and_iff_right h1).trans ?_)
  refine (px_go (by decide +kernel : pm_fe 240 11 = some (.aload_n 0, 1)) rfl).trans ?_
  refine (px_get0 (idx := 51) (ci := 12) (k := 13) (by decide +kernel)).trans ((and_iff_right h1).trans ?_)
  refine (px_iaload (by decide +kernel) h2).trans ?_
  refine (px_ic_ge (off := 28) (tgt := 44) (by decide +kernel)).trans ?_
  exact Iff.rfl
theorem b240_19 {d : Nat} {G : PG} {M T : PH} {K : PV → PS → Prop} {l0 l1 l2 l3 l4 : Int} (h1 : pm_ob G l0 12) (h2 : pm_ar G (T l0.toNat 59) 100 (((24 * l1) + (3 * l2)) + l4)) : pm_Run d 240 19 [.inr (.inr (.inl l0)), .inl l1, .inl l2, .inl l3, .inl l4] [] (G, M, T) K ↔ pm_Run d 240 5 [.inr (.inr (.inl l0)), .inl l1, .inl l2, .inl (l3 + (M (T l0.toNat 59).toNat (pm_sg (((24 * l1) + (3 * l2)) + l4)).toNat)), .inl (l4 + 1)] [] (G, M, T) K := by
  refine (px_go (by decide +kernel : pm_fe 240 19 = some (.iload_n 3, 1)) rfl).trans ?_
  refine (px_go (by decide +kernel : pm_fe 240 20 = some (.aload_n 0, 1)) rfl).trans ?_
  refine (px_get2 (idx := 192) (ci := 12) (k := 59) (by decide +kernel)).trans ((and_iff_right h1).trans ?_)
  refine (px_go (by decide +kernel : pm_fe 240 24 = some (.bipush 24, 2)) rfl).trans ?_
  refine (px_go (by decide +kernel : pm_fe 240 26 = some (.iload_n 1, 1)) rfl).trans ?_
  refine (px_go (by decide +kernel : pm_fe 240 27 = some (.imul, 1)) rfl).trans ?_
  refine (px_go (by decide +kernel : pm_fe 240 28 = some (.iconst 3, 1)) rfl).trans ?_
  refine (px_go (by decide +kernel : pm_fe 240 29 = some (.iload_n 2, 1)) rfl).trans ?_
  refine (px_go (by decide +kernel : pm_fe 240 30 = some (.imul, 1)) rfl).trans ?_
  refine (px_go (by decide +kernel : pm_fe 240 31 = some (.iadd, 1)) rfl).trans ?_
  refine (px_go (by decide +kernel : pm_fe 240 32 = some (.iload 4, 2)) rfl).trans ?_
  refine (px_go (by decide +kernel : pm_fe 240 34 = some (.iadd, 1)) rfl).trans ?_
  refine (px_iaload (by decide +kernel) h2).trans ?_
  refine (px_go (by decide +kernel : pm_fe 240 36 = some (.iadd, 1)) rfl).trans ?_
  refine (px_go (by decide +kernel : pm_fe 240 37 = some (.istore_n 3, 1)) rfl).trans ?_
  refine (px_go (by decide +kernel : pm_fe 240 38 = some (.iinc 4 1, 3)) rfl).trans ?_
  refine (px_goto (off := (-36)) (tgt := 5) (by decide +kernel)).trans ?_
  exact Iff.rfl
theorem b240_44 {d : Nat} {G : PG} {M T : PH} {K : PV → PS → Prop} {l0 l1 l2 l3 l4 : Int} : pm_Run d 240 44 [.inr (.inr (.inl l0)), .inl l1, .inl l2, .inl l3, .inl l4] [] (G, M, T) K ↔ K (.inl l3) (G, M, T) := by
  refine (px_go (by decide +kernel : pm_fe 240 44 = some (.iload_n 3, 1)) rfl).trans ?_
  refine (px_ri (by decide +kernel)).trans ?_
  exact Iff.rfl
-- X12_rivalOf rivalOf(II)I
theorem en241 {d : Nat} {a p0 p1 : Int} {S : PS} {K : PV → PS → Prop} : pm_Call (d + 1) 241 [.inr (.inr (.inl a)), .inl p0, .inl p1] S K ↔ pm_Run d 241 0 [.inr (.inr (.inl a)), .inl p0, .inl p1, PU, PU] [] S K := pm_Call_s.trans (and_iff_right (show 3 ≤ pm_ml 241 from by decide +kernel))
theorem b241_0 {d : Nat} {G : PG} {M T : PH} {K : PV → PS → Prop} {l0 l1 l2 : Int} : pm_Run d 241 0 [.inr (.inr (.inl l0)), .inl l1, .inl l2, PU, PU] [] (G, M, T) K ↔ pm_Run d 241 5 [.inr (.inr (.inl l0)), .inl l1, .inl l2, .inl 0, .inl 0] [] (G, M, T) K := by
  refine (px_go (by decide +kernel : pm_fe 241 0 = some (.iconst 0, 1)) rfl).trans ?_
  refine (px_go (by decide +kernel : pm_fe 241 1 = some (.istore_n 3, 1)) rfl).trans ?_
  refine (px_go (by decide +kernel : pm_fe 241 2 = some (.iconst 0, 1)) rfl).trans ?_
  refine (px_go (by decide +kernel : pm_fe 241 3 = some (.istore 4, 2)) rfl).trans ?_
  exact Iff.rfl
theorem b241_5 {d : Nat} {G : PG} {M T : PH} {K : PV → PS → Prop} {l0 l1 l2 l3 l4 : Int} (h1 : pm_ob G l0 12) (h2 : pm_ar G (T l0.toNat 15) 100 (M l0.toNat 13)) : pm_Run d 241 5 [.inr (.inr (.inl l0)), .inl l1, .inl l2, .inl l3, .inl l4] [] (G, M, T) K ↔ if pm_sg (M (T l0.toNat 15).toNat (pm_sg (M l0.toNat 13)).toNat) ≤ pm_sg l4 then pm_Run d 241 45 [.inr (.inr (.inl l0)), .inl l1, .inl l2, .inl l3, .inl l4] [] (G, M, T) K else pm_Run d 241 19 [.inr (.inr (.inl l0)), .inl l1, .inl l2, .inl l3, .inl l4] [] (G, M, T) K := by
  refine (px_go (by decide +kernel : pm_fe 241 5 = some (.iload 4, 2)) rfl).trans ?_
  refine (px_go (by decide +kernel : pm_fe 241 7 = some (.aload_n 0, 1)) rfl).trans ?_
  refine (px_get2 (idx := 57) (ci := 12) (k := 15) (by decide +kernel)).trans ((and_iff_right h1).trans ?_)
  refine (px_go (by decide +kernel : pm_fe 241 11 = some (.aload_n 0, 1)) rfl).trans ?_
  refine (px_get0 (idx := 51) (ci := 12) (k := 13) (by decide +kernel)).trans ((and_iff_right h1).trans ?_)
  refine (px_iaload (by decide +kernel) h2).trans ?_
  refine (px_ic_ge (off := 29) (tgt := 45) (by decide +kernel)).trans ?_
  exact Iff.rfl
theorem b241_19 {d : Nat} {G : PG} {M T : PH} {K : PV → PS → Prop} {l0 l1 l2 l3 l4 : Int} : pm_Run d 241 19 [.inr (.inr (.inl l0)), .inl l1, .inl l2, .inl l3, .inl l4] [] (G, M, T) K ↔ if pm_sg l4 ≠ pm_sg l2 then pm_Run d 241 30 [.inr (.inr (.inl l0)), .inl l1, .inl l2, .inl l3, .inl l4] [.inl l3] (G, M, T) K else pm_Run d 241 26 [.inr (.inr (.inl l0)), .inl l1, .inl l2, .inl l3, .inl l4] [.inl l3] (G, M, T) K := by
  refine (px_go (by decide +kernel : pm_fe 241 19 = some (.iload_n 3, 1)) rfl).trans ?_
  refine (px_go (by decide +kernel : pm_fe 241 20 = some (.iload 4, 2)) rfl).trans ?_
  refine (px_go (by decide +kernel : pm_fe 241 22 = some (.iload_n 2, 1)) rfl).trans ?_
  refine (px_ic_ne (off := 7) (tgt := 30) (by decide +kernel)).trans ?_
  exact Iff.rfl
theorem b241_26 {d : Nat} {G : PG} {M T : PH} {K : PV → PS → Prop} {l0 l1 l2 l3 l4 s0 : Int} : pm_Run d 241 26 [.inr (.inr (.inl l0)), .inl l1, .inl l2, .inl l3, .inl l4] [.inl s0] (G, M, T) K ↔ pm_Run d 241 37 [.inr (.inr (.inl l0)), .inl l1, .inl l2, .inl l3, .inl l4] [.inl 0, .inl s0] (G, M, T) K := by
  refine (px_go (by decide +kernel : pm_fe 241 26 = some (.iconst 0, 1)) rfl).trans ?_
  refine (px_goto (off := 10) (tgt := 37) (by decide +kernel)).trans ?_
  exact Iff.rfl
theorem b241_30 {d : Nat} {G : PG} {M T : PH} {K : PV → PS → Prop} {l0 l1 l2 l3 l4 s0 : Int} (h1 : pm_ob G l0 12) : pm_Run d 241 30 [.inr (.inr (.inl l0)), .inl l1, .inl l2, .inl l3, .inl l4] [.inl s0] (G, M, T) K ↔ pm_Call d 237 [.inr (.inr (.inl l0)), .inl l1, .inl l4] (G, M, T) (fun r S1 => pm_Run d 241 37 [.inr (.inr (.inl l0)), .inl l1, .inl l2, .inl l3, .inl l4] (pm_push r [.inl s0]) S1 K) := by
  refine (px_go (by decide +kernel : pm_fe 241 30 = some (.aload_n 0, 1)) rfl).trans ?_
  refine (px_go (by decide +kernel : pm_fe 241 31 = some (.iload_n 1, 1)) rfl).trans ?_
  refine (px_go (by decide +kernel : pm_fe 241 32 = some (.iload 4, 2)) rfl).trans ?_
  refine (px_v2 (idx := 448) (m' := 237) (ci := 12) (by decide +kernel)).trans ((and_iff_right ⟨h1, (by simp [pm_wl_n, pm_wl_c, pm_w] : pm_wl [.inl s0] ≤ 8)⟩).trans ?_)
  exact Iff.rfl
theorem b241_37 {d : Nat} {G : PG} {M T : PH} {K : PV → PS → Prop} {l0 l1 l2 l3 l4 s0 s1 : Int} : pm_Run d 241 37 [.inr (.inr (.inl l0)), .inl l1, .inl l2, .inl l3, .inl l4] [.inl s0, .inl s1] (G, M, T) K ↔ pm_Run d 241 5 [.inr (.inr (.inl l0)), .inl l1, .inl l2, .inl (s1 + s0), .inl (l4 + 1)] [] (G, M, T) K := by
  refine (px_go (by decide +kernel : pm_fe 241 37 = some (.iadd, 1)) rfl).trans ?_
  refine (px_go (by decide +kernel : pm_fe 241 38 = some (.istore_n 3, 1)) rfl).trans ?_
  refine (px_go (by decide +kernel : pm_fe 241 39 = some (.iinc 4 1, 3)) rfl).trans ?_
  refine (px_goto (off := (-37)) (tgt := 5) (by decide +kernel)).trans ?_
  exact Iff.rfl
theorem b241_45 {d : Nat} {G : PG} {M T : PH} {K : PV → PS → Prop} {l0 l1 l2 l3 l4 : Int} : pm_Run d 241 45 [.inr (.inr (.inl l0)), .inl l1, .inl l2, .inl l3, .inl l4] [] (G, M, T) K ↔ K (.inl l3) (G, M, T) := by
  refine (px_go (by decide +kernel : pm_fe 241 45 = some (.iload_n 3, 1)) rfl).trans ?_
  refine (px_ri (by decide +kernel)).trans ?_
  exact Iff.rfl
-- X12_farFrom farFrom(II)I
theorem en242 {d : Nat} {a p0 p1 : Int} {S : PS} {K : PV → PS → Prop} : pm_Call (d + 1) 242 [.inr (.inr (.inl a)), .inl p0, .inl p1] S K ↔ pm_Run d 242 0 [.inr (.inr (.inl a)), .inl p0, .inl p1, PU] [] S K := pm_Call_s.trans (and_iff_right (show 3 ≤ pm_ml 242 from by decide +kernel))
theorem b242_0 {d : Nat} {G : PG} {M T : PH} {K : PV → PS → Prop} {l0 l1 l2 : Int} : pm_Run d 242 0 [.inr (.inr (.inl l0)), .inl l1, .inl l2, PU] [] (G, M, T) K ↔ if pm_sg l2 ≤ pm_sg l1 then pm_Run d 242 11 [.inr (.inr (.inl l0)), .inl l1, .inl l2, PU] [] (G, M, T) K else pm_Run d 242 5 [.inr (.inr (.inl l0)), .inl l1, .inl l2, PU] [] (G, M, T) K := by
  refine (px_go (by decide +kernel : pm_fe 242 0 = some (.iload_n 1, 1)) rfl).trans ?_
  refine (px_go (by decide +kernel : pm_fe 242 1 = some (.iload_n 2, 1)) rfl).trans ?_
  refine (px_ic_ge (off := 9) (tgt := 11) (by decide +kernel)).trans ?_
  exact Iff.rfl
theorem b242_5 {d : Nat} {G : PG} {M T : PH} {K : PV → PS → Prop} {l0 l1 l2 : Int} : pm_Run d 242 5 [.inr (.inr (.inl l0)), .inl l1, .inl l2, PU] [] (G, M, T) K ↔ pm_Run d 242 14 [.inr (.inr (.inl l0)), .inl l1, .inl l2, PU] [.inl (l2 - l1)] (G, M, T) K := by
  refine (px_go (by decide +kernel : pm_fe 242 5 = some (.iload_n 2, 1)) rfl).trans ?_
  refine (px_go (by decide +kernel : pm_fe 242 6 = some (.iload_n 1, 1)) rfl).trans ?_
  refine (px_go (by decide +kernel : pm_fe 242 7 = some (.isub, 1)) rfl).trans ?_
  refine (px_goto (off := 6) (tgt := 14) (by decide +kernel)).trans ?_
  exact Iff.rfl
theorem b242_11 {d : Nat} {G : PG} {M T : PH} {K : PV → PS → Prop} {l0 l1 l2 : Int} : pm_Run d 242 11 [.inr (.inr (.inl l0)), .inl l1, .inl l2, PU] [] (G, M, T) K ↔ pm_Run d 242 14 [.inr (.inr (.inl l0)), .inl l1, .inl l2, PU] [.inl (l1 - l2)] (G, M, T) K := by
  refine (px_go (by decide +kernel : pm_fe 242 11 = some (.iload_n 1, 1)) rfl).trans ?_
  refine (px_go (by decide +kernel : pm_fe 242 12 = some (.iload_n 2, 1)) rfl).trans ?_
  refine (px_go (by decide +kernel : pm_fe 242 13 = some (.isub, 1)) rfl).trans ?_
  exact Iff.rfl
theorem b242_14 {d : Nat} {G : PG} {M T : PH} {K : PV → PS → Prop} {l0 l1 l2 s0 : Int} (h1 : pm_ob G l0 12) (h2 : pm_ar G (T l0.toNat 14) 100 (M l0.toNat 13)) : pm_Run d 242 14 [.inr (.inr (.inl l0)), .inl l1, .inl l2, PU] [.inl s0] (G, M, T) K ↔ if pm_sg ((M (T l0.toNat 14).toNat (pm_sg (M l0.toNat 13)).toNat) - s0) ≤ pm_sg s0 then pm_Run d 242 34 [.inr (.inr (.inl l0)), .inl l1, .inl l2, .inl s0] [] (G, M, T) K else pm_Run d 242 30 [.inr (.inr (.inl l0)), .inl l1, .inl l2, .inl s0] [] (G, M, T) K := by
  refine (px_go (by decide +kernel : pm_fe 242 14 = some (.istore_n 3, 1)) rfl).trans ?_
  refine (px_go (by decide +kernel : pm_fe 242 15 = some (.iload_n 3, 1)) rfl).trans ?_
  refine (px_go (by decide +kernel : pm_fe 242 16 = some (.aload_n 0, 1)) rfl).trans ?_
  refine (px_get2 (idx := 54) (ci := 12) (k := 14) (by decide +kernel)).trans ((and_iff_right h1).trans ?_)
  refine (px_go (by decide +kernel : pm_fe 242 20 = some (.aload_n 0, 1)) rfl).trans ?_
  refine (px_get0 (idx := 51) (ci := 12) (k := 13) (by decide +kernel)).trans ((and_iff_right h1).trans ?_)
  refine (px_iaload (by decide +kernel) h2).trans ?_
  refine (px_go (by decide +kernel : pm_fe 242 25 = some (.iload_n 3, 1)) rfl).trans ?_
  refine (px_go (by decide +kernel : pm_fe 242 26 = some (.isub, 1)) rfl).trans ?_
  refine (px_ic_ge (off := 7) (tgt := 34) (by decide +kernel)).trans ?_
  exact Iff.rfl
theorem b242_30 {d : Nat} {G : PG} {M T : PH} {K : PV → PS → Prop} {l0 l1 l2 l3 : Int} : pm_Run d 242 30 [.inr (.inr (.inl l0)), .inl l1, .inl l2, .inl l3] [] (G, M, T) K ↔ pm_Run d 242 45 [.inr (.inr (.inl l0)), .inl l1, .inl l2, .inl l3] [.inl l3] (G, M, T) K := by
  refine (px_go (by decide +kernel : pm_fe 242 30 = some (.iload_n 3, 1)) rfl).trans ?_
  refine (px_goto (off := 14) (tgt := 45) (by decide +kernel)).trans ?_
  exact Iff.rfl
theorem b242_34 {d : Nat} {G : PG} {M T : PH} {K : PV → PS → Prop} {l0 l1 l2 l3 : Int} (h1 : pm_ob G l0 12) (h2 : pm_ar G (T l0.toNat 14) 100 (M l0.toNat 13)) : pm_Run d 242 34 [.inr (.inr (.inl l0)), .inl l1, .inl l2, .inl l3] [] (G, M, T) K ↔ pm_Run d 242 45 [.inr (.inr (.inl l0)), .inl l1, .inl l2, .inl l3] [.inl ((M (T l0.toNat 14).toNat (pm_sg (M l0.toNat 13)).toNat) - l3)] (G, M, T) K := by
  refine (px_go (by decide +kernel : pm_fe 242 34 = some (.aload_n 0, 1)) rfl).trans ?_
  refine (px_get2 (idx := 54) (ci := 12) (k := 14) (by decide +kernel)).trans ((and_iff_right h1).trans ?_)
  refine (px_go (by decide +kernel : pm_fe 242 38 = some (.aload_n 0, 1)) rfl).trans ?_
  refine (px_get0 (idx := 51) (ci := 12) (k := 13) (by decide +kernel)).trans ((and_iff_right h1).trans ?_)
  refine (px_iaload (by decide +kernel) h2).trans ?_
  refine (px_go (by decide +kernel : pm_fe 242 43 = some (.iload_n 3, 1)) rfl).trans ?_
  refine (px_go (by decide +kernel : pm_fe 242 44 = some (.isub, 1)) rfl).trans ?_
  exact Iff.rfl
theorem b242_45 {d : Nat} {G : PG} {M T : PH} {K : PV → PS → Prop} {l0 l1 l2 l3 s0 : Int} : pm_Run d 242 45 [.inr (.inr (.inl l0)), .inl l1, .inl l2, .inl l3] [.inl s0] (G, M, T) K ↔ K (.inl s0) (G, M, T) := by
  refine (px_ri (by decide +kernel)).trans ?_
  exact Iff.rfl
-- X12_sulks sulks(II)Z
theorem en243 {d : Nat} {a p0 p1 : Int} {S : PS} {K : PV → PS → Prop} : pm_Call (d + 1) 243 [.inr (.inr (.inl a)), .inl p0, .inl p1] S K ↔ pm_Run d 243 0 [.inr (.inr (.inl a)), .inl p0, .inl p1] [] S K := pm_Call_s.trans (and_iff_right (show 3 ≤ pm_ml 243 from by decide +kernel))
theorem b243_0 {d : Nat} {G : PG} {M T : PH} {K : PV → PS → Prop} {l0 l1 l2 : Int} (h1 : pm_ob G l0 12) : pm_Run d 243 0 [.inr (.inr (.inl l0)), .inl l1, .inl l2] [] (G, M, T) K ↔ pm_Call d 238 [.inr (.inr (.inl l0)), .inl l1, .inl l2] (G, M, T) (fun r S1 => pm_Run d 243 6 [.inr (.inr (.inl l0)), .inl l1, .inl l2] (pm_push r []) S1 K) := by
  refine (px_go (by decide +kernel : pm_fe 243 0 = some (.aload_n 0, 1)) rfl).trans ?_
  refine (px_go (by decide +kernel : pm_fe 243 1 = some (.iload_n 1, 1)) rfl).trans ?_
  refine (px_go (by decide +kernel : pm_fe 243 2 = some (.iload_n 2, 1)) rfl).trans ?_
  refine (px_v2 (idx := 451) (m' := 238) (ci := 12) (by decide +kernel)).trans ((and_iff_right ⟨h1, (by simp [pm_wl_n, pm_wl_c, pm_w] : pm_wl [] ≤ 8)⟩).trans ?_)
  exact Iff.rfl
theorem b243_6 {d : Nat} {G : PG} {M T : PH} {K : PV → PS → Prop} {l0 l1 l2 s0 : Int} (h1 : pm_ob G l0 12) (h2 : pm_ar G (T l0.toNat 36) 100 (M l0.toNat 13)) : pm_Run d 243 6 [.inr (.inr (.inl l0)), .inl l1, .inl l2] [.inl s0] (G, M, T) K ↔ if pm_sg s0 < pm_sg (M (T l0.toNat 36).toNat (pm_sg (M l0.toNat 13)).toNat) then pm_Run d 243 22 [.inr (.inr (.inl l0)), .inl l1, .inl l2] [] (G, M, T) K else pm_Run d 243 18 [.inr (.inr (.inl l0)), .inl l1, .inl l2] [] (G, M, T) K := by
  refine (px_go (by decide +kernel : pm_fe 243 6 = some (.aload_n 0, 1)) rfl).trans ?_
  refine (px_get2 (idx := 120) (ci := 12) (k := 36) (by decide +kernel)).trans ((and_iff_right h1).trans ?_)
  refine (px_go (by decide +kernel : pm_fe 243 10 = some (.aload_n 0, 1)) rfl).trans ?_
  refine (px_get0 (idx := 51) (ci := 12) (k := 13) (by decide +kernel)).trans ((and_iff_right h1).trans ?_)
  refine (px_iaload (by decide +kernel) h2).trans ?_
  refine (px_ic_lt (off := 7) (tgt := 22) (by decide +kernel)).trans ?_
  exact Iff.rfl
theorem b243_18 {d : Nat} {G : PG} {M T : PH} {K : PV → PS → Prop} {l0 l1 l2 : Int} : pm_Run d 243 18 [.inr (.inr (.inl l0)), .inl l1, .inl l2] [] (G, M, T) K ↔ pm_Run d 243 23 [.inr (.inr (.inl l0)), .inl l1, .inl l2] [.inl 1] (G, M, T) K := by
  refine (px_go (by decide +kernel : pm_fe 243 18 = some (.iconst 1, 1)) rfl).trans ?_
  refine (px_goto (off := 4) (tgt := 23) (by decide +kernel)).trans ?_
  exact Iff.rfl
theorem b243_22 {d : Nat} {G : PG} {M T : PH} {K : PV → PS → Prop} {l0 l1 l2 : Int} : pm_Run d 243 22 [.inr (.inr (.inl l0)), .inl l1, .inl l2] [] (G, M, T) K ↔ pm_Run d 243 23 [.inr (.inr (.inl l0)), .inl l1, .inl l2] [.inl 0] (G, M, T) K := by
  refine (px_go (by decide +kernel : pm_fe 243 22 = some (.iconst 0, 1)) rfl).trans ?_
  exact Iff.rfl
theorem b243_23 {d : Nat} {G : PG} {M T : PH} {K : PV → PS → Prop} {l0 l1 l2 s0 : Int} (h1 : s0 = 0 ∨ s0 = 1) : pm_Run d 243 23 [.inr (.inr (.inl l0)), .inl l1, .inl l2] [.inl s0] (G, M, T) K ↔ K (.inl s0) (G, M, T) := by
  refine (px_rz (by decide +kernel)).trans ((and_iff_right h1).trans ?_)
  exact Iff.rfl
-- X12_part part(II)J
theorem en244 {d : Nat} {a p0 p1 : Int} {S : PS} {K : PV → PS → Prop} : pm_Call (d + 1) 244 [.inr (.inr (.inl a)), .inl p0, .inl p1] S K ↔ pm_Run d 244 0 [.inr (.inr (.inl a)), .inl p0, .inl p1, PU, PU] [] S K := pm_Call_s.trans (and_iff_right (show 3 ≤ pm_ml 244 from by decide +kernel))
theorem b244_0 {d : Nat} {G : PG} {M T : PH} {K : PV → PS → Prop} {l0 l1 l2 : Int} (h1 : pm_ob G l0 12) : pm_Run d 244 0 [.inr (.inr (.inl l0)), .inl l1, .inl l2, PU, PU] [] (G, M, T) K ↔ if pm_sg (M l0.toNat 65) = pm_sg (-1) then pm_Run d 244 17 [.inr (.inr (.inl l0)), .inl l1, .inl l2, .inl (M l0.toNat 64), PU] [] (G, M, T) K else pm_Run d 244 13 [.inr (.inr (.inl l0)), .inl l1, .inl l2, .inl (M l0.toNat 64), PU] [] (G, M, T) K := by
  refine (px_go (by decide +kernel : pm_fe 244 0 = some (.aload_n 0, 1)) rfl).trans ?_
  refine (px_get0 (idx := 207) (ci := 12) (k := 64) (by decide +kernel)).trans ((and_iff_right h1).trans ?_)
  refine (px_go (by decide +kernel : pm_fe 244 4 = some (.istore_n 3, 1)) rfl).trans ?_
  refine (px_go (by decide +kernel : pm_fe 244 5 = some (.aload_n 0, 1)) rfl).trans ?_
  refine (px_get0 (idx := 210) (ci := 12) (k := 65) (by decide +kernel)).trans ((and_iff_right h1).trans ?_)
  refine (px_go (by decide +kernel : pm_fe 244 9 = some (.iconst (-1), 1)) rfl).trans ?_
  refine (px_ic_eq (off := 7) (tgt := 17) (by decide +kernel)).trans ?_
  exact Iff.rfl
theorem b244_13 {d : Nat} {G : PG} {M T : PH} {K : PV → PS → Prop} {l0 l1 l2 l3 : Int} : pm_Run d 244 13 [.inr (.inr (.inl l0)), .inl l1, .inl l2, .inl l3, PU] [] (G, M, T) K ↔ pm_Run d 244 18 [.inr (.inr (.inl l0)), .inl l1, .inl l2, .inl l3, PU] [.inl 1] (G, M, T) K := by
  refine (px_go (by decide +kernel : pm_fe 244 13 = some (.iconst 1, 1)) rfl).trans ?_
  refine (px_goto (off := 4) (tgt := 18) (by decide +kernel)).trans ?_
  exact Iff.rfl
theorem b244_17 {d : Nat} {G : PG} {M T : PH} {K : PV → PS → Prop} {l0 l1 l2 l3 : Int} : pm_Run d 244 17 [.inr (.inr (.inl l0)), .inl l1, .inl l2, .inl l3, PU] [] (G, M, T) K ↔ pm_Run d 244 18 [.inr (.inr (.inl l0)), .inl l1, .inl l2, .inl l3, PU] [.inl 0] (G, M, T) K := by
  refine (px_go (by decide +kernel : pm_fe 244 17 = some (.iconst 0, 1)) rfl).trans ?_
  exact Iff.rfl
theorem b244_18 {d : Nat} {G : PG} {M T : PH} {K : PV → PS → Prop} {l0 l1 l2 l3 s0 : Int} : pm_Run d 244 18 [.inr (.inr (.inl l0)), .inl l1, .inl l2, .inl l3, PU] [.inl s0] (G, M, T) K ↔ pm_Run d 244 (pm_tg 0 [168, 171, 191, 210, 235, 264, 293, 325, 349, 372, 406, 406, 406, 406, 406, 406, 406, 406, 406, 406, 406, 406, 406, 406, 406, 406, 406, 406, 406, 406, 406, 392, 400] 406 (pm_sg l1)) [.inr (.inr (.inl l0)), .inl l1, .inl l2, .inl l3, .inl s0] [] (G, M, T) K := by
  refine (px_go (by decide +kernel : pm_fe 244 18 = some (.istore 4, 2)) rfl).trans ?_
  refine (px_go (by decide +kernel : pm_fe 244 20 = some (.iload_n 1, 1)) rfl).trans ?_
  refine (px_tsw (lo := 0) (dt := 406) (tl := [168, 171, 191, 210, 235, 264, 293, 325, 349, 372, 406, 406, 406, 406, 406, 406, 406, 406, 406, 406, 406, 406, 406, 406, 406, 406, 406, 406, 406, 406, 406, 392, 400]) (by decide +kernel : pm_fe 244 21 = some (.tableswitch 385 0 32 #[147, 150, 170, 189, 214, 243, 272, 304, 328, 351, 385, 385, 385, 385, 385, 385, 385, 385, 385, 385, 385, 385, 385, 385, 385, 385, 385, 385, 385, 385, 385, 371, 379], 147) ∧ _)).trans ?_
  exact Iff.rfl
theorem b244_168 {d : Nat} {G : PG} {M T : PH} {K : PV → PS → Prop} {l0 l1 l2 l3 l4 : Int} : pm_Run d 244 168 [.inr (.inr (.inl l0)), .inl l1, .inl l2, .inl l3, .inl l4] [] (G, M, T) K ↔ K (.inr (.inl (pm_sg l2))) (G, M, T) := by
  refine (px_go (by decide +kernel : pm_fe 244 168 = some (.iload_n 2, 1)) rfl).trans ?_
  refine (px_go (by decide +kernel : pm_fe 244 169 = some (.i2l, 1)) rfl).trans ?_
  refine (px_rl (by decide +kernel)).trans ?_
  exact Iff.rfl
theorem b244_171 {d : Nat} {G : PG} {M T : PH} {K : PV → PS → Prop} {l0 l1 l2 l3 l4 : Int} : pm_Run d 244 171 [.inr (.inr (.inl l0)), .inl l1, .inl l2, .inl l3, .inl l4] [] (G, M, T) K ↔ if pm_sg l4 = 0 then pm_Run d 244 180 [.inr (.inr (.inl l0)), .inl l1, .inl l2, .inl l3, .inl l4] [] (G, M, T) K else pm_Run d 244 176 [.inr (.inr (.inl l0)), .inl l1, .inl l2, .inl l3, .inl l4] [] (G, M, T) K := by
  refine (px_go (by decide +kernel : pm_fe 244 171 = some (.iload 4, 2)) rfl).trans ?_
  refine (px_if_eq (off := 7) (tgt := 180) (by decide +kernel)).trans ?_
  exact Iff.rfl
theorem b244_176 {d : Nat} {G : PG} {M T : PH} {K : PV → PS → Prop} {l0 l1 l2 l3 l4 : Int} : pm_Run d 244 176 [.inr (.inr (.inl l0)), .inl l1, .inl l2, .inl l3, .inl l4] [] (G, M, T) K ↔ pm_Run d 244 190 [.inr (.inr (.inl l0)), .inl l1, .inl l2, .inl l3, .inl l4] [.inr (.inl 0)] (G, M, T) K := by
  refine (px_go (by decide +kernel : pm_fe 244 176 = some (.lconst 0, 1)) rfl).trans ?_
  refine (px_goto (off := 13) (tgt := 190) (by decide +kernel)).trans ?_
  exact Iff.rfl
theorem b244_180 {d : Nat} {G : PG} {M T : PH} {K : PV → PS → Prop} {l0 l1 l2 l3 l4 : Int} (h1 : pm_ob G l0 12) (h2 : pm_ar G (T l0.toNat 68) 100 (M l0.toNat 67)) : pm_Run d 244 180 [.inr (.inr (.inl l0)), .inl l1, .inl l2, .inl l3, .inl l4] [] (G, M, T) K ↔ pm_Run d 244 190 [.inr (.inr (.inl l0)), .inl l1, .inl l2, .inl l3, .inl l4] [.inr (.inl (pm_sg (M (T l0.toNat 68).toNat (pm_sg (M l0.toNat 67)).toNat)))] (G, M, T) K := by
  refine (px_go (by decide +kernel : pm_fe 244 180 = some (.aload_n 0, 1)) rfl).trans ?_
  refine (px_get2 (idx := 219) (ci := 12) (k := 68) (by decide +kernel)).trans ((and_iff_right h1).trans ?_)
  refine (px_go (by decide +kernel : pm_fe 244 184 = some (.aload_n 0, 1)) rfl).trans ?_
  refine (px_get0 (idx := 216) (ci := 12) (k := 67) (by decide +kernel)).trans ((and_iff_right h1).trans ?_)
  refine (px_iaload (by decide +kernel) h2).trans ?_
  refine (px_go (by decide +kernel : pm_fe 244 189 = some (.i2l, 1)) rfl).trans ?_
  exact Iff.rfl
theorem b244_190 {d : Nat} {G : PG} {M T : PH} {K : PV → PS → Prop} {l0 l1 l2 l3 l4 s0 : Int} : pm_Run d 244 190 [.inr (.inr (.inl l0)), .inl l1, .inl l2, .inl l3, .inl l4] [.inr (.inl s0)] (G, M, T) K ↔ K (.inr (.inl s0)) (G, M, T) := by
  refine (px_rl (by decide +kernel)).trans ?_
  exact Iff.rfl
theorem b244_191 {d : Nat} {G : PG} {M T : PH} {K : PV → PS → Prop} {l0 l1 l2 l3 l4 : Int} : pm_Run d 244 191 [.inr (.inr (.inl l0)), .inl l1, .inl l2, .inl l3, .inl l4] [] (G, M, T) K ↔ if pm_sg l4 = 0 then pm_Run d 244 200 [.inr (.inr (.inl l0)), .inl l1, .inl l2, .inl l3, .inl l4] [] (G, M, T) K else pm_Run d 244 196 [.inr (.inr (.inl l0)), .inl l1, .inl l2, .inl l3, .inl l4] [] (G, M, T) K := by
  refine (px_go (by decide +kernel : pm_fe 244 191 = some (.iload 4, 2)) rfl).trans ?_
  refine (px_if_eq (off := 7) (tgt := 200) (by decide +kernel)).trans ?_
  exact Iff.rfl
theorem b244_196 {d : Nat} {G : PG} {M T : PH} {K : PV → PS → Prop} {l0 l1 l2 l3 l4 : Int} : pm_Run d 244 196 [.inr (.inr (.inl l0)), .inl l1, .inl l2, .inl l3, .inl l4] [] (G, M, T) K ↔ pm_Run d 244 209 [.inr (.inr (.inl l0)), .inl l1, .inl l2, .inl l3, .inl l4] [.inr (.inl 0)] (G, M, T) K := by
  refine (px_go (by decide +kernel : pm_fe 244 196 = some (.lconst 0, 1)) rfl).trans ?_
  refine (px_goto (off := 12) (tgt := 209) (by decide +kernel)).trans ?_
  exact Iff.rfl
theorem b244_200 {d : Nat} {G : PG} {M T : PH} {K : PV → PS → Prop} {l0 l1 l2 l3 l4 : Int} (h1 : pm_ob G l0 12) : pm_Run d 244 200 [.inr (.inr (.inl l0)), .inl l1, .inl l2, .inl l3, .inl l4] [] (G, M, T) K ↔ pm_Call d 231 [.inr (.inr (.inl l0)), .inl (M l0.toNat 66)] (G, M, T) (fun r S1 => pm_Run d 244 208 [.inr (.inr (.inl l0)), .inl l1, .inl l2, .inl l3, .inl l4] (pm_push r []) S1 K) := by
  refine (px_go (by decide +kernel : pm_fe 244 200 = some (.aload_n 0, 1)) rfl).trans ?_
  refine (px_go (by decide +kernel : pm_fe 244 201 = some (.aload_n 0, 1)) rfl).trans ?_
  refine (px_get0 (idx := 213) (ci := 12) (k := 66) (by decide +kernel)).trans ((and_iff_right h1).trans ?_)
  refine (px_v1 (idx := 454) (m' := 231) (ci := 12) (by decide +kernel)).trans ((and_iff_right ⟨h1, (by simp [pm_wl_n, pm_wl_c, pm_w] : pm_wl [] ≤ 8)⟩).trans ?_)
  exact Iff.rfl
theorem b244_208 {d : Nat} {G : PG} {M T : PH} {K : PV → PS → Prop} {l0 l1 l2 l3 l4 s0 : Int} : pm_Run d 244 208 [.inr (.inr (.inl l0)), .inl l1, .inl l2, .inl l3, .inl l4] [.inl s0] (G, M, T) K ↔ pm_Run d 244 209 [.inr (.inr (.inl l0)), .inl l1, .inl l2, .inl l3, .inl l4] [.inr (.inl (pm_sg s0))] (G, M, T) K := by
  refine (px_go (by decide +kernel : pm_fe 244 208 = some (.i2l, 1)) rfl).trans ?_
  exact Iff.rfl
theorem b244_209 {d : Nat} {G : PG} {M T : PH} {K : PV → PS → Prop} {l0 l1 l2 l3 l4 s0 : Int} : pm_Run d 244 209 [.inr (.inr (.inl l0)), .inl l1, .inl l2, .inl l3, .inl l4] [.inr (.inl s0)] (G, M, T) K ↔ K (.inr (.inl s0)) (G, M, T) := by
  refine (px_rl (by decide +kernel)).trans ?_
  exact Iff.rfl
theorem b244_210 {d : Nat} {G : PG} {M T : PH} {K : PV → PS → Prop} {l0 l1 l2 l3 l4 : Int} : pm_Run d 244 210 [.inr (.inr (.inl l0)), .inl l1, .inl l2, .inl l3, .inl l4] [] (G, M, T) K ↔ if pm_sg l4 = 0 then pm_Run d 244 219 [.inr (.inr (.inl l0)), .inl l1, .inl l2, .inl l3, .inl l4] [] (G, M, T) K else pm_Run d 244 215 [.inr (.inr (.inl l0)), .inl l1, .inl l2, .inl l3, .inl l4] [] (G, M, T) K := by
  refine (px_go (by decide +kernel : pm_fe 244 210 = some (.iload 4, 2)) rfl).trans ?_
  refine (px_if_eq (off := 7) (tgt := 219) (by decide +kernel)).trans ?_
  exact Iff.rfl
theorem b244_215 {d : Nat} {G : PG} {M T : PH} {K : PV → PS → Prop} {l0 l1 l2 l3 l4 : Int} : pm_Run d 244 215 [.inr (.inr (.inl l0)), .inl l1, .inl l2, .inl l3, .inl l4] [] (G, M, T) K ↔ pm_Run d 244 234 [.inr (.inr (.inl l0)), .inl l1, .inl l2, .inl l3, .inl l4] [.inr (.inl 0)] (G, M, T) K := by
  refine (px_go (by decide +kernel : pm_fe 244 215 = some (.lconst 0, 1)) rfl).trans ?_
  refine (px_goto (off := 18) (tgt := 234) (by decide +kernel)).trans ?_
  exact Iff.rfl
theorem b244_219 {d : Nat} {G : PG} {M T : PH} {K : PV → PS → Prop} {l0 l1 l2 l3 l4 : Int} (h1 : pm_ob G l0 12) (h2 : pm_ar G (T l0.toNat 57) 100 ((8 * l3) + (M l0.toNat 66))) : pm_Run d 244 219 [.inr (.inr (.inl l0)), .inl l1, .inl l2, .inl l3, .inl l4] [] (G, M, T) K ↔ pm_Run d 244 234 [.inr (.inr (.inl l0)), .inl l1, .inl l2, .inl l3, .inl l4] [.inr (.inl (pm_sg (M (T l0.toNat 57).toNat (pm_sg ((8 * l3) + (M l0.toNat 66))).toNat)))] (G, M, T) K := by
  refine (px_go (by decide +kernel : pm_fe 244 219 = some (.aload_n 0, 1)) rfl).trans ?_
  refine (px_get2 (idx := 186) (ci := 12) (k := 57) (by decide +kernel)).trans ((and_iff_right h1).trans ?_)
  refine (px_go (by decide +kernel : pm_fe 244 223 = some (.bipush 8, 2)) rfl).trans ?_
  refine (px_go (by decide +kernel : pm_fe 244 225 = some (.iload_n 3, 1)) rfl).trans ?_
  refine (px_go (by decide +kernel : pm_fe 244 226 = some (.imul, 1)) rfl).trans ?_
  refine (px_go (by decide +kernel : pm_fe 244 227 = some (.aload_n 0, 1)) rfl).trans ?_
  refine (px_get0 (idx := 213) (ci := 12) (k := 66) (by decide +kernel)).trans ((and_iff_right h1).trans ?_)
  refine (px_go (by decide +kernel : pm_fe 244 231 = some (.iadd, 1)) rfl).trans ?_
  refine (px_iaload (by decide +kernel) h2).trans ?_
  refine (px_go (by decide +kernel : pm_fe 244 233 = some (.i2l, 1)) rfl).trans ?_
  exact Iff.rfl
theorem b244_234 {d : Nat} {G : PG} {M T : PH} {K : PV → PS → Prop} {l0 l1 l2 l3 l4 s0 : Int} : pm_Run d 244 234 [.inr (.inr (.inl l0)), .inl l1, .inl l2, .inl l3, .inl l4] [.inr (.inl s0)] (G, M, T) K ↔ K (.inr (.inl s0)) (G, M, T) := by
  refine (px_rl (by decide +kernel)).trans ?_
  exact Iff.rfl
theorem b244_235 {d : Nat} {G : PG} {M T : PH} {K : PV → PS → Prop} {l0 l1 l2 l3 l4 : Int} : pm_Run d 244 235 [.inr (.inr (.inl l0)), .inl l1, .inl l2, .inl l3, .inl l4] [] (G, M, T) K ↔ if pm_sg l4 = 0 then pm_Run d 244 253 [.inr (.inr (.inl l0)), .inl l1, .inl l2, .inl l3, .inl l4] [] (G, M, T) K else pm_Run d 244 240 [.inr (.inr (.inl l0)), .inl l1, .inl l2, .inl l3, .inl l4] [] (G, M, T) K := by
  refine (px_go (by decide +kernel : pm_fe 244 235 = some (.iload 4, 2)) rfl).trans ?_
  refine (px_if_eq (off := 16) (tgt := 253) (by decide +kernel)).trans ?_
  exact Iff.rfl
theorem b244_240 {d : Nat} {G : PG} {M T : PH} {K : PV → PS → Prop} {l0 l1 l2 l3 l4 : Int} (h1 : pm_ob G l0 12) : pm_Run d 244 240 [.inr (.inr (.inl l0)), .inl l1, .inl l2, .inl l3, .inl l4] [] (G, M, T) K ↔ pm_Call d 237 [.inr (.inr (.inl l0)), .inl l3, .inl (M l0.toNat 65)] (G, M, T) (fun r S1 => pm_Run d 244 249 [.inr (.inr (.inl l0)), .inl l1, .inl l2, .inl l3, .inl l4] (pm_push r []) S1 K) := by
  refine (px_go (by decide +kernel : pm_fe 244 240 = some (.aload_n 0, 1)) rfl).trans ?_
  refine (px_go (by decide +kernel : pm_fe 244 241 = some (.iload_n 3, 1)) rfl).trans ?_
  refine (px_go (by decide +kernel : pm_fe 244 242 = some (.aload_n 0, 1)) rfl).trans ?_
  refine (px_get0 (idx := 210) (ci := 12) (k := 65) (by decide +kernel)).trans ((and_iff_right h1).trans ?_)
  refine (px_v2 (idx := 448) (m' := 237) (ci := 12) (by decide +kernel)).trans ((and_iff_right ⟨h1, (by simp [pm_wl_n, pm_wl_c, pm_w] : pm_wl [] ≤ 8)⟩).trans ?_)
  exact Iff.rfl
theorem b244_249 {d : Nat} {G : PG} {M T : PH} {K : PV → PS → Prop} {l0 l1 l2 l3 l4 s0 : Int} : pm_Run d 244 249 [.inr (.inr (.inl l0)), .inl l1, .inl l2, .inl l3, .inl l4] [.inl s0] (G, M, T) K ↔ pm_Run d 244 263 [.inr (.inr (.inl l0)), .inl l1, .inl l2, .inl l3, .inl l4] [.inr (.inl (pm_sg s0))] (G, M, T) K := by
  refine (px_go (by decide +kernel : pm_fe 244 249 = some (.i2l, 1)) rfl).trans ?_
  refine (px_goto (off := 13) (tgt := 263) (by decide +kernel)).trans ?_
  exact Iff.rfl
theorem b244_253 {d : Nat} {G : PG} {M T : PH} {K : PV → PS → Prop} {l0 l1 l2 l3 l4 : Int} (h1 : pm_ob G l0 12) : pm_Run d 244 253 [.inr (.inr (.inl l0)), .inl l1, .inl l2, .inl l3, .inl l4] [] (G, M, T) K ↔ pm_Call d 239 [.inr (.inr (.inl l0)), .inl l3, .inl (M l0.toNat 66)] (G, M, T) (fun r S1 => pm_Run d 244 262 [.inr (.inr (.inl l0)), .inl l1, .inl l2, .inl l3, .inl l4] (pm_push r []) S1 K) := by
  refine (px_go (by decide +kernel : pm_fe 244 253 = some (.aload_n 0, 1)) rfl).trans ?_
  refine (px_go (by decide +kernel : pm_fe 244 254 = some (.iload_n 3, 1)) rfl).trans ?_
  refine (px_go (by decide +kernel : pm_fe 244 255 = some (.aload_n 0, 1)) rfl).trans ?_
  refine (px_get0 (idx := 213) (ci := 12) (k := 66) (by decide +kernel)).trans ((and_iff_right h1).trans ?_)
  refine (px_v2 (idx := 457) (m' := 239) (ci := 12) (by decide +kernel)).trans ((and_iff_right ⟨h1, (by simp [pm_wl_n, pm_wl_c, pm_w] : pm_wl [] ≤ 8)⟩).trans ?_)
  exact Iff.rfl
theorem b244_262 {d : Nat} {G : PG} {M T : PH} {K : PV → PS → Prop} {l0 l1 l2 l3 l4 s0 : Int} : pm_Run d 244 262 [.inr (.inr (.inl l0)), .inl l1, .inl l2, .inl l3, .inl l4] [.inl s0] (G, M, T) K ↔ pm_Run d 244 263 [.inr (.inr (.inl l0)), .inl l1, .inl l2, .inl l3, .inl l4] [.inr (.inl (pm_sg s0))] (G, M, T) K := by
  refine (px_go (by decide +kernel : pm_fe 244 262 = some (.i2l, 1)) rfl).trans ?_
  exact Iff.rfl
theorem b244_263 {d : Nat} {G : PG} {M T : PH} {K : PV → PS → Prop} {l0 l1 l2 l3 l4 s0 : Int} : pm_Run d 244 263 [.inr (.inr (.inl l0)), .inl l1, .inl l2, .inl l3, .inl l4] [.inr (.inl s0)] (G, M, T) K ↔ K (.inr (.inl s0)) (G, M, T) := by
  refine (px_rl (by decide +kernel)).trans ?_
  exact Iff.rfl
theorem b244_264 {d : Nat} {G : PG} {M T : PH} {K : PV → PS → Prop} {l0 l1 l2 l3 l4 : Int} : pm_Run d 244 264 [.inr (.inr (.inl l0)), .inl l1, .inl l2, .inl l3, .inl l4] [] (G, M, T) K ↔ if pm_sg l4 = 0 then pm_Run d 244 282 [.inr (.inr (.inl l0)), .inl l1, .inl l2, .inl l3, .inl l4] [] (G, M, T) K else pm_Run d 244 269 [.inr (.inr (.inl l0)), .inl l1, .inl l2, .inl l3, .inl l4] [] (G, M, T) K := by
  refine (px_go (by decide +kernel : pm_fe 244 264 = some (.iload 4, 2)) rfl).trans ?_
  refine (px_if_eq (off := 16) (tgt := 282) (by decide +kernel)).trans ?_
  exact Iff.rfl
theorem b244_269 {d : Nat} {G : PG} {M T : PH} {K : PV → PS → Prop} {l0 l1 l2 l3 l4 : Int} (h1 : pm_ob G l0 12) : pm_Run d 244 269 [.inr (.inr (.inl l0)), .inl l1, .inl l2, .inl l3, .inl l4] [] (G, M, T) K ↔ pm_Call d 238 [.inr (.inr (.inl l0)), .inl l3, .inl (M l0.toNat 65)] (G, M, T) (fun r S1 => pm_Run d 244 278 [.inr (.inr (.inl l0)), .inl l1, .inl l2, .inl l3, .inl l4] (pm_push r []) S1 K) := by
  refine (px_go (by decide +kernel : pm_fe 244 269 = some (.aload_n 0, 1)) rfl).trans ?_
  refine (px_go (by decide +kernel : pm_fe 244 270 = some (.iload_n 3, 1)) rfl).trans ?_
  refine (px_go (by decide +kernel : pm_fe 244 271 = some (.aload_n 0, 1)) rfl).trans ?_
  refine (px_get0 (idx := 210) (ci := 12) (k := 65) (by decide +kernel)).trans ((and_iff_right h1).trans ?_)
  refine (px_v2 (idx := 451) (m' := 238) (ci := 12) (by decide +kernel)).trans ((and_iff_right ⟨h1, (by simp [pm_wl_n, pm_wl_c, pm_w] : pm_wl [] ≤ 8)⟩).trans ?_)
  exact Iff.rfl
theorem b244_278 {d : Nat} {G : PG} {M T : PH} {K : PV → PS → Prop} {l0 l1 l2 l3 l4 s0 : Int} : pm_Run d 244 278 [.inr (.inr (.inl l0)), .inl l1, .inl l2, .inl l3, .inl l4] [.inl s0] (G, M, T) K ↔ pm_Run d 244 292 [.inr (.inr (.inl l0)), .inl l1, .inl l2, .inl l3, .inl l4] [.inr (.inl (pm_sg s0))] (G, M, T) K := by
  refine (px_go (by decide +kernel : pm_fe 244 278 = some (.i2l, 1)) rfl).trans ?_
  refine (px_goto (off := 13) (tgt := 292) (by decide +kernel)).trans ?_
  exact Iff.rfl
theorem b244_282 {d : Nat} {G : PG} {M T : PH} {K : PV → PS → Prop} {l0 l1 l2 l3 l4 : Int} (h1 : pm_ob G l0 12) : pm_Run d 244 282 [.inr (.inr (.inl l0)), .inl l1, .inl l2, .inl l3, .inl l4] [] (G, M, T) K ↔ pm_Call d 240 [.inr (.inr (.inl l0)), .inl l3, .inl (M l0.toNat 66)] (G, M, T) (fun r S1 => pm_Run d 244 291 [.inr (.inr (.inl l0)), .inl l1, .inl l2, .inl l3, .inl l4] (pm_push r []) S1 K) := by
  refine (px_go (by decide +kernel : pm_fe 244 282 = some (.aload_n 0, 1)) rfl).trans ?_
  refine (px_go (by decide +kernel : pm_fe 244 283 = some (.iload_n 3, 1)) rfl).trans ?_
  refine (px_go (by decide +kernel : pm_fe 244 284 = some (.aload_n 0, 1)) rfl).trans ?_
  refine (px_get0 (idx := 213) (ci := 12) (k := 66) (by decide +kernel)).trans ((and_iff_right h1).trans ?_)
  refine (px_v2 (idx := 460) (m' := 240) (ci := 12) (by decide +kernel)).trans ((and_iff_right ⟨h1, (by simp [pm_wl_n, pm_wl_c, pm_w] : pm_wl [] ≤ 8)⟩).trans ?_)
  exact Iff.rfl
theorem b244_291 {d : Nat} {G : PG} {M T : PH} {K : PV → PS → Prop} {l0 l1 l2 l3 l4 s0 : Int} : pm_Run d 244 291 [.inr (.inr (.inl l0)), .inl l1, .inl l2, .inl l3, .inl l4] [.inl s0] (G, M, T) K ↔ pm_Run d 244 292 [.inr (.inr (.inl l0)), .inl l1, .inl l2, .inl l3, .inl l4] [.inr (.inl (pm_sg s0))] (G, M, T) K := by
  refine (px_go (by decide +kernel : pm_fe 244 291 = some (.i2l, 1)) rfl).trans ?_
  exact Iff.rfl
theorem b244_292 {d : Nat} {G : PG} {M T : PH} {K : PV → PS → Prop} {l0 l1 l2 l3 l4 s0 : Int} : pm_Run d 244 292 [.inr (.inr (.inl l0)), .inl l1, .inl l2, .inl l3, .inl l4] [.inr (.inl s0)] (G, M, T) K ↔ K (.inr (.inl s0)) (G, M, T) := by
  refine (px_rl (by decide +kernel)).trans ?_
  exact Iff.rfl
theorem b244_293 {d : Nat} {G : PG} {M T : PH} {K : PV → PS → Prop} {l0 l1 l2 l3 l4 : Int} : pm_Run d 244 293 [.inr (.inr (.inl l0)), .inl l1, .inl l2, .inl l3, .inl l4] [] (G, M, T) K ↔ if pm_sg l4 = 0 then pm_Run d 244 323 [.inr (.inr (.inl l0)), .inl l1, .inl l2, .inl l3, .inl l4] [] (G, M, T) K else pm_Run d 244 298 [.inr (.inr (.inl l0)), .inl l1, .inl l2, .inl l3, .inl l4] [] (G, M, T) K := by
  refine (px_go (by decide +kernel : pm_fe 244 293 = some (.iload 4, 2)) rfl).trans ?_
  refine (px_if_eq (off := 28) (tgt := 323) (by decide +kernel)).trans ?_
  exact Iff.rfl
theorem b244_298 {d : Nat} {G : PG} {M T : PH} {K : PV → PS → Prop} {l0 l1 l2 l3 l4 : Int} (h1 : pm_ob G l0 12) (h2 : pm_ar G (T l0.toNat 55) 100 ((3 * l3) + (M l0.toNat 65))) : pm_Run d 244 298 [.inr (.inr (.inl l0)), .inl l1, .inl l2, .inl l3, .inl l4] [] (G, M, T) K ↔ pm_Call d 242 [.inr (.inr (.inl l0)), .inl (M (T l0.toNat 55).toNat (pm_sg ((3 * l3) + (M l0.toNat 65))).toNat), .inl (M l0.toNat 67)] (G, M, T) (fun r S1 => pm_Run d 244 319 [.inr (.inr (.inl l0)), .inl l1, .inl l2, .inl l3, .inl l4] (pm_push r []) S1 K) := by
  refine (px_go (by decide +kernel : pm_fe 244 298 = some (.aload_n 0, 1)) rfl).trans ?_
  refine (px_go (by decide +kernel : pm_fe 244 299 = some (.aload_n 0, 1)) rfl).trans ?_
  refine (px_get2 (idx := 180) (ci := 12) (k := 55) (by decide +kernel)).trans ((and_iff_right h1).trans ?_)
  refine (px_go (by decide +kernel : pm_fe 244 303 = some (.iconst 3, 1)) rfl).trans ?_
  refine (px_go (by decide +kernel : pm_fe 244 304 = some (.iload_n 3, 1)) rfl).trans ?_
  refine (px_go (by decide +kernel : pm_fe 244 305 = some (.imul, 1)) rfl).trans ?_
  refine (px_go (by decide +kernel : pm_fe 244 306 = some (.aload_n 0, 1)) rfl).trans ?_
  refine (px_get0 (idx := 210) (ci := 12) (k := 65) (by decide +kernel)).trans ((and_iff_right h1).trans ?_)
  refine (px_go (by decide +kernel : pm_fe 244 310 = some (.iadd, 1)) rfl).trans ?_
  refine (px_iaload (by decide +kernel) h2).trans ?_
  refine (px_go (by decide +kernel : pm_fe 244 312 = some (.aload_n 0, 1)) rfl).trans ?_
  refine (px_get0 (idx := 216) (ci := 12) (k := 67) (by decide +kernel)).trans ((and_iff_right h1).trans ?_)
  refine (px_v2 (idx := 463) (m' := 242) (ci := 12) (by decide +kernel)).trans ((and_iff_right ⟨h1, (by simp [pm_wl_n, pm_wl_c, pm_w] : pm_wl [] ≤ 8)⟩).trans ?_)
  exact Iff.rfl
theorem b244_319 {d : Nat} {G : PG} {M T : PH} {K : PV → PS → Prop} {l0 l1 l2 l3 l4 s0 : Int} : pm_Run d 244 319 [.inr (.inr (.inl l0)), .inl l1, .inl l2, .inl l3, .inl l4] [.inl s0] (G, M, T) K ↔ pm_Run d 244 324 [.inr (.inr (.inl l0)), .inl l1, .inl l2, .inl l3, .inl l4] [.inr (.inl (pm_sg s0))] (G, M, T) K := by
  refine (px_go (by decide +kernel : pm_fe 244 319 = some (.i2l, 1)) rfl).trans ?_
  refine (px_goto (off := 4) (tgt := 324) (by decide +kernel)).trans ?_
  exact Iff.rfl
theorem b244_323 {d : Nat} {G : PG} {M T : PH} {K : PV → PS → Prop} {l0 l1 l2 l3 l4 : Int} : pm_Run d 244 323 [.inr (.inr (.inl l0)), .inl l1, .inl l2, .inl l3, .inl l4] [] (G, M, T) K ↔ pm_Run d 244 324 [.inr (.inr (.inl l0)), .inl l1, .inl l2, .inl l3, .inl l4] [.inr (.inl 0)] (G, M, T) K := by
  refine (px_go (by decide +kernel : pm_fe 244 323 = some (.lconst 0, 1)) rfl).trans ?_
  exact Iff.rfl
theorem b244_324 {d : Nat} {G : PG} {M T : PH} {K : PV → PS → Prop} {l0 l1 l2 l3 l4 s0 : Int} : pm_Run d 244 324 [.inr (.inr (.inl l0)), .inl l1, .inl l2, .inl l3, .inl l4] [.inr (.inl s0)] (G, M, T) K ↔ K (.inr (.inl s0)) (G, M, T) := by
  refine (px_rl (by decide +kernel)).trans ?_
  exact Iff.rfl
theorem b244_325 {d : Nat} {G : PG} {M T : PH} {K : PV → PS → Prop} {l0 l1 l2 l3 l4 : Int} : pm_Run d 244 325 [.inr (.inr (.inl l0)), .inl l1, .inl l2, .inl l3, .inl l4] [] (G, M, T) K ↔ if pm_sg l4 = 0 then pm_Run d 244 347 [.inr (.inr (.inl l0)), .inl l1, .inl l2, .inl l3, .inl l4] [] (G, M, T) K else pm_Run d 244 330 [.inr (.inr (.inl l0)), .inl l1, .inl l2, .inl l3, .inl l4] [] (G, M, T) K := by
  refine (px_go (by decide +kernel : pm_fe 244 325 = some (.iload 4, 2)) rfl).trans ?_
  refine (px_if_eq (off := 20) (tgt := 347) (by decide +kernel)).trans ?_
  exact Iff.rfl
theorem b244_330 {d : Nat} {G : PG} {M T : PH} {K : PV → PS → Prop} {l0 l1 l2 l3 l4 : Int} (h1 : pm_ob G l0 12) (h2 : pm_ar G (T l0.toNat 56) 100 ((3 * l3) + (M l0.toNat 65))) : pm_Run d 244 330 [.inr (.inr (.inl l0)), .inl l1, .inl l2, .inl l3, .inl l4] [] (G, M, T) K ↔ pm_Run d 244 348 [.inr (.inr (.inl l0)), .inl l1, .inl l2, .inl l3, .inl l4] [.inr (.inl (pm_sg (M (T l0.toNat 56).toNat (pm_sg ((3 * l3) + (M l0.toNat 65))).toNat)))] (G, M, T) K := by
  refine (px_go (by decide +kernel : pm_fe 244 330 = some (.aload_n 0, 1)) rfl).trans ?_
  refine (px_get2 (idx := 183) (ci := 12) (k := 56) (by decide +kernel)).trans ((and_iff_right h1).trans ?_)
  refine (px_go (by decide +kernel : pm_fe 244 334 = some (.iconst 3, 1)) rfl).trans ?_
  refine (px_go (by decide +kernel : pm_fe 244 335 = some (.iload_n 3, 1)) rfl).trans ?_
  refine (px_go (by decide +kernel : pm_fe 244 336 = some (.imul, 1)) rfl).trans ?_
  refine (px_go (by decide +kernel : pm_fe 244 337 = some (.aload_n 0, 1)) rfl).trans ?_
  refine (px_get0 (idx := 210) (ci := 12) (k := 65) (by decide +kernel)).trans ((and_iff_right h1).trans ?_)
  refine (px_go (by decide +kernel : pm_fe 244 341 = some (.iadd, 1)) rfl).trans ?_
  refine (px_iaload (by decide +kernel) h2).trans ?_
  refine (px_go (by decide +kernel : pm_fe 244 343 = some (.i2l, 1)) rfl).trans ?_
  refine (px_goto (off := 4) (tgt := 348) (by decide +kernel)).trans ?_
  exact Iff.rfl
theorem b244_347 {d : Nat} {G : PG} {M T : PH} {K : PV → PS → Prop} {l0 l1 l2 l3 l4 : Int} : pm_Run d 244 347 [.inr (.inr (.inl l0)), .inl l1, .inl l2, .inl l3, .inl l4] [] (G, M, T) K ↔ pm_Run d 244 348 [.inr (.inr (.inl l0)), .inl l1, .inl l2, .inl l3, .inl l4] [.inr (.inl 0)] (G, M, T) K := by
  refine (px_go (by decide +kernel : pm_fe 244 347 = some (.lconst 0, 1)) rfl).trans ?_
  exact Iff.rfl
theorem b244_348 {d : Nat} {G : PG} {M T : PH} {K : PV → PS → Prop} {l0 l1 l2 l3 l4 s0 : Int} : pm_Run d 244 348 [.inr (.inr (.inl l0)), .inl l1, .inl l2, .inl l3, .inl l4] [.inr (.inl s0)] (G, M, T) K ↔ K (.inr (.inl s0)) (G, M, T) := by
  refine (px_rl (by decide +kernel)).trans ?_
  exact Iff.rfl
theorem b244_349 {d : Nat} {G : PG} {M T : PH} {K : PV → PS → Prop} {l0 l1 l2 l3 l4 : Int} : pm_Run d 244 349 [.inr (.inr (.inl l0)), .inl l1, .inl l2, .inl l3, .inl l4] [] (G, M, T) K ↔ if pm_sg l4 = 0 then pm_Run d 244 370 [.inr (.inr (.inl l0)), .inl l1, .inl l2, .inl l3, .inl l4] [] (G, M, T) K else pm_Run d 244 354 [.inr (.inr (.inl l0)), .inl l1, .inl l2, .inl l3, .inl l4] [] (G, M, T) K := by
  refine (px_go (by decide +kernel : pm_fe 244 349 = some (.iload 4, 2)) rfl).trans ?_
  refine (px_if_eq (off := 19) (tgt := 370) (by decide +kernel)).trans ?_
  exact Iff.rfl
theorem b244_354 {d : Nat} {G : PG} {M T : PH} {K : PV → PS → Prop} {l0 l1 l2 l3 l4 : Int} (h1 : pm_ob G l0 12) : pm_Run d 244 354 [.inr (.inr (.inl l0)), .inl l1, .inl l2, .inl l3, .inl l4] [] (G, M, T) K ↔ pm_Call d 243 [.inr (.inr (.inl l0)), .inl l3, .inl (M l0.toNat 65)] (G, M, T) (fun r S1 => pm_Run d 244 363 [.inr (.inr (.inl l0)), .inl l1, .inl l2, .inl l3, .inl l4] (pm_push r []) S1 K) := by
  refine (px_go (by decide +kernel : pm_fe 244 354 = some (.aload_n 0, 1)) rfl).trans ?_
  refine (px_go (by decide +kernel : pm_fe 244 355 = some (.iload_n 3, 1)) rfl).trans ?_
  refine (px_go (by decide +kernel : pm_fe 244 356 = some (.aload_n 0, 1)) rfl).trans ?_
  refine (px_get0 (idx := 210) (ci := 12) (k := 65) (by decide +kernel)).trans ((and_iff_right h1).trans ?_)
  refine (px_v2 (idx := 466) (m' := 243) (ci := 12) (by decide +kernel)).trans ((and_iff_right ⟨h1, (by simp [pm_wl_n, pm_wl_c, pm_w] : pm_wl [] ≤ 8)⟩).trans ?_)
  exact Iff.rfl
theorem b244_363 {d : Nat} {G : PG} {M T : PH} {K : PV → PS → Prop} {l0 l1 l2 l3 l4 s0 : Int} : pm_Run d 244 363 [.inr (.inr (.inl l0)), .inl l1, .inl l2, .inl l3, .inl l4] [.inl s0] (G, M, T) K ↔ if pm_sg s0 = 0 then pm_Run d 244 370 [.inr (.inr (.inl l0)), .inl l1, .inl l2, .inl l3, .inl l4] [] (G, M, T) K else pm_Run d 244 366 [.inr (.inr (.inl l0)), .inl l1, .inl l2, .inl l3, .inl l4] [] (G, M, T) K := by
  refine (px_if_eq (off := 7) (tgt := 370) (by decide +kernel)).trans ?_
  exact Iff.rfl
theorem b244_366 {d : Nat} {G : PG} {M T : PH} {K : PV → PS → Prop} {l0 l1 l2 l3 l4 : Int} : pm_Run d 244 366 [.inr (.inr (.inl l0)), .inl l1, .inl l2, .inl l3, .inl l4] [] (G, M, T) K ↔ pm_Run d 244 371 [.inr (.inr (.inl l0)), .inl l1, .inl l2, .inl l3, .inl l4] [.inr (.inl 1)] (G, M, T) K := by
  refine (px_go (by decide +kernel : pm_fe 244 366 = some (.lconst 1, 1)) rfl).trans ?_
  refine (px_goto (off := 4) (tgt := 371) (by decide +kernel)).trans ?_
  exact Iff.rfl
theorem b244_370 {d : Nat} {G : PG} {M T : PH} {K : PV → PS → Prop} {l0 l1 l2 l3 l4 : Int} : pm_Run d 244 370 [.inr (.inr (.inl l0)), .inl l1, .inl l2, .inl l3, .inl l4] [] (G, M, T) K ↔ pm_Run d 244 371 [.inr (.inr (.inl l0)), .inl l1, .inl l2, .inl l3, .inl l4] [.inr (.inl 0)] (G, M, T) K := by
  refine (px_go (by decide +kernel : pm_fe 244 370 = some (.lconst 0, 1)) rfl).trans ?_
  exact Iff.rfl
theorem b244_371 {d : Nat} {G : PG} {M T : PH} {K : PV → PS → Prop} {l0 l1 l2 l3 l4 s0 : Int} : pm_Run d 244 371 [.inr (.inr (.inl l0)), .inl l1, .inl l2, .inl l3, .inl l4] [.inr (.inl s0)] (G, M, T) K ↔ K (.inr (.inl s0)) (G, M, T) := by
  refine (px_rl (by decide +kernel)).trans ?_
  exact Iff.rfl
theorem b244_372 {d : Nat} {G : PG} {M T : PH} {K : PV → PS → Prop} {l0 l1 l2 l3 l4 : Int} : pm_Run d 244 372 [.inr (.inr (.inl l0)), .inl l1, .inl l2, .inl l3, .inl l4] [] (G, M, T) K ↔ if pm_sg l4 = 0 then pm_Run d 244 390 [.inr (.inr (.inl l0)), .inl l1, .inl l2, .inl l3, .inl l4] [] (G, M, T) K else pm_Run d 244 377 [.inr (.inr (.inl l0)), .inl l1, .inl l2, .inl l3, .inl l4] [] (G, M, T) K := by
  refine (px_go (by decide +kernel : pm_fe 244 372 = some (.iload 4, 2)) rfl).trans ?_
  refine (px_if_eq (off := 16) (tgt := 390) (by decide +kernel)).trans ?_
  exact Iff.rfl
theorem b244_377 {d : Nat} {G : PG} {M T : PH} {K : PV → PS → Prop} {l0 l1 l2 l3 l4 : Int} (h1 : pm_ob G l0 12) : pm_Run d 244 377 [.inr (.inr (.inl l0)), .inl l1, .inl l2, .inl l3, .inl l4] [] (G, M, T) K ↔ pm_Call d 241 [.inr (.inr (.inl l0)), .inl l3, .inl (M l0.toNat 65)] (G, M, T) (fun r S1 => pm_Run d 244 386 [.inr (.inr (.inl l0)), .inl l1, .inl l2, .inl l3, .inl l4] (pm_push r []) S1 K) := by
  refine (px_go (by decide +kernel : pm_fe 244 377 = some (.aload_n 0, 1)) rfl).trans ?_
  refine (px_go (by decide +kernel : pm_fe 244 378 = some (.iload_n 3, 1)) rfl).trans ?_
  refine (px_go (by decide +kernel : pm_fe 244 379 = some (.aload_n 0, 1)) rfl).trans ?_
  refine (px_get0 (idx := 210) (ci := 12) (k := 65) (by decide +kernel)).trans ((and_iff_right h1).trans ?_)
  refine (px_v2 (idx := 470) (m' := 241) (ci := 12) (by decide +kernel)).trans ((and_iff_right ⟨h1, (by simp [pm_wl_n, pm_wl_c, pm_w] : pm_wl [] ≤ 8)⟩).trans ?_)
  exact Iff.rfl
theorem b244_386 {d : Nat} {G : PG} {M T : PH} {K : PV → PS → Prop} {l0 l1 l2 l3 l4 s0 : Int} : pm_Run d 244 386 [.inr (.inr (.inl l0)), .inl l1, .inl l2, .inl l3, .inl l4] [.inl s0] (G, M, T) K ↔ pm_Run d 244 391 [.inr (.inr (.inl l0)), .inl l1, .inl l2, .inl l3, .inl l4] [.inr (.inl (pm_sg s0))] (G, M, T) K := by
  refine (px_go (by decide +kernel : pm_fe 244 386 = some (.i2l, 1)) rfl).trans ?_
  refine (px_goto (off := 4) (tgt := 391) (by decide +kernel)).trans ?_
  exact Iff.rfl
theorem b244_390 {d : Nat} {G : PG} {M T : PH} {K : PV → PS → Prop} {l0 l1 l2 l3 l4 : Int} : pm_Run d 244 390 [.inr (.inr (.inl l0)), .inl l1, .inl l2, .inl l3, .inl l4] [] (G, M, T) K ↔ pm_Run d 244 391 [.inr (.inr (.inl l0)), .inl l1, .inl l2, .inl l3, .inl l4] [.inr (.inl 0)] (G, M, T) K := by
  refine (px_go (by decide +kernel : pm_fe 244 390 = some (.lconst 0, 1)) rfl).trans ?_
  exact Iff.rfl
theorem b244_391 {d : Nat} {G : PG} {M T : PH} {K : PV → PS → Prop} {l0 l1 l2 l3 l4 s0 : Int} : pm_Run d 244 391 [.inr (.inr (.inl l0)), .inl l1, .inl l2, .inl l3, .inl l4] [.inr (.inl s0)] (G, M, T) K ↔ K (.inr (.inl s0)) (G, M, T) := by
  refine (px_rl (by decide +kernel)).trans ?_
  exact Iff.rfl
theorem b244_392 {d : Nat} {G : PG} {M T : PH} {K : PV → PS → Prop} {l0 l1 l2 l3 l4 : Int} (h1 : pm_ob G l0 12) (h2 : pm_ar G (T l0.toNat 54) 100 l3) : pm_Run d 244 392 [.inr (.inr (.inl l0)), .inl l1, .inl l2, .inl l3, .inl l4] [] (G, M, T) K ↔ K (.inr (.inl (pm_sg (M (T l0.toNat 54).toNat (pm_sg l3).toNat)))) (G, M, T) := by
  refine (px_go (by decide +kernel : pm_fe 244 392 = some (.aload_n 0, 1)) rfl).trans ?_
  refine (px_get2 (idx := 177) (ci := 12) (k := 54) (by decide +kernel)).trans ((and_iff_right h1).trans ?_)
  refine (px_go (by decide +kernel : pm_fe 244 396 = some (.iload_n 3, 1)) rfl).trans ?_
  refine (px_iaload (by decide +kernel) h2).trans ?_
  refine (px_go (by decide +kernel : pm_fe 244 398 = some (.i2l, 1)) rfl).trans ?_
  refine (px_rl (by decide +kernel)).trans ?_
  exact Iff.rfl
theorem b244_400 {d : Nat} {G : PG} {M T : PH} {K : PV → PS → Prop} {l0 l1 l2 l3 l4 : Int} (h1 : pm_ob G l0 12) : pm_Run d 244 400 [.inr (.inr (.inl l0)), .inl l1, .inl l2, .inl l3, .inl l4] [] (G, M, T) K ↔ K (.inr (.inl (pm_sg (M l0.toNat 67)))) (G, M, T) := by
  refine (px_go (by decide +kernel : pm_fe 244 400 = some (.aload_n 0, 1)) rfl).trans ?_
  refine (px_get0 (idx := 216) (ci := 12) (k := 67) (by decide +kernel)).trans ((and_iff_right h1).trans ?_)
  refine (px_go (by decide +kernel : pm_fe 244 404 = some (.i2l, 1)) rfl).trans ?_
  refine (px_rl (by decide +kernel)).trans ?_
  exact Iff.rfl
theorem b244_406 {d : Nat} {G : PG} {M T : PH} {K : PV → PS → Prop} {l0 l1 l2 l3 l4 : Int} : pm_Run d 244 406 [.inr (.inr (.inl l0)), .inl l1, .inl l2, .inl l3, .inl l4] [] (G, M, T) K ↔ K (.inr (.inl 1)) (G, M, T) := by
  refine (px_go (by decide +kernel : pm_fe 244 406 = some (.lconst 1, 1)) rfl).trans ?_
  refine (px_rl (by decide +kernel)).trans ?_
  exact Iff.rfl
-- X12_held held(J)J
theorem en245 {d : Nat} {p0 : Int} {S : PS} {K : PV → PS → Prop} : pm_Call (d + 1) 245 [.inr (.inl p0)] S K ↔ pm_Run d 245 0 [.inr (.inl p0), PU] [] S K := pm_Call_s.trans (and_iff_right (show 2 ≤ pm_ml 245 from by decide +kernel))
theorem b245_0 {d : Nat} {G : PG} {M T : PH} {K : PV → PS → Prop} {l0 : Int} : pm_Run d 245 0 [.inr (.inl l0), PU] [] (G, M, T) K ↔ if pm_sg (pm_cmp l0 1000000) ≤ 0 then pm_Run d 245 14 [.inr (.inl l0), PU] [] (G, M, T) K else pm_Run d 245 8 [.inr (.inl l0), PU] [] (G, M, T) K := by
  refine (px_go (by decide +kernel : pm_fe 245 0 = some (.lload_n 0, 1)) rfl).trans ?_
  refine (px_ldcL (idx := 473) (x := 1000000) (by decide +kernel)).trans ?_
  refine (px_go (by decide +kernel : pm_fe 245 4 = some (.lcmp, 1)) rfl).trans ?_
  refine (px_if_le (off := 9) (tgt := 14) (by decide +kernel)).trans ?_
  exact Iff.rfl
theorem b245_8 {d : Nat} {G : PG} {M T : PH} {K : PV → PS → Prop} {l0 : Int} : pm_Run d 245 8 [.inr (.inl l0), PU] [] (G, M, T) K ↔ pm_Run d 245 29 [.inr (.inl l0), PU] [.inr (.inl 1000000)] (G, M, T) K := by
  refine (px_ldcL (idx := 473) (x := 1000000) (by decide +kernel)).trans ?_
  refine (px_goto (off := 18) (tgt := 29) (by decide +kernel)).trans ?_
  exact Iff.rfl
theorem b245_14 {d : Nat} {G : PG} {M T : PH} {K : PV → PS → Prop} {l0 : Int} : pm_Run d 245 14 [.inr (.inl l0), PU] [] (G, M, T) K ↔ if 0 ≤ pm_sg (pm_cmp l0 (-1000000)) then pm_Run d 245 28 [.inr (.inl l0), PU] [] (G, M, T) K else pm_Run d 245 22 [.inr (.inl l0), PU] [] (G, M, T) K := by
  refine (px_go (by decide +kernel : pm_fe 245 14 = some (.lload_n 0, 1)) rfl).trans ?_
  refine (px_ldcL (idx := 475) (x := (-1000000)) (by decide +kernel)).trans ?_
  refine (px_go (by decide +kernel : pm_fe 245 18 = some (.lcmp, 1)) rfl).trans ?_
  refine (px_if_ge (off := 9) (tgt := 28) (by decide +kernel)).trans ?_
  exact Iff.rfl
theorem b245_22 {d : Nat} {G : PG} {M T : PH} {K : PV → PS → Prop} {l0 : Int} : pm_Run d 245 22 [.inr (.inl l0), PU] [] (G, M, T) K ↔ pm_Run d 245 29 [.inr (.inl l0), PU] [.inr (.inl (-1000000))] (G, M, T) K := by
  refine (px_ldcL (idx := 475) (x := (-1000000)) (by decide +kernel)).trans ?_
  refine (px_goto (off := 4) (tgt := 29) (by decide +kernel)).trans ?_
  exact Iff.rfl
theorem b245_28 {d : Nat} {G : PG} {M T : PH} {K : PV → PS → Prop} {l0 : Int} : pm_Run d 245 28 [.inr (.inl l0), PU] [] (G, M, T) K ↔ pm_Run d 245 29 [.inr (.inl l0), PU] [.inr (.inl l0)] (G, M, T) K := by
  refine (px_go (by decide +kernel : pm_fe 245 28 = some (.lload_n 0, 1)) rfl).trans ?_
  exact Iff.rfl
theorem b245_29 {d : Nat} {G : PG} {M T : PH} {K : PV → PS → Prop} {l0 s0 : Int} : pm_Run d 245 29 [.inr (.inl l0), PU] [.inr (.inl s0)] (G, M, T) K ↔ K (.inr (.inl s0)) (G, M, T) := by
  refine (px_rl (by decide +kernel)).trans ?_
  exact Iff.rfl
-- X12_floor floor(JJ)J
theorem en246 {d : Nat} {p0 p1 : Int} {S : PS} {K : PV → PS → Prop} : pm_Call (d + 1) 246 [.inr (.inl p0), .inr (.inl p1)] S K ↔ pm_Run d 246 0 [.inr (.inl p0), PU, .inr (.inl p1), PU, PU, PU] [] S K := pm_Call_s.trans (and_iff_right (show 4 ≤ pm_ml 246 from by decide +kernel))
theorem b246_0 {d : Nat} {G : PG} {M T : PH} {K : PV → PS → Prop} {l0 l2 : Int} : pm_Run d 246 0 [.inr (.inl l0), PU, .inr (.inl l2), PU, PU, PU] [] (G, M, T) K ↔ if pm_sg (pm_cmp l2 0) ≠ 0 then pm_Run d 246 8 [.inr (.inl l0), PU, .inr (.inl l2), PU, PU, PU] [] (G, M, T) K else pm_Run d 246 6 [.inr (.inl l0), PU, .inr (.inl l2), PU, PU, PU] [] (G, M, T) K := by
  refine (px_go (by decide +kernel : pm_fe 246 0 = some (.lload_n 2, 1)) rfl).trans ?_
  refine (px_go (by decide +kernel : pm_fe 246 1 = some (.lconst 0, 1)) rfl).trans ?_
  refine (px_go (by decide +kernel : pm_fe 246 2 = some (.lcmp, 1)) rfl).trans ?_
  refine (px_if_ne (off := 5) (tgt := 8) (by decide +kernel)).trans ?_
  exact Iff.rfl
theorem b246_6 {d : Nat} {G : PG} {M T : PH} {K : PV → PS → Prop} {l0 l2 : Int} : pm_Run d 246 6 [.inr (.inl l0), PU, .inr (.inl l2), PU, PU, PU] [] (G, M, T) K ↔ K (.inr (.inl 0)) (G, M, T) := by
  refine (px_go (by decide +kernel : pm_fe 246 6 = some (.lconst 0, 1)) rfl).trans ?_
  refine (px_rl (by decide +kernel)).trans ?_
  exact Iff.rfl
theorem b246_8 {d : Nat} {G : PG} {M T : PH} {K : PV → PS → Prop} {l0 l2 : Int} (h1 : pm_sl l2 ≠ 0) : pm_Run d 246 8 [.inr (.inl l0), PU, .inr (.inl l2), PU, PU, PU] [] (G, M, T) K ↔ if pm_sg (pm_cmp (pm_lrem l0 l2) 0) = 0 then pm_Run d 246 53 [.inr (.inl l0), PU, .inr (.inl l2), PU, .inr (.inl (pm_ldiv l0 l2)), PU] [] (G, M, T) K else pm_Run d 246 21 [.inr (.inl l0), PU, .inr (.inl l2), PU, .inr (.inl (pm_ldiv l0 l2)), PU] [] (G, M, T) K := by
  refine (px_go (by decide +kernel : pm_fe 246 8 = some (.lload_n 0, 1)) rfl).trans ?_
  refine (px_go (by decide +kernel : pm_fe 246 9 = some (.lload_n 2, 1)) rfl).trans ?_
  refine (px_ldiv (by decide +kernel)).trans ((and_iff_right h1).trans ?_)
  refine (px_go (by decide +kernel : pm_fe 246 11 = some (.lstore 4, 2)) rfl).trans ?_
  refine (px_go (by decide +kernel : pm_fe 246 13 = some (.lload_n 0, 1)) rfl).trans ?_
  refine (px_go (by decide +kernel : pm_fe 246 14 = some (.lload_n 2, 1)) rfl).trans ?_
  refine (px_lrem (by decide +kernel)).trans ((and_iff_right h1).trans ?_)
  refine (px_go (by decide +kernel : pm_fe 246 16 = some (.lconst 0, 1)) rfl).trans ?_
  refine (px_go (by decide +kernel : pm_fe 246 17 = some (.lcmp, 1)) rfl).trans ?_
  refine (px_if_eq (off := 35) (tgt := 53) (by decide +kernel)).trans ?_
  exact Iff.rfl
theorem b246_21 {d : Nat} {G : PG} {M T : PH} {K : PV → PS → Prop} {l0 l2 l4 : Int} : pm_Run d 246 21 [.inr (.inl l0), PU, .inr (.inl l2), PU, .inr (.inl l4), PU] [] (G, M, T) K ↔ if 0 ≤ pm_sg (pm_cmp l0 0) then pm_Run d 246 31 [.inr (.inl l0), PU, .inr (.inl l2), PU, .inr (.inl l4), PU] [] (G, M, T) K else pm_Run d 246 27 [.inr (.inl l0), PU, .inr (.inl l2), PU, .inr (.inl l4), PU] [] (G, M, T) K := by
  refine (px_go (by decide +kernel : pm_fe 246 21 = some (.lload_n 0, 1)) rfl).trans ?_
  refine (px_go (by decide +kernel : pm_fe 246 22 = some (.lconst 0, 1)) rfl).trans ?_
  refine (px_go (by decide +kernel : pm_fe 246 23 = some (.lcmp, 1)) rfl).trans ?_
  refine (px_if_ge (off := 7) (tgt := 31) (by decide +kernel)).trans ?_
  exact Iff.rfl
theorem b246_27 {d : Nat} {G : PG} {M T : PH} {K : PV → PS → Prop} {l0 l2 l4 : Int} : pm_Run d 246 27 [.inr (.inl l0), PU, .inr (.inl l2), PU, .inr (.inl l4), PU] [] (G, M, T) K ↔ pm_Run d 246 32 [.inr (.inl l0), PU, .inr (.inl l2), PU, .inr (.inl l4), PU] [.inl 1] (G, M, T) K := by
  refine (px_go (by decide +kernel : pm_fe 246 27 = some (.iconst 1, 1)) rfl).trans ?_
  refine (px_goto (off := 4) (tgt := 32) (by decide +kernel)).trans ?_
  exact Iff.rfl
theorem b246_31 {d : Nat} {G : PG} {M T : PH} {K : PV → PS → Prop} {l0 l2 l4 : Int} : pm_Run d 246 31 [.inr (.inl l0), PU, .inr (.inl l2), PU, .inr (.inl l4), PU] [] (G, M, T) K ↔ pm_Run d 246 32 [.inr (.inl l0), PU, .inr (.inl l2), PU, .inr (.inl l4), PU] [.inl 0] (G, M, T) K := by
  refine (px_go (by decide +kernel : pm_fe 246 31 = some (.iconst 0, 1)) rfl).trans ?_
  exact Iff.rfl
theorem b246_32 {d : Nat} {G : PG} {M T : PH} {K : PV → PS → Prop} {l0 l2 l4 s0 : Int} : pm_Run d 246 32 [.inr (.inl l0), PU, .inr (.inl l2), PU, .inr (.inl l4), PU] [.inl s0] (G, M, T) K ↔ if 0 ≤ pm_sg (pm_cmp l2 0) then pm_Run d 246 42 [.inr (.inl l0), PU, .inr (.inl l2), PU, .inr (.inl l4), PU] [.inl s0] (G, M, T) K else pm_Run d 246 38 [.inr (.inl l0), PU, .inr (.inl l2), PU, .inr (.inl l4), PU] [.inl s0] (G, M, T) K := by
  refine (px_go (by decide +kernel : pm_fe 246 32 = some (.lload_n 2, 1)) rfl).trans ?_
  refine (px_go (by decide +kernel : pm_fe 246 33 = some (.lconst 0, 1)) rfl).trans ?_
  refine (px_go (by decide +kernel : pm_fe 246 34 = some (.lcmp, 1)) rfl).trans ?_
  refine (px_if_ge (off := 7) (tgt := 42) (by decide +kernel)).trans ?_
  exact Iff.rfl
theorem b246_38 {d : Nat} {G : PG} {M T : PH} {K : PV → PS → Prop} {l0 l2 l4 s0 : Int} : pm_Run d 246 38 [.inr (.inl l0), PU, .inr (.inl l2), PU, .inr (.inl l4), PU] [.inl s0] (G, M, T) K ↔ pm_Run d 246 43 [.inr (.inl l0), PU, .inr (.inl l2), PU, .inr (.inl l4), PU] [.inl 1, .inl s0] (G, M, T) K := by
  refine (px_go (by decide +kernel : pm_fe 246 38 = some (.iconst 1, 1)) rfl).trans ?_
  refine (px_goto (off := 4) (tgt := 43) (by decide +kernel)).trans ?_
  exact Iff.rfl
theorem b246_42 {d : Nat} {G : PG} {M T : PH} {K : PV → PS → Prop} {l0 l2 l4 s0 : Int} : pm_Run d 246 42 [.inr (.inl l0), PU, .inr (.inl l2), PU, .inr (.inl l4), PU] [.inl s0] (G, M, T) K ↔ pm_Run d 246 43 [.inr (.inl l0), PU, .inr (.inl l2), PU, .inr (.inl l4), PU] [.inl 0, .inl s0] (G, M, T) K := by
  refine (px_go (by decide +kernel : pm_fe 246 42 = some (.iconst 0, 1)) rfl).trans ?_
  exact Iff.rfl
theorem b246_43 {d : Nat} {G : PG} {M T : PH} {K : PV → PS → Prop} {l0 l2 l4 s0 s1 : Int} : pm_Run d 246 43 [.inr (.inl l0), PU, .inr (.inl l2), PU, .inr (.inl l4), PU] [.inl s0, .inl s1] (G, M, T) K ↔ if pm_sg s1 = pm_sg s0 then pm_Run d 246 53 [.inr (.inl l0), PU, .inr (.inl l2), PU, .inr (.inl l4), PU] [] (G, M, T) K else pm_Run d 246 46 [.inr (.inl l0), PU, .inr (.inl l2), PU, .inr (.inl l4), PU] [] (G, M, T) K := by
  refine (px_ic_eq (off := 10) (tgt := 53) (by decide +kernel)).trans ?_
  exact Iff.rfl
theorem b246_46 {d : Nat} {G : PG} {M T : PH} {K : PV → PS → Prop} {l0 l2 l4 : Int} : pm_Run d 246 46 [.inr (.inl l0), PU, .inr (.inl l2), PU, .inr (.inl l4), PU] [] (G, M, T) K ↔ pm_Run d 246 55 [.inr (.inl l0), PU, .inr (.inl l2), PU, .inr (.inl l4), PU] [.inr (.inl (l4 - 1))] (G, M, T) K := by
  refine (px_go (by decide +kernel : pm_fe 246 46 = some (.lload 4, 2)) rfl).trans ?_
  refine (px_go (by decide +kernel : pm_fe 246 48 = some (.lconst 1, 1)) rfl).trans ?_
  refine (px_go (by decide +kernel : pm_fe 246 49 = some (.lsub, 1)) rfl).trans ?_
  refine (px_goto (off := 5) (tgt := 55) (by decide +kernel)).trans ?_
  exact Iff.rfl
theorem b246_53 {d : Nat} {G : PG} {M T : PH} {K : PV → PS → Prop} {l0 l2 l4 : Int} : pm_Run d 246 53 [.inr (.inl l0), PU, .inr (.inl l2), PU, .inr (.inl l4), PU] [] (G, M, T) K ↔ pm_Run d 246 55 [.inr (.inl l0), PU, .inr (.inl l2), PU, .inr (.inl l4), PU] [.inr (.inl l4)] (G, M, T) K := by
  refine (px_go (by decide +kernel : pm_fe 246 53 = some (.lload 4, 2)) rfl).trans ?_
  exact Iff.rfl
theorem b246_55 {d : Nat} {G : PG} {M T : PH} {K : PV → PS → Prop} {l0 l2 l4 s0 : Int} : pm_Run d 246 55 [.inr (.inl l0), PU, .inr (.inl l2), PU, .inr (.inl l4), PU] [.inr (.inl s0)] (G, M, T) K ↔ K (.inr (.inl s0)) (G, M, T) := by
  refine (px_rl (by decide +kernel)).trans ?_
  exact Iff.rfl
-- X12_two two(IJJ)J
theorem en247 {d : Nat} {p0 p1 p2 : Int} {S : PS} {K : PV → PS → Prop} : pm_Call (d + 1) 247 [.inl p0, .inr (.inl p1), .inr (.inl p2)] S K ↔ pm_Run d 247 0 [.inl p0, .inr (.inl p1), PU, .inr (.inl p2), PU] [] S K := pm_Call_s.trans (and_iff_right (show 5 ≤ pm_ml 247 from by decide +kernel))
theorem b247_0 {d : Nat} {G : PG} {M T : PH} {K : PV → PS → Prop} {l0 l1 l3 : Int} : pm_Run d 247 0 [.inl l0, .inr (.inl l1), PU, .inr (.inl l3), PU] [] (G, M, T) K ↔ pm_Run d 247 (pm_tg 10 [60, 67, 74, 81, 90, 113, 125, 137, 149, 161, 173] 177 (pm_sg l0)) [.inl l0, .inr (.inl l1), PU, .inr (.inl l3), PU] [] (G, M, T) K := by
  refine (px_go (by decide +kernel : pm_fe 247 0 = some (.iload_n 0, 1)) rfl).trans ?_
  refine (px_tsw (lo := 10) (dt := 177) (tl := [60, 67, 74, 81, 90, 113, 125, 137, 149, 161, 173]) (by decide +kernel : pm_fe 247 1 = some (.tableswitch 176 10 20 #[59, 66, 73, 80, 89, 112, 124, 136, 148, 160, 172], 59) ∧ _)).trans ?_
  exact Iff.rfl
theorem b247_60 {d : Nat} {G : PG} {M T : PH} {K : PV → PS → Prop} {l0 l1 l3 : Int} : pm_Run d 247 60 [.inl l0, .inr (.inl l1), PU, .inr (.inl l3), PU] [] (G, M, T) K ↔ pm_Call d 245 [.inr (.inl (l1 + l3))] (G, M, T) (fun r S1 => pm_Run d 247 66 [.inl l0, .inr (.inl l1), PU, .inr (.inl l3), PU] (pm_push r []) S1 K) := by
  refine (px_go (by decide +kernel : pm_fe 247 60 = some (.lload_n 1, 1)) rfl).trans ?_
  refine (px_go (by decide +kernel : pm_fe 247 61 = some (.lload_n 3, 1)) rfl).trans ?_
  refine (px_go (by decide +kernel : pm_fe 247 62 = some (.ladd, 1)) rfl).trans ?_
  refine (px_s1 (idx := 477) (m' := 245) (nest := 0) (by decide +kernel)).trans ((and_iff_right (by simp [pm_wl_n, pm_wl_c, pm_w] : pm_wl [] ≤ 8)).trans ?_)
  exact Iff.rfl
theorem b247_66 {d : Nat} {G : PG} {M T : PH} {K : PV → PS → Prop} {l0 l1 l3 s0 : Int} : pm_Run d 247 66 [.inl l0, .inr (.inl l1), PU, .inr (.inl l3), PU] [.inr (.inl s0)] (G, M, T) K ↔ K (.inr (.inl s0)) (G, M, T) := by
  refine (px_rl (by decide +kernel)).trans ?_
  exact Iff.rfl
theorem b247_67 {d : Nat} {G : PG} {M T : PH} {K : PV → PS → Prop} {l0 l1 l3 : Int} : pm_Run d 247 67 [.inl l0, .inr (.inl l1), PU, .inr (.inl l3), PU] [] (G, M, T) K ↔ pm_Call d 245 [.inr (.inl (l1 - l3))] (G, M, T) (fun r S1 => pm_Run d 247 73 [.inl l0, .inr (.inl l1), PU, .inr (.inl l3), PU] (pm_push r []) S1 K) := by
  refine (px_go (by decide +kernel : pm_fe 247 67 = some (.lload_n 1, 1)) rfl).trans ?_
  refine (px_go (by decide +kernel : pm_fe 247 68 = some (.lload_n 3, 1)) rfl).trans ?_
  refine (px_go (by decide +kernel : pm_fe 247 69 = some (.lsub, 1)) rfl).trans ?_
  refine (px_s1 (idx := 477) (m' := 245) (nest := 0) (by decide +kernel)).trans ((and_iff_right (by simp [pm_wl_n, pm_wl_c, pm_w] : pm_wl [] ≤ 8)).trans ?_)
  exact Iff.rfl
theorem b247_73 {d : Nat} {G : PG} {M T : PH} {K : PV → PS → Prop} {l0 l1 l3 s0 : Int} : pm_Run d 247 73 [.inl l0, .inr (.inl l1), PU, .inr (.inl l3), PU] [.inr (.inl s0)] (G, M, T) K ↔ K (.inr (.inl s0)) (G, M, T) := by
  refine (px_rl (by decide +kernel)).trans ?_
  exact Iff.rfl
theorem b247_74 {d : Nat} {G : PG} {M T : PH} {K : PV → PS → Prop} {l0 l1 l3 : Int} : pm_Run d 247 74 [.inl l0, .inr (.inl l1), PU, .inr (.inl l3), PU] [] (G, M, T) K ↔ pm_Call d 245 [.inr (.inl (l1 * l3))] (G, M, T) (fun r S1 => pm_Run d 247 80 [.inl l0, .inr (.inl l1), PU, .inr (.inl l3), PU] (pm_push r []) S1 K) := by
  refine (px_go (by decide +kernel : pm_fe 247 74 = some (.lload_n 1, 1)) rfl).trans ?_
  refine (px_go (by decide +kernel : pm_fe 247 75 = some (.lload_n 3, 1)) rfl).trans ?_
  refine (px_go (by decide +kernel : pm_fe 247 76 = some (.lmul, 1)) rfl).trans ?_
  refine (px_s1 (idx := 477) (m' := 245) (nest := 0) (by decide +kernel)).trans ((and_iff_right (by simp [pm_wl_n, pm_wl_c, pm_w] : pm_wl [] ≤ 8)).trans ?_)
  exact Iff.rfl
theorem b247_80 {d : Nat} {G : PG} {M T : PH} {K : PV → PS → Prop} {l0 l1 l3 s0 : Int} : pm_Run d 247 80 [.inl l0, .inr (.inl l1), PU, .inr (.inl l3), PU] [.inr (.inl s0)] (G, M, T) K ↔ K (.inr (.inl s0)) (G, M, T) := by
  refine (px_rl (by decide +kernel)).trans ?_
  exact Iff.rfl
theorem b247_81 {d : Nat} {G : PG} {M T : PH} {K : PV → PS → Prop} {l0 l1 l3 : Int} : pm_Run d 247 81 [.inl l0, .inr (.inl l1), PU, .inr (.inl l3), PU] [] (G, M, T) K ↔ pm_Call d 246 [.inr (.inl l1), .inr (.inl l3)] (G, M, T) (fun r S1 => pm_Run d 247 86 [.inl l0, .inr (.inl l1), PU, .inr (.inl l3), PU] (pm_push r []) S1 K) := by
  refine (px_go (by decide +kernel : pm_fe 247 81 = some (.lload_n 1, 1)) rfl).trans ?_
  refine (px_go (by decide +kernel : pm_fe 247 82 = some (.lload_n 3, 1)) rfl).trans ?_
  refine (px_s2 (idx := 481) (m' := 246) (nest := 0) (by decide +kernel)).trans ((and_iff_right (by simp [pm_wl_n, pm_wl_c, pm_w] : pm_wl [] ≤ 8)).trans ?_)
  exact Iff.rfl
theorem b247_86 {d : Nat} {G : PG} {M T : PH} {K : PV → PS → Prop} {l0 l1 l3 s0 : Int} : pm_Run d 247 86 [.inl l0, .inr (.inl l1), PU, .inr (.inl l3), PU] [.inr (.inl s0)] (G, M, T) K ↔ pm_Call d 245 [.inr (.inl s0)] (G, M, T) (fun r S1 => pm_Run d 247 89 [.inl l0, .inr (.inl l1), PU, .inr (.inl l3), PU] (pm_push r []) S1 K) := by
  refine (px_s1 (idx := 477) (m' := 245) (nest := 0) (by decide +kernel)).trans ((and_iff_right (by simp [pm_wl_n, pm_wl_c, pm_w] : pm_wl [] ≤ 8)).trans ?_)
  exact Iff.rfl
theorem b247_89 {d : Nat} {G : PG} {M T : PH} {K : PV → PS → Prop} {l0 l1 l3 s0 : Int} : pm_Run d 247 89 [.inl l0, .inr (.inl l1), PU, .inr (.inl l3), PU] [.inr (.inl s0)] (G, M, T) K ↔ K (.inr (.inl s0)) (G, M, T) := by
  refine (px_rl (by decide +kernel)).trans ?_
  exact Iff.rfl
theorem b247_90 {d : Nat} {G : PG} {M T : PH} {K : PV → PS → Prop} {l0 l1 l3 : Int} : pm_Run d 247 90 [.inl l0, .inr (.inl l1), PU, .inr (.inl l3), PU] [] (G, M, T) K ↔ if pm_sg (pm_cmp l3 0) ≠ 0 then pm_Run d 247 100 [.inl l0, .inr (.inl l1), PU, .inr (.inl l3), PU] [] (G, M, T) K else pm_Run d 247 96 [.inl l0, .inr (.inl l1), PU, .inr (.inl l3), PU] [] (G, M, T) K := by
  refine (px_go (by decide +kernel : pm_fe 247 90 = some (.lload_n 3, 1)) rfl).trans ?_
  refine (px_go (by decide +kernel : pm_fe 247 91 = some (.lconst 0, 1)) rfl).trans ?_
  refine (px_go (by decide +kernel : pm_fe 247 92 = some (.lcmp, 1)) rfl).trans ?_
  refine (px_if_ne (off := 7) (tgt := 100) (by decide +kernel)).trans ?_
  exact Iff.rfl
theorem b247_96 {d : Nat} {G : PG} {M T : PH} {K : PV → PS → Prop} {l0 l1 l3 : Int} : pm_Run d 247 96 [.inl l0, .inr (.inl l1), PU, .inr (.inl l3), PU] [] (G, M, T) K ↔ pm_Run d 247 112 [.inl l0, .inr (.inl l1), PU, .inr (.inl l3), PU] [.inr (.inl 0)] (G, M, T) K := by
  refine (px_go (by decide +kernel : pm_fe 247 96 = some (.lconst 0, 1)) rfl).trans ?_
  refine (px_goto (off := 15) (tgt := 112) (by decide +kernel)).trans ?_
  exact Iff.rfl
theorem b247_100 {d : Nat} {G : PG} {M T : PH} {K : PV → PS → Prop} {l0 l1 l3 : Int} : pm_Run d 247 100 [.inl l0, .inr (.inl l1), PU, .inr (.inl l3), PU] [] (G, M, T) K ↔ pm_Call d 246 [.inr (.inl l1), .inr (.inl l3)] (G, M, T) (fun r S1 => pm_Run d 247 107 [.inl l0, .inr (.inl l1), PU, .inr (.inl l3), PU] (pm_push r [.inr (.inl l3), .inr (.inl l1)]) S1 K) := by
  refine (px_go (by decide +kernel : pm_fe 247 100 = some (.lload_n 1, 1)) rfl).trans ?_
  refine (px_go (by decide +kernel : pm_fe 247 101 = some (.lload_n 3, 1)) rfl).trans ?_
  refine (px_go (by decide +kernel : pm_fe 247 102 = some (.lload_n 1, 1)) rfl).trans ?_
  refine (px_go (by decide +kernel : pm_fe 247 103 = some (.lload_n 3, 1)) rfl).trans ?_
  refine (px_s2 (idx := 481) (m' := 246) (nest := 0) (by decide +kernel)).trans ((and_iff_right (by simp [pm_wl_n, pm_wl_c, pm_w] : pm_wl [.inr (.inl l3), .inr (.inl l1)] ≤ 8)).trans ?_)
  exact Iff.rfl
theorem b247_107 {d : Nat} {G : PG} {M T : PH} {K : PV → PS → Prop} {l0 l1 l3 s0 s1 s2 : Int} : pm_Run d 247 107 [.inl l0, .inr (.inl l1), PU, .inr (.inl l3), PU] [.inr (.inl s0), .inr (.inl s1), .inr (.inl s2)] (G, M, T) K ↔ pm_Call d 245 [.inr (.inl (s2 - (s1 * s0)))] (G, M, T) (fun r S1 => pm_Run d 247 112 [.inl l0, .inr (.inl l1), PU, .inr (.inl l3), PU] (pm_push r []) S1 K) := by
  refine (px_go (by decide +kernel : pm_fe 247 107 = some (.lmul, 1)) rfl).trans ?_
  refine (px_go (by decide +kernel : pm_fe 247 108 = some (.lsub, 1)) rfl).trans ?_
  refine (px_s1 (idx := 477) (m' := 245) (nest := 0) (by decide +kernel)).trans ((and_iff_right (by simp [pm_wl_n, pm_wl_c, pm_w] : pm_wl [] ≤ 8)).trans ?_)
  exact Iff.rfl
theorem b247_112 {d : Nat} {G : PG} {M T : PH} {K : PV → PS → Prop} {l0 l1 l3 s0 : Int} : pm_Run d 247 112 [.inl l0, .inr (.inl l1), PU, .inr (.inl l3), PU] [.inr (.inl s0)] (G, M, T) K ↔ K (.inr (.inl s0)) (G, M, T) := by
  refine (px_rl (by decide +kernel)).trans ?_
  exact Iff.rfl
theorem b247_113 {d : Nat} {G : PG} {M T : PH} {K : PV → PS → Prop} {l0 l1 l3 : Int} : pm_Run d 247 113 [.inl l0, .inr (.inl l1), PU, .inr (.inl l3), PU] [] (G, M, T) K ↔ if 0 ≤ pm_sg (pm_cmp l1 l3) then pm_Run d 247 123 [.inl l0, .inr (.inl l1), PU, .inr (.inl l3), PU] [] (G, M, T) K else pm_Run d 247 119 [.inl l0, .inr (.inl l1), PU, .inr (.inl l3), PU] [] (G, M, T) K := by
  refine (px_go (by decide +kernel : pm_fe 247 113 = some (.lload_n 1, 1)) rfl).trans ?_
  refine (px_go (by decide +kernel : pm_fe 247 114 = some (.lload_n 3, 1)) rfl).trans ?_
  refine (px_go (by decide +kernel : pm_fe 247 115 = some (.lcmp, 1)) rfl).trans ?_
  refine (px_if_ge (off := 7) (tgt := 123) (by decide +kernel)).trans ?_
  exact Iff.rfl
theorem b247_119 {d : Nat} {G : PG} {M T : PH} {K : PV → PS → Prop} {l0 l1 l3 : Int} : pm_Run d 247 119 [.inl l0, .inr (.inl l1), PU, .inr (.inl l3), PU] [] (G, M, T) K ↔ pm_Run d 247 124 [.inl l0, .inr (.inl l1), PU, .inr (.inl l3), PU] [.inr (.inl l1)] (G, M, T) K := by
  refine (px_go (by decide +kernel : pm_fe 247 119 = some (.lload_n 1, 1)) rfl).trans ?_
  refine (px_goto (off := 4) (tgt := 124) (by decide +kernel)).trans ?_
  exact Iff.rfl
theorem b247_123 {d : Nat} {G : PG} {M T : PH} {K : PV → PS → Prop} {l0 l1 l3 : Int} : pm_Run d 247 123 [.inl l0, .inr (.inl l1), PU, .inr (.inl l3), PU] [] (G, M, T) K ↔ pm_Run d 247 124 [.inl l0, .inr (.inl l1), PU, .inr (.inl l3), PU] [.inr (.inl l3)] (G, M, T) K := by
  refine (px_go (by decide +kernel : pm_fe 247 123 = some (.lload_n 3, 1)) rfl).trans ?_
  exact Iff.rfl
theorem b247_124 {d : Nat} {G : PG} {M T : PH} {K : PV → PS → Prop} {l0 l1 l3 s0 : Int} : pm_Run d 247 124 [.inl l0, .inr (.inl l1), PU, .inr (.inl l3), PU] [.inr (.inl s0)] (G, M, T) K ↔ K (.inr (.inl s0)) (G, M, T) := by
  refine (px_rl (by decide +kernel)).trans ?_
  exact Iff.rfl
theorem b247_125 {d : Nat} {G : PG} {M T : PH} {K : PV → PS → Prop} {l0 l1 l3 : Int} : pm_Run d 247 125 [.inl l0, .inr (.inl l1), PU, .inr (.inl l3), PU] [] (G, M, T) K ↔ if pm_sg (pm_cmp l1 l3) ≤ 0 then pm_Run d 247 135 [.inl l0, .inr (.inl l1), PU, .inr (.inl l3), PU] [] (G, M, T) K else pm_Run d 247 131 [.inl l0, .inr (.inl l1), PU, .inr (.inl l3), PU] [] (G, M, T) K := by
  refine (px_go (by decide +kernel : pm_fe 247 125 = some (.lload_n 1, 1)) rfl).trans ?_
  refine (px_go (by decide +kernel : pm_fe 247 126 = some (.lload_n 3, 1)) rfl).trans ?_
  refine (px_go (by decide +kernel : pm_fe 247 127 = some (.lcmp, 1)) rfl).trans ?_
  refine (px_if_le (off := 7) (tgt := 135) (by decide +kernel)).trans ?_
  exact Iff.rfl
theorem b247_131 {d : Nat} {G : PG} {M T : PH} {K : PV → PS → Prop} {l0 l1 l3 : Int} : pm_Run d 247 131 [.inl l0, .inr (.inl l1), PU, .inr (.inl l3), PU] [] (G, M, T) K ↔ pm_Run d 247 136 [.inl l0, .inr (.inl l1), PU, .inr (.inl l3), PU] [.inr (.inl l1)] (G, M, T) K := by
  refine (px_go (by decide +kernel : pm_fe 247 131 = some (.lload_n 1, 1)) rfl).trans ?_
  refine (px_goto (off := 4) (tgt := 136) (by decide +kernel)).trans ?_
  exact Iff.rfl
theorem b247_135 {d : Nat} {G : PG} {M T : PH} {K : PV → PS → Prop} {l0 l1 l3 : Int} : pm_Run d 247 135 [.inl l0, .inr (.inl l1), PU, .inr (.inl l3), PU] [] (G, M, T) K ↔ pm_Run d 247 136 [.inl l0, .inr (.inl l1), PU, .inr (.inl l3), PU] [.inr (.inl l3)] (G, M, T) K := by
  refine (px_go (by decide +kernel : pm_fe 247 135 = some (.lload_n 3, 1)) rfl).trans ?_
  exact Iff.rfl
theorem b247_136 {d : Nat} {G : PG} {M T : PH} {K : PV → PS → Prop} {l0 l1 l3 s0 : Int} : pm_Run d 247 136 [.inl l0, .inr (.inl l1), PU, .inr (.inl l3), PU] [.inr (.inl s0)] (G, M, T) K ↔ K (.inr (.inl s0)) (G, M, T) := by
  refine (px_rl (by decide +kernel)).trans ?_
  exact Iff.rfl
theorem b247_137 {d : Nat} {G : PG} {M T : PH} {K : PV → PS → Prop} {l0 l1 l3 : Int} : pm_Run d 247 137 [.inl l0, .inr (.inl l1), PU, .inr (.inl l3), PU] [] (G, M, T) K ↔ if 0 ≤ pm_sg (pm_cmp l1 l3) then pm_Run d 247 147 [.inl l0, .inr (.inl l1), PU, .inr (.inl l3), PU] [] (G, M, T) K else pm_Run d 247 143 [.inl l0, .inr (.inl l1), PU, .inr (.inl l3), PU] [] (G, M, T) K := by
  refine (px_go (by decide +kernel : pm_fe 247 137 = some (.lload_n 1, 1)) rfl).trans ?_
  refine (px_go (by decide +kernel : pm_fe 247 138 = some (.lload_n 3, 1)) rfl).trans ?_
  refine (px_go (by decide +kernel : pm_fe 247 139 = some (.lcmp, 1)) rfl).trans ?_
  refine (px_if_ge (off := 7) (tgt := 147) (by decide +kernel)).trans ?_
  exact Iff.rfl
theorem b247_143 {d : Nat} {G : PG} {M T : PH} {K : PV → PS → Prop} {l0 l1 l3 : Int} : pm_Run d 247 143 [.inl l0, .inr (.inl l1), PU, .inr (.inl l3), PU] [] (G, M, T) K ↔ pm_Run d 247 148 [.inl l0, .inr (.inl l1), PU, .inr (.inl l3), PU] [.inr (.inl 1)] (G, M, T) K := by
  refine (px_go (by decide +kernel : pm_fe 247 143 = some (.lconst 1, 1)) rfl).trans ?_
  refine (px_goto (off := 4) (tgt := 148) (by decide +kernel)).trans ?_
  exact Iff.rfl
theorem b247_147 {d : Nat} {G : PG} {M T : PH} {K : PV → PS → Prop} {l0 l1 l3 : Int} : pm_Run d 247 147 [.inl l0, .inr (.inl l1), PU, .inr (.inl l3), PU] [] (G, M, T) K ↔ pm_Run d 247 148 [.inl l0, .inr (.inl l1), PU, .inr (.inl l3), PU] [.inr (.inl 0)] (G, M, T) K := by
  refine (px_go (by decide +kernel : pm_fe 247 147 = some (.lconst 0, 1)) rfl).trans ?_
  exact Iff.rfl
theorem b247_148 {d : Nat} {G : PG} {M T : PH} {K : PV → PS → Prop} {l0 l1 l3 s0 : Int} : pm_Run d 247 148 [.inl l0, .inr (.inl l1), PU, .inr (.inl l3), PU] [.inr (.inl s0)] (G, M, T) K ↔ K (.inr (.inl s0)) (G, M, T) := by
  refine (px_rl (by decide +kernel)).trans ?_
  exact Iff.rfl
theorem b247_149 {d : Nat} {G : PG} {M T : PH} {K : PV → PS → Prop} {l0 l1 l3 : Int} : pm_Run d 247 149 [.inl l0, .inr (.inl l1), PU, .inr (.inl l3), PU] [] (G, M, T) K ↔ if pm_sg (pm_cmp l1 l3) ≤ 0 then pm_Run d 247 159 [.inl l0, .inr (.inl l1), PU, .inr (.inl l3), PU] [] (G, M, T) K else pm_Run d 247 155 [.inl l0, .inr (.inl l1), PU, .inr (.inl l3), PU] [] (G, M, T) K := by
  refine (px_go (by decide +kernel : pm_fe 247 149 = some (.lload_n 1, 1)) rfl).trans ?_
  refine (px_go (by decide +kernel : pm_fe 247 150 = some (.lload_n 3, 1)) rfl).trans ?_
  refine (px_go (by decide +kernel : pm_fe 247 151 = some (.lcmp, 1)) rfl).trans ?_
  refine (px_if_le (off := 7) (tgt := 159) (by decide +kernel)).trans ?_
  exact Iff.rfl
theorem b247_155 {d : Nat} {G : PG} {M T : PH} {K : PV → PS → Prop} {l0 l1 l3 : Int} : pm_Run d 247 155 [.inl l0, .inr (.inl l1), PU, .inr (.inl l3), PU] [] (G, M, T) K ↔ pm_Run d 247 160 [.inl l0, .inr (.inl l1), PU, .inr (.inl l3), PU] [.inr (.inl 1)] (G, M, T) K := by
  refine (px_go (by decide +kernel : pm_fe 247 155 = some (.lconst 1, 1)) rfl).trans ?_
  refine (px_goto (off := 4) (tgt := 160) (by decide +kernel)).trans ?_
  exact Iff.rfl
theorem b247_159 {d : Nat} {G : PG} {M T : PH} {K : PV → PS → Prop} {l0 l1 l3 : Int} : pm_Run d 247 159 [.inl l0, .inr (.inl l1), PU, .inr (.inl l3), PU] [] (G, M, T) K ↔ pm_Run d 247 160 [.inl l0, .inr (.inl l1), PU, .inr (.inl l3), PU] [.inr (.inl 0)] (G, M, T) K := by
  refine (px_go (by decide +kernel : pm_fe 247 159 = some (.lconst 0, 1)) rfl).trans ?_
  exact Iff.rfl
theorem b247_160 {d : Nat} {G : PG} {M T : PH} {K : PV → PS → Prop} {l0 l1 l3 s0 : Int} : pm_Run d 247 160 [.inl l0, .inr (.inl l1), PU, .inr (.inl l3), PU] [.inr (.inl s0)] (G, M, T) K ↔ K (.inr (.inl s0)) (G, M, T) := by
  refine (px_rl (by decide +kernel)).trans ?_
  exact Iff.rfl
theorem b247_161 {d : Nat} {G : PG} {M T : PH} {K : PV → PS → Prop} {l0 l1 l3 : Int} : pm_Run d 247 161 [.inl l0, .inr (.inl l1), PU, .inr (.inl l3), PU] [] (G, M, T) K ↔ if pm_sg (pm_cmp l1 l3) ≠ 0 then pm_Run d 247 171 [.inl l0, .inr (.inl l1), PU, .inr (.inl l3), PU] [] (G, M, T) K else pm_Run d 247 167 [.inl l0, .inr (.inl l1), PU, .inr (.inl l3), PU] [] (G, M, T) K := by
  refine (px_go (by decide +kernel : pm_fe 247 161 = some (.lload_n 1, 1)) rfl).trans ?_
  refine (px_go (by decide +kernel : pm_fe 247 162 = some (.lload_n 3, 1)) rfl).trans ?_
  refine (px_go (by decide +kernel : pm_fe 247 163 = some (.lcmp, 1)) rfl).trans ?_
  refine (px_if_ne (off := 7) (tgt := 171) (by decide +kernel)).trans ?_
  exact Iff.rfl
theorem b247_167 {d : Nat} {G : PG} {M T : PH} {K : PV → PS → Prop} {l0 l1 l3 : Int} : pm_Run d 247 167 [.inl l0, .inr (.inl l1), PU, .inr (.inl l3), PU] [] (G, M, T) K ↔ pm_Run d 247 172 [.inl l0, .inr (.inl l1), PU, .inr (.inl l3), PU] [.inr (.inl 1)] (G, M, T) K := by
  refine (px_go (by decide +kernel : pm_fe 247 167 = some (.lconst 1, 1)) rfl).trans ?_
  refine (px_goto (off := 4) (tgt := 172) (by decide +kernel)).trans ?_
  exact Iff.rfl
theorem b247_171 {d : Nat} {G : PG} {M T : PH} {K : PV → PS → Prop} {l0 l1 l3 : Int} : pm_Run d 247 171 [.inl l0, .inr (.inl l1), PU, .inr (.inl l3), PU] [] (G, M, T) K ↔ pm_Run d 247 172 [.inl l0, .inr (.inl l1), PU, .inr (.inl l3), PU] [.inr (.inl 0)] (G, M, T) K := by
  refine (px_go (by decide +kernel : pm_fe 247 171 = some (.lconst 0, 1)) rfl).trans ?_
  exact Iff.rfl
theorem b247_172 {d : Nat} {G : PG} {M T : PH} {K : PV → PS → Prop} {l0 l1 l3 s0 : Int} : pm_Run d 247 172 [.inl l0, .inr (.inl l1), PU, .inr (.inl l3), PU] [.inr (.inl s0)] (G, M, T) K ↔ K (.inr (.inl s0)) (G, M, T) := by
  refine (px_rl (by decide +kernel)).trans ?_
  exact Iff.rfl
theorem b247_173 {d : Nat} {G : PG} {M T : PH} {K : PV → PS → Prop} {l0 l1 l3 : Int} : pm_Run d 247 173 [.inl l0, .inr (.inl l1), PU, .inr (.inl l3), PU] [] (G, M, T) K ↔ K (.inr (.inl (pm_land l1 l3))) (G, M, T) := by
  refine (px_go (by decide +kernel : pm_fe 247 173 = some (.lload_n 1, 1)) rfl).trans ?_
  refine (px_go (by decide +kernel : pm_fe 247 174 = some (.lload_n 3, 1)) rfl).trans ?_
  refine (px_go (by decide +kernel : pm_fe 247 175 = some (.land, 1)) rfl).trans ?_
  refine (px_rl (by decide +kernel)).trans ?_
  exact Iff.rfl
theorem b247_177 {d : Nat} {G : PG} {M T : PH} {K : PV → PS → Prop} {l0 l1 l3 : Int} : pm_Run d 247 177 [.inl l0, .inr (.inl l1), PU, .inr (.inl l3), PU] [] (G, M, T) K ↔ K (.inr (.inl (pm_lor l1 l3))) (G, M, T) := by
  refine (px_go (by decide +kernel : pm_fe 247 177 = some (.lload_n 1, 1)) rfl).trans ?_
  refine (px_go (by decide +kernel : pm_fe 247 178 = some (.lload_n 3, 1)) rfl).trans ?_
  refine (px_go (by decide +kernel : pm_fe 247 179 = some (.lor, 1)) rfl).trans ?_
  refine (px_rl (by decide +kernel)).trans ?_
  exact Iff.rfl
-- X12_isPart isPart(I)Z
theorem en248 {d : Nat} {p0 : Int} {S : PS} {K : PV → PS → Prop} : pm_Call (d + 1) 248 [.inl p0] S K ↔ pm_Run d 248 0 [.inl p0] [] S K := pm_Call_s.trans (and_iff_right (show 1 ≤ pm_ml 248 from by decide +kernel))
theorem b248_0 {d : Nat} {G : PG} {M T : PH} {K : PV → PS → Prop} {l0 : Int} : pm_Run d 248 0 [.inl l0] [] (G, M, T) K ↔ if pm_sg l0 < pm_sg 10 then pm_Run d 248 12 [.inl l0] [] (G, M, T) K else pm_Run d 248 6 [.inl l0] [] (G, M, T) K := by
  refine (px_go (by decide +kernel : pm_fe 248 0 = some (.iload_n 0, 1)) rfl).trans ?_
  refine (px_go (by decide +kernel : pm_fe 248 1 = some (.bipush 10, 2)) rfl).trans ?_
  refine (px_ic_lt (off := 9) (tgt := 12) (by decide +kernel)).trans ?_
  exact Iff.rfl
theorem b248_6 {d : Nat} {G : PG} {M T : PH} {K : PV → PS → Prop} {l0 : Int} : pm_Run d 248 6 [.inl l0] [] (G, M, T) K ↔ if pm_sg l0 < pm_sg 30 then pm_Run d 248 16 [.inl l0] [] (G, M, T) K else pm_Run d 248 12 [.inl l0] [] (G, M, T) K := by
  refine (px_go (by decide +kernel : pm_fe 248 6 = some (.iload_n 0, 1)) rfl).trans ?_
  refine (px_go (by decide +kernel : pm_fe 248 7 = some (.bipush 30, 2)) rfl).trans ?_
  refine (px_ic_lt (off := 7) (tgt := 16) (by decide +kernel)).trans ?_
  exact Iff.rfl
theorem b248_12 {d : Nat} {G : PG} {M T : PH} {K : PV → PS → Prop} {l0 : Int} : pm_Run d 248 12 [.inl l0] [] (G, M, T) K ↔ pm_Run d 248 17 [.inl l0] [.inl 1] (G, M, T) K := by
  refine (px_go (by decide +kernel : pm_fe 248 12 = some (.iconst 1, 1)) rfl).trans ?_
  refine (px_goto (off := 4) (tgt := 17) (by decide +kernel)).trans ?_
  exact Iff.rfl
theorem b248_16 {d : Nat} {G : PG} {M T : PH} {K : PV → PS → Prop} {l0 : Int} : pm_Run d 248 16 [.inl l0] [] (G, M, T) K ↔ pm_Run d 248 17 [.inl l0] [.inl 0] (G, M, T) K := by
  refine (px_go (by decide +kernel : pm_fe 248 16 = some (.iconst 0, 1)) rfl).trans ?_
  exact Iff.rfl
theorem b248_17 {d : Nat} {G : PG} {M T : PH} {K : PV → PS → Prop} {l0 s0 : Int} (h1 : s0 = 0 ∨ s0 = 1) : pm_Run d 248 17 [.inl l0] [.inl s0] (G, M, T) K ↔ K (.inl s0) (G, M, T) := by
  refine (px_rz (by decide +kernel)).trans ((and_iff_right h1).trans ?_)
  exact Iff.rfl
-- X12_reckons reckons(II)J
theorem en249 {d : Nat} {a p0 p1 : Int} {S : PS} {K : PV → PS → Prop} : pm_Call (d + 1) 249 [.inr (.inr (.inl a)), .inl p0, .inl p1] S K ↔ pm_Run d 249 0 [.inr (.inr (.inl a)), .inl p0, .inl p1, PU, PU, PU] [] S K := pm_Call_s.trans (and_iff_right (show 3 ≤ pm_ml 249 from by decide +kernel))
theorem b249_0 {d : Nat} {G : PG} {M T : PH} {K : PV → PS → Prop} {l0 l1 l2 : Int} (h1 : pm_ob G l0 12) : pm_Run d 249 0 [.inr (.inr (.inl l0)), .inl l1, .inl l2, PU, PU, PU] [] (G, M, T) K ↔ pm_Run d 249 14 [.inr (.inr (.inl l0)), .inl l1, .inl l2, .inl 0, .inl ((1600 * (M l0.toNat 13)) + l1), PU] [] (G, M, T) K := by
  refine (px_go (by decide +kernel : pm_fe 249 0 = some (.iconst 0, 1)) rfl).trans ?_
  refine (px_go (by decide +kernel : pm_fe 249 1 = some (.istore_n 3, 1)) rfl).trans ?_
  refine (px_go (by decide +kernel : pm_fe 249 2 = some (.sipush 1600, 3)) rfl).trans ?_
  refine (px_go (by decide +kernel : pm_fe 249 5 = some (.aload_n 0, 1)) rfl).trans ?_
  refine (px_get0 (idx := 51) (ci := 12) (k := 13) (by decide +kernel)).trans ((and_iff_right h1).trans ?_)
  refine (px_go (by decide +kernel : pm_fe 249 9 = some (.imul, 1)) rfl).trans ?_
  refine (px_go (by decide +kernel : pm_fe 249 10 = some (.iload_n 1, 1)) rfl).trans ?_
  refine (px_go (by decide +kernel : pm_fe 249 11 = some (.iadd, 1)) rfl).trans ?_
  refine (px_go (by decide +kernel : pm_fe 249 12 = some (.istore 4, 2)) rfl).trans ?_
  exact Iff.rfl
theorem b249_14 {d : Nat} {G : PG} {M T : PH} {K : PV → PS → Prop} {l0 l1 l2 l3 l4 : Int} {l5 : PV} (h1 : pm_ob G l0 12) : pm_Run d 249 14 [.inr (.inr (.inl l0)), .inl l1, .inl l2, .inl l3, .inl l4, l5] [] (G, M, T) K ↔ if pm_sg ((1600 * (M l0.toNat 13)) + l2) ≤ pm_sg l4 then pm_Run d 249 135 [.inr (.inr (.inl l0)), .inl l1, .inl l2, .inl l3, .inl l4, l5] [] (G, M, T) K else pm_Run d 249 29 [.inr (.inr (.inl l0)), .inl l1, .inl l2, .inl l3, .inl l4, l5] [] (G, M, T) K := by
  refine (px_go (by decide +kernel : pm_fe 249 14 = some (.iload 4, 2)) rfl).trans ?_
  refine (px_go (by decide +kernel : pm_fe 249 16 = some (.sipush 1600, 3)) rfl).trans ?_
  refine (px_go (by decide +kernel : pm_fe 249 19 = some (.aload_n 0, 1)) rfl).trans ?_
  refine (px_get0 (idx := 51) (ci := 12) (k := 13) (by decide +kernel)).trans ((and_iff_right h1).trans ?_)
  refine (px_go (by decide +kernel : pm_fe 249 23 = some (.imul, 1)) rfl).trans ?_
  refine (px_go (by decide +kernel : pm_fe 249 24 = some (.iload_n 2, 1)) rfl).trans ?_
  refine (px_go (by decide +kernel : pm_fe 249 25 = some (.iadd, 1)) rfl).trans ?_
  refine (px_ic_ge (off := 109) (tgt := 135) (by decide +kernel)).trans ?_
  exact Iff.rfl
theorem b249_29 {d : Nat} {G : PG} {M T : PH} {K : PV → PS → Prop} {l0 l1 l2 l3 l4 : Int} {l5 : PV} (h1 : pm_ob G l0 12) (h2 : pm_ar G (T l0.toNat 37) 100 l4) : pm_Run d 249 29 [.inr (.inr (.inl l0)), .inl l1, .inl l2, .inl l3, .inl l4, l5] [] (G, M, T) K ↔ pm_Call d 248 [.inl (M (T l0.toNat 37).toNat (pm_sg l4).toNat)] (G, M, T) (fun r S1 => pm_Run d 249 43 [.inr (.inr (.inl l0)), .inl l1, .inl l2, .inl l3, .inl l4, .inl (M (T l0.toNat 37).toNat (pm_sg l4).toNat)] (pm_push r []) S1 K) := by
  refine (px_go (by decide +kernel : pm_fe 249 29 = some (.aload_n 0, 1)) rfl).trans ?_
  refine (px_get2 (idx := 123) (ci := 12) (k := 37) (by decide +kernel)).trans ((and_iff_right h1).trans ?_)
  refine (px_go (by decide +kernel : pm_fe 249 33 = some (.iload 4, 2)) rfl).trans ?_
  refine (px_iaload (by decide +kernel) h2).trans ?_
  refine (px_go (by decide +kernel : pm_fe 249 36 = some (.istore 5, 2)) rfl).trans ?_
  refine (px_go (by decide +kernel : pm_fe 249 38 = some (.iload 5, 2)) rfl).trans ?_
  refine (px_s1 (idx := 485) (m' := 248) (nest := 0) (by decide +kernel)).trans ((and_iff_right (by simp [pm_wl_n, pm_wl_c, pm_w] : pm_wl [] ≤ 8)).trans ?_)
  exact Iff.rfl
theorem b249_43 {d : Nat} {G : PG} {M T : PH} {K : PV → PS → Prop} {l0 l1 l2 l3 l4 l5 s0 : Int} : pm_Run d 249 43 [.inr (.inr (.inl l0)), .inl l1, .inl l2, .inl l3, .inl l4, .inl l5] [.inl s0] (G, M, T) K ↔ if pm_sg s0 = 0 then pm_Run d 249 71 [.inr (.inr (.inl l0)), .inl l1, .inl l2, .inl l3, .inl l4, .inl l5] [] (G, M, T) K else pm_Run d 249 46 [.inr (.inr (.inl l0)), .inl l1, .inl l2, .inl l3, .inl l4, .inl l5] [] (G, M, T) K := by
  refine (px_if_eq (off := 28) (tgt := 71) (by decide +kernel)).trans ?_
  exact Iff.rfl
theorem b249_46 {d : Nat} {G : PG} {M T : PH} {K : PV → PS → Prop} {l0 l1 l2 l3 l4 l5 : Int} (h1 : pm_ob G l0 12) (h2 : pm_ar G (T l0.toNat 38) 100 l4) : pm_Run d 249 46 [.inr (.inr (.inl l0)), .inl l1, .inl l2, .inl l3, .inl l4, .inl l5] [] (G, M, T) K ↔ pm_Call d 244 [.inr (.inr (.inl l0)), .inl l5, .inl (M (T l0.toNat 38).toNat (pm_sg l4).toNat)] (G, M, T) (fun r S1 => pm_Run d 249 64 [.inr (.inr (.inl l0)), .inl l1, .inl l2, .inl l3, .inl l4, .inl l5] (pm_push r [.inl l3, .inr (.inr (.inl (T l0.toNat 63)))]) S1 K) := by
  refine (px_go (by decide +kernel : pm_fe 249 46 = some (.aload_n 0, 1)) rfl).trans ?_
  refine (px_get2 (idx := 204) (ci := 12) (k := 63) (by decide +kernel)).trans ((and_iff_right h1).trans ?_)
  refine (px_go (by decide +kernel : pm_fe 249 50 = some (.iload_n 3, 1)) rfl).trans ?_
  refine (px_go (by decide +kernel : pm_fe 249 51 = some (.aload_n 0, 1)) rfl).trans ?_
  refine (px_go (by decide +kernel : pm_fe 249 52 = some (.iload 5, 2)) rfl).trans ?_
  refine (px_go (by decide +kernel : pm_fe 249 54 = some (.aload_n 0, 1)) rfl).trans ?_
  refine (px_get2 (idx := 126) (ci := 12) (k := 38) (by decide +kernel)).trans ((and_iff_right h1).trans ?_)
  refine (px_go (by decide +kernel : pm_fe 249 58 = some (.iload 4, 2)) rfl).trans ?_
  refine (px_iaload (by decide +kernel) h2).trans ?_
  refine (px_v2 (idx := 488) (m' := 244) (ci := 12) (by decide +kernel)).trans ((and_iff_right ⟨h1, (by simp [pm_wl_n, pm_wl_c, pm_w] : pm_wl [.inl l3, .inr (.inr (.inl (T l0.toNat 63)))] ≤ 8)⟩).trans ?_)
  exact Iff.rfl
theorem b249_64 {d : Nat} {G : PG} {M T : PH} {K : PV → PS → Prop} {l0 l1 l2 l3 l4 l5 s0 s1 s2 : Int} (h1 : pm_ar G s2 103 s1) : pm_Run d 249 64 [.inr (.inr (.inl l0)), .inl l1, .inl l2, .inl l3, .inl l4, .inl l5] [.inr (.inl s0), .inl s1, .inr (.inr (.inl s2))] (G, M, T) K ↔ pm_Run d 249 129 [.inr (.inr (.inl l0)), .inl l1, .inl l2, .inl (l3 + 1), .inl l4, .inl l5] [] (G, pm_sa M s2.toNat (pm_up (M s2.toNat) (pm_sg s1).toNat s0), T) K := by
  refine (px_lastore (by decide +kernel)).trans ((and_iff_right h1).trans ?_)
  refine (px_go (by decide +kernel : pm_fe 249 65 = some (.iinc 3 1, 3)) rfl).trans ?_
  refine (px_goto (off := 61) (tgt := 129) (by decide +kernel)).trans ?_
  exact Iff.rfl
theorem b249_71 {d : Nat} {G : PG} {M T : PH} {K : PV → PS → Prop} {l0 l1 l2 l3 l4 l5 : Int} : pm_Run d 249 71 [.inr (.inr (.inl l0)), .inl l1, .inl l2, .inl l3, .inl l4, .inl l5] [] (G, M, T) K ↔ if pm_sg l5 ≠ pm_sg 22 then pm_Run d 249 99 [.inr (.inr (.inl l0)), .inl l1, .inl l2, .inl l3, .inl l4, .inl l5] [] (G, M, T) K else pm_Run d 249 78 [.inr (.inr (.inl l0)), .inl l1, .inl l2, .inl l3, .inl l4, .inl l5] [] (G, M, T) K := by
  refine (px_go (by decide +kernel : pm_fe 249 71 = some (.iload 5, 2)) rfl).trans ?_
  refine (px_go (by decide +kernel : pm_fe 249 73 = some (.bipush 22, 2)) rfl).trans ?_
  refine (px_ic_ne (off := 24) (tgt := 99) (by decide +kernel)).trans ?_
  exact Iff.rfl
theorem b249_78 {d : Nat} {G : PG} {M T : PH} {K : PV → PS → Prop} {l0 l1 l2 l3 l4 l5 : Int} (h1 : pm_ob G l0 12) (h2 : pm_ar G (T l0.toNat 63) 103 (l3 - 1)) : pm_Run d 249 78 [.inr (.inr (.inl l0)), .inl l1, .inl l2, .inl l3, .inl l4, .inl l5] [] (G, M, T) K ↔ pm_Run d 249 129 [.inr (.inr (.inl l0)), .inl l1, .inl l2, .inl l3, .inl l4, .inl l5] [] (G, pm_sa M (T l0.toNat 63).toNat (pm_up (M (T l0.toNat 63).toNat) (pm_sg (l3 - 1)).toNat (1 - (M (T l0.toNat 63).toNat (pm_sg (l3 - 1)).toNat))), T) K := by
  refine (px_go (by decide +kernel : pm_fe 249 78 = some (.aload_n 0, 1)) rfl).trans ?_
  refine (px_get2 (idx := 204) (ci := 12) (k := 63) (by decide +kernel)).trans ((and_iff_right h1).trans ?_)
  refine (px_go (by decide +kernel : pm_fe 249 82 = some (.iload_n 3, 1)) rfl).trans ?_
  refine (px_go (by decide +kernel : pm_fe 249 83 = some (.iconst 1, 1)) rfl).trans ?_
  refine (px_go (by decide +kernel : pm_fe 249 84 = some (.isub, 1)) rfl).trans ?_
  refine (px_go (by decide +kernel : pm_fe 249 85 = some (.lconst 1, 1)) rfl).trans ?_
  refine (px_go (by decide +kernel : pm_fe 249 86 = some (.aload_n 0, 1)) rfl).trans ?_
  refine (px_get2 (idx := 204) (ci := 12) (k := 63) (by decide +kernel)).trans ((and_iff_right h1).trans ?_)
  refine (px_go (by decide +kernel : pm_fe 249 90 = some (.iload_n 3, 1)) rfl).trans ?_
  refine (px_go (by decide +kernel : pm_fe 249 91 = some (.iconst 1, 1)) rfl).trans ?_
  refine (px_go (by decide +kernel : pm_fe 249 92 = some (.isub, 1)) rfl).trans ?_
  refine (px_laload (by decide +kernel)).trans ((and_iff_right h2).trans ?_)
  refine (px_go (by decide +kernel : pm_fe 249 94 = some (.lsub, 1)) rfl).trans ?_
  refine (px_lastore (by decide +kernel)).trans ((and_iff_right h2).trans ?_)
  refine (px_goto (off := 33) (tgt := 129) (by decide +kernel)).trans ?_
  exact Iff.rfl
theorem b249_99 {d : Nat} {G : PG} {M T : PH} {K : PV → PS → Prop} {l0 l1 l2 l3 l4 l5 : Int} (h1 : pm_ob G l0 12) (h2 : pm_ar G (T l0.toNat 63) 103 ((l3 + (-1)) - 1)) (h3 : pm_ar G (T l0.toNat 63) 103 (l3 + (-1))) : pm_Run d 249 99 [.inr (.inr (.inl l0)), .inl l1, .inl l2, .inl l3, .inl l4, .inl l5] [] (G, M, T) K ↔ pm_Call d 247 [.inl l5, .inr (.inl (M (T l0.toNat 63).toNat (pm_sg ((l3 + (-1)) - 1)).toNat)), .inr (.inl (M (T l0.toNat 63).toNat (pm_sg (l3 + (-1))).toNat))] (G, M, T) (fun r S1 => pm_Run d 249 128 [.inr (.inr (.inl l0)), .inl l1, .inl l2, .inl (l3 + (-1)), .inl l4, .inl l5] (pm_push r [.inl ((l3 + (-1)) - 1), .inr (.inr (.inl (T l0.toNat 63)))]) S1 K) := by
  refine (px_go (by decide +kernel : pm_fe 249 99 = some (.iinc 3 (-1), 3)) rfl).trans ?_
  refine (px_go (by decide +kernel : pm_fe 249 102 = some (.aload_n 0, 1)) rfl).trans ?_
  refine (px_get2 (idx := 204) (ci := 12) (k := 63) (by decide +kernel)).trans ((and_iff_right h1).trans ?_)
  refine (px_go (by decide +kernel : pm_fe 249 106 = some (.iload_n 3, 1)) rfl).trans ?_
  refine (px_go (by decide +kernel : pm_fe 249 107 = some (.iconst 1, 1)) rfl).trans ?_
  refine (px_go (by decide +kernel : pm_fe 249 108 = some (.isub, 1)) rfl).trans ?_
  refine (px_go (by decide +kernel : pm_fe 249 109 = some (.iload 5, 2)) rfl).trans ?_
  refine (px_go (by decide +kernel : pm_fe 249 111 = some (.aload_n 0, 1)) rfl).trans ?_
  refine (px_get2 (idx := 204) (ci := 12) (k := 63) (by decide +kernel)).trans ((and_iff_right h1).trans ?_)
  refine (px_go (by decide +kernel : pm_fe 249 115 = some (.iload_n 3, 1)) rfl).trans ?_
  refine (px_go (by decide +kernel : pm_fe 249 116 = some (.iconst 1, 1)) rfl).trans ?_
  refine (px_go (by decide +kernel : pm_fe 249 117 = some (.isub, 1)) rfl).trans ?_
  refine (px_laload (by decide +kernel)).trans ((and_iff_right h2).trans ?_)
  refine (px_go (by decide +kernel : pm_fe 249 119 = some (.aload_n 0, 1)) rfl).trans ?_
  refine (px_get2 (idx := 204) (ci := 12) (k := 63) (by decide +kernel)).trans ((and_iff_right h1).trans ?_)
  refine (px_go (by decide +kernel : pm_fe 249 123 = some (.iload_n 3, 1)) rfl).trans ?_
  refine (px_laload (by decide +kernel)).trans ((and_iff_right h3).trans ?_)
  refine (px_s3 (idx := 492) (m' := 247) (nest := 0) (by decide +kernel)).trans ((and_iff_right (by simp [pm_wl_n, pm_wl_c, pm_w] : pm_wl [.inl ((l3 + (-1)) - 1), .inr (.inr (.inl (T l0.toNat 63)))] ≤ 8)).trans ?_)
  exact Iff.rfl
theorem b249_128 {d : Nat} {G : PG} {M T : PH} {K : PV → PS → Prop} {l0 l1 l2 l3 l4 l5 s0 s1 s2 : Int} (h1 : pm_ar G s2 103 s1) : pm_Run d 249 128 [.inr (.inr (.inl l0)), .inl l1, .inl l2, .inl l3, .inl l4, .inl l5] [.inr (.inl s0), .inl s1, .inr (.inr (.inl s2))] (G, M, T) K ↔ pm_Run d 249 129 [.inr (.inr (.inl l0)), .inl l1, .inl l2, .inl l3, .inl l4, .inl l5] [] (G, pm_sa M s2.toNat (pm_up (M s2.toNat) (pm_sg s1).toNat s0), T) K := by
  refine (px_lastore (by decide +kernel)).trans ((and_iff_right h1).trans ?_)
  exact Iff.rfl
theorem b249_129 {d : Nat} {G : PG} {M T : PH} {K : PV → PS → Prop} {l0 l1 l2 l3 l4 l5 : Int} : pm_Run d 249 129 [.inr (.inr (.inl l0)), .inl l1, .inl l2, .inl l3, .inl l4, .inl l5] [] (G, M, T) K ↔ pm_Run d 249 14 [.inr (.inr (.inl l0)), .inl l1, .inl l2, .inl l3, .inl (l4 + 1), .inl l5] [] (G, M, T) K := by
  refine (px_go (by decide +kernel : pm_fe 249 129 = some (.iinc 4 1, 3)) rfl).trans ?_
  refine (px_goto (off := (-118)) (tgt := 14) (by decide +kernel)).trans ?_
  exact Iff.rfl
theorem b249_135 {d : Nat} {G : PG} {M T : PH} {K : PV → PS → Prop} {l0 l1 l2 l3 l4 : Int} {l5 : PV} (h1 : pm_ob G l0 12) (h2 : pm_ar G (T l0.toNat 63) 103 0) : pm_Run d 249 135 [.inr (.inr (.inl l0)), .inl l1, .inl l2, .inl l3, .inl l4, l5] [] (G, M, T) K ↔ K (.inr (.inl (M (T l0.toNat 63).toNat (pm_sg 0).toNat))) (G, M, T) := by
  refine (px_go (by decide +kernel : pm_fe 249 135 = some (.aload_n 0, 1)) rfl).trans ?_
  refine (px_get2 (idx := 204) (ci := 12) (k := 63) (by decide +kernel)).trans ((and_iff_right h1).trans ?_)
  refine (px_go (by decide +kernel : pm_fe 249 139 = some (.iconst 0, 1)) rfl).trans ?_
  refine (px_laload (by decide +kernel)).trans ((and_iff_right h2).trans ?_)
  refine (px_rl (by decide +kernel)).trans ?_
  exact Iff.rfl
-- X12_between between(JII)I
theorem en250 {d : Nat} {p0 p1 p2 : Int} {S : PS} {K : PV → PS → Prop} : pm_Call (d + 1) 250 [.inr (.inl p0), .inl p1, .inl p2] S K ↔ pm_Run d 250 0 [.inr (.inl p0), PU, .inl p1, .inl p2] [] S K := pm_Call_s.trans (and_iff_right (show 4 ≤ pm_ml 250 from by decide +kernel))
theorem b250_0 {d : Nat} {G : PG} {M T : PH} {K : PV → PS → Prop} {l0 l2 l3 : Int} : pm_Run d 250 0 [.inr (.inl l0), PU, .inl l2, .inl l3] [] (G, M, T) K ↔ if 0 ≤ pm_sg (pm_cmp l0 (pm_sg l2)) then pm_Run d 250 11 [.inr (.inl l0), PU, .inl l2, .inl l3] [] (G, M, T) K else pm_Run d 250 7 [.inr (.inl l0), PU, .inl l2, .inl l3] [] (G, M, T) K := by
  refine (px_go (by decide +kernel : pm_fe 250 0 = some (.lload_n 0, 1)) rfl).trans ?_
  refine (px_go (by decide +kernel : pm_fe 250 1 = some (.iload_n 2, 1)) rfl).trans ?_
  refine (px_go (by decide +kernel : pm_fe 250 2 = some (.i2l, 1)) rfl).trans ?_
  refine (px_go (by decide +kernel : pm_fe 250 3 = some (.lcmp, 1)) rfl).trans ?_
  refine (px_if_ge (off := 7) (tgt := 11) (by decide +kernel)).trans ?_
  exact Iff.rfl
theorem b250_7 {d : Nat} {G : PG} {M T : PH} {K : PV → PS → Prop} {l0 l2 l3 : Int} : pm_Run d 250 7 [.inr (.inl l0), PU, .inl l2, .inl l3] [] (G, M, T) K ↔ pm_Run d 250 24 [.inr (.inl l0), PU, .inl l2, .inl l3] [.inl l2] (G, M, T) K := by
  refine (px_go (by decide +kernel : pm_fe 250 7 = some (.iload_n 2, 1)) rfl).trans ?_
  refine (px_goto (off := 16) (tgt := 24) (by decide +kernel)).trans ?_
  exact Iff.rfl
theorem b250_11 {d : Nat} {G : PG} {M T : PH} {K : PV → PS → Prop} {l0 l2 l3 : Int} : pm_Run d 250 11 [.inr (.inl l0), PU, .inl l2, .inl l3] [] (G, M, T) K ↔ if pm_sg (pm_cmp l0 (pm_sg l3)) ≤ 0 then pm_Run d 250 22 [.inr (.inl l0), PU, .inl l2, .inl l3] [] (G, M, T) K else pm_Run d 250 18 [.inr (.inl l0), PU, .inl l2, .inl l3] [] (G, M, T) K := by
  refine (px_go (by decide +kernel : pm_fe 250 11 = some (.lload_n 0, 1)) rfl).trans ?_
  refine (px_go (by decide +kernel : pm_fe 250 12 = some (.iload_n 3, 1)) rfl).trans ?_
  refine (px_go (by decide +kernel : pm_fe 250 13 = some (.i2l, 1)) rfl).trans ?_
  refine (px_go (by decide +kernel : pm_fe 250 14 = some (.lcmp, 1)) rfl).trans ?_
  refine (px_if_le (off := 7) (tgt := 22) (by decide +kernel)).trans ?_
  exact Iff.rfl
theorem b250_18 {d : Nat} {G : PG} {M T : PH} {K : PV → PS → Prop} {l0 l2 l3 : Int} : pm_Run d 250 18 [.inr (.inl l0), PU, .inl l2, .inl l3] [] (G, M, T) K ↔ pm_Run d 250 24 [.inr (.inl l0), PU, .inl l2, .inl l3] [.inl l3] (G, M, T) K := by
  refine (px_go (by decide +kernel : pm_fe 250 18 = some (.iload_n 3, 1)) rfl).trans ?_
  refine (px_goto (off := 5) (tgt := 24) (by decide +kernel)).trans ?_
  exact Iff.rfl
theorem b250_22 {d : Nat} {G : PG} {M T : PH} {K : PV → PS → Prop} {l0 l2 l3 : Int} : pm_Run d 250 22 [.inr (.inl l0), PU, .inl l2, .inl l3] [] (G, M, T) K ↔ pm_Run d 250 24 [.inr (.inl l0), PU, .inl l2, .inl l3] [.inl l0] (G, M, T) K := by
  refine (px_go (by decide +kernel : pm_fe 250 22 = some (.lload_n 0, 1)) rfl).trans ?_
  refine (px_go (by decide +kernel : pm_fe 250 23 = some (.l2i, 1)) rfl).trans ?_
  exact Iff.rfl
theorem b250_24 {d : Nat} {G : PG} {M T : PH} {K : PV → PS → Prop} {l0 l2 l3 s0 : Int} : pm_Run d 250 24 [.inr (.inl l0), PU, .inl l2, .inl l3] [.inl s0] (G, M, T) K ↔ K (.inl s0) (G, M, T) := by
  refine (px_ri (by decide +kernel)).trans ?_
  exact Iff.rfl
-- X12_pullOf pullOf(III)I
theorem en251 {d : Nat} {a p0 p1 p2 : Int} {S : PS} {K : PV → PS → Prop} : pm_Call (d + 1) 251 [.inr (.inr (.inl a)), .inl p0, .inl p1, .inl p2] S K ↔ pm_Run d 251 0 [.inr (.inr (.inl a)), .inl p0, .inl p1, .inl p2] [] S K := pm_Call_s.trans (and_iff_right (show 4 ≤ pm_ml 251 from by decide +kernel))
theorem b251_0 {d : Nat} {G : PG} {M T : PH} {K : PV → PS → Prop} {l0 l1 l2 l3 : Int} (h1 : pm_ob G l0 12) (h2 : pm_ar G (T l0.toNat 31) 100 (M l0.toNat 13)) : pm_Run d 251 0 [.inr (.inr (.inl l0)), .inl l1, .inl l2, .inl l3] [] (G, M, T) K ↔ if pm_sg (M (T l0.toNat 31).toNat (pm_sg (M l0.toNat 13)).toNat) ≠ pm_sg (-1) then pm_Run d 251 15 [.inr (.inr (.inl l0)), .inl l1, .inl l2, .inl l3] [] (G, M, T) K else pm_Run d 251 13 [.inr (.inr (.inl l0)), .inl l1, .inl l2, .inl l3] [] (G, M, T) K := by
  refine (px_go (by decide +kernel : pm_fe 251 0 = some (.aload_n 0, 1)) rfl).trans ?_
  refine (px_get2 (idx := 105) (ci := 12) (k := 31) (by decide +kernel)).trans ((and_iff_right h1).trans ?_)
  refine (px_go (by decide +kernel : pm_fe 251 4 = some (.aload_n 0, 1)) rfl).trans ?_
  refine (px_get0 (idx := 51) (ci := 12) (k := 13) (by decide +kernel)).trans ((and_iff_right h1).trans ?_)
  refine (px_iaload (by decide +kernel) h2).trans ?_
  refine (px_go (by decide +kernel : pm_fe 251 9 = some (.iconst (-1), 1)) rfl).trans ?_
  refine (px_ic_ne (off := 5) (tgt := 15) (by decide +kernel)).trans ?_
  exact Iff.rfl
theorem b251_13 {d : Nat} {G : PG} {M T : PH} {K : PV → PS → Prop} {l0 l1 l2 l3 : Int} : pm_Run d 251 13 [.inr (.inr (.inl l0)), .inl l1, .inl l2, .inl l3] [] (G, M, T) K ↔ K (.inl 0) (G, M, T) := by
  refine (px_go (by decide +kernel : pm_fe 251 13 = some (.iconst 0, 1)) rfl).trans ?_
  refine (px_ri (by decide +kernel)).trans ?_
  exact Iff.rfl
theorem b251_15 {d : Nat} {G : PG} {M T : PH} {K : PV → PS → Prop} {l0 l1 l2 l3 : Int} (h1 : pm_ob G l0 12) : pm_Run d 251 15 [.inr (.inr (.inl l0)), .inl l1, .inl l2, .inl l3] [] (G, M, T) K ↔ pm_Run d 251 30 [.inr (.inr (.inl l0)), .inl l1, .inl l2, .inl l3] [] (G, pm_sa (pm_sa (pm_sa M l0.toNat (pm_up (M l0.toNat) 64 l1)) l0.toNat (pm_up ((pm_sa M l0.toNat (pm_up (M l0.toNat) 64 l1)) l0.toNat) 65 l2)) l0.toNat (pm_up ((pm_sa (pm_sa M l0.toNat (pm_up (M l0.toNat) 64 l1)) l0.toNat (pm_up ((pm_sa M l0.toNat (pm_up (M l0.toNat) 64 l1)) l0.toNat) 65 l2)) l0.toNat) 67 l3), T) K := by
  refine (px_go (by decide +kernel : pm_fe 251 15 = some (.aload_n 0, 1)) rfl).trans ?_
  refine (px_go (by decide +kernel : pm_fe 251 16 = some (.iload_n 1, 1)) rfl).trans ?_
  refine (px_put0 (idx := 207) (ci := 12) (k := 64) (by decide +kernel)).trans ((and_iff_right h1).trans ?_)
  refine (px_go (by decide +kernel : pm_fe 251 20 = some (.aload_n 0, 1)) rfl).trans ?_
  refine (px_go (by decide +kernel : pm_fe 251 21 = some (.iload_n 2, 1)) rfl).trans ?_
  refine (px_put0 (idx := 210) (ci := 12) (k := 65) (by decide +kernel)).trans ((and_iff_right h1).trans ?_)
  refine (px_go (by decide +kernel : pm_fe 251 25 = some (.aload_n 0, 1)) rfl).trans ?_
  refine (px_go (by decide +kernel : pm_fe 251 26 = some (.iload_n 3, 1)) rfl).trans ?_
  refine (px_put0 (idx := 216) (ci := 12) (k := 67) (by decide +kernel)).trans ((and_iff_right h1).trans ?_)
  exact Iff.rfl
theorem b251_30 {d : Nat} {G : PG} {M T : PH} {K : PV → PS → Prop} {l0 l1 l2 l3 : Int} (h1 : pm_ob G l0 12) (h2 : pm_ar G (T l0.toNat 31) 100 (M l0.toNat 13)) (h3 : pm_ar G (T l0.toNat 32) 100 (M l0.toNat 13)) : pm_Run d 251 30 [.inr (.inr (.inl l0)), .inl l1, .inl l2, .inl l3] [] (G, M, T) K ↔ pm_Call d 249 [.inr (.inr (.inl l0)), .inl (M (T l0.toNat 31).toNat (pm_sg (M l0.toNat 13)).toNat), .inl (M (T l0.toNat 32).toNat (pm_sg (M l0.toNat 13)).toNat)] (G, M, T) (fun r S1 => pm_Run d 251 52 [.inr (.inr (.inl l0)), .inl l1, .inl l2, .inl l3] (pm_push r []) S1 K) := by
  refine (px_go (by decide +kernel : pm_fe 251 30 = some (.aload_n 0, 1)) rfl).trans ?_
  refine (px_go (by decide +kernel : pm_fe 251 31 = some (.aload_n 0, 1)) rfl).trans ?_
  refine (px_get2 (idx := 105) (ci := 12) (k := 31) (by decide +kernel)).trans ((and_iff_right h1).trans ?_)
  refine (px_go (by decide +kernel : pm_fe 251 35 = some (.aload_n 0, 1)) rfl).trans ?_
  refine (px_get0 (idx := 51) (ci := 12) (k := 13) (by decide +kernel)).trans ((and_iff_right h1).trans ?_)
  refine (px_iaload (by decide +kernel) h2).trans ?_
  refine (px_go (by decide +kernel : pm_fe 251 40 = some (.aload_n 0, 1)) rfl).trans ?_
  refine (px_get2 (idx := 108) (ci := 12) (k := 32) (by decide +kernel)).trans ((and_iff_right h1).trans ?_)
  refine (px_go (by decide +kernel : pm_fe 251 44 = some (.aload_n 0, 1)) rfl).trans ?_
  refine (px_get0 (idx := 51) (ci := 12) (k := 13) (by decide +kernel)).trans ((and_iff_right h1).trans ?_)
  refine (px_iaload (by decide +kernel) h3).trans ?_
  refine (px_v2 (idx := 496) (m' := 249) (ci := 12) (by decide +kernel)).trans ((and_iff_right ⟨h1, (by simp [pm_wl_n, pm_wl_c, pm_w] : pm_wl [] ≤ 8)⟩).trans ?_)
  exact Iff.rfl
theorem b251_52 {d : Nat} {G : PG} {M T : PH} {K : PV → PS → Prop} {l0 l1 l2 l3 s0 : Int} : pm_Run d 251 52 [.inr (.inr (.inl l0)), .inl l1, .inl l2, .inl l3] [.inr (.inl s0)] (G, M, T) K ↔ pm_Call d 250 [.inr (.inl s0), .inl (-99), .inl 99] (G, M, T) (fun r S1 => pm_Run d 251 59 [.inr (.inr (.inl l0)), .inl l1, .inl l2, .inl l3] (pm_push r []) S1 K) := by
  refine (px_go (by decide +kernel : pm_fe 251 52 = some (.bipush (-99), 2)) rfl).trans ?_
  refine (px_go (by decide +kernel : pm_fe 251 54 = some (.bipush 99, 2)) rfl).trans ?_
  refine (px_s3 (idx := 499) (m' := 250) (nest := 0) (by decide +kernel)).trans ((and_iff_right (by simp [pm_wl_n, pm_wl_c, pm_w] : pm_wl [] ≤ 8)).trans ?_)
  exact Iff.rfl
theorem b251_59 {d : Nat} {G : PG} {M T : PH} {K : PV → PS → Prop} {l0 l1 l2 l3 s0 : Int} : pm_Run d 251 59 [.inr (.inr (.inl l0)), .inl l1, .inl l2, .inl l3] [.inl s0] (G, M, T) K ↔ K (.inl s0) (G, M, T) := by
  refine (px_ri (by decide +kernel)).trans ?_
  exact Iff.rfl
-- X12_asksHarbor asksHarbor(II)V
theorem en252 {d : Nat} {a p0 p1 : Int} {S : PS} {K : PV → PS → Prop} : pm_Call (d + 1) 252 [.inr (.inr (.inl a)), .inl p0, .inl p1] S K ↔ pm_Run d 252 0 [.inr (.inr (.inl a)), .inl p0, .inl p1] [] S K := pm_Call_s.trans (and_iff_right (show 3 ≤ pm_ml 252 from by decide +kernel))
theorem b252_0 {d : Nat} {G : PG} {M T : PH} {K : PV → PS → Prop} {l0 l1 l2 : Int} (h1 : pm_ob G l0 12) : pm_Run d 252 0 [.inr (.inr (.inl l0)), .inl l1, .inl l2] [] (G, M, T) K ↔ pm_Run d 252 15 [.inr (.inr (.inl l0)), .inl l1, .inl l2] [] (G, pm_sa (pm_sa (pm_sa M l0.toNat (pm_up (M l0.toNat) 64 l1)) l0.toNat (pm_up ((pm_sa M l0.toNat (pm_up (M l0.toNat) 64 l1)) l0.toNat) 65 (-1))) l0.toNat (pm_up ((pm_sa (pm_sa M l0.toNat (pm_up (M l0.toNat) 64 l1)) l0.toNat (pm_up ((pm_sa M l0.toNat (pm_up (M l0.toNat) 64 l1)) l0.toNat) 65 (-1))) l0.toNat) 66 l2), T) K := by
  refine (px_go (by decide +kernel : pm_fe 252 0 = some (.aload_n 0, 1)) rfl).trans ?_
  refine (px_go (by decide +kernel : pm_fe 252 1 = some (.iload_n 1, 1)) rfl).trans ?_
  refine (px_put0 (idx := 207) (ci := 12) (k := 64) (by decide +kernel)).trans ((and_iff_right h1).trans ?_)
  refine (px_go (by decide +kernel : pm_fe 252 5 = some (.aload_n 0, 1)) rfl).trans ?_
  refine (px_go (by decide +kernel : pm_fe 252 6 = some (.iconst (-1), 1)) rfl).trans ?_
  refine (px_put0 (idx := 210) (ci := 12) (k := 65) (by decide +kernel)).trans ((and_iff_right h1).trans ?_)
  refine (px_go (by decide +kernel : pm_fe 252 10 = some (.aload_n 0, 1)) rfl).trans ?_
  refine (px_go (by decide +kernel : pm_fe 252 11 = some (.iload_n 2, 1)) rfl).trans ?_
  refine (px_put0 (idx := 213) (ci := 12) (k := 66) (by decide +kernel)).trans ((and_iff_right h1).trans ?_)
  exact Iff.rfl
theorem b252_15 {d : Nat} {G : PG} {M T : PH} {K : PV → PS → Prop} {l0 l1 l2 : Int} (h1 : pm_ob G l0 12) : pm_Run d 252 15 [.inr (.inr (.inl l0)), .inl l1, .inl l2] [] (G, M, T) K ↔ pm_Call d 230 [.inr (.inr (.inl l0)), .inl l2] (G, M, T) (fun r S1 => pm_Run d 252 21 [.inr (.inr (.inl l0)), .inl l1, .inl l2] (pm_push r [.inr (.inr (.inl l0))]) S1 K) := by
  refine (px_go (by decide +kernel : pm_fe 252 15 = some (.aload_n 0, 1)) rfl).trans ?_
  refine (px_go (by decide +kernel : pm_fe 252 16 = some (.aload_n 0, 1)) rfl).trans ?_
  refine (px_go (by decide +kernel : pm_fe 252 17 = some (.iload_n 2, 1)) rfl).trans ?_
  refine (px_v1 (idx := 503) (m' := 230) (ci := 12) (by decide +kernel)).trans ((and_iff_right ⟨h1, (by simp [pm_wl_n, pm_wl_c, pm_w] : pm_wl [.inr (.inr (.inl l0))] ≤ 8)⟩).trans ?_)
  exact Iff.rfl
theorem b252_21 {d : Nat} {G : PG} {M T : PH} {K : PV → PS → Prop} {l0 l1 l2 s0 s1 : Int} (h1 : pm_ob G s1 12) : pm_Run d 252 21 [.inr (.inr (.inl l0)), .inl l1, .inl l2] [.inl s0, .inr (.inr (.inl s1))] (G, M, T) K ↔ K PU (G, pm_sa M s1.toNat (pm_up (M s1.toNat) 67 s0), T) := by
  refine (px_put0 (idx := 216) (ci := 12) (k := 67) (by decide +kernel)).trans ((and_iff_right h1).trans ?_)
  refine (px_rv (by decide +kernel)).trans ?_
  exact Iff.rfl
-- X12_earnsOf earnsOf(II)I
theorem en253 {d : Nat} {a p0 p1 : Int} {S : PS} {K : PV → PS → Prop} : pm_Call (d + 1) 253 [.inr (.inr (.inl a)), .inl p0, .inl p1] S K ↔ pm_Run d 253 0 [.inr (.inr (.inl a)), .inl p0, .inl p1] [] S K := pm_Call_s.trans (and_iff_right (show 3 ≤ pm_ml 253 from by decide +kernel))
theorem b253_0 {d : Nat} {G : PG} {M T : PH} {K : PV → PS → Prop} {l0 l1 l2 : Int} (h1 : pm_ob G l0 12) (h2 : pm_ar G (T l0.toNat 33) 100 (M l0.toNat 13)) : pm_Run d 253 0 [.inr (.inr (.inl l0)), .inl l1, .inl l2] [] (G, M, T) K ↔ if pm_sg (M (T l0.toNat 33).toNat (pm_sg (M l0.toNat 13)).toNat) ≠ pm_sg (-1) then pm_Run d 253 15 [.inr (.inr (.inl l0)), .inl l1, .inl l2] [] (G, M, T) K else pm_Run d 253 13 [.inr (.inr (.inl l0)), .inl l1, .inl l2] [] (G, M, T) K := by
  refine (px_go (by decide +kernel : pm_fe 253 0 = some (.aload_n 0, 1)) rfl).trans ?_
  refine (px_get2 (idx := 111) (ci := 12) (k := 33) (by decide +kernel)).trans ((and_iff_right h1).trans ?_)
  refine (px_go (by decide +kernel : pm_fe 253 4 = some (.aload_n 0, 1)) rfl).trans ?_
  refine (px_get0 (idx := 51) (ci := 12) (k := 13) (by decide +kernel)).trans ((and_iff_right h1).trans ?_)
  refine (px_iaload (by decide +kernel) h2).trans ?_
  refine (px_go (by decide +kernel : pm_fe 253 9 = some (.iconst (-1), 1)) rfl).trans ?_
  refine (px_ic_ne (off := 5) (tgt := 15) (by decide +kernel)).trans ?_
  exact Iff.rfl
theorem b253_13 {d : Nat} {G : PG} {M T : PH} {K : PV → PS → Prop} {l0 l1 l2 : Int} : pm_Run d 253 13 [.inr (.inr (.inl l0)), .inl l1, .inl l2] [] (G, M, T) K ↔ K (.inl 0) (G, M, T) := by
  refine (px_go (by decide +kernel : pm_fe 253 13 = some (.iconst 0, 1)) rfl).trans ?_
  refine (px_ri (by decide +kernel)).trans ?_
  exact Iff.rfl
theorem b253_15 {d : Nat} {G : PG} {M T : PH} {K : PV → PS → Prop} {l0 l1 l2 : Int} (h1 : pm_ob G l0 12) : pm_Run d 253 15 [.inr (.inr (.inl l0)), .inl l1, .inl l2] [] (G, M, T) K ↔ pm_Call d 252 [.inr (.inr (.inl l0)), .inl l1, .inl l2] (G, M, T) (fun r S1 => pm_Run d 253 21 [.inr (.inr (.inl l0)), .inl l1, .inl l2] (pm_push r []) S1 K) := by
  refine (px_go (by decide +kernel : pm_fe 253 15 = some (.aload_n 0, 1)) rfl).trans ?_
  refine (px_go (by decide +kernel : pm_fe 253 16 = some (.iload_n 1, 1)) rfl).trans ?_
  refine (px_go (by decide +kernel : pm_fe 253 17 = some (.iload_n 2, 1)) rfl).trans ?_
  refine (px_v2 (idx := 506) (m' := 252) (ci := 12) (by decide +kernel)).trans ((and_iff_right ⟨h1, (by simp [pm_wl_n, pm_wl_c, pm_w] : pm_wl [] ≤ 8)⟩).trans ?_)
  exact Iff.rfl
theorem b253_21 {d : Nat} {G : PG} {M T : PH} {K : PV → PS → Prop} {l0 l1 l2 : Int} (h1 : pm_ob G l0 12) (h2 : pm_ar G (T l0.toNat 33) 100 (M l0.toNat 13)) (h3 : pm_ar G (T l0.toNat 34) 100 (M l0.toNat 13)) : pm_Run d 253 21 [.inr (.inr (.inl l0)), .inl l1, .inl l2] [] (G, M, T) K ↔ pm_Call d 249 [.inr (.inr (.inl l0)), .inl (M (T l0.toNat 33).toNat (pm_sg (M l0.toNat 13)).toNat), .inl (M (T l0.toNat 34).toNat (pm_sg (M l0.toNat 13)).toNat)] (G, M, T) (fun r S1 => pm_Run d 253 43 [.inr (.inr (.inl l0)), .inl l1, .inl l2] (pm_push r []) S1 K) := by
  refine (px_go (by decide +kernel : pm_fe 253 21 = some (.aload_n 0, 1)) rfl).trans ?_
  refine (px_go (by decide +kernel : pm_fe 253 22 = some (.aload_n 0, 1)) rfl).trans ?_
  refine (px_get2 (idx := 111) (ci := 12) (k := 33) (by decide +kernel)).trans ((and_iff_right h1).trans ?_)
  refine (px_go (by decide +kernel : pm_fe 253 26 = some (.aload_n 0, 1)) rfl).trans ?_
  refine (px_get0 (idx := 51) (ci := 12) (k := 13) (by decide +kernel)).trans ((and_iff_right h1).trans ?_)
  refine (px_iaload (by decide +kernel) h2).trans ?_
  refine (px_go (by decide +kernel : pm_fe 253 31 = some (.aload_n 0, 1)) rfl).trans ?_
  refine (px_get2 (idx := 114) (ci := 12) (k := 34) (by decide +kernel)).trans ((and_iff_right h1).trans ?_)
  refine (px_go (by decide +kernel : pm_fe 253 35 = some (.aload_n 0, 1)) rfl).trans ?_
  refine (px_get0 (idx := 51) (ci := 12) (k := 13) (by decide +kernel)).trans ((and_iff_right h1).trans ?_)
  refine (px_iaload (by decide +kernel) h3).trans ?_
  refine (px_v2 (idx := 496) (m' := 249) (ci := 12) (by decide +kernel)).trans ((and_iff_right ⟨h1, (by simp [pm_wl_n, pm_wl_c, pm_w] : pm_wl [] ≤ 8)⟩).trans ?_)
  exact Iff.rfl
theorem b253_43 {d : Nat} {G : PG} {M T : PH} {K : PV → PS → Prop} {l0 l1 l2 s0 : Int} : pm_Run d 253 43 [.inr (.inr (.inl l0)), .inl l1, .inl l2] [.inr (.inl s0)] (G, M, T) K ↔ pm_Call d 250 [.inr (.inl s0), .inl 0, .inl 99] (G, M, T) (fun r S1 => pm_Run d 253 49 [.inr (.inr (.inl l0)), .inl l1, .inl l2] (pm_push r []) S1 K) := by
  refine (px_go (by decide +kernel : pm_fe 253 43 = some (.iconst 0, 1)) rfl).trans ?_
  refine (px_go (by decide +kernel : pm_fe 253 44 = some (.bipush 99, 2)) rfl).trans ?_
  refine (px_s3 (idx := 499) (m' := 250) (nest := 0) (by decide +kernel)).trans ((and_iff_right (by simp [pm_wl_n, pm_wl_c, pm_w] : pm_wl [] ≤ 8)).trans ?_)
  exact Iff.rfl
theorem b253_49 {d : Nat} {G : PG} {M T : PH} {K : PV → PS → Prop} {l0 l1 l2 s0 : Int} : pm_Run d 253 49 [.inr (.inr (.inl l0)), .inl l1, .inl l2] [.inl s0] (G, M, T) K ↔ K (.inl s0) (G, M, T) := by
  refine (px_ri (by decide +kernel)).trans ?_
  exact Iff.rfl
-- X12_isBroken isBroken(III)Z
theorem en254 {d : Nat} {a p0 p1 p2 : Int} {S : PS} {K : PV → PS → Prop} : pm_Call (d + 1) 254 [.inr (.inr (.inl a)), .inl p0, .inl p1, .inl p2] S K ↔ pm_Run d 254 0 [.inr (.inr (.inl a)), .inl p0, .inl p1, .inl p2] [] S K := pm_Call_s.trans (and_iff_right (show 4 ≤ pm_ml 254 from by decide +kernel))
theorem b254_0 {d : Nat} {G : PG} {M T : PH} {K : PV → PS → Prop} {l0 l1 l2 l3 : Int} (h1 : pm_ob G l0 12) : pm_Run d 254 0 [.inr (.inr (.inl l0)), .inl l1, .inl l2, .inl l3] [] (G, M, T) K ↔ pm_Call d 252 [.inr (.inr (.inl l0)), .inl l1, .inl l2] (G, M, T) (fun r S1 => pm_Run d 254 6 [.inr (.inr (.inl l0)), .inl l1, .inl l2, .inl l3] (pm_push r []) S1 K) := by
  refine (px_go (by decide +kernel : pm_fe 254 0 = some (.aload_n 0, 1)) rfl).trans ?_
  refine (px_go (by decide +kernel : pm_fe 254 1 = some (.iload_n 1, 1)) rfl).trans ?_
  refine (px_go (by decide +kernel : pm_fe 254 2 = some (.iload_n 2, 1)) rfl).trans ?_
  refine (px_v2 (idx := 506) (m' := 252) (ci := 12) (by decide +kernel)).trans ((and_iff_right ⟨h1, (by simp [pm_wl_n, pm_wl_c, pm_w] : pm_wl [] ≤ 8)⟩).trans ?_)
  exact Iff.rfl
theorem b254_6 {d : Nat} {G : PG} {M T : PH} {K : PV → PS → Prop} {l0 l1 l2 l3 : Int} (h1 : pm_ob G l0 12) (h2 : pm_ar G (T l0.toNat 29) 100 ((6 * (M l0.toNat 13)) + l3)) (h3 : pm_ar G (T l0.toNat 30) 100 ((6 * (M l0.toNat 13)) + l3)) : pm_Run d 254 6 [.inr (.inr (.inl l0)), .inl l1, .inl l2, .inl l3] [] (G, M, T) K ↔ pm_Call d 249 [.inr (.inr (.inl l0)), .inl (M (T l0.toNat 29).toNat (pm_sg ((6 * (M l0.toNat 13)) + l3)).toNat), .inl (M (T l0.toNat 30).toNat (pm_sg ((6 * (M l0.toNat 13)) + l3)).toNat)] (G, M, T) (fun r S1 => pm_Run d 254 38 [.inr (.inr (.inl l0)), .inl l1, .inl l2, .inl l3] (pm_push r []) S1 K) := by
  refine (px_go (by decide +kernel : pm_fe 254 6 = some (.aload_n 0, 1)) rfl).trans ?_
  refine (px_go (by decide +kernel : pm_fe 254 7 = some (.aload_n 0, 1)) rfl).trans ?_
  refine (px_get2 (idx := 99) (ci := 12) (k := 29) (by decide +kernel)).trans ((and_iff_right h1).trans ?_)
  refine (px_go (by decide +kernel : pm_fe 254 11 = some (.bipush 6, 2)) rfl).trans ?_
  refine (px_go (by decide +kernel : pm_fe 254 13 = some (.aload_n 0, 1)) rfl).trans ?_
  refine (px_get0 (idx := 51) (ci := 12) (k := 13) (by decide +kernel)).trans ((and_iff_right h1).trans ?_)
  refine (px_go (by decide +kernel : pm_fe 254 17 = some (.imul, 1)) rfl).trans ?_
  refine (px_go (by decide +kernel : pm_fe 254 18 = some (.iload_n 3, 1)) rfl).trans ?_
  refine (px_go (by decide +kernel : pm_fe 254 19 = some (.iadd, 1)) rfl).trans ?_
  refine (px_iaload (by decide +kernel) h2).trans ?_
  refine (px_go (by decide +kernel : pm_fe 254 21 = some (.aload_n 0, 1)) rfl).trans ?_
  refine (px_get2 (idx := 102) (ci := 12) (k := 30) (by decide +kernel)).trans ((and_iff_right h1).trans ?_)
  refine (px_go (by decide +kernel : pm_fe 254 25 = some (.bipush 6, 2)) rfl).trans ?_
  refine (px_go (by decide +kernel : pm_fe 254 27 = some (.aload_n 0, 1)) rfl).trans ?_
  refine (px_get0 (idx := 51) (ci := 12) (k := 13) (by decide +kernel)).trans ((and_iff_right h1).trans ?_)
  refine (px_go (by decide +kernel : pm_fe 254 31 = some (.imul, 1)) rfl).trans ?_
  refine (px_go (by decide +kernel : pm_fe 254 32 = some (.iload_n 3, 1)) rfl).trans ?_
  refine (px_go (by decide +kernel : pm_fe 254 33 = some (.iadd, 1)) rfl).trans ?_
  refine (px_iaload (by decide +kernel) h3).trans ?_
  refine (px_v2 (idx := 496) (m' := 249) (ci := 12) (by decide +kernel)).trans ((and_iff_right ⟨h1, (by simp [pm_wl_n, pm_wl_c, pm_w] : pm_wl [] ≤ 8)⟩).trans ?_)
  exact Iff.rfl
theorem b254_38 {d : Nat} {G : PG} {M T : PH} {K : PV → PS → Prop} {l0 l1 l2 l3 s0 : Int} : pm_Run d 254 38 [.inr (.inr (.inl l0)), .inl l1, .inl l2, .inl l3] [.inr (.inl s0)] (G, M, T) K ↔ if pm_sg (pm_cmp s0 0) ≠ 0 then pm_Run d 254 47 [.inr (.inr (.inl l0)), .inl l1, .inl l2, .inl l3] [] (G, M, T) K else pm_Run d 254 43 [.inr (.inr (.inl l0)), .inl l1, .inl l2, .inl l3] [] (G, M, T) K := by
  refine (px_go (by decide +kernel : pm_fe 254 38 = some (.lconst 0, 1)) rfl).trans ?_
  refine (px_go (by decide +kernel : pm_fe 254 39 = some (.lcmp, 1)) rfl).trans ?_
  refine (px_if_ne (off := 7) (tgt := 47) (by decide +kernel)).trans ?_
  exact Iff.rfl
theorem b254_43 {d : Nat} {G : PG} {M T : PH} {K : PV → PS → Prop} {l0 l1 l2 l3 : Int} : pm_Run d 254 43 [.inr (.inr (.inl l0)), .inl l1, .inl l2, .inl l3] [] (G, M, T) K ↔ pm_Run d 254 48 [.inr (.inr (.inl l0)), .inl l1, .inl l2, .inl l3] [.inl 1] (G, M, T) K := by
  refine (px_go (by decide +kernel : pm_fe 254 43 = some (.iconst 1, 1)) rfl).trans ?_
  refine (px_goto (off := 4) (tgt := 48) (by decide +kernel)).trans ?_
  exact Iff.rfl
theorem b254_47 {d : Nat} {G : PG} {M T : PH} {K : PV → PS → Prop} {l0 l1 l2 l3 : Int} : pm_Run d 254 47 [.inr (.inr (.inl l0)), .inl l1, .inl l2, .inl l3] [] (G, M, T) K ↔ pm_Run d 254 48 [.inr (.inr (.inl l0)), .inl l1, .inl l2, .inl l3] [.inl 0] (G, M, T) K := by
  refine (px_go (by decide +kernel : pm_fe 254 47 = some (.iconst 0, 1)) rfl).trans ?_
  exact Iff.rfl
theorem b254_48 {d : Nat} {G : PG} {M T : PH} {K : PV → PS → Prop} {l0 l1 l2 l3 s0 : Int} (h1 : s0 = 0 ∨ s0 = 1) : pm_Run d 254 48 [.inr (.inr (.inl l0)), .inl l1, .inl l2, .inl l3] [.inl s0] (G, M, T) K ↔ K (.inl s0) (G, M, T) := by
  refine (px_rz (by decide +kernel)).trans ((and_iff_right h1).trans ?_)
  exact Iff.rfl
-- X12_heights heights(I)V
theorem en255 {d : Nat} {a p0 : Int} {S : PS} {K : PV → PS → Prop} : pm_Call (d + 1) 255 [.inr (.inr (.inl a)), .inl p0] S K ↔ pm_Run d 255 0 [.inr (.inr (.inl a)), .inl p0, PU, PU, PU, PU] [] S K := pm_Call_s.trans (and_iff_right (show 2 ≤ pm_ml 255 from by decide +kernel))
theorem b255_0 {d : Nat} {G : PG} {M T : PH} {K : PV → PS → Prop} {l0 l1 : Int} : pm_Run d 255 0 [.inr (.inr (.inl l0)), .inl l1, PU, PU, PU, PU] [] (G, M, T) K ↔ pm_Run d 255 4 [.inr (.inr (.inl l0)), .inl l1, .inl 0, .inl 0, PU, PU] [] (G, M, T) K := by
  refine (px_go (by decide +kernel : pm_fe 255 0 = some (.iconst 0, 1)) rfl).trans ?_
  refine (px_go (by decide +kernel : pm_fe 255 1 = some (.istore_n 2, 1)) rfl).trans ?_
  refine (px_go (by decide +kernel : pm_fe 255 2 = some (.iconst 0, 1)) rfl).trans ?_
  refine (px_go (by decide +kernel : pm_fe 255 3 = some (.istore_n 3, 1)) rfl).trans ?_
  exact Iff.rfl
theorem b255_4 {d : Nat} {G : PG} {M T : PH} {K : PV → PS → Prop} {l0 l1 l2 l3 : Int} {l4 l5 : PV} (h1 : pm_ob G l0 12) (h2 : pm_ar G (T l0.toNat 14) 100 (M l0.toNat 13)) : pm_Run d 255 4 [.inr (.inr (.inl l0)), .inl l1, .inl l2, .inl l3, l4, l5] [] (G, M, T) K ↔ if pm_sg (M (T l0.toNat 14).toNat (pm_sg (M l0.toNat 13)).toNat) ≤ pm_sg l3 then pm_Run d 255 85 [.inr (.inr (.inl l0)), .inl l1, .inl l2, .inl l3, l4, l5] [] (G, M, T) K else pm_Run d 255 17 [.inr (.inr (.inl l0)), .inl l1, .inl l2, .inl l3, l4, l5] [] (G, M, T) K := by
  refine (px_go (by decide +kernel : pm_fe 255 4 = some (.iload_n 3, 1)) rfl).trans ?_
  refine (px_go (by decide +kernel : pm_fe 255 5 = some (.aload_n 0, 1)) rfl).trans ?_
  refine (px_get2 (idx := 54) (ci := 12) (k := 14) (by decide +kernel)).trans ((and_iff_right h1).trans ?_)
  refine (px_go (by decide +kernel : pm_fe 255 9 = some (.aload_n 0, 1)) rfl).trans ?_
  refine (px_get0 (idx := 51) (ci := 12) (k := 13) (by decide +kernel)).trans ((and_iff_right h1).trans ?_)
  refine (px_iaload (by decide +kernel) h2).trans ?_
  refine (px_ic_ge (off := 71) (tgt := 85) (by decide +kernel)).trans ?_
  exact Iff.rfl
theorem b255_17 {d : Nat} {G : PG} {M T : PH} {K : PV → PS → Prop} {l0 l1 l2 l3 : Int} {l4 l5 : PV} : pm_Run d 255 17 [.inr (.inr (.inl l0)), .inl l1, .inl l2, .inl l3, l4, l5] [] (G, M, T) K ↔ pm_Run d 255 23 [.inr (.inr (.inl l0)), .inl l1, .inl l2, .inl l3, .inl 0, .inl 0] [] (G, M, T) K := by
  refine (px_go (by decide +kernel : pm_fe 255 17 = some (.iconst 0, 1)) rfl).trans ?_
  refine (px_go (by decide +kernel : pm_fe 255 18 = some (.istore 4, 2)) rfl).trans ?_
  refine (px_go (by decide +kernel : pm_fe 255 20 = some (.iconst 0, 1)) rfl).trans ?_
  refine (px_go (by decide +kernel : pm_fe 255 21 = some (.istore 5, 2)) rfl).trans ?_
  exact Iff.rfl
theorem b255_23 {d : Nat} {G : PG} {M T : PH} {K : PV → PS → Prop} {l0 l1 l2 l3 l4 l5 : Int} (h1 : pm_ob G l0 12) (h2 : pm_ar G (T l0.toNat 15) 100 (M l0.toNat 13)) : pm_Run d 255 23 [.inr (.inr (.inl l0)), .inl l1, .inl l2, .inl l3, .inl l4, .inl l5] [] (G, M, T) K ↔ if pm_sg (M (T l0.toNat 15).toNat (pm_sg (M l0.toNat 13)).toNat) ≤ pm_sg l5 then pm_Run d 255 56 [.inr (.inr (.inl l0)), .inl l1, .inl l2, .inl l3, .inl l4, .inl l5] [] (G, M, T) K else pm_Run d 255 37 [.inr (.inr (.inl l0)), .inl l1, .inl l2, .inl l3, .inl l4, .inl l5] [] (G, M, T) K := by
  refine (px_go (by decide +kernel : pm_fe 255 23 = some (.iload 5, 2)) rfl).trans ?_
  refine (px_go (by decide +kernel : pm_fe 255 25 = some (.aload_n 0, 1)) rfl).trans ?_
  refine (px_get2 (idx := 57) (ci := 12) (k := 15) (by decide +kernel)).trans ((and_iff_right h1).trans ?_)
  refine (px_go (by decide +kernel : pm_fe 255 29 = some (.aload_n 0, 1)) rfl).trans ?_
  refine (px_get0 (idx := 51) (ci := 12) (k := 13) (by decide +kernel)).trans ((and_iff_right h1).trans ?_)
  refine (px_iaload (by decide +kernel) h2).trans ?_
  refine (px_ic_ge (off := 22) (tgt := 56) (by decide +kernel)).trans ?_
  exact Iff.rfl
theorem b255_37 {d : Nat} {G : PG} {M T : PH} {K : PV → PS → Prop} {l0 l1 l2 l3 l4 l5 : Int} (h1 : pm_ob G l0 12) : pm_Run d 255 37 [.inr (.inr (.inl l0)), .inl l1, .inl l2, .inl l3, .inl l4, .inl l5] [] (G, M, T) K ↔ pm_Call d 251 [.inr (.inr (.inl l0)), .inl l1, .inl l5, .inl l3] (G, M, T) (fun r S1 => pm_Run d 255 47 [.inr (.inr (.inl l0)), .inl l1, .inl l2, .inl l3, .inl l4, .inl l5] (pm_push r [.inl l4]) S1 K) := by
  refine (px_go (by decide +kernel : pm_fe 255 37 = some (.iload 4, 2)) rfl).trans ?_
  refine (px_go (by decide +kernel : pm_fe 255 39 = some (.aload_n 0, 1)) rfl).trans ?_
  refine (px_go (by decide +kernel : pm_fe 255 40 = some (.iload_n 1, 1)) rfl).trans ?_
  refine (px_go (by decide +kernel : pm_fe 255 41 = some (.iload 5, 2)) rfl).trans ?_
  refine (px_go (by decide +kernel : pm_fe 255 43 = some (.iload_n 3, 1)) rfl).trans ?_
  refine (px_v3 (idx := 509) (m' := 251) (ci := 12) (by decide +kernel)).trans ((and_iff_right ⟨h1, (by simp [pm_wl_n, pm_wl_c, pm_w] : pm_wl [.inl l4] ≤ 8)⟩).trans ?_)
  exact Iff.rfl
theorem b255_47 {d : Nat} {G : PG} {M T : PH} {K : PV → PS → Prop} {l0 l1 l2 l3 l4 l5 s0 s1 : Int} : pm_Run d 255 47 [.inr (.inr (.inl l0)), .inl l1, .inl l2, .inl l3, .inl l4, .inl l5] [.inl s0, .inl s1] (G, M, T) K ↔ pm_Run d 255 23 [.inr (.inr (.inl l0)), .inl l1, .inl l2, .inl l3, .inl (s1 + s0), .inl (l5 + 1)] [] (G, M, T) K := by
  refine (px_go (by decide +kernel : pm_fe 255 47 = some (.iadd, 1)) rfl).trans ?_
  refine (px_go (by decide +kernel : pm_fe 255 48 = some (.istore 4, 2)) rfl).trans ?_
  refine (px_go (by decide +kernel : pm_fe 255 50 = some (.iinc 5 1, 3)) rfl).trans ?_
  refine (px_goto (off := (-30)) (tgt := 23) (by decide +kernel)).trans ?_
  exact Iff.rfl
theorem b255_56 {d : Nat} {G : PG} {M T : PH} {K : PV → PS → Prop} {l0 l1 l2 l3 l4 l5 : Int} (h1 : pm_ob G l0 12) (h2 : pm_ar G (T l0.toNat 35) 100 (M l0.toNat 13)) (h3 : pm_ar G (T l0.toNat 68) 100 l3) : pm_Run d 255 56 [.inr (.inr (.inl l0)), .inl l1, .inl l2, .inl l3, .inl l4, .inl l5] [] (G, M, T) K ↔ pm_Run d 255 4 [.inr (.inr (.inl l0)), .inl l1, .inl (l2 + l4), .inl (l3 + 1), .inl l4, .inl l5] [] (G, pm_sa M (T l0.toNat 68).toNat (pm_up (M (T l0.toNat 68).toNat) (pm_sg l3).toNat ((M (T l0.toNat 35).toNat (pm_sg (M l0.toNat 13)).toNat) + l4)), T) K := by
  refine (px_go (by decide +kernel : pm_fe 255 56 = some (.aload_n 0, 1)) rfl).trans ?_
  refine (px_get2 (idx := 219) (ci := 12) (k := 68) (by decide +kernel)).trans ((and_iff_right h1).trans ?_)
  refine (px_go (by decide +kernel : pm_fe 255 60 = some (.iload_n 3, 1)) rfl).trans ?_
  refine (px_go (by decide +kernel : pm_fe 255 61 = some (.aload_n 0, 1)) rfl).trans ?_
  refine (px_get2 (idx := 117) (ci := 12) (k := 35) (by decide +kernel)).trans ((and_iff_right h1).trans ?_)
  refine (px_go (by decide +kernel : pm_fe 255 65 = some (.aload_n 0, 1)) rfl).trans ?_
  refine (px_get0 (idx := 51) (ci := 12) (k := 13) (by decide +kernel)).trans ((and_iff_right h1).trans ?_)
  refine (px_iaload (by decide +kernel) h2).trans ?_
  refine (px_go (by decide +kernel : pm_fe 255 70 = some (.iload 4, 2)) rfl).trans ?_
  refine (px_go (by decide +kernel : pm_fe 255 72 = some (.iadd, 1)) rfl).trans ?_
  refine (px_iastore (by decide +kernel)).trans ((and_iff_right h3).trans ?_)
  refine (px_go (by decide +kernel : pm_fe 255 74 = some (.iload_n 2, 1)) rfl).trans ?_
  refine (px_go (by decide +kernel : pm_fe 255 75 = some (.iload 4, 2)) rfl).trans ?_
  refine (px_go (by decide +kernel : pm_fe 255 77 = some (.iadd, 1)) rfl).trans ?_
  refine (px_go (by decide +kernel : pm_fe 255 78 = some (.istore_n 2, 1)) rfl).trans ?_
  refine (px_go (by decide +kernel : pm_fe 255 79 = some (.iinc 3 1, 3)) rfl).trans ?_
  refine (px_goto (off := (-78)) (tgt := 4) (by decide +kernel)).trans ?_
  exact Iff.rfl
theorem b255_85 {d : Nat} {G : PG} {M T : PH} {K : PV → PS → Prop} {l0 l1 l2 l3 : Int} {l4 l5 : PV} (h1 : pm_ob G l0 12) (h2 : pm_ar G (T l0.toNat 14) 100 (M l0.toNat 13)) : pm_Run d 255 85 [.inr (.inr (.inl l0)), .inl l1, .inl l2, .inl l3, l4, l5] [] (G, M, T) K ↔ pm_Call d 246 [.inr (.inl (pm_sg l2)), .inr (.inl (pm_sg (M (T l0.toNat 14).toNat (pm_sg (M l0.toNat 13)).toNat)))] (G, M, T) (fun r S1 => pm_Run d 255 100 [.inr (.inr (.inl l0)), .inl l1, .inl l2, .inl l3, l4, l5] (pm_push r []) S1 K) := by
  refine (px_go (by decide +kernel : pm_fe 255 85 = some (.iload_n 2, 1)) rfl).trans ?_
  refine (px_go (by decide +kernel : pm_fe 255 86 = some (.i2l, 1)) rfl).trans ?_
  refine (px_go (by decide +kernel : pm_fe 255 87 = some (.aload_n 0, 1)) rfl).trans ?_
  refine (px_get2 (idx := 54) (ci := 12) (k := 14) (by decide +kernel)).trans ((and_iff_right h1).trans ?_)
  refine (px_go (by decide +kernel : pm_fe 255 91 = some (.aload_n 0, 1)) rfl).trans ?_
  refine (px_get0 (idx := 51) (ci := 12) (k := 13) (by decide +kernel)).trans ((and_iff_right h1).trans ?_)
  refine (px_iaload (by decide +kernel) h2).trans ?_
  refine (px_go (by decide +kernel : pm_fe 255 96 = some (.i2l, 1)) rfl).trans ?_
  refine (px_s2 (idx := 481) (m' := 246) (nest := 0) (by decide +kernel)).trans ((and_iff_right (by simp [pm_wl_n, pm_wl_c, pm_w] : pm_wl [] ≤ 8)).trans ?_)
  exact Iff.rfl
theorem b255_100 {d : Nat} {G : PG} {M T : PH} {K : PV → PS → Prop} {l0 l1 l2 l3 s0 : Int} {l4 l5 : PV} (h1 : pm_ob G l0 12) (h2 : pm_ar G (T l0.toNat 14) 100 (M l0.toNat 13)) : pm_Run d 255 100 [.inr (.inr (.inl l0)), .inl l1, .inl l2, .inl l3, l4, l5] [.inr (.inl s0)] (G, M, T) K ↔ pm_Run d 255 120 [.inr (.inr (.inl l0)), .inl l1, .inl l2, .inl s0, .inl (l2 - (s0 * (M (T l0.toNat 14).toNat (pm_sg (M l0.toNat 13)).toNat))), .inl 0] [] (G, M, T) K := by
  refine (px_go (by decide +kernel : pm_fe 255 100 = some (.l2i, 1)) rfl).trans ?_
  refine (px_go (by decide +kernel : pm_fe 255 101 = some (.istore_n 3, 1)) rfl).trans ?_
  refine (px_go (by decide +kernel : pm_fe 255 102 = some (.iload_n 2, 1)) rfl).trans ?_
  refine (px_go (by decide +kernel : pm_fe 255 103 = some (.iload_n 3, 1)) rfl).trans ?_
  refine (px_go (by decide +kernel : pm_fe 255 104 = some (.aload_n 0, 1)) rfl).trans ?_
  refine (px_get2 (idx := 54) (ci := 12) (k := 14) (by decide +kernel)).trans ((and_iff_right h1).trans ?_)
  refine (px_go (by decide +kernel : pm_fe 255 108 = some (.aload_n 0, 1)) rfl).trans ?_
  refine (px_get0 (idx := 51) (ci := 12) (k := 13) (by decide +kernel)).trans ((and_iff_right h1).trans ?_)
  refine (px_iaload (by decide +kernel) h2).trans ?_
  refine (px_go (by decide +kernel : pm_fe 255 113 = some (.imul, 1)) rfl).trans ?_
  refine (px_go (by decide +kernel : pm_fe 255 114 = some (.isub, 1)) rfl).trans ?_
  refine (px_go (by decide +kernel : pm_fe 255 115 = some (.istore 4, 2)) rfl).trans ?_
  refine (px_go (by decide +kernel : pm_fe 255 117 = some (.iconst 0, 1)) rfl).trans ?_
  refine (px_go (by decide +kernel : pm_fe 255 118 = some (.istore 5, 2)) rfl).trans ?_
  exact Iff.rfl
theorem b255_120 {d : Nat} {G : PG} {M T : PH} {K : PV → PS → Prop} {l0 l1 l2 l3 l4 l5 : Int} (h1 : pm_ob G l0 12) (h2 : pm_ar G (T l0.toNat 14) 100 (M l0.toNat 13)) : pm_Run d 255 120 [.inr (.inr (.inl l0)), .inl l1, .inl l2, .inl l3, .inl l4, .inl l5] [] (G, M, T) K ↔ if pm_sg (M (T l0.toNat 14).toNat (pm_sg (M l0.toNat 13)).toNat) ≤ pm_sg l5 then pm_Run d 255 164 [.inr (.inr (.inl l0)), .inl l1, .inl l2, .inl l3, .inl l4, .inl l5] [] (G, M, T) K else pm_Run d 255 134 [.inr (.inr (.inl l0)), .inl l1, .inl l2, .inl l3, .inl l4, .inl l5] [] (G, M, T) K := by
  refine (px_go (by decide +kernel : pm_fe 255 120 = some (.iload 5, 2)) rfl).trans ?_
  refine (px_go (by decide +kernel : pm_fe 255 122 = some (.aload_n 0, 1)) rfl).trans ?_
  refine (px_get2 (idx := 54) (ci := 12) (k := 14) (by decide +kernel)).trans ((and_iff_right h1).trans ?_)
  refine (px_go (by decide +kernel : pm_fe 255 126 = some (.aload_n 0, 1)) rfl).trans ?_
  refine (px_get0 (idx := 51) (ci := 12) (k := 13) (by decide +kernel)).trans ((and_iff_right h1).trans ?_)
  refine (px_iaload (by decide +kernel) h2).trans ?_
  refine (px_ic_ge (off := 33) (tgt := 164) (by decide +kernel)).trans ?_
  exact Iff.rfl
theorem b255_134 {d : Nat} {G : PG} {M T : PH} {K : PV → PS → Prop} {l0 l1 l2 l3 l4 l5 : Int} (h1 : pm_ob G l0 12) (h2 : pm_ar G (T l0.toNat 68) 100 l5) : pm_Run d 255 134 [.inr (.inr (.inl l0)), .inl l1, .inl l2, .inl l3, .inl l4, .inl l5] [] (G, M, T) K ↔ if pm_sg l4 ≤ pm_sg l5 then pm_Run d 255 154 [.inr (.inr (.inl l0)), .inl l1, .inl l2, .inl l3, .inl l4, .inl l5] [.inl l3, .inl (M (T l0.toNat 68).toNat (pm_sg l5).toNat), .inl l5, .inr (.inr (.inl (T l0.toNat 68)))] (G, M, T) K else pm_Run d 255 150 [.inr (.inr (.inl l0)), .inl l1, .inl l2, .inl l3, .inl l4, .inl l5] [.inl l3, .inl (M (T l0.toNat 68).toNat (pm_sg l5).toNat), .inl l5, .inr (.inr (.inl (T l0.toNat 68)))] (G, M, T) K := by
  refine (px_go (by decide +kernel : pm_fe 255 134 = some (.aload_n 0, 1)) rfl).trans ?_
  refine (px_get2 (idx := 219) (ci := 12) (k := 68) (by decide +kernel)).trans ((and_iff_right h1).trans ?_)
  refine (px_go (by decide +kernel : pm_fe 255 138 = some (.iload 5, 2)) rfl).trans ?_
  refine (px_go (by decide +kernel : pm_fe 255 140 = some (.dup2, 1)) rfl).trans ?_
  refine (px_iaload (by decide +kernel) h2).trans ?_
  refine (px_go (by decide +kernel : pm_fe 255 142 = some (.iload_n 3, 1)) rfl).trans ?_
  refine (px_go (by decide +kernel : pm_fe 255 143 = some (.iload 5, 2)) rfl).trans ?_
  refine (px_go (by decide +kernel : pm_fe 255 145 = some (.iload 4, 2)) rfl).trans ?_
  refine (px_ic_ge (off := 7) (tgt := 154) (by decide +kernel)).trans ?_
  exact Iff.rfl
theorem b255_150 {d : Nat} {G : PG} {M T : PH} {K : PV → PS → Prop} {l0 l1 l2 l3 l4 l5 s0 s1 s2 s3 : Int} : pm_Run d 255 150 [.inr (.inr (.inl l0)), .inl l1, .inl l2, .inl l3, .inl l4, .inl l5] [.inl s0, .inl s1, .inl s2, .inr (.inr (.inl s3))] (G, M, T) K ↔ pm_Run d 255 155 [.inr (.inr (.inl l0)), .inl l1, .inl l2, .inl l3, .inl l4, .inl l5] [.inl 1, .inl s0, .inl s1, .inl s2, .inr (.inr (.inl s3))] (G, M, T) K := by
  refine (px_go (by decide +kernel : pm_fe 255 150 = some (.iconst 1, 1)) rfl).trans ?_
  refine (px_goto (off := 4) (tgt := 155) (by decide +kernel)).trans ?_
  exact Iff.rfl
theorem b255_154 {d : Nat} {G : PG} {M T : PH} {K : PV → PS → Prop} {l0 l1 l2 l3 l4 l5 s0 s1 s2 s3 : Int} : pm_Run d 255 154 [.inr (.inr (.inl l0)), .inl l1, .inl l2, .inl l3, .inl l4, .inl l5] [.inl s0, .inl s1, .inl s2, .inr (.inr (.inl s3))] (G, M, T) K ↔ pm_Run d 255 155 [.inr (.inr (.inl l0)), .inl l1, .inl l2, .inl l3, .inl l4, .inl l5] [.inl 0, .inl s0, .inl s1, .inl s2, .inr (.inr (.inl s3))] (G, M, T) K := by
  refine (px_go (by decide +kernel : pm_fe 255 154 = some (.iconst 0, 1)) rfl).trans ?_
  exact Iff.rfl
theorem b255_155 {d : Nat} {G : PG} {M T : PH} {K : PV → PS → Prop} {l0 l1 l2 l3 l4 l5 s0 s1 s2 s3 s4 : Int} (h1 : pm_ar G s4 100 s3) : pm_Run d 255 155 [.inr (.inr (.inl l0)), .inl l1, .inl l2, .inl l3, .inl l4, .inl l5] [.inl s0, .inl s1, .inl s2, .inl s3, .inr (.inr (.inl s4))] (G, M, T) K ↔ pm_Run d 255 120 [.inr (.inr (.inl l0)), .inl l1, .inl l2, .inl l3, .inl l4, .inl (l5 + 1)] [] (G, pm_sa M s4.toNat (pm_up (M s4.toNat) (pm_sg s3).toNat (s2 - (s1 + s0))), T) K := by
  refine (px_go (by decide +kernel : pm_fe 255 155 = some (.iadd, 1)) rfl).trans ?_
  refine (px_go (by decide +kernel : pm_fe 255 156 = some (.isub, 1)) rfl).trans ?_
  refine (px_iastore (by decide +kernel)).trans ((and_iff_right h1).trans ?_)
  refine (px_go (by decide +kernel : pm_fe 255 158 = some (.iinc 5 1, 3)) rfl).trans ?_
  refine (px_goto (off := (-41)) (tgt := 120) (by decide +kernel)).trans ?_
  exact Iff.rfl
theorem b255_164 {d : Nat} {G : PG} {M T : PH} {K : PV → PS → Prop} {l0 l1 l2 l3 l4 l5 : Int} : pm_Run d 255 164 [.inr (.inr (.inl l0)), .inl l1, .inl l2, .inl l3, .inl l4, .inl l5] [] (G, M, T) K ↔ K PU (G, M, T) := by
  refine (px_rv (by decide +kernel)).trans ?_
  exact Iff.rfl
-- X12_paysTo paysTo(III)V
theorem en256 {d : Nat} {a p0 p1 p2 : Int} {S : PS} {K : PV → PS → Prop} : pm_Call (d + 1) 256 [.inr (.inr (.inl a)), .inl p0, .inl p1, .inl p2] S K ↔ pm_Run d 256 0 [.inr (.inr (.inl a)), .inl p0, .inl p1, .inl p2, PU, PU] [] S K := pm_Call_s.trans (and_iff_right (show 4 ≤ pm_ml 256 from by decide +kernel))
theorem b256_0 {d : Nat} {G : PG} {M T : PH} {K : PV → PS → Prop} {l0 l1 l2 l3 : Int} (h1 : pm_ob G l0 12) (h2 : pm_ar G (T l0.toNat 57) 100 ((8 * l1) + l2)) (h3 : pm_ar G (T l0.toNat 58) 100 (((24 * l1) + (3 * l2)) + l3)) : pm_Run d 256 0 [.inr (.inr (.inl l0)), .inl l1, .inl l2, .inl l3, PU, PU] [] (G, M, T) K ↔ if pm_sg (M (T l0.toNat 57).toNat (pm_sg ((8 * l1) + l2)).toNat) < pm_sg (M (T l0.toNat 58).toNat (pm_sg (((24 * l1) + (3 * l2)) + l3)).toNat) then pm_Run d 256 57 [.inr (.inr (.inl l0)), .inl l1, .inl l2, .inl l3, .inl (((24 * l1) + (3 * l2)) + l3), .inl ((8 * l1) + l2)] [] (G, M, T) K else pm_Run d 256 37 [.inr (.inr (.inl l0)), .inl l1, .inl l2, .inl l3, .inl (((24 * l1) + (3 * l2)) + l3), .inl ((8 * l1) + l2)] [] (G, M, T) K := by
  refine (px_go (by decide +kernel : pm_fe 256 0 = some (.bipush 24, 2)) rfl).trans ?_
  refine (px_go (by decide +kernel : pm_fe 256 2 = some (.iload_n 1, 1)) rfl).trans ?_
  refine (px_go (by decide +kernel : pm_fe 256 3 = some (.imul, 1)) rfl).trans ?_
  refine (px_go (by decide +kernel : pm_fe 256 4 = some (.iconst 3, 1)) rfl).trans ?_
  refine (px_go (by decide +kernel : pm_fe 256 5 = some (.iload_n 2, 1)) rfl).trans ?_
  refine (px_go (by decide +kernel : pm_fe 256 6 = some (.imul, 1)) rfl).trans ?_
  refine (px_go (by decide +kernel : pm_fe 256 7 = some (.iadd, 1)) rfl).trans ?_
  refine (px_go (by decide +kernel : pm_fe 256 8 = some (.iload_n 3, 1)) rfl).trans ?_
  refine (px_go (by decide +kernel : pm_fe 256 9 = some (.iadd, 1)) rfl).trans ?_
  refine (px_go (by decide +kernel : pm_fe 256 10 = some (.istore 4, 2)) rfl).trans ?_
  refine (px_go (by decide +kernel : pm_fe 256 12 = some (.bipush 8, 2)) rfl).trans ?_
  refine (px_go (by decide +kernel : pm_fe 256 14 = some (.iload_n 1, 1)) rfl).trans ?_
  refine (px_go (by decide +kernel : pm_fe 256 15 = some (.imul, 1)) rfl).trans ?_
  refine (px_go (by decide +kernel : pm_fe 256 16 = some (.iload_n 2, 1)) rfl).trans ?_
  refine (px_go (by decide +kernel : pm_fe 256 17 = some (.iadd, 1)) rfl).trans ?_
  refine (px_go (by decide +kernel : pm_fe 256 18 = some (.istore 5, 2)) rfl).trans ?_
  refine (px_go (by decide +kernel : pm_fe 256 20 = some (.aload_n 0, 1)) rfl).trans ?_
  refine (px_get2 (idx := 186) (ci := 12) (k := 57) (by decide +kernel)).trans ((and_iff_right h1).trans ?_)
  refine (px_go (by decide +kernel : pm_fe 256 24 = some (.iload 5, 2)) rfl).trans ?_
  refine (px_iaload (by decide +kernel) h2).trans ?_
  refine (px_go (by decide +kernel : pm_fe 256 27 = some (.aload_n 0, 1)) rfl).trans ?_
  refine (px_get2 (idx := 189) (ci := 12) (k := 58) (by decide +kernel)).trans ((and_iff_right h1).trans ?_)
  refine (px_go (by decide +kernel : pm_fe 256 31 = some (.iload 4, 2)) rfl).trans ?_
  refine (px_iaload (by decide +kernel) h3).trans ?_
  refine (px_ic_lt (off := 23) (tgt := 57) (by decide +kernel)).trans ?_
  exact Iff.rfl
theorem b256_37 {d : Nat} {G : PG} {M T : PH} {K : PV → PS → Prop} {l0 l1 l2 l3 l4 l5 : Int} (h1 : pm_ob G l0 12) (h2 : pm_ar G (T l0.toNat 57) 100 l5) (h3 : pm_ar G (T l0.toNat 58) 100 l4) : pm_Run d 256 37 [.inr (.inr (.inl l0)), .inl l1, .inl l2, .inl l3, .inl l4, .inl l5] [] (G, M, T) K ↔ pm_Run d 256 106 [.inr (.inr (.inl l0)), .inl l1, .inl l2, .inl l3, .inl l4, .inl l5] [] (G, pm_sa M (T l0.toNat 57).toNat (pm_up (M (T l0.toNat 57).toNat) (pm_sg l5).toNat ((M (T l0.toNat 57).toNat (pm_sg l5).toNat) - (M (T l0.toNat 58).toNat (pm_sg l4).toNat))), T) K := by
  refine (px_go (by decide +kernel : pm_fe 256 37 = some (.aload_n 0, 1)) rfl).trans ?_
  refine (px_get2 (idx := 186) (ci := 12) (k := 57) (by decide +kernel)).trans ((and_iff_right h1).trans ?_)
  refine (px_go (by decide +kernel : pm_fe 256 41 = some (.iload 5, 2)) rfl).trans ?_
  refine (px_go (by decide +kernel : pm_fe 256 43 = some (.dup2, 1)) rfl).trans ?_
  refine (px_iaload (by decide +kernel) h2).trans ?_
  refine (px_go (by decide +kernel : pm_fe 256 45 = some (.aload_n 0, 1)) rfl).trans ?_
  refine (px_get2 (idx := 189) (ci := 12) (k := 58) (by decide +kernel)).trans ((and_iff_right h1).trans ?_)
  refine (px_go (by decide +kernel : pm_fe 256 49 = some (.iload 4, 2)) rfl).trans ?_
  refine (px_iaload (by decide +kernel) h3).trans ?_
  refine (px_go (by decide +kernel : pm_fe 256 52 = some (.isub, 1)) rfl).trans ?_
  refine (px_iastore (by decide +kernel)).trans ((and_iff_right h2).trans ?_)
  refine (px_goto (off := 52) (tgt := 106) (by decide +kernel)).trans ?_
  exact Iff.rfl
theorem b256_57 {d : Nat} {G : PG} {M T : PH} {K : PV → PS → Prop} {l0 l1 l2 l3 l4 l5 : Int} (h1 : pm_ob G l0 12) (h2 : pm_ar G (T l0.toNat 59) 100 l4) (h3 : pm_ar G (T l0.toNat 58) 100 l4) : pm_Run d 256 57 [.inr (.inr (.inl l0)), .inl l1, .inl l2, .inl l3, .inl l4, .inl l5] [] (G, M, T) K ↔ if pm_sg ((M (T l0.toNat 59).toNat (pm_sg l4).toNat) + (M (T l0.toNat 58).toNat (pm_sg l4).toNat)) ≤ pm_sg 9999 then pm_Run d 256 90 [.inr (.inr (.inl l0)), .inl l1, .inl l2, .inl l3, .inl l4, .inl l5] [.inl l4, .inr (.inr (.inl (T l0.toNat 59)))] (G, M, T) K else pm_Run d 256 84 [.inr (.inr (.inl l0)), .inl l1, .inl l2, .inl l3, .inl l4, .inl l5] [.inl l4, .inr (.inr (.inl (T l0.toNat 59)))] (G, M, T) K := by
  refine (px_go (by decide +kernel : pm_fe 256 57 = some (.aload_n 0, 1)) rfl).trans ?_
  refine (px_get2 (idx := 192) (ci := 12) (k := 59) (by decide +kernel)).trans ((and_iff_right h1).trans ?_)
  refine (px_go (by decide +kernel : pm_fe 256 61 = some (.iload 4, 2)) rfl).trans ?_
  refine (px_go (by decide +kernel : pm_fe 256 63 = some (.aload_n 0, 1)) rfl).trans ?_
  refine (px_get2 (idx := 192) (ci := 12) (k := 59) (by decide +kernel)).trans ((and_iff_right h1).trans ?_)
  refine (px_go (by decide +kernel : pm_fe 256 67 = some (.iload 4, 2)) rfl).trans ?_
  refine (px_iaload (by decide +kernel) h2).trans ?_
  refine (px_go (by decide +kernel : pm_fe 256 70 = some (.aload_n 0, 1)) rfl).trans ?_
  refine (px_get2 (idx := 189) (ci := 12) (k := 58) (by decide +kernel)).trans ((and_iff_right h1).trans ?_)
  refine (px_go (by decide +kernel : pm_fe 256 74 = some (.iload 4, 2)) rfl).trans ?_
  refine (px_iaload (by decide +kernel) h3).trans ?_
  refine (px_go (by decide +kernel : pm_fe 256 77 = some (.iadd, 1)) rfl).trans ?_
  refine (px_go (by decide +kernel : pm_fe 256 78 = some (.sipush 9999, 3)) rfl).trans ?_
  refine (px_ic_le (off := 9) (tgt := 90) (by decide +kernel)).trans ?_
  exact Iff.rfl
theorem b256_84 {d : Nat} {G : PG} {M T : PH} {K : PV → PS → Prop} {l0 l1 l2 l3 l4 l5 s0 s1 : Int} : pm_Run d 256 84 [.inr (.inr (.inl l0)), .inl l1, .inl l2, .inl l3, .inl l4, .inl l5] [.inl s0, .inr (.inr (.inl s1))] (G, M, T) K ↔ pm_Run d 256 105 [.inr (.inr (.inl l0)), .inl l1, .inl l2, .inl l3, .inl l4, .inl l5] [.inl 9999, .inl s0, .inr (.inr (.inl s1))] (G, M, T) K := by
  refine (px_go (by decide +kernel : pm_fe 256 84 = some (.sipush 9999, 3)) rfl).trans ?_
  refine (px_goto (off := 18) (tgt := 105) (by decide +kernel)).trans ?_
  exact Iff.rfl
theorem b256_90 {d : Nat} {G : PG} {M T : PH} {K : PV → PS → Prop} {l0 l1 l2 l3 l4 l5 s0 s1 : Int} (h1 : pm_ob G l0 12) (h2 : pm_ar G (T l0.toNat 59) 100 l4) (h3 : pm_ar G (T l0.toNat 58) 100 l4) : pm_Run d 256 90 [.inr (.inr (.inl l0)), .inl l1, .inl l2, .inl l3, .inl l4, .inl l5] [.inl s0, .inr (.inr (.inl s1))] (G, M, T) K ↔ pm_Run d 256 105 [.inr (.inr (.inl l0)), .inl l1, .inl l2, .inl l3, .inl l4, .inl l5] [.inl ((M (T l0.toNat 59).toNat (pm_sg l4).toNat) + (M (T l0.toNat 58).toNat (pm_sg l4).toNat)), .inl s0, .inr (.inr (.inl s1))] (G, M, T) K := by
  refine (px_go (by decide +kernel : pm_fe 256 90 = some (.aload_n 0, 1)) rfl).trans ?_
  refine (px_get2 (idx := 192) (ci := 12) (k := 59) (by decide +kernel)).trans ((and_iff_right h1).trans ?_)
  refine (px_go (by decide +kernel : pm_fe 256 94 = some (.iload 4, 2)) rfl).trans ?_
  refine (px_iaload (by decide +kernel) h2).trans ?_
  refine (px_go (by decide +kernel : pm_fe 256 97 = some (.aload_n 0, 1)) rfl).trans ?_
  refine (px_get2 (idx := 189) (ci := 12) (k := 58) (by decide +kernel)).trans ((and_iff_right h1).trans ?_)
  refine (px_go (by decide +kernel : pm_fe 256 101 = some (.iload 4, 2)) rfl).trans ?_
  refine (px_iaload (by decide +kernel) h3).trans ?_
  refine (px_go (by decide +kernel : pm_fe 256 104 = some (.iadd, 1)) rfl).trans ?_
  exact Iff.rfl
theorem b256_105 {d : Nat} {G : PG} {M T : PH} {K : PV → PS → Prop} {l0 l1 l2 l3 l4 l5 s0 s1 s2 : Int} (h1 : pm_ar G s2 100 s1) : pm_Run d 256 105 [.inr (.inr (.inl l0)), .inl l1, .inl l2, .inl l3, .inl l4, .inl l5] [.inl s0, .inl s1, .inr (.inr (.inl s2))] (G, M, T) K ↔ pm_Run d 256 106 [.inr (.inr (.inl l0)), .inl l1, .inl l2, .inl l3, .inl l4, .inl l5] [] (G, pm_sa M s2.toNat (pm_up (M s2.toNat) (pm_sg s1).toNat s0), T) K := by
  refine (px_iastore (by decide +kernel)).trans ((and_iff_right h1).trans ?_)
  exact Iff.rfl
theorem b256_106 {d : Nat} {G : PG} {M T : PH} {K : PV → PS → Prop} {l0 l1 l2 l3 l4 l5 : Int} (h1 : pm_ob G l0 12) (h2 : pm_ar G (T l0.toNat 57) 100 l5) (h3 : pm_ar G (T l0.toNat 59) 100 l4) : pm_Run d 256 106 [.inr (.inr (.inl l0)), .inl l1, .inl l2, .inl l3, .inl l4, .inl l5] [] (G, M, T) K ↔ if pm_sg (M (T l0.toNat 59).toNat (pm_sg l4).toNat) ≤ pm_sg (M (T l0.toNat 57).toNat (pm_sg l5).toNat) then pm_Run d 256 124 [.inr (.inr (.inl l0)), .inl l1, .inl l2, .inl l3, .inl l4, .inl l5] [] (G, M, T) K else pm_Run d 256 123 [.inr (.inr (.inl l0)), .inl l1, .inl l2, .inl l3, .inl l4, .inl l5] [] (G, M, T) K := by
  refine (px_go (by decide +kernel : pm_fe 256 106 = some (.aload_n 0, 1)) rfl).trans ?_
  refine (px_get2 (idx := 186) (ci := 12) (k := 57) (by decide +kernel)).trans ((and_iff_right h1).trans ?_)
  refine (px_go (by decide +kernel : pm_fe 256 110 = some (.iload 5, 2)) rfl).trans ?_
  refine (px_iaload (by decide +kernel) h2).trans ?_
  refine (px_go (by decide +kernel : pm_fe 256 113 = some (.aload_n 0, 1)) rfl).trans ?_
  refine (px_get2 (idx := 192) (ci := 12) (k := 59) (by decide +kernel)).trans ((and_iff_right h1).trans ?_)
  refine (px_go (by decide +kernel : pm_fe 256 117 = some (.iload 4, 2)) rfl).trans ?_
  refine (px_iaload (by decide +kernel) h3).trans ?_
  refine (px_ic_ge (off := 4) (tgt := 124) (by decide +kernel)).trans ?_
  exact Iff.rfl
theorem b256_123 {d : Nat} {G : PG} {M T : PH} {K : PV → PS → Prop} {l0 l1 l2 l3 l4 l5 : Int} : pm_Run d 256 123 [.inr (.inr (.inl l0)), .inl l1, .inl l2, .inl l3, .inl l4, .inl l5] [] (G, M, T) K ↔ K PU (G, M, T) := by
  refine (px_rv (by decide +kernel)).trans ?_
  exact Iff.rfl
theorem b256_124 {d : Nat} {G : PG} {M T : PH} {K : PV → PS → Prop} {l0 l1 l2 l3 l4 l5 : Int} (h1 : pm_ob G l0 12) (h2 : pm_ar G (T l0.toNat 57) 100 l5) (h3 : pm_ar G (T l0.toNat 59) 100 l4) : pm_Run d 256 124 [.inr (.inr (.inl l0)), .inl l1, .inl l2, .inl l3, .inl l4, .inl l5] [] (G, M, T) K ↔ pm_Run d 256 149 [.inr (.inr (.inl l0)), .inl l1, .inl l2, .inl l3, .inl l4, .inl l5] [] (G, pm_sa (pm_sa M (T l0.toNat 57).toNat (pm_up (M (T l0.toNat 57).toNat) (pm_sg l5).toNat ((M (T l0.toNat 57).toNat (pm_sg l5).toNat) - (M (T l0.toNat 59).toNat (pm_sg l4).toNat)))) (T l0.toNat 59).toNat (pm_up ((pm_sa M (T l0.toNat 57).toNat (pm_up (M (T l0.toNat 57).toNat) (pm_sg l5).toNat ((M (T l0.toNat 57).toNat (pm_sg l5).toNat) - (M (T l0.toNat 59).toNat (pm_sg l4).toNat)))) (T l0.toNat 59).toNat) (pm_sg l4).toNat 0), T) K := by
  refine (px_go (by decide +kernel : pm_fe 256 124 = some (.aload_n 0, 1)) rfl).trans ?_
  refine (px_get2 (idx := 186) (ci := 12) (k := 57) (by decide +kernel)).trans ((and_iff_right h1).trans ?_)
  refine (px_go (by decide +kernel : pm_fe 256 128 = some (.iload 5, 2)) rfl).trans ?_
  refine (px_go (by decide +kernel : pm_fe 256 130 = some (.dup2, 1)) rfl).trans ?_
  refine (px_iaload (by decide +kernel) h2).trans ?_
  refine (px_go (by decide +kernel : pm_fe 256 132 = some (.aload_n 0, 1)) rfl).trans ?_
  refine (px_get2 (idx := 192) (ci := 12) (k := 59) (by decide +kernel)).trans ((and_iff_right h1).trans ?_)
  refine (px_go (by decide +kernel : pm_fe 256 136 = some (.iload 4, 2)) rfl).trans ?_
  refine (px_iaload (by decide +kernel) h3).trans ?_
  refine (px_go (by decide +kernel : pm_fe 256 139 = some (.isub, 1)) rfl).trans ?_
  refine (px_iastore (by decide +kernel)).trans ((and_iff_right h2).trans ?_)
  refine (px_go (by decide +kernel : pm_fe 256 141 = some (.aload_n 0, 1)) rfl).trans ?_
  refine (px_get2 (idx := 192) (ci := 12) (k := 59) (by decide +kernel)).trans ((and_iff_right h1).trans ?_)
  refine (px_go (by decide +kernel : pm_fe 256 145 = some (.iload 4, 2)) rfl).trans ?_
  refine (px_go (by decide +kernel : pm_fe 256 147 = some (.iconst 0, 1)) rfl).trans ?_
  refine (px_iastore (by decide +kernel)).trans ((and_iff_right h3).trans ?_)
  exact Iff.rfl
theorem b256_149 {d : Nat} {G : PG} {M T : PH} {K : PV → PS → Prop} {l0 l1 l2 l3 l4 l5 : Int} : pm_Run d 256 149 [.inr (.inr (.inl l0)), .inl l1, .inl l2, .inl l3, .inl l4, .inl l5] [] (G, M, T) K ↔ K PU (G, M, T) := by
  refine (px_rv (by decide +kernel)).trans ?_
  exact Iff.rfl
-- X12_hourGoes hourGoes(I)V
theorem en257 {d : Nat} {a p0 : Int} {S : PS} {K : PV → PS → Prop} : pm_Call (d + 1) 257 [.inr (.inr (.inl a)), .inl p0] S K ↔ pm_Run d 257 0 [.inr (.inr (.inl a)), .inl p0, PU, PU] [] S K := pm_Call_s.trans (and_iff_right (show 2 ≤ pm_ml 257 from by decide +kernel))
theorem b257_0 {d : Nat} {G : PG} {M T : PH} {K : PV → PS → Prop} {l0 l1 : Int} (h1 : pm_ob G l0 12) : pm_Run d 257 0 [.inr (.inr (.inl l0)), .inl l1, PU, PU] [] (G, M, T) K ↔ pm_Call d 255 [.inr (.inr (.inl l0)), .inl l1] (G, M, T) (fun r S1 => pm_Run d 257 5 [.inr (.inr (.inl l0)), .inl l1, PU, PU] (pm_push r []) S1 K) := by
  refine (px_go (by decide +kernel : pm_fe 257 0 = some (.aload_n 0, 1)) rfl).trans ?_
  refine (px_go (by decide +kernel : pm_fe 257 1 = some (.iload_n 1, 1)) rfl).trans ?_
  refine (px_v1 (idx := 513) (m' := 255) (ci := 12) (by decide +kernel)).trans ((and_iff_right ⟨h1, (by simp [pm_wl_n, pm_wl_c, pm_w] : pm_wl [] ≤ 8)⟩).trans ?_)
  exact Iff.rfl
theorem b257_5 {d : Nat} {G : PG} {M T : PH} {K : PV → PS → Prop} {l0 l1 : Int} : pm_Run d 257 5 [.inr (.inr (.inl l0)), .inl l1, PU, PU] [] (G, M, T) K ↔ pm_Run d 257 7 [.inr (.inr (.inl l0)), .inl l1, .inl 0, PU] [] (G, M, T) K := by
  refine (px_go (by decide +kernel : pm_fe 257 5 = some (.iconst 0, 1)) rfl).trans ?_
  refine (px_go (by decide +kernel : pm_fe 257 6 = some (.istore_n 2, 1)) rfl).trans ?_
  exact Iff.rfl
theorem b257_7 {d : Nat} {G : PG} {M T : PH} {K : PV → PS → Prop} {l0 l1 l2 : Int} {l3 : PV} (h1 : pm_ob G l0 12) (h2 : pm_ar G (T l0.toNat 19) 100 (M l0.toNat 13)) : pm_Run d 257 7 [.inr (.inr (.inl l0)), .inl l1, .inl l2, l3] [] (G, M, T) K ↔ if pm_sg (M (T l0.toNat 19).toNat (pm_sg (M l0.toNat 13)).toNat) ≤ pm_sg l2 then pm_Run d 257 70 [.inr (.inr (.inl l0)), .inl l1, .inl l2, l3] [] (G, M, T) K else pm_Run d 257 20 [.inr (.inr (.inl l0)), .inl l1, .inl l2, l3] [] (G, M, T) K := by
  refine (px_go (by decide +kernel : pm_fe 257 7 = some (.iload_n 2, 1)) rfl).trans ?_
  refine (px_go (by decide +kernel : pm_fe 257 8 = some (.aload_n 0, 1)) rfl).trans ?_
  refine (px_get2 (idx := 69) (ci := 12) (k := 19) (by decide +kernel)).trans ((and_iff_right h1).trans ?_)
  refine (px_go (by decide +kernel : pm_fe 257 12 = some (.aload_n 0, 1)) rfl).trans ?_
  refine (px_get0 (idx := 51) (ci := 12) (k := 13) (by decide +kernel)).trans ((and_iff_right h1).trans ?_)
  refine (px_iaload (by decide +kernel) h2).trans ?_
  refine (px_ic_ge (off := 53) (tgt := 70) (by decide +kernel)).trans ?_
  exact Iff.rfl
theorem b257_20 {d : Nat} {G : PG} {M T : PH} {K : PV → PS → Prop} {l0 l1 l2 : Int} {l3 : PV} (h1 : pm_ob G l0 12) (h2 : pm_ar G (T l0.toNat 57) 100 ((8 * l1) + l2)) : pm_Run d 257 20 [.inr (.inr (.inl l0)), .inl l1, .inl l2, l3] [] (G, M, T) K ↔ pm_Call d 253 [.inr (.inr (.inl l0)), .inl l1, .inl l2] (G, M, T) (fun r S1 => pm_Run d 257 37 [.inr (.inr (.inl l0)), .inl l1, .inl l2, l3] (pm_push r [.inl (M (T l0.toNat 57).toNat (pm_sg ((8 * l1) + l2)).toNat)]) S1 K) := by
  refine (px_go (by decide +kernel : pm_fe 257 20 = some (.aload_n 0, 1)) rfl).trans ?_
  refine (px_get2 (idx := 186) (ci := 12) (k := 57) (by decide +kernel)).trans ((and_iff_right h1).trans ?_)
  refine (px_go (by decide +kernel : pm_fe 257 24 = some (.bipush 8, 2)) rfl).trans ?_
  refine (px_go (by decide +kernel : pm_fe 257 26 = some (.iload_n 1, 1)) rfl).trans ?_
  refine (px_go (by decide +kernel : pm_fe 257 27 = some (.imul, 1)) rfl).trans ?_
  refine (px_go (by decide +kernel : pm_fe 257 28 = some (.iload_n 2, 1)) rfl).trans ?_
  refine (px_go (by decide +kernel : pm_fe 257 29 = some (.iadd, 1)) rfl).trans ?_
  refine (px_iaload (by decide +kernel) h2).trans ?_
  refine (px_go (by decide +kernel : pm_fe 257 31 = some (.aload_n 0, 1)) rfl).trans ?_
  refine (px_go (by decide +kernel : pm_fe 257 32 = some (.iload_n 1, 1)) rfl).trans ?_
  refine (px_go (by decide +kernel : pm_fe 257 33 = some (.iload_n 2, 1)) rfl).trans ?_
  refine (px_v2 (idx := 516) (m' := 253) (ci := 12) (by decide +kernel)).trans ((and_iff_right ⟨h1, (by simp [pm_wl_n, pm_wl_c, pm_w] : pm_wl [.inl (M (T l0.toNat 57).toNat (pm_sg ((8 * l1) + l2)).toNat)] ≤ 8)⟩).trans ?_)
  exact Iff.rfl
theorem b257_37 {d : Nat} {G : PG} {M T : PH} {K : PV → PS → Prop} {l0 l1 l2 s0 s1 : Int} {l3 : PV} (h1 : pm_ob G l0 12) : pm_Run d 257 37 [.inr (.inr (.inl l0)), .inl l1, .inl l2, l3] [.inl s0, .inl s1] (G, M, T) K ↔ if pm_sg (s1 + s0) ≤ pm_sg 9999 then pm_Run d 257 62 [.inr (.inr (.inl l0)), .inl l1, .inl l2, .inl (s1 + s0)] [.inl ((8 * l1) + l2), .inr (.inr (.inl (T l0.toNat 57)))] (G, M, T) K else pm_Run d 257 56 [.inr (.inr (.inl l0)), .inl l1, .inl l2, .inl (s1 + s0)] [.inl ((8 * l1) + l2), .inr (.inr (.inl (T l0.toNat 57)))] (G, M, T) K := by
  refine (px_go (by decide +kernel : pm_fe 257 37 = some (.iadd, 1)) rfl).trans ?_
  refine (px_go (by decide +kernel : pm_fe 257 38 = some (.istore_n 3, 1)) rfl).trans ?_
  refine (px_go (by decide +kernel : pm_fe 257 39 = some (.aload_n 0, 1)) rfl).trans ?_
  refine (px_get2 (idx := 186) (ci := 12) (k := 57) (by decide +kernel)).trans ((and_iff_right h1).trans ?_)
  refine (px_go (by decide +kernel : pm_fe 257 43 = some (.bipush 8, 2)) rfl).trans ?_
  refine (px_go (by decide +kernel : pm_fe 257 45 = some (.iload_n 1, 1)) rfl).trans ?_
  refine (px_go (by decide +kernel : pm_fe 257 46 = some (.imul, 1)) rfl).trans ?_
  refine (px_go (by decide +kernel : pm_fe 257 47 = some (.iload_n 2, 1)) rfl).trans ?_
  refine (px_go (by decide +kernel : pm_fe 257 48 = some (.iadd, 1)) rfl).trans ?_
  refine (px_go (by decide +kernel : pm_fe 257 49 = some (.iload_n 3, 1)) rfl).trans ?_
  refine (px_go (by decide +kernel : pm_fe 257 50 = some (.sipush 9999, 3)) rfl).trans ?_
  refine (px_ic_le (off := 9) (tgt := 62) (by decide +kernel)).trans ?_
  exact Iff.rfl
theorem b257_56 {d : Nat} {G : PG} {M T : PH} {K : PV → PS → Prop} {l0 l1 l2 l3 s0 s1 : Int} : pm_Run d 257 56 [.inr (.inr (.inl l0)), .inl l1, .inl l2, .inl l3] [.inl s0, .inr (.inr (.inl s1))] (G, M, T) K ↔ pm_Run d 257 63 [.inr (.inr (.inl l0)), .inl l1, .inl l2, .inl l3] [.inl 9999, .inl s0, .inr (.inr (.inl s1))] (G, M, T) K := by
  refine (px_go (by decide +kernel : pm_fe 257 56 = some (.sipush 9999, 3)) rfl).trans ?_
  refine (px_goto (off := 4) (tgt := 63) (by decide +kernel)).trans ?_
  exact Iff.rfl
theorem b257_62 {d : Nat} {G : PG} {M T : PH} {K : PV → PS → Prop} {l0 l1 l2 l3 s0 s1 : Int} : pm_Run d 257 62 [.inr (.inr (.inl l0)), .inl l1, .inl l2, .inl l3] [.inl s0, .inr (.inr (.inl s1))] (G, M, T) K ↔ pm_Run d 257 63 [.inr (.inr (.inl l0)), .inl l1, .inl l2, .inl l3] [.inl l3, .inl s0, .inr (.inr (.inl s1))] (G, M, T) K := by
  refine (px_go (by decide +kernel : pm_fe 257 62 = some (.iload_n 3, 1)) rfl).trans ?_
  exact Iff.rfl
theorem b257_63 {d : Nat} {G : PG} {M T : PH} {K : PV → PS → Prop} {l0 l1 l2 l3 s0 s1 s2 : Int} (h1 : pm_ar G s2 100 s1) : pm_Run d 257 63 [.inr (.inr (.inl l0)), .inl l1, .inl l2, .inl l3] [.inl s0, .inl s1, .inr (.inr (.inl s2))] (G, M, T) K ↔ pm_Run d 257 7 [.inr (.inr (.inl l0)), .inl l1, .inl (l2 + 1), .inl l3] [] (G, pm_sa M s2.toNat (pm_up (M s2.toNat) (pm_sg s1).toNat s0), T) K := by
  refine (px_iastore (by decide +kernel)).trans ((and_iff_right h1).trans ?_)
  refine (px_go (by decide +kernel : pm_fe 257 64 = some (.iinc 2 1, 3)) rfl).trans ?_
  refine (px_goto (off := (-60)) (tgt := 7) (by decide +kernel)).trans ?_
  exact Iff.rfl
theorem b257_70 {d : Nat} {G : PG} {M T : PH} {K : PV → PS → Prop} {l0 l1 l2 : Int} {l3 : PV} : pm_Run d 257 70 [.inr (.inr (.inl l0)), .inl l1, .inl l2, l3] [] (G, M, T) K ↔ pm_Run d 257 72 [.inr (.inr (.inl l0)), .inl l1, .inl 0, l3] [] (G, M, T) K := by
  refine (px_go (by decide +kernel : pm_fe 257 70 = some (.iconst 0, 1)) rfl).trans ?_
  refine (px_go (by decide +kernel : pm_fe 257 71 = some (.istore_n 2, 1)) rfl).trans ?_
  exact Iff.rfl
theorem b257_72 {d : Nat} {G : PG} {M T : PH} {K : PV → PS → Prop} {l0 l1 l2 : Int} {l3 : PV} (h1 : pm_ob G l0 12) (h2 : pm_ar G (T l0.toNat 19) 100 (M l0.toNat 13)) : pm_Run d 257 72 [.inr (.inr (.inl l0)), .inl l1, .inl l2, l3] [] (G, M, T) K ↔ if pm_sg (M (T l0.toNat 19).toNat (pm_sg (M l0.toNat 13)).toNat) ≤ pm_sg l2 then pm_Run d 257 119 [.inr (.inr (.inl l0)), .inl l1, .inl l2, l3] [] (G, M, T) K else pm_Run d 257 85 [.inr (.inr (.inl l0)), .inl l1, .inl l2, l3] [] (G, M, T) K := by
  refine (px_go (by decide +kernel : pm_fe 257 72 = some (.iload_n 2, 1)) rfl).trans ?_
  refine (px_go (by decide +kernel : pm_fe 257 73 = some (.aload_n 0, 1)) rfl).trans ?_
  refine (px_get2 (idx := 69) (ci := 12) (k := 19) (by decide +kernel)).trans ((and_iff_right h1).trans ?_)
  refine (px_go (by decide +kernel : pm_fe 257 77 = some (.aload_n 0, 1)) rfl).trans ?_
  refine (px_get0 (idx := 51) (ci := 12) (k := 13) (by decide +kernel)).trans ((and_iff_right h1).trans ?_)
  refine (px_iaload (by decide +kernel) h2).trans ?_
  refine (px_ic_ge (off := 37) (tgt := 119) (by decide +kernel)).trans ?_
  exact Iff.rfl
theorem b257_85 {d : Nat} {G : PG} {M T : PH} {K : PV → PS → Prop} {l0 l1 l2 : Int} {l3 : PV} : pm_Run d 257 85 [.inr (.inr (.inl l0)), .inl l1, .inl l2, l3] [] (G, M, T) K ↔ pm_Run d 257 87 [.inr (.inr (.inl l0)), .inl l1, .inl l2, .inl 0] [] (G, M, T) K := by
  refine (px_go (by decide +kernel : pm_fe 257 85 = some (.iconst 0, 1)) rfl).trans ?_
  refine (px_go (by decide +kernel : pm_fe 257 86 = some (.istore_n 3, 1)) rfl).trans ?_
  exact Iff.rfl
theorem b257_87 {d : Nat} {G : PG} {M T : PH} {K : PV → PS → Prop} {l0 l1 l2 l3 : Int} (h1 : pm_ob G l0 12) (h2 : pm_ar G (T l0.toNat 15) 100 (M l0.toNat 13)) : pm_Run d 257 87 [.inr (.inr (.inl l0)), .inl l1, .inl l2, .inl l3] [] (G, M, T) K ↔ if pm_sg (M (T l0.toNat 15).toNat (pm_sg (M l0.toNat 13)).toNat) ≤ pm_sg l3 then pm_Run d 257 113 [.inr (.inr (.inl l0)), .inl l1, .inl l2, .inl l3] [] (G, M, T) K else pm_Run d 257 100 [.inr (.inr (.inl l0)), .inl l1, .inl l2, .inl l3] [] (G, M, T) K := by
  refine (px_go (by decide +kernel : pm_fe 257 87 = some (.iload_n 3, 1)) rfl).trans ?_
  refine (px_go (by decide +kernel : pm_fe 257 88 = some (.aload_n 0, 1)) rfl).trans ?_
  refine (px_get2 (idx := 57) (ci := 12) (k := 15) (by decide +kernel)).trans ((and_iff_right h1).trans ?_)
  refine (px_go (by decide +kernel : pm_fe 257 92 = some (.aload_n 0, 1)) rfl).trans ?_
  refine (px_get0 (idx := 51) (ci := 12) (k := 13) (by decide +kernel)).trans ((and_iff_right h1).trans ?_)
  refine (px_iaload (by decide +kernel) h2).trans ?_
  refine (px_ic_ge (off := 16) (tgt := 113) (by decide +kernel)).trans ?_
  exact Iff.rfl
theorem b257_100 {d : Nat} {G : PG} {M T : PH} {K : PV → PS → Prop} {l0 l1 l2 l3 : Int} (h1 : pm_ob G l0 12) : pm_Run d 257 100 [.inr (.inr (.inl l0)), .inl l1, .inl l2, .inl l3] [] (G, M, T) K ↔ pm_Call d 256 [.inr (.inr (.inl l0)), .inl l1, .inl l2, .inl l3] (G, M, T) (fun r S1 => pm_Run d 257 107 [.inr (.inr (.inl l0)), .inl l1, .inl l2, .inl l3] (pm_push r []) S1 K) := by
  refine (px_go (by decide +kernel : pm_fe 257 100 = some (.aload_n 0, 1)) rfl).trans ?_
  refine (px_go (by decide +kernel : pm_fe 257 101 = some (.iload_n 1, 1)) rfl).trans ?_
  refine (px_go (by decide +kernel : pm_fe 257 102 = some (.iload_n 2, 1)) rfl).trans ?_
  refine (px_go (by decide +kernel : pm_fe 257 103 = some (.iload_n 3, 1)) rfl).trans ?_
  refine (px_v3 (idx := 519) (m' := 256) (ci := 12) (by decide +kernel)).trans ((and_iff_right ⟨h1, (by simp [pm_wl_n, pm_wl_c, pm_w] : pm_wl [] ≤ 8)⟩).trans ?_)
  exact Iff.rfl
theorem b257_107 {d : Nat} {G : PG} {M T : PH} {K : PV → PS → Prop} {l0 l1 l2 l3 : Int} : pm_Run d 257 107 [.inr (.inr (.inl l0)), .inl l1, .inl l2, .inl l3] [] (G, M, T) K ↔ pm_Run d 257 87 [.inr (.inr (.inl l0)), .inl l1, .inl l2, .inl (l3 + 1)] [] (G, M, T) K := by
  refine (px_go (by decide +kernel : pm_fe 257 107 = some (.iinc 3 1, 3)) rfl).trans ?_
  refine (px_goto (off := (-23)) (tgt := 87) (by decide +kernel)).trans ?_
  exact Iff.rfl
theorem b257_113 {d : Nat} {G : PG} {M T : PH} {K : PV → PS → Prop} {l0 l1 l2 l3 : Int} : pm_Run d 257 113 [.inr (.inr (.inl l0)), .inl l1, .inl l2, .inl l3] [] (G, M, T) K ↔ pm_Run d 257 72 [.inr (.inr (.inl l0)), .inl l1, .inl (l2 + 1), .inl l3] [] (G, M, T) K := by
  refine (px_go (by decide +kernel : pm_fe 257 113 = some (.iinc 2 1, 3)) rfl).trans ?_
  refine (px_goto (off := (-44)) (tgt := 72) (by decide +kernel)).trans ?_
  exact Iff.rfl
theorem b257_119 {d : Nat} {G : PG} {M T : PH} {K : PV → PS → Prop} {l0 l1 l2 : Int} {l3 : PV} : pm_Run d 257 119 [.inr (.inr (.inl l0)), .inl l1, .inl l2, l3] [] (G, M, T) K ↔ pm_Run d 257 121 [.inr (.inr (.inl l0)), .inl l1, .inl 0, l3] [] (G, M, T) K := by
  refine (px_go (by decide +kernel : pm_fe 257 119 = some (.iconst 0, 1)) rfl).trans ?_
  refine (px_go (by decide +kernel : pm_fe 257 120 = some (.istore_n 2, 1)) rfl).trans ?_
  exact Iff.rfl
theorem b257_121 {d : Nat} {G : PG} {M T : PH} {K : PV → PS → Prop} {l0 l1 l2 : Int} {l3 : PV} (h1 : pm_ob G l0 12) (h2 : pm_ar G (T l0.toNat 15) 100 (M l0.toNat 13)) : pm_Run d 257 121 [.inr (.inr (.inl l0)), .inl l1, .inl l2, l3] [] (G, M, T) K ↔ if pm_sg (M (T l0.toNat 15).toNat (pm_sg (M l0.toNat 13)).toNat) ≤ pm_sg l2 then pm_Run d 257 184 [.inr (.inr (.inl l0)), .inl l1, .inl l2, l3] [] (G, M, T) K else pm_Run d 257 134 [.inr (.inr (.inl l0)), .inl l1, .inl l2, l3] [] (G, M, T) K := by
  refine (px_go (by decide +kernel : pm_fe 257 121 = some (.iload_n 2, 1)) rfl).trans ?_
  refine (px_go (by decide +kernel : pm_fe 257 122 = some (.aload_n 0, 1)) rfl).trans ?_
  refine (px_get2 (idx := 57) (ci := 12) (k := 15) (by decide +kernel)).trans ((and_iff_right h1).trans ?_)
  refine (px_go (by decide +kernel : pm_fe 257 126 = some (.aload_n 0, 1)) rfl).trans ?_
  refine (px_get0 (idx := 51) (ci := 12) (k := 13) (by decide +kernel)).trans ((and_iff_right h1).trans ?_)
  refine (px_iaload (by decide +kernel) h2).trans ?_
  refine (px_ic_ge (off := 53) (tgt := 184) (by decide +kernel)).trans ?_
  exact Iff.rfl
theorem b257_134 {d : Nat} {G : PG} {M T : PH} {K : PV → PS → Prop} {l0 l1 l2 : Int} {l3 : PV} (h1 : pm_ob G l0 12) (h2 : pm_ar G (T l0.toNat 55) 100 ((3 * l1) + l2)) (h3 : pm_ar G (T l0.toNat 17) 100 ((3 * (M l0.toNat 13)) + l2)) (h4 : pm_ar G (T l0.toNat 14) 100 (M l0.toNat 13)) (h5 : pm_sg (M (T l0.toNat 14).toNat (pm_sg (M l0.toNat 13)).toNat) ≠ 0) : pm_Run d 257 134 [.inr (.inr (.inl l0)), .inl l1, .inl l2, l3] [] (G, M, T) K ↔ pm_Run d 257 178 [.inr (.inr (.inl l0)), .inl l1, .inl l2, l3] [] (G, pm_sa M (T l0.toNat 55).toNat (pm_up (M (T l0.toNat 55).toNat) (pm_sg ((3 * l1) + l2)).toNat (pm_rem ((M (T l0.toNat 55).toNat (pm_sg ((3 * l1) + l2)).toNat) + (M (T l0.toNat 17).toNat (pm_sg ((3 * (M l0.toNat 13)) + l2)).toNat)) (M (T l0.toNat 14).toNat (pm_sg (M l0.toNat 13)).toNat))), T) K := by
  refine (px_go (by decide +kernel : pm_fe 257 134 = some (.aload_n 0, 1)) rfl).trans ?_
  refine (px_get2 (idx := 180) (ci := 12) (k := 55) (by decide +kernel)).trans ((and_iff_right h1).trans ?_)
  refine (px_go (by decide +kernel : pm_fe 257 138 = some (.iconst 3, 1)) rfl).trans ?_
  refine (px_go (by decide +kernel : pm_fe 257 139 = some (.iload_n 1, 1)) rfl).trans ?_
  refine (px_go (by decide +kernel : pm_fe 257 140 = some (.imul, 1)) rfl).trans ?_
  refine (px_go (by decide +kernel : pm_fe 257 141 = some (.iload_n 2, 1)) rfl).trans ?_
  refine (px_go (by decide +kernel : pm_fe 257 142 = some (.iadd, 1)) rfl).trans ?_
  refine (px_go (by decide +kernel : pm_fe 257 143 = some (.aload_n 0, 1)) rfl).trans ?_
  refine (px_get2 (idx := 180) (ci := 12) (k := 55) (by decide +kernel)).trans ((and_iff_right h1).trans ?_)
  refine (px_go (by decide +kernel : pm_fe 257 147 = some (.iconst 3, 1)) rfl).trans ?_
  refine (px_go (by decide +kernel : pm_fe 257 148 = some (.iload_n 1, 1)) rfl).trans ?_
  refine (px_go (by decide +kernel : pm_fe 257 149 = some (.imul, 1)) rfl).trans ?_
  refine (px_go (by decide +kernel : pm_fe 257 150 = some (.iload_n 2, 1)) rfl).trans ?_
  refine (px_go (by decide +kernel : pm_fe 257 151 = some (.iadd, 1)) rfl).trans ?_
  refine (px_iaload (by decide +kernel) h2).trans ?_
  refine (px_go (by decide +kernel : pm_fe 257 153 = some (.aload_n 0, 1)) rfl).trans ?_
  refine (px_get2 (idx := 63) (ci := 12) (k := 17) (by decide +kernel)).trans ((and_iff_right h1).trans ?_)
  refine (px_go (by decide +kernel : pm_fe 257 157 = some (.iconst 3, 1)) rfl).trans ?_
  refine (px_go (by decide +kernel : pm_fe 257 158 = some (.aload_n 0, 1)) rfl).trans ?_
  refine (px_get0 (idx := 51) (ci := 12) (k := 13) (by decide +kernel)).trans ((and_iff_right h1).trans ?_)
  refine (px_go (by decide +kernel : pm_fe 257 162 = some (.imul, 1)) rfl).trans ?_
  refine (px_go (by decide +kernel : pm_fe 257 163 = some (.iload_n 2, 1)) rfl).trans ?_
  refine (px_go (by decide +kernel : pm_fe 257 164 = some (.iadd, 1)) rfl).trans ?_
  refine (px_iaload (by decide +kernel) h3).trans ?_
  refine (px_go (by decide +kernel : pm_fe 257 166 = some (.iadd, 1)) rfl).trans ?_
  refine (px_go (by decide +kernel : pm_fe 257 167 = some (.aload_n 0, 1)) rfl).trans ?_
  refine (px_get2 (idx := 54) (ci := 12) (k := 14) (by decide +kernel)).trans ((and_iff_right h1).trans ?_)
  refine (px_go (by decide +kernel : pm_fe 257 171 = some (.aload_n 0, 1)) rfl).trans ?_
  refine (px_get0 (idx := 51) (ci := 12) (k := 13) (by decide +kernel)).trans ((and_iff_right h1).trans ?_)
  refine (px_iaload (by decide +kernel) h4).trans ?_
  refine (px_irem (by decide +kernel)).trans ((and_iff_right h5).trans ?_)
  refine (px_iastore (by decide +kernel)).trans ((and_iff_right h2).trans ?_)
  exact Iff.rfl
theorem b257_178 {d : Nat} {G : PG} {M T : PH} {K : PV → PS → Prop} {l0 l1 l2 : Int} {l3 : PV} : pm_Run d 257 178 [.inr (.inr (.inl l0)), .inl l1, .inl l2, l3] [] (G, M, T) K ↔ pm_Run d 257 121 [.inr (.inr (.inl l0)), .inl l1, .inl (l2 + 1), l3] [] (G, M, T) K := by
  refine (px_go (by decide +kernel : pm_fe 257 178 = some (.iinc 2 1, 3)) rfl).trans ?_
  refine (px_goto (off := (-60)) (tgt := 121) (by decide +kernel)).trans ?_
  exact Iff.rfl
theorem b257_184 {d : Nat} {G : PG} {M T : PH} {K : PV → PS → Prop} {l0 l1 l2 : Int} {l3 : PV} (h1 : pm_ob G l0 12) (h2 : pm_ar G (T l0.toNat 54) 100 l1) : pm_Run d 257 184 [.inr (.inr (.inl l0)), .inl l1, .inl l2, l3] [] (G, M, T) K ↔ K PU (G, pm_sa M (T l0.toNat 54).toNat (pm_up (M (T l0.toNat 54).toNat) (pm_sg l1).toNat ((M (T l0.toNat 54).toNat (pm_sg l1).toNat) + 1)), T) := by
  refine (px_go (by decide +kernel : pm_fe 257 184 = some (.aload_n 0, 1)) rfl).trans ?_
  refine (px_get2 (idx := 177) (ci := 12) (k := 54) (by decide +kernel)).trans ((and_iff_right h1).trans ?_)
  refine (px_go (by decide +kernel : pm_fe 257 188 = some (.iload_n 1, 1)) rfl).trans ?_
  refine (px_go (by decide +kernel : pm_fe 257 189 = some (.dup2, 1)) rfl).trans ?_
  refine (px_iaload (by decide +kernel) h2).trans ?_
  refine (px_go (by decide +kernel : pm_fe 257 191 = some (.iconst 1, 1)) rfl).trans ?_
  refine (px_go (by decide +kernel : pm_fe 257 192 = some (.iadd, 1)) rfl).trans ?_
  refine (px_iastore (by decide +kernel)).trans ((and_iff_right h2).trans ?_)
  refine (px_rv (by decide +kernel)).trans ?_
  exact Iff.rfl
