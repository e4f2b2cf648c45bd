-- X10_init <init>(LMoonTender$Chart;LMoonTender$Moment;)V
theorem en125 {d : Nat} {a p0 p1 : Int} {S : PS} {K : PV → PS → Prop} : pm_Call (d + 1) 125 [.inr (.inr (.inl a)), .inr (.inr (.inl p0)), .inr (.inr (.inl p1))] S K ↔ pm_Run d 125 0 [.inr (.inr (.inl a)), .inr (.inr (.inl p0)), .inr (.inr (.inl p1))] [] S K := pm_Call_s.trans (and_iff_right (show 3 ≤ pm_ml 125 from by decide +kernel))
-- X10_begin begin(LMoonTender$Chart;)V
theorem en126 {d : Nat} {a p0 : Int} {S : PS} {K : PV → PS → Prop} : pm_Call (d + 1) 126 [.inr (.inr (.inl a)), .inr (.inr (.inl p0))] S K ↔ pm_Run d 126 0 [.inr (.inr (.inl a)), .inr (.inr (.inl p0))] [] S K := pm_Call_s.trans (and_iff_right (show 2 ≤ pm_ml 126 from by decide +kernel))
theorem b126_0 {d : Nat} {G : PG} {M T : PH} {K : PV → PS → Prop} {l0 l1 : Int} (h1 : pm_ob G l0 10) (h2 : 0 ≤ l1) : pm_Run d 126 0 [.inr (.inr (.inl l0)), .inr (.inr (.inl l1))] [] (G, M, T) K ↔ K PU (G, pm_sa M l0.toNat (pm_up (M l0.toNat) 6 0), pm_sa T l0.toNat (pm_up (T l0.toNat) 5 l1)) := by
  refine (px_go (by decide +kernel : pm_fe 126 0 = some (.aload_n 0, 1)) rfl).trans ?_
  refine (px_go (by decide +kernel : pm_fe 126 1 = some (.aload_n 1, 1)) rfl).trans ?_
  refine (px_put2 (idx := 32) (ci := 10) (k := 5) (by decide +kernel)).trans ((and_iff_right ⟨h1, h2⟩).trans ?_)
  refine (px_go (by decide +kernel : pm_fe 126 5 = some (.aload_n 0, 1)) rfl).trans ?_
  refine (px_go (by decide +kernel : pm_fe 126 6 = some (.iconst 0, 1)) rfl).trans ?_
  refine (px_put3 (idx := 39) (ci := 10) (k := 6) (by decide +kernel)).trans ((and_iff_right ⟨h1, (by decide : (0 : Int) = (0 : Int) ∨ (0 : Int) = (1 : Int))⟩).trans ?_)
  refine (px_rv (by decide +kernel)).trans ?_
  exact Iff.rfl
-- X10_forget forget()V
theorem en127 {d : Nat} {a : Int} {S : PS} {K : PV → PS → Prop} : pm_Call (d + 1) 127 [.inr (.inr (.inl a))] S K ↔ pm_Run d 127 0 [.inr (.inr (.inl a))] [] S K := pm_Call_s.trans (and_iff_right (show 1 ≤ pm_ml 127 from by decide +kernel))
theorem b127_0 {d : Nat} {G : PG} {M T : PH} {K : PV → PS → Prop} {l0 : Int} (h1 : pm_ob G l0 10) : pm_Run d 127 0 [.inr (.inr (.inl l0))] [] (G, M, T) K ↔ K PU (G, pm_sa M l0.toNat (pm_up (M l0.toNat) 7 0), T) := by
  refine (px_go (by decide +kernel : pm_fe 127 0 = some (.aload_n 0, 1)) rfl).trans ?_
  refine (px_go (by decide +kernel : pm_fe 127 1 = some (.iconst 0, 1)) rfl).trans ?_
  refine (px_put0 (idx := 43) (ci := 10) (k := 7) (by decide +kernel)).trans ((and_iff_right h1).trans ?_)
  refine (px_rv (by decide +kernel)).trans ?_
  exact Iff.rfl
-- X10_take take([BII)Z
theorem en128 {d : Nat} {a p0 p1 p2 : Int} {S : PS} {K : PV → PS → Prop} : pm_Call (d + 1) 128 [.inr (.inr (.inl a)), .inr (.inr (.inl p0)), .inl p1, .inl p2] S K ↔ pm_Run d 128 0 [.inr (.inr (.inl a)), .inr (.inr (.inl p0)), .inl p1, .inl p2, PU] [] S K := pm_Call_s.trans (and_iff_right (show 4 ≤ pm_ml 128 from by decide +kernel))
theorem b128_0 {d : Nat} {G : PG} {M T : PH} {K : PV → PS → Prop} {l0 l1 l2 l3 : Int} : pm_Run d 128 0 [.inr (.inr (.inl l0)), .inr (.inr (.inl l1)), .inl l2, .inl l3, PU] [] (G, M, T) K ↔ if pm_sg l2 < pm_sg 3 then pm_Run d 128 23 [.inr (.inr (.inl l0)), .inr (.inr (.inl l1)), .inl l2, .inl l3, PU] [] (G, M, T) K else pm_Run d 128 5 [.inr (.inr (.inl l0)), .inr (.inr (.inl l1)), .inl l2, .inl l3, PU] [] (G, M, T) K := by
  refine (px_go (by decide +kernel : pm_fe 128 0 = some (.iload_n 2, 1)) rfl).trans ?_
  refine (px_go (by decide +kernel : pm_fe 128 1 = some (.iconst 3, 1)) rfl).trans ?_
  refine (px_ic_lt (off := 21) (tgt := 23) (by decide +kernel)).trans ?_
  exact Iff.rfl
theorem b128_5 {d : Nat} {G : PG} {M T : PH} {K : PV → PS → Prop} {l0 l1 l2 l3 : Int} : pm_Run d 128 5 [.inr (.inr (.inl l0)), .inr (.inr (.inl l1)), .inl l2, .inl l3, PU] [] (G, M, T) K ↔ if pm_sg 60 < pm_sg l2 then pm_Run d 128 23 [.inr (.inr (.inl l0)), .inr (.inr (.inl l1)), .inl l2, .inl l3, PU] [] (G, M, T) K else pm_Run d 128 11 [.inr (.inr (.inl l0)), .inr (.inr (.inl l1)), .inl l2, .inl l3, PU] [] (G, M, T) K := by
  refine (px_go (by decide +kernel : pm_fe 128 5 = some (.iload_n 2, 1)) rfl).trans ?_
  refine (px_go (by decide +kernel : pm_fe 128 6 = some (.bipush 60, 2)) rfl).trans ?_
  refine (px_ic_gt (off := 15) (tgt := 23) (by decide +kernel)).trans ?_
  exact Iff.rfl
theorem b128_11 {d : Nat} {G : PG} {M T : PH} {K : PV → PS → Prop} {l0 l1 l2 l3 : Int} (h1 : 0 ≤ l1 ∧ l1.toNat < G.1 ∧ 100 ≤ (G.2.2.1 l1.toNat).1 ∧ (G.2.2.1 l1.toNat).1 ≤ 104) : pm_Run d 128 11 [.inr (.inr (.inl l0)), .inr (.inr (.inl l1)), .inl l2, .inl l3, PU] [] (G, M, T) K ↔ if pm_sg ((G.2.2.1 l1.toNat).2 : Int) < pm_sg l2 then pm_Run d 128 23 [.inr (.inr (.inl l0)), .inr (.inr (.inl l1)), .inl l2, .inl l3, PU] [] (G, M, T) K else pm_Run d 128 17 [.inr (.inr (.inl l0)), .inr (.inr (.inl l1)), .inl l2, .inl l3, PU] [] (G, M, T) K := by
  refine (px_go (by decide +kernel : pm_fe 128 11 = some (.iload_n 2, 1)) rfl).trans ?_
  refine (px_go (by decide +kernel : pm_fe 128 12 = some (.aload_n 1, 1)) rfl).trans ?_
  refine (px_alen (by decide +kernel) h1).trans ?_
  refine (px_ic_gt (off := 9) (tgt := 23) (by decide +kernel)).trans ?_
  exact Iff.rfl
theorem b128_17 {d : Nat} {G : PG} {M T : PH} {K : PV → PS → Prop} {l0 l1 l2 l3 : Int} : pm_Run d 128 17 [.inr (.inr (.inl l0)), .inr (.inr (.inl l1)), .inl l2, .inl l3, PU] [] (G, M, T) K ↔ if pm_sg (pm_rem l2 3) = 0 then pm_Run d 128 25 [.inr (.inr (.inl l0)), .inr (.inr (.inl l1)), .inl l2, .inl l3, PU] [] (G, M, T) K else pm_Run d 128 23 [.inr (.inr (.inl l0)), .inr (.inr (.inl l1)), .inl l2, .inl l3, PU] [] (G, M, T) K := by
  refine (px_go (by decide +kernel : pm_fe 128 17 = some (.iload_n 2, 1)) rfl).trans ?_
  refine (px_go (by decide +kernel : pm_fe 128 18 = some (.iconst 3, 1)) rfl).trans ?_
  refine (px_irem (by decide +kernel)).trans ((and_iff_right (by decide : pm_sg (3 : Int) ≠ (0 : Int))).trans ?_)
  refine (px_if_eq (off := 5) (tgt := 25) (by decide +kernel)).trans ?_
  exact Iff.rfl
theorem b128_23 {d : Nat} {G : PG} {M T : PH} {K : PV → PS → Prop} {l0 l1 l2 l3 : Int} : pm_Run d 128 23 [.inr (.inr (.inl l0)), .inr (.inr (.inl l1)), .inl l2, .inl l3, PU] [] (G, M, T) K ↔ K (.inl 0) (G, M, T) := by
  refine (px_go (by decide +kernel : pm_fe 128 23 = some (.iconst 0, 1)) rfl).trans ?_
  refine (px_rz (by decide +kernel)).trans ((and_iff_right (by decide : (0 : Int) = (0 : Int) ∨ (0 : Int) = (1 : Int))).trans ?_)
  exact Iff.rfl
theorem b128_25 {d : Nat} {G : PG} {M T : PH} {K : PV → PS → Prop} {l0 l1 l2 l3 : Int} : pm_Run d 128 25 [.inr (.inr (.inl l0)), .inr (.inr (.inl l1)), .inl l2, .inl l3, PU] [] (G, M, T) K ↔ pm_Run d 128 28 [.inr (.inr (.inl l0)), .inr (.inr (.inl l1)), .inl l2, .inl l3, .inl 0] [] (G, M, T) K := by
  refine (px_go (by decide +kernel : pm_fe 128 25 = some (.iconst 0, 1)) rfl).trans ?_
  refine (px_go (by decide +kernel : pm_fe 128 26 = some (.istore 4, 2)) rfl).trans ?_
  exact Iff.rfl
theorem b128_28 {d : Nat} {G : PG} {M T : PH} {K : PV → PS → Prop} {l0 l1 l2 l3 l4 : Int} : pm_Run d 128 28 [.inr (.inr (.inl l0)), .inr (.inr (.inl l1)), .inl l2, .inl l3, .inl l4] [] (G, M, T) K ↔ if pm_sg l2 ≤ pm_sg l4 then pm_Run d 128 54 [.inr (.inr (.inl l0)), .inr (.inr (.inl l1)), .inl l2, .inl l3, .inl l4] [] (G, M, T) K else pm_Run d 128 34 [.inr (.inr (.inl l0)), .inr (.inr (.inl l1)), .inl l2, .inl l3, .inl l4] [] (G, M, T) K := by
  refine (px_go (by decide +kernel : pm_fe 128 28 = some (.iload 4, 2)) rfl).trans ?_
  refine (px_go (by decide +kernel : pm_fe 128 30 = some (.iload_n 2, 1)) rfl).trans ?_
  refine (px_ic_ge (off := 23) (tgt := 54) (by decide +kernel)).trans ?_
  exact Iff.rfl
theorem b128_34 {d : Nat} {G : PG} {M T : PH} {K : PV → PS → Prop} {l0 l1 l2 l3 l4 : Int} (h1 : pm_ar G l1 101 l4 ∨ pm_ar G l1 102 l4) : pm_Run d 128 34 [.inr (.inr (.inl l0)), .inr (.inr (.inl l1)), .inl l2, .inl l3, .inl l4] [] (G, M, T) K ↔ if pm_sg (pm_and (M l1.toNat (pm_sg l4).toNat) 255) < pm_sg l3 then pm_Run d 128 48 [.inr (.inr (.inl l0)), .inr (.inr (.inl l1)), .inl l2, .inl l3, .inl l4] [] (G, M, T) K else pm_Run d 128 46 [.inr (.inr (.inl l0)), .inr (.inr (.inl l1)), .inl l2, .inl l3, .inl l4] [] (G, M, T) K := by
  refine (px_go (by decide +kernel : pm_fe 128 34 = some (.aload_n 1, 1)) rfl).trans ?_
  refine (px_go (by decide +kernel : pm_fe 128 35 = some (.iload 4, 2)) rfl).trans ?_
  refine (px_baload (by decide +kernel)).trans ((and_iff_right h1).trans ?_)
  refine (px_go (by decide +kernel : pm_fe 128 38 = some (.sipush 255, 3)) rfl).trans ?_
  refine (px_go (by decide +kernel : pm_fe 128 41 = some (.iand, 1)) rfl).trans ?_
  refine (px_go (by decide +kernel : pm_fe 128 42 = some (.iload_n 3, 1)) rfl).trans ?_
  refine (px_ic_lt (off := 5) (tgt := 48) (by decide +kernel)).trans ?_
  exact Iff.rfl
theorem b128_46 {d : Nat} {G : PG} {M T : PH} {K : PV → PS → Prop} {l0 l1 l2 l3 l4 : Int} : pm_Run d 128 46 [.inr (.inr (.inl l0)), .inr (.inr (.inl l1)), .inl l2, .inl l3, .inl l4] [] (G, M, T) K ↔ K (.inl 0) (G, M, T) := by
  refine (px_go (by decide +kernel : pm_fe 128 46 = some (.iconst 0, 1)) rfl).trans ?_
  refine (px_rz (by decide +kernel)).trans ((and_iff_right (by decide : (0 : Int) = (0 : Int) ∨ (0 : Int) = (1 : Int))).trans ?_)
  exact Iff.rfl
theorem b128_48 {d : Nat} {G : PG} {M T : PH} {K : PV → PS → Prop} {l0 l1 l2 l3 l4 : Int} : pm_Run d 128 48 [.inr (.inr (.inl l0)), .inr (.inr (.inl l1)), .inl l2, .inl l3, .inl l4] [] (G, M, T) K ↔ pm_Run d 128 28 [.inr (.inr (.inl l0)), .inr (.inr (.inl l1)), .inl l2, .inl l3, .inl (l4 + 3)] [] (G, M, T) K := by
  refine (px_go (by decide +kernel : pm_fe 128 48 = some (.iinc 4 3, 3)) rfl).trans ?_
  refine (px_goto (off := (-23)) (tgt := 28) (by decide +kernel)).trans ?_
  exact Iff.rfl
theorem b128_54 {d : Nat} {G : PG} {M T : PH} {K : PV → PS → Prop} {l0 l1 l2 l3 l4 : Int} (h1 : pm_ob G l0 10) : pm_Run d 128 54 [.inr (.inr (.inl l0)), .inr (.inr (.inl l1)), .inl l2, .inl l3, .inl l4] [] (G, M, T) K ↔ pm_Run d 128 64 [.inr (.inr (.inl l0)), .inr (.inr (.inl l1)), .inl l2, .inl l3, .inl 0] [] (G, pm_sa M l0.toNat (pm_up (M l0.toNat) 7 (pm_div l2 3)), T) K := by
  refine (px_go (by decide +kernel : pm_fe 128 54 = some (.aload_n 0, 1)) rfl).trans ?_
  refine (px_go (by decide +kernel : pm_fe 128 55 = some (.iload_n 2, 1)) rfl).trans ?_
  refine (px_go (by decide +kernel : pm_fe 128 56 = some (.iconst 3, 1)) rfl).trans ?_
  refine (px_idiv (by decide +kernel)).trans ((and_iff_right (by decide : pm_sg (3 : Int) ≠ (0 : Int))).trans ?_)
  refine (px_put0 (idx := 43) (ci := 10) (k := 7) (by decide +kernel)).trans ((and_iff_right h1).trans ?_)
  refine (px_go (by decide +kernel : pm_fe 128 61 = some (.iconst 0, 1)) rfl).trans ?_
  refine (px_go (by decide +kernel : pm_fe 128 62 = some (.istore 4, 2)) rfl).trans ?_
  exact Iff.rfl
theorem b128_64 {d : Nat} {G : PG} {M T : PH} {K : PV → PS → Prop} {l0 l1 l2 l3 l4 : Int} (h1 : pm_ob G l0 10) : pm_Run d 128 64 [.inr (.inr (.inl l0)), .inr (.inr (.inl l1)), .inl l2, .inl l3, .inl l4] [] (G, M, T) K ↔ if pm_sg (M l0.toNat 7) ≤ pm_sg l4 then pm_Run d 128 135 [.inr (.inr (.inl l0)), .inr (.inr (.inl l1)), .inl l2, .inl l3, .inl l4] [] (G, M, T) K else pm_Run d 128 73 [.inr (.inr (.inl l0)), .inr (.inr (.inl l1)), .inl l2, .inl l3, .inl l4] [] (G, M, T) K := by
  refine (px_go (by decide +kernel : pm_fe 128 64 = some (.iload 4, 2)) rfl).trans ?_
  refine (px_go (by decide +kernel : pm_fe 128 66 = some (.aload_n 0, 1)) rfl).trans ?_
  refine (px_get0 (idx := 43) (ci := 10) (k := 7) (by decide +kernel)).trans ((and_iff_right h1).trans ?_)
  refine (px_ic_ge (off := 65) (tgt := 135) (by decide +kernel)).trans ?_
  exact Iff.rfl
theorem b128_73 {d : Nat} {G : PG} {M T : PH} {K : PV → PS → Prop} {l0 l1 l2 l3 l4 : Int} (h1 : pm_ob G l0 10) (h2 : pm_ar G l1 101 (3 * l4) ∨ pm_ar G l1 102 (3 * l4)) (h3 : pm_ar G (T l0.toNat 2) 100 l4) (h4 : pm_ar G l1 101 ((3 * l4) + 1) ∨ pm_ar G l1 102 ((3 * l4) + 1)) (h5 : pm_ar G l1 101 ((3 * l4) + 2) ∨ pm_ar G l1 102 ((3 * l4) + 2)) (h6 : pm_ar G (T l0.toNat 3) 100 l4) : pm_Run d 128 73 [.inr (.inr (.inl l0)), .inr (.inr (.inl l1)), .inl l2, .inl l3, .inl l4] [] (G, M, T) K ↔ pm_Run d 128 129 [.inr (.inr (.inl l0)), .inr (.inr (.inl l1)), .inl l2, .inl l3, .inl l4] [] (G, pm_sa (pm_sa M (T l0.toNat 2).toNat (pm_up (M (T l0.toNat 2).toNat) (pm_sg l4).toNat (pm_and (M l1.toNat (pm_sg (3 * l4)).toNat) 255))) (T l0.toNat 3).toNat (pm_up ((pm_sa M (T l0.toNat 2).toNat (pm_up (M (T l0.toNat 2).toNat) (pm_sg l4).toNat (pm_and (M l1.toNat (pm_sg (3 * l4)).toNat) 255))) (T l0.toNat 3).toNat) (pm_sg l4).toNat ((pm_or (pm_shl (pm_and ((pm_sa M (T l0.toNat 2).toNat (pm_up (M (T l0.toNat 2).toNat) (pm_sg l4).toNat (pm_and (M l1.toNat (pm_sg (3 * l4)).toNat) 255))) l1.toNat (pm_sg ((3 * l4) + 1)).toNat) 255) 8) (pm_and ((pm_sa M (T l0.toNat 2).toNat (pm_up (M (T l0.toNat 2).toNat) (pm_sg l4).toNat (pm_and (M l1.toNat (pm_sg (3 * l4)).toNat) 255))) l1.toNat (pm_sg ((3 * l4) + 2)).toNat) 255)) - 1000)), T) K := by
  refine (px_go (by decide +kernel : pm_fe 128 73 = some (.aload_n 0, 1)) rfl).trans ?_
  refine (px_get2 (idx := 25) (ci := 10) (k := 2) (by decide +kernel)).trans ((and_iff_right h1).trans ?_)
  refine (px_go (by decide +kernel : pm_fe 128 77 = some (.iload 4, 2)) rfl).trans ?_
  refine (px_go (by decide +kernel : pm_fe 128 79 = some (.aload_n 1, 1)) rfl).trans ?_
  refine (px_go (by decide +kernel : pm_fe 128 80 = some (.iconst 3, 1)) rfl).trans ?_
  refine (px_go (by decide +kernel : pm_fe 128 81 = some (.iload 4, 2)) rfl).trans ?_
  refine (px_go (by decide +kernel : pm_fe 128 83 = some (.imul, 1)) rfl).trans ?_
  refine (px_baload (by decide +kernel)).trans ((and_iff_right h2).trans ?_)
  refine (px_go (by decide +kernel : pm_fe 128 85 = some (.sipush 255, 3)) rfl).trans ?_
  refine (px_go (by decide +kernel : pm_fe 128 88 = some (.iand, 1)) rfl).trans ?_
  refine (px_iastore (by decide +kernel)).trans ((and_iff_right h3).trans ?_)
  refine (px_go (by decide +kernel : pm_fe 128 90 = some (.aload_n 0, 1)) rfl).trans ?_
  refine (px_get2 (idx := 29) (ci := 10) (k := 3) (by decide +kernel)).trans ((and_iff_right h1).trans ?_)
  refine (px_go (by decide +kernel : pm_fe 128 94 = some (.iload 4, 2)) rfl).trans ?_
  refine (px_go (by decide +kernel : pm_fe 128 96 = some (.aload_n 1, 1)) rfl).trans ?_
  refine (px_go (by decide +kernel : pm_fe 128 97 = some (.iconst 3, 1)) rfl).trans ?_
  refine (px_go (by decide +kernel : pm_fe 128 98 = some (.iload 4, 2)) rfl).trans ?_
  refine (px_go (by decide +kernel : pm_fe 128 100 = some (.imul, 1)) rfl).trans ?_
  refine (px_go (by decide +kernel : pm_fe 128 101 = some (.iconst 1, 1)) rfl).trans ?_
  refine (px_go (by decide +kernel : pm_fe 128 102 = some (.iadd, 1)) rfl).trans ?_
  refine (px_baload (by decide +kernel)).trans ((and_iff_right h4).trans ?_)
  refine (px_go (by decide +kernel : pm_fe 128 104 = some (.sipush 255, 3)) rfl).trans ?_
  refine (px_go (by decide +kernel : pm_fe 128 107 = some (.iand, 1)) rfl).trans ?_
  refine (px_go (by decide +kernel : pm_fe 128 108 = some (.bipush 8, 2)) rfl).trans ?_
  refine (px_go (by decide +kernel : pm_fe 128 110 = some (.ishl, 1)) rfl).trans ?_
  refine (px_go (by decide +kernel : pm_fe 128 111 = some (.aload_n 1, 1)) rfl).trans ?_
  refine (px_go (by decide +kernel : pm_fe 128 112 = some (.iconst 3, 1)) rfl).trans ?_
  refine (px_go (by decide +kernel : pm_fe 128 113 = some (.iload 4, 2)) rfl).trans ?_
  refine (px_go (by decide +kernel : pm_fe 128 115 = some (.imul, 1)) rfl).trans ?_
  refine (px_go (by decide +kernel : pm_fe 128 116 = some (.iconst 2, 1)) rfl).trans ?_
  refine (px_go (by decide +kernel : pm_fe 128 117 = some (.iadd, 1)) rfl).trans ?_
  refine (px_baload (by decide +kernel)).trans ((and_iff_right h5).trans ?_)
  refine (px_go (by decide +kernel : pm_fe 128 119 = some (.sipush 255, 3)) rfl).trans ?_
  refine (px_go (by decide +kernel : pm_fe 128 122 = some (.iand, 1)) rfl).trans ?_
  refine (px_go (by decide +kernel : pm_fe 128 123 = some (.ior, 1)) rfl).trans ?_
  refine (px_go (by decide +kernel : pm_fe 128 124 = some (.sipush 1000, 3)) rfl).trans ?_
  refine (px_go (by decide +kernel : pm_fe 128 127 = some (.isub, 1)) rfl).trans ?_
  refine (px_iastore (by decide +kernel)).trans ((and_iff_right h6).trans ?_)
  exact Iff.rfl
theorem b128_129 {d : Nat} {G : PG} {M T : PH} {K : PV → PS → Prop} {l0 l1 l2 l3 l4 : Int} : pm_Run d 128 129 [.inr (.inr (.inl l0)), .inr (.inr (.inl l1)), .inl l2, .inl l3, .inl l4] [] (G, M, T) K ↔ pm_Run d 128 64 [.inr (.inr (.inl l0)), .inr (.inr (.inl l1)), .inl l2, .inl l3, .inl (l4 + 1)] [] (G, M, T) K := by
  refine (px_go (by decide +kernel : pm_fe 128 129 = some (.iinc 4 1, 3)) rfl).trans ?_
  refine (px_goto (off := (-68)) (tgt := 64) (by decide +kernel)).trans ?_
  exact Iff.rfl
theorem b128_135 {d : Nat} {G : PG} {M T : PH} {K : PV → PS → Prop} {l0 l1 l2 l3 l4 : Int} (h1 : pm_ob G l0 10) : pm_Run d 128 135 [.inr (.inr (.inl l0)), .inr (.inr (.inl l1)), .inl l2, .inl l3, .inl l4] [] (G, M, T) K ↔ K (.inl 1) (G, pm_sa M l0.toNat (pm_up (M l0.toNat) 6 0), T) := by
  refine (px_go (by decide +kernel : pm_fe 128 135 = some (.aload_n 0, 1)) rfl).trans ?_
  refine (px_go (by decide +kernel : pm_fe 128 136 = some (.iconst 0, 1)) rfl).trans ?_
  refine (px_put3 (idx := 39) (ci := 10) (k := 6) (by decide +kernel)).trans ((and_iff_right ⟨h1, (by decide : (0 : Int) = (0 : Int) ∨ (0 : Int) = (1 : Int))⟩).trans ?_)
  refine (px_go (by decide +kernel : pm_fe 128 140 = some (.iconst 1, 1)) rfl).trans ?_
  refine (px_rz (by decide +kernel)).trans ((and_iff_right (by decide : (1 : Int) = (0 : Int) ∨ (1 : Int) = (1 : Int))).trans ?_)
  exact Iff.rfl
-- X10_judge judge()V
theorem en129 {d : Nat} {a : Int} {S : PS} {K : PV → PS → Prop} : pm_Call (d + 1) 129 [.inr (.inr (.inl a))] S K ↔ pm_Run d 129 0 [.inr (.inr (.inl a)), PU, PU] [] S K := pm_Call_s.trans (and_iff_right (show 1 ≤ pm_ml 129 from by decide +kernel))
theorem b129_0 {d : Nat} {G : PG} {M T : PH} {K : PV → PS → Prop} {l0 : Int} (h1 : pm_ob G l0 10) : pm_Run d 129 0 [.inr (.inr (.inl l0)), PU, PU] [] (G, M, T) K ↔ if pm_sg (M l0.toNat 6) = 0 then pm_Run d 129 8 [.inr (.inr (.inl l0)), PU, PU] [] (G, M, T) K else pm_Run d 129 7 [.inr (.inr (.inl l0)), PU, PU] [] (G, M, T) K := by
  refine (px_go (by decide +kernel : pm_fe 129 0 = some (.aload_n 0, 1)) rfl).trans ?_
  refine (px_get0 (idx := 39) (ci := 10) (k := 6) (by decide +kernel)).trans ((and_iff_right h1).trans ?_)
  refine (px_if_eq (off := 4) (tgt := 8) (by decide +kernel)).trans ?_
  exact Iff.rfl
theorem b129_7 {d : Nat} {G : PG} {M T : PH} {K : PV → PS → Prop} {l0 : Int} : pm_Run d 129 7 [.inr (.inr (.inl l0)), PU, PU] [] (G, M, T) K ↔ K PU (G, M, T) := by
  refine (px_rv (by decide +kernel)).trans ?_
  exact Iff.rfl
theorem b129_8 {d : Nat} {G : PG} {M T : PH} {K : PV → PS → Prop} {l0 : Int} (h1 : pm_ob G l0 10) : pm_Run d 129 8 [.inr (.inr (.inl l0)), PU, PU] [] (G, M, T) K ↔ pm_Run d 129 23 [.inr (.inr (.inl l0)), PU, PU] [] (G, pm_sa (pm_sa (pm_sa M l0.toNat (pm_up (M l0.toNat) 6 1)) l0.toNat (pm_up ((pm_sa M l0.toNat (pm_up (M l0.toNat) 6 1)) l0.toNat) 8 0)) l0.toNat (pm_up ((pm_sa (pm_sa M l0.toNat (pm_up (M l0.toNat) 6 1)) l0.toNat (pm_up ((pm_sa M l0.toNat (pm_up (M l0.toNat) 6 1)) l0.toNat) 8 0)) l0.toNat) 10 0), T) K := by
  refine (px_go (by decide +kernel : pm_fe 129 8 = some (.aload_n 0, 1)) rfl).trans ?_
  refine (px_go (by decide +kernel : pm_fe 129 9 = some (.iconst 1, 1)) rfl).trans ?_
  refine (px_put3 (idx := 39) (ci := 10) (k := 6) (by decide +kernel)).trans ((and_iff_right ⟨h1, (by decide : (1 : Int) = (0 : Int) ∨ (1 : Int) = (1 : Int))⟩).trans ?_)
  refine (px_go (by decide +kernel : pm_fe 129 13 = some (.aload_n 0, 1)) rfl).trans ?_
  refine (px_go (by decide +kernel : pm_fe 129 14 = some (.iconst 0, 1)) rfl).trans ?_
  refine (px_put0 (idx := 47) (ci := 10) (k := 8) (by decide +kernel)).trans ((and_iff_right h1).trans ?_)
  refine (px_go (by decide +kernel : pm_fe 129 18 = some (.aload_n 0, 1)) rfl).trans ?_
  refine (px_go (by decide +kernel : pm_fe 129 19 = some (.iconst 0, 1)) rfl).trans ?_
  refine (px_put0 (idx := 50) (ci := 10) (k := 10) (by decide +kernel)).trans ((and_iff_right h1).trans ?_)
  exact Iff.rfl
theorem b129_23 {d : Nat} {G : PG} {M T : PH} {K : PV → PS → Prop} {l0 : Int} (h1 : pm_ob G l0 10) (h2 : pm_ob G (T l0.toNat 5) 1) : pm_Run d 129 23 [.inr (.inr (.inl l0)), PU, PU] [] (G, M, T) K ↔ pm_Run d 129 42 [.inr (.inr (.inl l0)), .inl ((pm_shl 1 (M (T l0.toNat 5).toNat 2)) - 1), .inl 0] [] (G, pm_sa M l0.toNat (pm_up (M l0.toNat) 9 ((pm_shl 1 (M (T l0.toNat 5).toNat 2)) - 1)), T) K := by
  refine (px_go (by decide +kernel : pm_fe 129 23 = some (.iconst 1, 1)) rfl).trans ?_
  refine (px_go (by decide +kernel : pm_fe 129 24 = some (.aload_n 0, 1)) rfl).trans ?_
  refine (px_get2 (idx := 32) (ci := 10) (k := 5) (by decide +kernel)).trans ((and_iff_right h1).trans ?_)
  refine (px_get0 (idx := 53) (ci := 1) (k := 2) (by decide +kernel)).trans ((and_iff_right h2).trans ?_)
  refine (px_go (by decide +kernel : pm_fe 129 31 = some (.ishl, 1)) rfl).trans ?_
  refine (px_go (by decide +kernel : pm_fe 129 32 = some (.iconst 1, 1)) rfl).trans ?_
  refine (px_go (by decide +kernel : pm_fe 129 33 = some (.isub, 1)) rfl).trans ?_
  refine (px_go (by decide +kernel : pm_fe 129 34 = some (.istore_n 1, 1)) rfl).trans ?_
  refine (px_go (by decide +kernel : pm_fe 129 35 = some (.aload_n 0, 1)) rfl).trans ?_
  refine (px_go (by decide +kernel : pm_fe 129 36 = some (.iload_n 1, 1)) rfl).trans ?_
  refine (px_put0 (idx := 58) (ci := 10) (k := 9) (by decide +kernel)).trans ((and_iff_right h1).trans ?_)
  refine (px_go (by decide +kernel : pm_fe 129 40 = some (.iconst 0, 1)) rfl).trans ?_
  refine (px_go (by decide +kernel : pm_fe 129 41 = some (.istore_n 2, 1)) rfl).trans ?_
  exact Iff.rfl
theorem b129_42 {d : Nat} {G : PG} {M T : PH} {K : PV → PS → Prop} {l0 l1 l2 : Int} : pm_Run d 129 42 [.inr (.inr (.inl l0)), .inl l1, .inl l2] [] (G, M, T) K ↔ if pm_sg l1 < pm_sg l2 then pm_Run d 129 91 [.inr (.inr (.inl l0)), .inl l1, .inl l2] [] (G, M, T) K else pm_Run d 129 47 [.inr (.inr (.inl l0)), .inl l1, .inl l2] [] (G, M, T) K := by
  refine (px_go (by decide +kernel : pm_fe 129 42 = some (.iload_n 2, 1)) rfl).trans ?_
  refine (px_go (by decide +kernel : pm_fe 129 43 = some (.iload_n 1, 1)) rfl).trans ?_
  refine (px_ic_gt (off := 47) (tgt := 91) (by decide +kernel)).trans ?_
  exact Iff.rfl
theorem b129_47 {d : Nat} {G : PG} {M T : PH} {K : PV → PS → Prop} {l0 l1 l2 : Int} (h1 : pm_ob G l0 10) : pm_Run d 129 47 [.inr (.inr (.inl l0)), .inl l1, .inl l2] [] (G, M, T) K ↔ pm_Call d 130 [.inr (.inr (.inl l0)), .inl l2] (G, M, T) (fun r S1 => pm_Run d 129 52 [.inr (.inr (.inl l0)), .inl l1, .inl l2] (pm_push r []) S1 K) := by
  refine (px_go (by decide +kernel : pm_fe 129 47 = some (.aload_n 0, 1)) rfl).trans ?_
  refine (px_go (by decide +kernel : pm_fe 129 48 = some (.iload_n 2, 1)) rfl).trans ?_
  refine (px_v1 (idx := 61) (m' := 130) (ci := 10) (by decide +kernel)).trans ((and_iff_right ⟨h1, (by simp [pm_wl_n, pm_wl_c, pm_w] : pm_wl [] ≤ 8)⟩).trans ?_)
  exact Iff.rfl
theorem b129_52 {d : Nat} {G : PG} {M T : PH} {K : PV → PS → Prop} {l0 l1 l2 s0 : Int} : pm_Run d 129 52 [.inr (.inr (.inl l0)), .inl l1, .inl l2] [.inl s0] (G, M, T) K ↔ if pm_sg s0 = 0 then pm_Run d 129 85 [.inr (.inr (.inl l0)), .inl l1, .inl l2] [] (G, M, T) K else pm_Run d 129 55 [.inr (.inr (.inl l0)), .inl l1, .inl l2] [] (G, M, T) K := by
  refine (px_if_eq (off := 33) (tgt := 85) (by decide +kernel)).trans ?_
  exact Iff.rfl
theorem b129_55 {d : Nat} {G : PG} {M T : PH} {K : PV → PS → Prop} {l0 l1 l2 : Int} (h1 : pm_ob G l0 10) : pm_Run d 129 55 [.inr (.inr (.inl l0)), .inl l1, .inl l2] [] (G, M, T) K ↔ pm_Run d 129 75 [.inr (.inr (.inl l0)), .inl l1, .inl l2] [] (G, pm_sa (pm_sa M l0.toNat (pm_up (M l0.toNat) 8 ((M l0.toNat 8) + 1))) l0.toNat (pm_up ((pm_sa M l0.toNat (pm_up (M l0.toNat) 8 ((M l0.toNat 8) + 1))) l0.toNat) 9 (pm_and ((pm_sa M l0.toNat (pm_up (M l0.toNat) 8 ((M l0.toNat 8) + 1))) l0.toNat 9) l2)), T) K := by
  refine (px_go (by decide +kernel : pm_fe 129 55 = some (.aload_n 0, 1)) rfl).trans ?_
  refine (px_go (by decide +kernel : pm_fe 129 56 = some (.dup, 1)) rfl).trans ?_
  refine (px_get0 (idx := 47) (ci := 10) (k := 8) (by decide +kernel)).trans ((and_iff_right h1).trans ?_)
  refine (px_go (by decide +kernel : pm_fe 129 60 = some (.iconst 1, 1)) rfl).trans ?_
  refine (px_go (by decide +kernel : pm_fe 129 61 = some (.iadd, 1)) rfl).trans ?_
  refine (px_put0 (idx := 47) (ci := 10) (k := 8) (by decide +kernel)).trans ((and_iff_right h1).trans ?_)
  refine (px_go (by decide +kernel : pm_fe 129 65 = some (.aload_n 0, 1)) rfl).trans ?_
  refine (px_go (by decide +kernel : pm_fe 129 66 = some (.dup, 1)) rfl).trans ?_
  refine (px_get0 (idx := 58) (ci := 10) (k := 9) (by decide +kernel)).trans ((and_iff_right h1).trans ?_)
  refine (px_go (by decide +kernel : pm_fe 129 70 = some (.iload_n 2, 1)) rfl).trans ?_
  refine (px_go (by decide +kernel : pm_fe 129 71 = some (.iand, 1)) rfl).trans ?_
  refine (px_put0 (idx := 58) (ci := 10) (k := 9) (by decide +kernel)).trans ((and_iff_right h1).trans ?_)
  exact Iff.rfl
theorem b129_75 {d : Nat} {G : PG} {M T : PH} {K : PV → PS → Prop} {l0 l1 l2 : Int} (h1 : pm_ob G l0 10) : pm_Run d 129 75 [.inr (.inr (.inl l0)), .inl l1, .inl l2] [] (G, M, T) K ↔ pm_Run d 129 85 [.inr (.inr (.inl l0)), .inl l1, .inl l2] [] (G, pm_sa M l0.toNat (pm_up (M l0.toNat) 10 (pm_or (M l0.toNat 10) l2)), T) K := by
  refine (px_go (by decide +kernel : pm_fe 129 75 = some (.aload_n 0, 1)) rfl).trans ?_
  refine (px_go (by decide +kernel : pm_fe 129 76 = some (.dup, 1)) rfl).trans ?_
  refine (px_get0 (idx := 50) (ci := 10) (k := 10) (by decide +kernel)).trans ((and_iff_right h1).trans ?_)
  refine (px_go (by decide +kernel : pm_fe 129 80 = some (.iload_n 2, 1)) rfl).trans ?_
  refine (px_go (by decide +kernel : pm_fe 129 81 = some (.ior, 1)) rfl).trans ?_
  refine (px_put0 (idx := 50) (ci := 10) (k := 10) (by decide +kernel)).trans ((and_iff_right h1).trans ?_)
  exact Iff.rfl
theorem b129_85 {d : Nat} {G : PG} {M T : PH} {K : PV → PS → Prop} {l0 l1 l2 : Int} : pm_Run d 129 85 [.inr (.inr (.inl l0)), .inl l1, .inl l2] [] (G, M, T) K ↔ pm_Run d 129 42 [.inr (.inr (.inl l0)), .inl l1, .inl (l2 + 1)] [] (G, M, T) K := by
  refine (px_go (by decide +kernel : pm_fe 129 85 = some (.iinc 2 1, 3)) rfl).trans ?_
  refine (px_goto (off := (-46)) (tgt := 42) (by decide +kernel)).trans ?_
  exact Iff.rfl
theorem b129_91 {d : Nat} {G : PG} {M T : PH} {K : PV → PS → Prop} {l0 l1 l2 : Int} (h1 : pm_ob G l0 10) : pm_Run d 129 91 [.inr (.inr (.inl l0)), .inl l1, .inl l2] [] (G, M, T) K ↔ if pm_sg (M l0.toNat 8) ≠ 0 then pm_Run d 129 103 [.inr (.inr (.inl l0)), .inl l1, .inl l2] [] (G, M, T) K else pm_Run d 129 98 [.inr (.inr (.inl l0)), .inl l1, .inl l2] [] (G, M, T) K := by
  refine (px_go (by decide +kernel : pm_fe 129 91 = some (.aload_n 0, 1)) rfl).trans ?_
  refine (px_get0 (idx := 47) (ci := 10) (k := 8) (by decide +kernel)).trans ((and_iff_right h1).trans ?_)
  refine (px_if_ne (off := 8) (tgt := 103) (by decide +kernel)).trans ?_
  exact Iff.rfl
theorem b129_98 {d : Nat} {G : PG} {M T : PH} {K : PV → PS → Prop} {l0 l1 l2 : Int} (h1 : pm_ob G l0 10) : pm_Run d 129 98 [.inr (.inr (.inl l0)), .inl l1, .inl l2] [] (G, M, T) K ↔ pm_Run d 129 103 [.inr (.inr (.inl l0)), .inl l1, .inl l2] [] (G, pm_sa M l0.toNat (pm_up (M l0.toNat) 9 0), T) K := by
  refine (px_go (by decide +kernel : pm_fe 129 98 = some (.aload_n 0, 1)) rfl).trans ?_
  refine (px_go (by decide +kernel : pm_fe 129 99 = some (.iconst 0, 1)) rfl).trans ?_
  refine (px_put0 (idx := 58) (ci := 10) (k := 9) (by decide +kernel)).trans ((and_iff_right h1).trans ?_)
  exact Iff.rfl
theorem b129_103 {d : Nat} {G : PG} {M T : PH} {K : PV → PS → Prop} {l0 l1 l2 : Int} : pm_Run d 129 103 [.inr (.inr (.inl l0)), .inl l1, .inl l2] [] (G, M, T) K ↔ K PU (G, M, T) := by
  refine (px_rv (by decide +kernel)).trans ?_
  exact Iff.rfl
-- X10_explains explains(I)Z
theorem en130 {d : Nat} {a p0 : Int} {S : PS} {K : PV → PS → Prop} : pm_Call (d + 1) 130 [.inr (.inr (.inl a)), .inl p0] S K ↔ pm_Run d 130 0 [.inr (.inr (.inl a)), .inl p0, PU, PU] [] S K := pm_Call_s.trans (and_iff_right (show 2 ≤ pm_ml 130 from by decide +kernel))
theorem b130_0 {d : Nat} {G : PG} {M T : PH} {K : PV → PS → Prop} {l0 l1 : Int} (h1 : pm_ob G l0 10) (h2 : pm_ob G (T l0.toNat 1) 5) : pm_Run d 130 0 [.inr (.inr (.inl l0)), .inl l1, PU, PU] [] (G, M, T) K ↔ pm_Call d 56 [.inr (.inr (.inl (T l0.toNat 1))), .inr (.inr (.inl (T l0.toNat 4)))] (G, M, T) (fun r S1 => pm_Run d 130 11 [.inr (.inr (.inl l0)), .inl l1, PU, PU] (pm_push r []) S1 K) := by
  refine (px_go (by decide +kernel : pm_fe 130 0 = some (.aload_n 0, 1)) rfl).trans ?_
  refine (px_get2 (idx := 21) (ci := 10) (k := 1) (by decide +kernel)).trans ((and_iff_right h1).trans ?_)
  refine (px_go (by decide +kernel : pm_fe 130 4 = some (.aload_n 0, 1)) rfl).trans ?_
  refine (px_get2 (idx := 36) (ci := 10) (k := 4) (by decide +kernel)).trans ((and_iff_right h1).trans ?_)
  refine (px_v1 (idx := 65) (m' := 56) (ci := 5) (by decide +kernel)).trans ((and_iff_right ⟨h2, (by simp [pm_wl_n, pm_wl_c, pm_w] : pm_wl [] ≤ 8)⟩).trans ?_)
  exact Iff.rfl
theorem b130_11 {d : Nat} {G : PG} {M T : PH} {K : PV → PS → Prop} {l0 l1 : Int} : pm_Run d 130 11 [.inr (.inr (.inl l0)), .inl l1, PU, PU] [] (G, M, T) K ↔ pm_Run d 130 13 [.inr (.inr (.inl l0)), .inl l1, .inl 0, PU] [] (G, M, T) K := by
  refine (px_go (by decide +kernel : pm_fe 130 11 = some (.iconst 0, 1)) rfl).trans ?_
  refine (px_go (by decide +kernel : pm_fe 130 12 = some (.istore_n 2, 1)) rfl).trans ?_
  exact Iff.rfl
theorem b130_13 {d : Nat} {G : PG} {M T : PH} {K : PV → PS → Prop} {l0 l1 l2 : Int} {l3 : PV} (h1 : pm_ob G l0 10) (h2 : pm_ob G (T l0.toNat 5) 1) : pm_Run d 130 13 [.inr (.inr (.inl l0)), .inl l1, .inl l2, l3] [] (G, M, T) K ↔ if pm_sg (M (T l0.toNat 5).toNat 2) ≤ pm_sg l2 then pm_Run d 130 71 [.inr (.inr (.inl l0)), .inl l1, .inl l2, l3] [] (G, M, T) K else pm_Run d 130 24 [.inr (.inr (.inl l0)), .inl l1, .inl l2, l3] [] (G, M, T) K := by
  refine (px_go (by decide +kernel : pm_fe 130 13 = some (.iload_n 2, 1)) rfl).trans ?_
  refine (px_go (by decide +kernel : pm_fe 130 14 = some (.aload_n 0, 1)) rfl).trans ?_
  refine (px_get2 (idx := 32) (ci := 10) (k := 5) (by decide +kernel)).trans ((and_iff_right h1).trans ?_)
  refine (px_get0 (idx := 53) (ci := 1) (k := 2) (by decide +kernel)).trans ((and_iff_right h2).trans ?_)
  refine (px_ic_ge (off := 50) (tgt := 71) (by decide +kernel)).trans ?_
  exact Iff.rfl
theorem b130_24 {d : Nat} {G : PG} {M T : PH} {K : PV → PS → Prop} {l0 l1 l2 : Int} {l3 : PV} : pm_Run d 130 24 [.inr (.inr (.inl l0)), .inl l1, .inl l2, l3] [] (G, M, T) K ↔ pm_Run d 130 26 [.inr (.inr (.inl l0)), .inl l1, .inl l2, .inl 0] [] (G, M, T) K := by
  refine (px_go (by decide +kernel : pm_fe 130 24 = some (.iconst 0, 1)) rfl).trans ?_
  refine (px_go (by decide +kernel : pm_fe 130 25 = some (.istore_n 3, 1)) rfl).trans ?_
  exact Iff.rfl
theorem b130_26 {d : Nat} {G : PG} {M T : PH} {K : PV → PS → Prop} {l0 l1 l2 l3 : Int} (h1 : pm_ob G l0 10) (h2 : pm_ob G (T l0.toNat 5) 1) : pm_Run d 130 26 [.inr (.inr (.inl l0)), .inl l1, .inl l2, .inl l3] [] (G, M, T) K ↔ if pm_sg (M (T l0.toNat 5).toNat 1) ≤ pm_sg l3 then pm_Run d 130 65 [.inr (.inr (.inl l0)), .inl l1, .inl l2, .inl l3] [] (G, M, T) K else pm_Run d 130 37 [.inr (.inr (.inl l0)), .inl l1, .inl l2, .inl l3] [] (G, M, T) K := by
  refine (px_go (by decide +kernel : pm_fe 130 26 = some (.iload_n 3, 1)) rfl).trans ?_
  refine (px_go (by decide +kernel : pm_fe 130 27 = some (.aload_n 0, 1)) rfl).trans ?_
  refine (px_get2 (idx := 32) (ci := 10) (k := 5) (by decide +kernel)).trans ((and_iff_right h1).trans ?_)
  refine (px_get0 (idx := 69) (ci := 1) (k := 1) (by decide +kernel)).trans ((and_iff_right h2).trans ?_)
  refine (px_ic_ge (off := 31) (tgt := 65) (by decide +kernel)).trans ?_
  exact Iff.rfl
theorem b130_37 {d : Nat} {G : PG} {M T : PH} {K : PV → PS → Prop} {l0 l1 l2 l3 : Int} : pm_Run d 130 37 [.inr (.inr (.inl l0)), .inl l1, .inl l2, .inl l3] [] (G, M, T) K ↔ if pm_sg (pm_and (pm_shr l1 l2) 1) ≠ 0 then pm_Run d 130 65 [.inr (.inr (.inl l0)), .inl l1, .inl l2, .inl l3] [] (G, M, T) K else pm_Run d 130 45 [.inr (.inr (.inl l0)), .inl l1, .inl l2, .inl l3] [] (G, M, T) K := by
  refine (px_go (by decide +kernel : pm_fe 130 37 = some (.iload_n 1, 1)) rfl).trans ?_
  refine (px_go (by decide +kernel : pm_fe 130 38 = some (.iload_n 2, 1)) rfl).trans ?_
  refine (px_go (by decide +kernel : pm_fe 130 39 = some (.ishr, 1)) rfl).trans ?_
  refine (px_go (by decide +kernel : pm_fe 130 40 = some (.iconst 1, 1)) rfl).trans ?_
  refine (px_go (by decide +kernel : pm_fe 130 41 = some (.iand, 1)) rfl).trans ?_
  refine (px_if_ne (off := 23) (tgt := 65) (by decide +kernel)).trans ?_
  exact Iff.rfl
theorem b130_45 {d : Nat} {G : PG} {M T : PH} {K : PV → PS → Prop} {l0 l1 l2 l3 : Int} (h1 : pm_ob G l0 10) (h2 : pm_ob G (T l0.toNat 1) 5) : pm_Run d 130 45 [.inr (.inr (.inl l0)), .inl l1, .inl l2, .inl l3] [] (G, M, T) K ↔ pm_Call d 55 [.inl l2, .inl l3] (G, M, T) (fun r S1 => pm_Run d 130 57 [.inr (.inr (.inl l0)), .inl l1, .inl l2, .inl l3] (pm_push r [.inr (.inr (.inl (T (T l0.toNat 1).toNat 4)))]) S1 K) := by
  refine (px_go (by decide +kernel : pm_fe 130 45 = some (.aload_n 0, 1)) rfl).trans ?_
  refine (px_get2 (idx := 21) (ci := 10) (k := 1) (by decide +kernel)).trans ((and_iff_right h1).trans ?_)
  refine (px_get2 (idx := 72) (ci := 5) (k := 4) (by decide +kernel)).trans ((and_iff_right h2).trans ?_)
  refine (px_go (by decide +kernel : pm_fe 130 52 = some (.iload_n 2, 1)) rfl).trans ?_
  refine (px_go (by decide +kernel : pm_fe 130 53 = some (.iload_n 3, 1)) rfl).trans ?_
  refine (px_s2 (idx := 75) (m' := 55) (nest := 0) (by decide +kernel)).trans ((and_iff_right (by simp [pm_wl_n, pm_wl_c, pm_w] : pm_wl [.inr (.inr (.inl (T (T l0.toNat 1).toNat 4)))] ≤ 8)).trans ?_)
  exact Iff.rfl
theorem b130_57 {d : Nat} {G : PG} {M T : PH} {K : PV → PS → Prop} {l0 l1 l2 l3 s0 s1 : Int} (h1 : pm_ar G s1 100 s0) : pm_Run d 130 57 [.inr (.inr (.inl l0)), .inl l1, .inl l2, .inl l3] [.inl s0, .inr (.inr (.inl s1))] (G, M, T) K ↔ pm_Run d 130 26 [.inr (.inr (.inl l0)), .inl l1, .inl l2, .inl (l3 + 1)] [] (G, pm_sa M s1.toNat (pm_up (M s1.toNat) (pm_sg s0).toNat 0), T) K := by
  refine (px_go (by decide +kernel : pm_fe 130 57 = some (.iconst 0, 1)) rfl).trans ?_
  refine (px_iastore (by decide +kernel)).trans ((and_iff_right h1).trans ?_)
  refine (px_go (by decide +kernel : pm_fe 130 59 = some (.iinc 3 1, 3)) rfl).trans ?_
  refine (px_goto (off := (-36)) (tgt := 26) (by decide +kernel)).trans ?_
  exact Iff.rfl
theorem b130_65 {d : Nat} {G : PG} {M T : PH} {K : PV → PS → Prop} {l0 l1 l2 l3 : Int} : pm_Run d 130 65 [.inr (.inr (.inl l0)), .inl l1, .inl l2, .inl l3] [] (G, M, T) K ↔ pm_Run d 130 13 [.inr (.inr (.inl l0)), .inl l1, .inl (l2 + 1), .inl l3] [] (G, M, T) K := by
  refine (px_go (by decide +kernel : pm_fe 130 65 = some (.iinc 2 1, 3)) rfl).trans ?_
  refine (px_goto (off := (-55)) (tgt := 13) (by decide +kernel)).trans ?_
  exact Iff.rfl
theorem b130_71 {d : Nat} {G : PG} {M T : PH} {K : PV → PS → Prop} {l0 l1 l2 : Int} {l3 : PV} (h1 : pm_ob G l0 10) (h2 : pm_ob G (T l0.toNat 0) 9) : pm_Run d 130 71 [.inr (.inr (.inl l0)), .inl l1, .inl l2, l3] [] (G, M, T) K ↔ pm_Call d 113 [.inr (.inr (.inl (T l0.toNat 0))), .inr (.inr (.inl (T l0.toNat 5))), .inr (.inr (.inl (T l0.toNat 1)))] (G, M, T) (fun r S1 => pm_Run d 130 86 [.inr (.inr (.inl l0)), .inl l1, .inl l2, l3] (pm_push r []) S1 K) := by
  refine (px_go (by decide +kernel : pm_fe 130 71 = some (.aload_n 0, 1)) rfl).trans ?_
  refine (px_get2 (idx := 12) (ci := 10) (k := 0) (by decide +kernel)).trans ((and_iff_right h1).trans ?_)
  refine (px_go (by decide +kernel : pm_fe 130 75 = some (.aload_n 0, 1)) rfl).trans ?_
  refine (px_get2 (idx := 32) (ci := 10) (k := 5) (by decide +kernel)).trans ((and_iff_right h1).trans ?_)
  refine (px_go (by decide +kernel : pm_fe 130 79 = some (.aload_n 0, 1)) rfl).trans ?_
  refine (px_get2 (idx := 21) (ci := 10) (k := 1) (by decide +kernel)).trans ((and_iff_right h1).trans ?_)
  refine (px_v2 (idx := 79) (m' := 113) (ci := 9) (by decide +kernel)).trans ((and_iff_right ⟨h2, (by simp [pm_wl_n, pm_wl_c, pm_w] : pm_wl [] ≤ 8)⟩).trans ?_)
  exact Iff.rfl
theorem b130_86 {d : Nat} {G : PG} {M T : PH} {K : PV → PS → Prop} {l0 l1 l2 : Int} {l3 : PV} : pm_Run d 130 86 [.inr (.inr (.inl l0)), .inl l1, .inl l2, l3] [] (G, M, T) K ↔ pm_Run d 130 88 [.inr (.inr (.inl l0)), .inl l1, .inl 0, l3] [] (G, M, T) K := by
  refine (px_go (by decide +kernel : pm_fe 130 86 = some (.iconst 0, 1)) rfl).trans ?_
  refine (px_go (by decide +kernel : pm_fe 130 87 = some (.istore_n 2, 1)) rfl).trans ?_
  exact Iff.rfl
theorem b130_88 {d : Nat} {G : PG} {M T : PH} {K : PV → PS → Prop} {l0 l1 l2 : Int} {l3 : PV} (h1 : pm_ob G l0 10) : pm_Run d 130 88 [.inr (.inr (.inl l0)), .inl l1, .inl l2, l3] [] (G, M, T) K ↔ if pm_sg (M l0.toNat 7) ≤ pm_sg l2 then pm_Run d 130 127 [.inr (.inr (.inl l0)), .inl l1, .inl l2, l3] [] (G, M, T) K else pm_Run d 130 96 [.inr (.inr (.inl l0)), .inl l1, .inl l2, l3] [] (G, M, T) K := by
  refine (px_go (by decide +kernel : pm_fe 130 88 = some (.iload_n 2, 1)) rfl).trans ?_
  refine (px_go (by decide +kernel : pm_fe 130 89 = some (.aload_n 0, 1)) rfl).trans ?_
  refine (px_get0 (idx := 43) (ci := 10) (k := 7) (by decide +kernel)).trans ((and_iff_right h1).trans ?_)
  refine (px_ic_ge (off := 34) (tgt := 127) (by decide +kernel)).trans ?_
  exact Iff.rfl
theorem b130_96 {d : Nat} {G : PG} {M T : PH} {K : PV → PS → Prop} {l0 l1 l2 : Int} {l3 : PV} (h1 : pm_ob G l0 10) (h2 : pm_ob G (T l0.toNat 0) 9) (h3 : pm_ar G (T l0.toNat 2) 100 l2) (h4 : pm_ar G (T (T l0.toNat 0).toNat 1) 100 (M (T l0.toNat 2).toNat (pm_sg l2).toNat)) (h5 : pm_ar G (T l0.toNat 3) 100 l2) : pm_Run d 130 96 [.inr (.inr (.inl l0)), .inl l1, .inl l2, l3] [] (G, M, T) K ↔ if pm_sg (M (T (T l0.toNat 0).toNat 1).toNat (pm_sg (M (T l0.toNat 2).toNat (pm_sg l2).toNat)).toNat) = pm_sg (M (T l0.toNat 3).toNat (pm_sg l2).toNat) then pm_Run d 130 121 [.inr (.inr (.inl l0)), .inl l1, .inl l2, l3] [] (G, M, T) K else pm_Run d 130 119 [.inr (.inr (.inl l0)), .inl l1, .inl l2, l3] [] (G, M, T) K := by
  refine (px_go (by decide +kernel : pm_fe 130 96 = some (.aload_n 0, 1)) rfl).trans ?_
  refine (px_get2 (idx := 12) (ci := 10) (k := 0) (by decide +kernel)).trans ((and_iff_right h1).trans ?_)
  refine (px_get2 (idx := 83) (ci := 9) (k := 1) (by decide +kernel)).trans ((and_iff_right h2).trans ?_)
  refine (px_go (by decide +kernel : pm_fe 130 103 = some (.aload_n 0, 1)) rfl).trans ?_
  refine (px_get2 (idx := 25) (ci := 10) (k := 2) (by decide +kernel)).trans ((and_iff_right h1).trans ?_)
  refine (px_go (by decide +kernel : pm_fe 130 107 = some (.iload_n 2, 1)) rfl).trans ?_
  refine (px_iaload (by decide +kernel) h3).trans ?_
  refine (px_iaload (by decide +kernel) h4).trans ?_
  refine (px_go (by decide +kernel : pm_fe 130 110 = some (.aload_n 0, 1)) rfl).trans ?_
  refine (px_get2 (idx := 29) (ci := 10) (k := 3) (by decide +kernel)).trans ((and_iff_right h1).trans ?_)
  refine (px_go (by decide +kernel : pm_fe 130 114 = some (.iload_n 2, 1)) rfl).trans ?_
  refine (px_iaload (by decide +kernel) h5).trans ?_
  refine (px_ic_eq (off := 5) (tgt := 121) (by decide +kernel)).trans ?_
  exact Iff.rfl
theorem b130_119 {d : Nat} {G : PG} {M T : PH} {K : PV → PS → Prop} {l0 l1 l2 : Int} {l3 : PV} : pm_Run d 130 119 [.inr (.inr (.inl l0)), .inl l1, .inl l2, l3] [] (G, M, T) K ↔ K (.inl 0) (G, M, T) := by
  refine (px_go (by decide +kernel : pm_fe 130 119 = some (.iconst 0, 1)) rfl).trans ?_
  refine (px_rz (by decide +kernel)).trans ((and_iff_right (by decide : (0 : Int) = (0 : Int) ∨ (0 : Int) = (1 : Int))).trans ?_)
  exact Iff.rfl
theorem b130_121 {d : Nat} {G : PG} {M T : PH} {K : PV → PS → Prop} {l0 l1 l2 : Int} {l3 : PV} : pm_Run d 130 121 [.inr (.inr (.inl l0)), .inl l1, .inl l2, l3] [] (G, M, T) K ↔ pm_Run d 130 88 [.inr (.inr (.inl l0)), .inl l1, .inl (l2 + 1), l3] [] (G, M, T) K := by
  refine (px_go (by decide +kernel : pm_fe 130 121 = some (.iinc 2 1, 3)) rfl).trans ?_
  refine (px_goto (off := (-36)) (tgt := 88) (by decide +kernel)).trans ?_
  exact Iff.rfl
theorem b130_127 {d : Nat} {G : PG} {M T : PH} {K : PV → PS → Prop} {l0 l1 l2 : Int} {l3 : PV} : pm_Run d 130 127 [.inr (.inr (.inl l0)), .inl l1, .inl l2, l3] [] (G, M, T) K ↔ K (.inl 1) (G, M, T) := by
  refine (px_go (by decide +kernel : pm_fe 130 127 = some (.iconst 1, 1)) rfl).trans ?_
  refine (px_rz (by decide +kernel)).trans ((and_iff_right (by decide : (1 : Int) = (0 : Int) ∨ (1 : Int) = (1 : Int))).trans ?_)
  exact Iff.rfl
