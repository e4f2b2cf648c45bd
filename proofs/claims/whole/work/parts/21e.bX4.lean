-- X4_init <init>()V
theorem en48 {d : Nat} {a : Int} {S : PS} {K : PV → PS → Prop} : pm_Call (d + 1) 48 [.inr (.inr (.inl a))] S K ↔ pm_Run d 48 0 [.inr (.inr (.inl a)), PU, PU, PU, PU] [] S K := pm_Call_s.trans (and_iff_right (show 1 ≤ pm_ml 48 from by decide +kernel))
theorem b48_31 {d : Nat} {G : PG} {M T : PH} {K : PV → PS → Prop} {l0 l1 l2 l3 s0 s1 : Int} {l4 : PV} : pm_Run d 48 31 [.inr (.inr (.inl l0)), .inl l1, .inl l2, .inl l3, l4] [.inl s0, .inl s1] (G, M, T) K ↔ if pm_sg s0 ≤ pm_sg s1 then pm_Run d 48 95 [.inr (.inr (.inl l0)), .inl l1, .inl l2, .inl l3, l4] [] (G, M, T) K else pm_Run d 48 34 [.inr (.inr (.inl l0)), .inl l1, .inl l2, .inl l3, l4] [] (G, M, T) K := by
  refine (px_ic_ge (off := 64) (tgt := 95) (by decide +kernel)).trans ?_
  exact Iff.rfl
theorem b48_34 {d : Nat} {G : PG} {M T : PH} {K : PV → PS → Prop} {l0 l1 l2 l3 : Int} {l4 : PV} : pm_Run d 48 34 [.inr (.inr (.inl l0)), .inl l1, .inl l2, .inl l3, l4] [] (G, M, T) K ↔ if pm_sg 29 ≤ pm_sg l1 then pm_Run d 48 95 [.inr (.inr (.inl l0)), .inl l1, .inl l2, .inl l3, l4] [] (G, M, T) K else pm_Run d 48 40 [.inr (.inr (.inl l0)), .inl l1, .inl l2, .inl l3, l4] [] (G, M, T) K := by
  refine (px_go (by decide +kernel : pm_fe 48 34 = some (.iload_n 1, 1)) rfl).trans ?_
  refine (px_go (by decide +kernel : pm_fe 48 35 = some (.bipush 29, 2)) rfl).trans ?_
  refine (px_ic_ge (off := 58) (tgt := 95) (by decide +kernel)).trans ?_
  exact Iff.rfl
theorem b48_46 {d : Nat} {G : PG} {M T : PH} {K : PV → PS → Prop} {l0 l1 l2 l3 s0 : Int} {l4 : PV} : pm_Run d 48 46 [.inr (.inr (.inl l0)), .inl l1, .inl l2, .inl l3, l4] [.inl s0] (G, M, T) K ↔ if pm_sg s0 ≠ pm_sg 32 then pm_Run d 48 63 [.inr (.inr (.inl l0)), .inl l1, .inl l2, .inl l3, .inl s0] [] (G, M, T) K else pm_Run d 48 55 [.inr (.inr (.inl l0)), .inl l1, .inl l2, .inl l3, .inl s0] [] (G, M, T) K := by
  refine (px_go (by decide +kernel : pm_fe 48 46 = some (.istore 4, 2)) rfl).trans ?_
  refine (px_go (by decide +kernel : pm_fe 48 48 = some (.iload 4, 2)) rfl).trans ?_
  refine (px_go (by decide +kernel : pm_fe 48 50 = some (.bipush 32, 2)) rfl).trans ?_
  refine (px_ic_ne (off := 11) (tgt := 63) (by decide +kernel)).trans ?_
  exact Iff.rfl
theorem b48_55 {d : Nat} {G : PG} {M T : PH} {K : PV → PS → Prop} {l0 l1 l2 l3 l4 : Int} : pm_Run d 48 55 [.inr (.inr (.inl l0)), .inl l1, .inl l2, .inl l3, .inl l4] [] (G, M, T) K ↔ pm_Run d 48 89 [.inr (.inr (.inl l0)), .inl (l1 + 1), .inl 0, .inl l3, .inl l4] [] (G, M, T) K := by
  refine (px_go (by decide +kernel : pm_fe 48 55 = some (.iinc 1 1, 3)) rfl).trans ?_
  refine (px_go (by decide +kernel : pm_fe 48 58 = some (.iconst 0, 1)) rfl).trans ?_
  refine (px_go (by decide +kernel : pm_fe 48 59 = some (.istore_n 2, 1)) rfl).trans ?_
  refine (px_goto (off := 29) (tgt := 89) (by decide +kernel)).trans ?_
  exact Iff.rfl
theorem b48_63 {d : Nat} {G : PG} {M T : PH} {K : PV → PS → Prop} {l0 l1 l2 l3 l4 : Int} (h1 : pm_ob G l0 4) (h2 : pm_ar G (T l0.toNat 0) 100 l1) : pm_Run d 48 63 [.inr (.inr (.inl l0)), .inl l1, .inl l2, .inl l3, .inl l4] [] (G, M, T) K ↔ pm_Run d 48 89 [.inr (.inr (.inl l0)), .inl l1, .inl (l2 + 1), .inl l3, .inl l4] [] (G, pm_sa M (T l0.toNat 0).toNat (pm_up (M (T l0.toNat 0).toNat) (pm_sg l1).toNat (pm_or (M (T l0.toNat 0).toNat (pm_sg l1).toNat) (pm_shl ((l4 - 97) + 1) (25 - (5 * l2))))), T) K := by
  refine (px_go (by decide +kernel : pm_fe 48 63 = some (.aload_n 0, 1)) rfl).trans ?_
  refine (px_get2 (idx := 9) (ci := 4) (k := 0) (by decide +kernel)).trans ((and_iff_right h1).trans ?_)
  refine (px_go (by decide +kernel : pm_fe 48 67 = some (.iload_n 1, 1)) rfl).trans ?_
  refine (px_go (by decide +kernel : pm_fe 48 68 = some (.dup2, 1)) rfl).trans ?_
  refine (px_iaload (by decide +kernel) h2).trans ?_
  refine (px_go (by decide +kernel : pm_fe 48 70 = some (.iload 4, 2)) rfl).trans ?_
  refine (px_go (by decide +kernel : pm_fe 48 72 = some (.bipush 97, 2)) rfl).trans ?_
  refine (px_go (by decide +kernel : pm_fe 48 74 = some (.isub, 1)) rfl).trans ?_
  refine (px_go (by decide +kernel : pm_fe 48 75 = some (.iconst 1, 1)) rfl).trans ?_
  refine (px_go (by decide +kernel : pm_fe 48 76 = some (.iadd, 1)) rfl).trans ?_
  refine (px_go (by decide +kernel : pm_fe 48 77 = some (.bipush 25, 2)) rfl).trans ?_
  refine (px_go (by decide +kernel : pm_fe 48 79 = some (.iconst 5, 1)) rfl).trans ?_
  refine (px_go (by decide +kernel : pm_fe 48 80 = some (.iload_n 2, 1)) rfl).trans ?_
  refine (px_go (by decide +kernel : pm_fe 48 81 = some (.imul, 1)) rfl).trans ?_
  refine (px_go (by decide +kernel : pm_fe 48 82 = some (.isub, 1)) rfl).trans ?_
  refine (px_go (by decide +kernel : pm_fe 48 83 = some (.ishl, 1)) rfl).trans ?_
  refine (px_go (by decide +kernel : pm_fe 48 84 = some (.ior, 1)) rfl).trans ?_
  refine (px_iastore (by decide +kernel)).trans ((and_iff_right h2).trans ?_)
  refine (px_go (by decide +kernel : pm_fe 48 86 = some (.iinc 2 1, 3)) rfl).trans ?_
  exact Iff.rfl
theorem b48_89 {d : Nat} {G : PG} {M T : PH} {K : PV → PS → Prop} {l0 l1 l2 l3 l4 : Int} : pm_Run d 48 89 [.inr (.inr (.inl l0)), .inl l1, .inl l2, .inl l3, .inl l4] [] (G, M, T) K ↔ pm_Run d 48 25 [.inr (.inr (.inl l0)), .inl l1, .inl l2, .inl (l3 + 1), .inl l4] [] (G, M, T) K := by
  refine (px_go (by decide +kernel : pm_fe 48 89 = some (.iinc 3 1, 3)) rfl).trans ?_
  refine (px_goto (off := (-67)) (tgt := 25) (by decide +kernel)).trans ?_
  exact Iff.rfl
theorem b48_95 {d : Nat} {G : PG} {M T : PH} {K : PV → PS → Prop} {l0 l1 l2 l3 : Int} {l4 : PV} : pm_Run d 48 95 [.inr (.inr (.inl l0)), .inl l1, .inl l2, .inl l3, l4] [] (G, M, T) K ↔ K PU (G, M, T) := by
  refine (px_rv (by decide +kernel)).trans ?_
  exact Iff.rfl
-- X4_letterOf letterOf(II)I
theorem en49 {d : Nat} {p0 p1 : Int} {S : PS} {K : PV → PS → Prop} : pm_Call (d + 1) 49 [.inl p0, .inl p1] S K ↔ pm_Run d 49 0 [.inl p0, .inl p1] [] S K := pm_Call_s.trans (and_iff_right (show 2 ≤ pm_ml 49 from by decide +kernel))
theorem b49_0 {d : Nat} {G : PG} {M T : PH} {K : PV → PS → Prop} {l0 l1 : Int} : pm_Run d 49 0 [.inl l0, .inl l1] [] (G, M, T) K ↔ K (.inl (pm_and (pm_shr l0 (25 - (5 * l1))) 31)) (G, M, T) := by
  refine (px_go (by decide +kernel : pm_fe 49 0 = some (.iload_n 0, 1)) rfl).trans ?_
  refine (px_go (by decide +kernel : pm_fe 49 1 = some (.bipush 25, 2)) rfl).trans ?_
  refine (px_go (by decide +kernel : pm_fe 49 3 = some (.iconst 5, 1)) rfl).trans ?_
  refine (px_go (by decide +kernel : pm_fe 49 4 = some (.iload_n 1, 1)) rfl).trans ?_
  refine (px_go (by decide +kernel : pm_fe 49 5 = some (.imul, 1)) rfl).trans ?_
  refine (px_go (by decide +kernel : pm_fe 49 6 = some (.isub, 1)) rfl).trans ?_
  refine (px_go (by decide +kernel : pm_fe 49 7 = some (.ishr, 1)) rfl).trans ?_
  refine (px_go (by decide +kernel : pm_fe 49 8 = some (.bipush 31, 2)) rfl).trans ?_
  refine (px_go (by decide +kernel : pm_fe 49 10 = some (.iand, 1)) rfl).trans ?_
  refine (px_ri (by decide +kernel)).trans ?_
  exact Iff.rfl
-- X4_begin begin([BI)V
theorem en50 {d : Nat} {a p0 p1 : Int} {S : PS} {K : PV → PS → Prop} : pm_Call (d + 1) 50 [.inr (.inr (.inl a)), .inr (.inr (.inl p0)), .inl p1] S K ↔ pm_Run d 50 0 [.inr (.inr (.inl a)), .inr (.inr (.inl p0)), .inl p1] [] S K := pm_Call_s.trans (and_iff_right (show 3 ≤ pm_ml 50 from by decide +kernel))
theorem b50_0 {d : Nat} {G : PG} {M T : PH} {K : PV → PS → Prop} {l0 l1 l2 : Int} (h1 : pm_ob G l0 4) (h2 : 0 ≤ l1) (h3 : 0 ≤ l1 ∧ l1.toNat < G.1 ∧ 100 ≤ (G.2.2.1 l1.toNat).1 ∧ (G.2.2.1 l1.toNat).1 ≤ 104) : pm_Run d 50 0 [.inr (.inr (.inl l0)), .inr (.inr (.inl l1)), .inl l2] [] (G, M, T) K ↔ pm_Run d 50 20 [.inr (.inr (.inl l0)), .inr (.inr (.inl l1)), .inl l2] [] (G, pm_sa (pm_sa M l0.toNat (pm_up (M l0.toNat) 2 (pm_mn l2 ((G.2.2.1 l1.toNat).2 : Int)))) l0.toNat (pm_up ((pm_sa M l0.toNat (pm_up (M l0.toNat) 2 (pm_mn l2 ((G.2.2.1 l1.toNat).2 : Int)))) l0.toNat) 3 0), pm_sa T l0.toNat (pm_up (T l0.toNat) 1 l1)) K := by
  refine (px_go (by decide +kernel : pm_fe 50 0 = some (.aload_n 0, 1)) rfl).trans ?_
  refine (px_go (by decide +kernel : pm_fe 50 1 = some (.aload_n 1, 1)) rfl).trans ?_
  refine (px_put2 (idx := 15) (ci := 4) (k := 1) (by decide +kernel)).trans ((and_iff_right ⟨h1, h2⟩).trans ?_)
  refine (px_go (by decide +kernel : pm_fe 50 5 = some (.aload_n 0, 1)) rfl).trans ?_
  refine (px_go (by decide +kernel : pm_fe 50 6 = some (.iload_n 2, 1)) rfl).trans ?_
  refine (px_go (by decide +kernel : pm_fe 50 7 = some (.aload_n 1, 1)) rfl).trans ?_
  refine (px_alen (by decide +kernel) h3).trans ?_
  refine (px_m906 (idx := 31) (by decide +kernel)).trans ((and_iff_right (by simp [pm_wl_n, pm_wl_c, pm_w] : pm_wl [.inr (.inr (.inl l0))] ≤ 8)).trans ?_)
  refine (px_put0 (idx := 37) (ci := 4) (k := 2) (by decide +kernel)).trans ((and_iff_right h1).trans ?_)
  refine (px_go (by decide +kernel : pm_fe 50 15 = some (.aload_n 0, 1)) rfl).trans ?_
  refine (px_go (by decide +kernel : pm_fe 50 16 = some (.iconst 0, 1)) rfl).trans ?_
  refine (px_put0 (idx := 41) (ci := 4) (k := 3) (by decide +kernel)).trans ((and_iff_right h1).trans ?_)
  exact Iff.rfl
theorem b50_20 {d : Nat} {G : PG} {M T : PH} {K : PV → PS → Prop} {l0 l1 l2 : Int} (h1 : pm_ob G l0 4) : pm_Run d 50 20 [.inr (.inr (.inl l0)), .inr (.inr (.inl l1)), .inl l2] [] (G, M, T) K ↔ K PU (G, pm_sa M l0.toNat (pm_up (M l0.toNat) 4 0), T) := by
  refine (px_go (by decide +kernel : pm_fe 50 20 = some (.aload_n 0, 1)) rfl).trans ?_
  refine (px_go (by decide +kernel : pm_fe 50 21 = some (.iconst 0, 1)) rfl).trans ?_
  refine (px_put0 (idx := 44) (ci := 4) (k := 4) (by decide +kernel)).trans ((and_iff_right h1).trans ?_)
  refine (px_rv (by decide +kernel)).trans ?_
  exact Iff.rfl
-- X4_advance advance()V
theorem en51 {d : Nat} {a : Int} {S : PS} {K : PV → PS → Prop} : pm_Call (d + 1) 51 [.inr (.inr (.inl a))] S K ↔ pm_Run d 51 0 [.inr (.inr (.inl a)), PU, PU] [] S K := pm_Call_s.trans (and_iff_right (show 1 ≤ pm_ml 51 from by decide +kernel))
theorem b51_0 {d : Nat} {G : PG} {M T : PH} {K : PV → PS → Prop} {l0 : Int} (h1 : pm_ob G l0 4) : pm_Run d 51 0 [.inr (.inr (.inl l0)), PU, PU] [] (G, M, T) K ↔ if pm_sg (M l0.toNat 4) = pm_sg 1 then pm_Run d 51 16 [.inr (.inr (.inl l0)), PU, PU] [] (G, M, T) K else pm_Run d 51 8 [.inr (.inr (.inl l0)), PU, PU] [] (G, M, T) K := by
  refine (px_go (by decide +kernel : pm_fe 51 0 = some (.aload_n 0, 1)) rfl).trans ?_
  refine (px_get0 (idx := 44) (ci := 4) (k := 4) (by decide +kernel)).trans ((and_iff_right h1).trans ?_)
  refine (px_go (by decide +kernel : pm_fe 51 4 = some (.iconst 1, 1)) rfl).trans ?_
  refine (px_ic_eq (off := 11) (tgt := 16) (by decide +kernel)).trans ?_
  exact Iff.rfl
theorem b51_8 {d : Nat} {G : PG} {M T : PH} {K : PV → PS → Prop} {l0 : Int} (h1 : pm_ob G l0 4) : pm_Run d 51 8 [.inr (.inr (.inl l0)), PU, PU] [] (G, M, T) K ↔ if pm_sg (M l0.toNat 4) ≠ pm_sg 2 then pm_Run d 51 23 [.inr (.inr (.inl l0)), PU, PU] [] (G, M, T) K else pm_Run d 51 16 [.inr (.inr (.inl l0)), PU, PU] [] (G, M, T) K := by
  refine (px_go (by decide +kernel : pm_fe 51 8 = some (.aload_n 0, 1)) rfl).trans ?_
  refine (px_get0 (idx := 44) (ci := 4) (k := 4) (by decide +kernel)).trans ((and_iff_right h1).trans ?_)
  refine (px_go (by decide +kernel : pm_fe 51 12 = some (.iconst 2, 1)) rfl).trans ?_
  refine (px_ic_ne (off := 10) (tgt := 23) (by decide +kernel)).trans ?_
  exact Iff.rfl
theorem b51_16 {d : Nat} {G : PG} {M T : PH} {K : PV → PS → Prop} {l0 : Int} (h1 : pm_ob G l0 4) : pm_Run d 51 16 [.inr (.inr (.inl l0)), PU, PU] [] (G, M, T) K ↔ pm_Run d 51 24 [.inr (.inr (.inl l0)), PU, PU] [.inl (M l0.toNat 3)] (G, M, T) K := by
  refine (px_go (by decide +kernel : pm_fe 51 16 = some (.aload_n 0, 1)) rfl).trans ?_
  refine (px_get0 (idx := 41) (ci := 4) (k := 3) (by decide +kernel)).trans ((and_iff_right h1).trans ?_)
  refine (px_goto (off := 4) (tgt := 24) (by decide +kernel)).trans ?_
  exact Iff.rfl
theorem b51_23 {d : Nat} {G : PG} {M T : PH} {K : PV → PS → Prop} {l0 : Int} : pm_Run d 51 23 [.inr (.inr (.inl l0)), PU, PU] [] (G, M, T) K ↔ pm_Run d 51 24 [.inr (.inr (.inl l0)), PU, PU] [.inl (-1)] (G, M, T) K := by
  refine (px_go (by decide +kernel : pm_fe 51 23 = some (.iconst (-1), 1)) rfl).trans ?_
  exact Iff.rfl
theorem b51_24 {d : Nat} {G : PG} {M T : PH} {K : PV → PS → Prop} {l0 s0 : Int} : pm_Run d 51 24 [.inr (.inr (.inl l0)), PU, PU] [.inl s0] (G, M, T) K ↔ pm_Run d 51 25 [.inr (.inr (.inl l0)), .inl s0, PU] [] (G, M, T) K := by
  refine (px_go (by decide +kernel : pm_fe 51 24 = some (.istore_n 1, 1)) rfl).trans ?_
  exact Iff.rfl
theorem b51_25 {d : Nat} {G : PG} {M T : PH} {K : PV → PS → Prop} {l0 l1 : Int} (h1 : pm_ob G l0 4) : pm_Run d 51 25 [.inr (.inr (.inl l0)), .inl l1, PU] [] (G, M, T) K ↔ if pm_sg (M l0.toNat 2) ≤ pm_sg (M l0.toNat 3) then pm_Run d 51 77 [.inr (.inr (.inl l0)), .inl l1, PU] [] (G, M, T) K else pm_Run d 51 36 [.inr (.inr (.inl l0)), .inl l1, PU] [] (G, M, T) K := by
  refine (px_go (by decide +kernel : pm_fe 51 25 = some (.aload_n 0, 1)) rfl).trans ?_
  refine (px_get0 (idx := 41) (ci := 4) (k := 3) (by decide +kernel)).trans ((and_iff_right h1).trans ?_)
  refine (px_go (by decide +kernel : pm_fe 51 29 = some (.aload_n 0, 1)) rfl).trans ?_
  refine (px_get0 (idx := 37) (ci := 4) (k := 2) (by decide +kernel)).trans ((and_iff_right h1).trans ?_)
  refine (px_ic_ge (off := 44) (tgt := 77) (by decide +kernel)).trans ?_
  exact Iff.rfl
theorem b51_36 {d : Nat} {G : PG} {M T : PH} {K : PV → PS → Prop} {l0 l1 : Int} (h1 : pm_ob G l0 4) (h2 : pm_ar G (T l0.toNat 1) 101 (M l0.toNat 3) ∨ pm_ar G (T l0.toNat 1) 102 (M l0.toNat 3)) : pm_Run d 51 36 [.inr (.inr (.inl l0)), .inl l1, PU] [] (G, M, T) K ↔ if pm_sg (M (T l0.toNat 1).toNat (pm_sg (M l0.toNat 3)).toNat) = pm_sg 10 then pm_Run d 51 64 [.inr (.inr (.inl l0)), .inl l1, PU] [] (G, M, T) K else pm_Run d 51 50 [.inr (.inr (.inl l0)), .inl l1, PU] [] (G, M, T) K := by
  refine (px_go (by decide +kernel : pm_fe 51 36 = some (.aload_n 0, 1)) rfl).trans ?_
  refine (px_get2 (idx := 15) (ci := 4) (k := 1) (by decide +kernel)).trans ((and_iff_right h1).trans ?_)
  refine (px_go (by decide +kernel : pm_fe 51 40 = some (.aload_n 0, 1)) rfl).trans ?_
  refine (px_get0 (idx := 41) (ci := 4) (k := 3) (by decide +kernel)).trans ((and_iff_right h1).trans ?_)
  refine (px_baload (by decide +kernel)).trans ((and_iff_right h2).trans ?_)
  refine (px_go (by decide +kernel : pm_fe 51 45 = some (.bipush 10, 2)) rfl).trans ?_
  refine (px_ic_eq (off := 17) (tgt := 64) (by decide +kernel)).trans ?_
  exact Iff.rfl
theorem b51_50 {d : Nat} {G : PG} {M T : PH} {K : PV → PS → Prop} {l0 l1 : Int} (h1 : pm_ob G l0 4) (h2 : pm_ar G (T l0.toNat 1) 101 (M l0.toNat 3) ∨ pm_ar G (T l0.toNat 1) 102 (M l0.toNat 3)) : pm_Run d 51 50 [.inr (.inr (.inl l0)), .inl l1, PU] [] (G, M, T) K ↔ if pm_sg (M (T l0.toNat 1).toNat (pm_sg (M l0.toNat 3)).toNat) ≠ pm_sg 32 then pm_Run d 51 77 [.inr (.inr (.inl l0)), .inl l1, PU] [] (G, M, T) K else pm_Run d 51 64 [.inr (.inr (.inl l0)), .inl l1, PU] [] (G, M, T) K := by
  refine (px_go (by decide +kernel : pm_fe 51 50 = some (.aload_n 0, 1)) rfl).trans ?_
  refine (px_get2 (idx := 15) (ci := 4) (k := 1) (by decide +kernel)).trans ((and_iff_right h1).trans ?_)
  refine (px_go (by decide +kernel : pm_fe 51 54 = some (.aload_n 0, 1)) rfl).trans ?_
  refine (px_get0 (idx := 41) (ci := 4) (k := 3) (by decide +kernel)).trans ((and_iff_right h1).trans ?_)
  refine (px_baload (by decide +kernel)).trans ((and_iff_right h2).trans ?_)
  refine (px_go (by decide +kernel : pm_fe 51 59 = some (.bipush 32, 2)) rfl).trans ?_
  refine (px_ic_ne (off := 16) (tgt := 77) (by decide +kernel)).trans ?_
  exact Iff.rfl
theorem b51_64 {d : Nat} {G : PG} {M T : PH} {K : PV → PS → Prop} {l0 l1 : Int} (h1 : pm_ob G l0 4) : pm_Run d 51 64 [.inr (.inr (.inl l0)), .inl l1, PU] [] (G, M, T) K ↔ pm_Run d 51 25 [.inr (.inr (.inl l0)), .inl l1, PU] [] (G, pm_sa M l0.toNat (pm_up (M l0.toNat) 3 ((M l0.toNat 3) + 1)), T) K := by
  refine (px_go (by decide +kernel : pm_fe 51 64 = some (.aload_n 0, 1)) rfl).trans ?_
  refine (px_go (by decide +kernel : pm_fe 51 65 = some (.dup, 1)) rfl).trans ?_
  refine (px_get0 (idx := 41) (ci := 4) (k := 3) (by decide +kernel)).trans ((and_iff_right h1).trans ?_)
  refine (px_go (by decide +kernel : pm_fe 51 69 = some (.iconst 1, 1)) rfl).trans ?_
  refine (px_go (by decide +kernel : pm_fe 51 70 = some (.iadd, 1)) rfl).trans ?_
  refine (px_put0 (idx := 41) (ci := 4) (k := 3) (by decide +kernel)).trans ((and_iff_right h1).trans ?_)
  refine (px_goto (off := (-49)) (tgt := 25) (by decide +kernel)).trans ?_
  exact Iff.rfl
theorem b51_77 {d : Nat} {G : PG} {M T : PH} {K : PV → PS → Prop} {l0 l1 : Int} (h1 : pm_ob G l0 4) : pm_Run d 51 77 [.inr (.inr (.inl l0)), .inl l1, PU] [] (G, M, T) K ↔ pm_Run d 51 98 [.inr (.inr (.inl l0)), .inl l1, PU] [] (G, pm_sa (pm_sa (pm_sa M l0.toNat (pm_up (M l0.toNat) 5 (M l0.toNat 3))) l0.toNat (pm_up ((pm_sa M l0.toNat (pm_up (M l0.toNat) 5 (M l0.toNat 3))) l0.toNat) 6 ((pm_sa M l0.toNat (pm_up (M l0.toNat) 5 (M l0.toNat 3))) l0.toNat 3))) l0.toNat (pm_up ((pm_sa (pm_sa M l0.toNat (pm_up (M l0.toNat) 5 (M l0.toNat 3))) l0.toNat (pm_up ((pm_sa M l0.toNat (pm_up (M l0.toNat) 5 (M l0.toNat 3))) l0.toNat) 6 ((pm_sa M l0.toNat (pm_up (M l0.toNat) 5 (M l0.toNat 3))) l0.toNat 3))) l0.toNat) 8 (-1)), T) K := by
  refine (px_go (by decide +kernel : pm_fe 51 77 = some (.aload_n 0, 1)) rfl).trans ?_
  refine (px_go (by decide +kernel : pm_fe 51 78 = some (.aload_n 0, 1)) rfl).trans ?_
  refine (px_get0 (idx := 41) (ci := 4) (k := 3) (by decide +kernel)).trans ((and_iff_right h1).trans ?_)
  refine (px_put0 (idx := 47) (ci := 4) (k := 5) (by decide +kernel)).trans ((and_iff_right h1).trans ?_)
  refine (px_go (by decide +kernel : pm_fe 51 85 = some (.aload_n 0, 1)) rfl).trans ?_
  refine (px_go (by decide +kernel : pm_fe 51 86 = some (.aload_n 0, 1)) rfl).trans ?_
  refine (px_get0 (idx := 41) (ci := 4) (k := 3) (by decide +kernel)).trans ((and_iff_right h1).trans ?_)
  refine (px_put0 (idx := 50) (ci := 4) (k := 6) (by decide +kernel)).trans ((and_iff_right h1).trans ?_)
  refine (px_go (by decide +kernel : pm_fe 51 93 = some (.aload_n 0, 1)) rfl).trans ?_
  refine (px_go (by decide +kernel : pm_fe 51 94 = some (.iconst (-1), 1)) rfl).trans ?_
  refine (px_put0 (idx := 53) (ci := 4) (k := 8) (by decide +kernel)).trans ((and_iff_right h1).trans ?_)
  exact Iff.rfl
theorem b51_98 {d : Nat} {G : PG} {M T : PH} {K : PV → PS → Prop} {l0 l1 : Int} (h1 : pm_ob G l0 4) : pm_Run d 51 98 [.inr (.inr (.inl l0)), .inl l1, PU] [] (G, M, T) K ↔ if pm_sg ((pm_sa M l0.toNat (pm_up (M l0.toNat) 7 0)) l0.toNat 2) ≤ pm_sg ((pm_sa M l0.toNat (pm_up (M l0.toNat) 7 0)) l0.toNat 3) then pm_Run d 51 126 [.inr (.inr (.inl l0)), .inl l1, PU] [] (G, pm_sa M l0.toNat (pm_up (M l0.toNat) 7 0), T) K else pm_Run d 51 114 [.inr (.inr (.inl l0)), .inl l1, PU] [] (G, pm_sa M l0.toNat (pm_up (M l0.toNat) 7 0), T) K := by
  refine (px_go (by decide +kernel : pm_fe 51 98 = some (.aload_n 0, 1)) rfl).trans ?_
  refine (px_go (by decide +kernel : pm_fe 51 99 = some (.iconst 0, 1)) rfl).trans ?_
  refine (px_put0 (idx := 56) (ci := 4) (k := 7) (by decide +kernel)).trans ((and_iff_right h1).trans ?_)
  refine (px_go (by decide +kernel : pm_fe 51 103 = some (.aload_n 0, 1)) rfl).trans ?_
  refine (px_get0 (idx := 41) (ci := 4) (k := 3) (by decide +kernel)).trans ((and_iff_right h1).trans ?_)
  refine (px_go (by decide +kernel : pm_fe 51 107 = some (.aload_n 0, 1)) rfl).trans ?_
  refine (px_get0 (idx := 37) (ci := 4) (k := 2) (by decide +kernel)).trans ((and_iff_right h1).trans ?_)
  refine (px_ic_ge (off := 15) (tgt := 126) (by decide +kernel)).trans ?_
  exact Iff.rfl
theorem b51_114 {d : Nat} {G : PG} {M T : PH} {K : PV → PS → Prop} {l0 l1 : Int} (h1 : pm_ob G l0 4) (h2 : pm_ar G (T l0.toNat 1) 101 (M l0.toNat 3) ∨ pm_ar G (T l0.toNat 1) 102 (M l0.toNat 3)) : pm_Run d 51 114 [.inr (.inr (.inl l0)), .inl l1, PU] [] (G, M, T) K ↔ pm_Run d 51 127 [.inr (.inr (.inl l0)), .inl l1, PU] [.inl (M (T l0.toNat 1).toNat (pm_sg (M l0.toNat 3)).toNat)] (G, M, T) K := by
  refine (px_go (by decide +kernel : pm_fe 51 114 = some (.aload_n 0, 1)) rfl).trans ?_
  refine (px_get2 (idx := 15) (ci := 4) (k := 1) (by decide +kernel)).trans ((and_iff_right h1).trans ?_)
  refine (px_go (by decide +kernel : pm_fe 51 118 = some (.aload_n 0, 1)) rfl).trans ?_
  refine (px_get0 (idx := 41) (ci := 4) (k := 3) (by decide +kernel)).trans ((and_iff_right h1).trans ?_)
  refine (px_baload (by decide +kernel)).trans ((and_iff_right h2).trans ?_)
  refine (px_goto (off := 4) (tgt := 127) (by decide +kernel)).trans ?_
  exact Iff.rfl
theorem b51_126 {d : Nat} {G : PG} {M T : PH} {K : PV → PS → Prop} {l0 l1 : Int} : pm_Run d 51 126 [.inr (.inr (.inl l0)), .inl l1, PU] [] (G, M, T) K ↔ pm_Run d 51 127 [.inr (.inr (.inl l0)), .inl l1, PU] [.inl 0] (G, M, T) K := by
  refine (px_go (by decide +kernel : pm_fe 51 126 = some (.iconst 0, 1)) rfl).trans ?_
  exact Iff.rfl
theorem b51_127 {d : Nat} {G : PG} {M T : PH} {K : PV → PS → Prop} {l0 l1 s0 : Int} (h1 : pm_ob G l0 4) : pm_Run d 51 127 [.inr (.inr (.inl l0)), .inl l1, PU] [.inl s0] (G, M, T) K ↔ if pm_sg (M l0.toNat 3) < pm_sg (M l0.toNat 2) then pm_Run d 51 147 [.inr (.inr (.inl l0)), .inl l1, .inl s0] [] (G, M, T) K else pm_Run d 51 139 [.inr (.inr (.inl l0)), .inl l1, .inl s0] [] (G, M, T) K := by
  refine (px_go (by decide +kernel : pm_fe 51 127 = some (.istore_n 2, 1)) rfl).trans ?_
  refine (px_go (by decide +kernel : pm_fe 51 128 = some (.aload_n 0, 1)) rfl).trans ?_
  refine (px_get0 (idx := 41) (ci := 4) (k := 3) (by decide +kernel)).trans ((and_iff_right h1).trans ?_)
  refine (px_go (by decide +kernel : pm_fe 51 132 = some (.aload_n 0, 1)) rfl).trans ?_
  refine (px_get0 (idx := 37) (ci := 4) (k := 2) (by decide +kernel)).trans ((and_iff_right h1).trans ?_)
  refine (px_ic_lt (off := 11) (tgt := 147) (by decide +kernel)).trans ?_
  exact Iff.rfl
theorem b51_139 {d : Nat} {G : PG} {M T : PH} {K : PV → PS → Prop} {l0 l1 l2 : Int} (h1 : pm_ob G l0 4) : pm_Run d 51 139 [.inr (.inr (.inl l0)), .inl l1, .inl l2] [] (G, M, T) K ↔ pm_Run d 51 249 [.inr (.inr (.inl l0)), .inl l1, .inl l2] [] (G, pm_sa M l0.toNat (pm_up (M l0.toNat) 4 0), T) K := by
  refine (px_go (by decide +kernel : pm_fe 51 139 = some (.aload_n 0, 1)) rfl).trans ?_
  refine (px_go (by decide +kernel : pm_fe 51 140 = some (.iconst 0, 1)) rfl).trans ?_
  refine (px_put0 (idx := 44) (ci := 4) (k := 4) (by decide +kernel)).trans ((and_iff_right h1).trans ?_)
  refine (px_goto (off := 105) (tgt := 249) (by decide +kernel)).trans ?_
  exact Iff.rfl
theorem b51_147 {d : Nat} {G : PG} {M T : PH} {K : PV → PS → Prop} {l0 l1 l2 : Int} : pm_Run d 51 147 [.inr (.inr (.inl l0)), .inl l1, .inl l2] [] (G, M, T) K ↔ if pm_sg l2 < pm_sg 97 then pm_Run d 51 179 [.inr (.inr (.inl l0)), .inl l1, .inl l2] [] (G, M, T) K else pm_Run d 51 153 [.inr (.inr (.inl l0)), .inl l1, .inl l2] [] (G, M, T) K := by
  refine (px_go (by decide +kernel : pm_fe 51 147 = some (.iload_n 2, 1)) rfl).trans ?_
  refine (px_go (by decide +kernel : pm_fe 51 148 = some (.bipush 97, 2)) rfl).trans ?_
  refine (px_ic_lt (off := 29) (tgt := 179) (by decide +kernel)).trans ?_
  exact Iff.rfl
theorem b51_153 {d : Nat} {G : PG} {M T : PH} {K : PV → PS → Prop} {l0 l1 l2 : Int} : pm_Run d 51 153 [.inr (.inr (.inl l0)), .inl l1, .inl l2] [] (G, M, T) K ↔ if pm_sg 122 < pm_sg l2 then pm_Run d 51 179 [.inr (.inr (.inl l0)), .inl l1, .inl l2] [] (G, M, T) K else pm_Run d 51 159 [.inr (.inr (.inl l0)), .inl l1, .inl l2] [] (G, M, T) K := by
  refine (px_go (by decide +kernel : pm_fe 51 153 = some (.iload_n 2, 1)) rfl).trans ?_
  refine (px_go (by decide +kernel : pm_fe 51 154 = some (.bipush 122, 2)) rfl).trans ?_
  refine (px_ic_gt (off := 23) (tgt := 179) (by decide +kernel)).trans ?_
  exact Iff.rfl
theorem b51_159 {d : Nat} {G : PG} {M T : PH} {K : PV → PS → Prop} {l0 l1 l2 : Int} (h1 : pm_ob G l0 4) : pm_Run d 51 159 [.inr (.inr (.inl l0)), .inl l1, .inl l2] [] (G, M, T) K ↔ if pm_sg l1 ≠ pm_sg (M l0.toNat 3) then pm_Run d 51 172 [.inr (.inr (.inl l0)), .inl l1, .inl l2] [.inr (.inr (.inl l0))] (G, M, T) K else pm_Run d 51 168 [.inr (.inr (.inl l0)), .inl l1, .inl l2] [.inr (.inr (.inl l0))] (G, M, T) K := by
  refine (px_go (by decide +kernel : pm_fe 51 159 = some (.aload_n 0, 1)) rfl).trans ?_
  refine (px_go (by decide +kernel : pm_fe 51 160 = some (.iload_n 1, 1)) rfl).trans ?_
  refine (px_go (by decide +kernel : pm_fe 51 161 = some (.aload_n 0, 1)) rfl).trans ?_
  refine (px_get0 (idx := 41) (ci := 4) (k := 3) (by decide +kernel)).trans ((and_iff_right h1).trans ?_)
  refine (px_ic_ne (off := 7) (tgt := 172) (by decide +kernel)).trans ?_
  exact Iff.rfl
theorem b51_168 {d : Nat} {G : PG} {M T : PH} {K : PV → PS → Prop} {l0 l1 l2 s0 : Int} : pm_Run d 51 168 [.inr (.inr (.inl l0)), .inl l1, .inl l2] [.inr (.inr (.inl s0))] (G, M, T) K ↔ pm_Run d 51 173 [.inr (.inr (.inl l0)), .inl l1, .inl l2] [.inl 1, .inr (.inr (.inl s0))] (G, M, T) K := by
  refine (px_go (by decide +kernel : pm_fe 51 168 = some (.iconst 1, 1)) rfl).trans ?_
  refine (px_goto (off := 4) (tgt := 173) (by decide +kernel)).trans ?_
  exact Iff.rfl
theorem b51_172 {d : Nat} {G : PG} {M T : PH} {K : PV → PS → Prop} {l0 l1 l2 s0 : Int} : pm_Run d 51 172 [.inr (.inr (.inl l0)), .inl l1, .inl l2] [.inr (.inr (.inl s0))] (G, M, T) K ↔ pm_Run d 51 173 [.inr (.inr (.inl l0)), .inl l1, .inl l2] [.inl 0, .inr (.inr (.inl s0))] (G, M, T) K := by
  refine (px_go (by decide +kernel : pm_fe 51 172 = some (.iconst 0, 1)) rfl).trans ?_
  exact Iff.rfl
theorem b51_173 {d : Nat} {G : PG} {M T : PH} {K : PV → PS → Prop} {l0 l1 l2 s0 s1 : Int} (h1 : pm_ob G s1 4) : pm_Run d 51 173 [.inr (.inr (.inl l0)), .inl l1, .inl l2] [.inl s0, .inr (.inr (.inl s1))] (G, M, T) K ↔ pm_Call d 52 [.inr (.inr (.inl s1)), .inl s0] (G, M, T) (fun r S1 => pm_Run d 51 176 [.inr (.inr (.inl l0)), .inl l1, .inl l2] (pm_push r []) S1 K) := by
  refine (px_v1 (idx := 59) (m' := 52) (ci := 4) (by decide +kernel)).trans ((and_iff_right ⟨h1, (by simp [pm_wl_n, pm_wl_c, pm_w] : pm_wl [] ≤ 8)⟩).trans ?_)
  exact Iff.rfl
theorem b51_176 {d : Nat} {G : PG} {M T : PH} {K : PV → PS → Prop} {l0 l1 l2 : Int} : pm_Run d 51 176 [.inr (.inr (.inl l0)), .inl l1, .inl l2] [] (G, M, T) K ↔ pm_Run d 51 249 [.inr (.inr (.inl l0)), .inl l1, .inl l2] [] (G, M, T) K := by
  refine (px_goto (off := 73) (tgt := 249) (by decide +kernel)).trans ?_
  exact Iff.rfl
theorem b51_179 {d : Nat} {G : PG} {M T : PH} {K : PV → PS → Prop} {l0 l1 l2 : Int} : pm_Run d 51 179 [.inr (.inr (.inl l0)), .inl l1, .inl l2] [] (G, M, T) K ↔ if pm_sg l2 < pm_sg 48 then pm_Run d 51 211 [.inr (.inr (.inl l0)), .inl l1, .inl l2] [] (G, M, T) K else pm_Run d 51 185 [.inr (.inr (.inl l0)), .inl l1, .inl l2] [] (G, M, T) K := by
  refine (px_go (by decide +kernel : pm_fe 51 179 = some (.iload_n 2, 1)) rfl).trans ?_
  refine (px_go (by decide +kernel : pm_fe 51 180 = some (.bipush 48, 2)) rfl).trans ?_
  refine (px_ic_lt (off := 29) (tgt := 211) (by decide +kernel)).trans ?_
  exact Iff.rfl
theorem b51_185 {d : Nat} {G : PG} {M T : PH} {K : PV → PS → Prop} {l0 l1 l2 : Int} : pm_Run d 51 185 [.inr (.inr (.inl l0)), .inl l1, .inl l2] [] (G, M, T) K ↔ if pm_sg 57 < pm_sg l2 then pm_Run d 51 211 [.inr (.inr (.inl l0)), .inl l1, .inl l2] [] (G, M, T) K else pm_Run d 51 191 [.inr (.inr (.inl l0)), .inl l1, .inl l2] [] (G, M, T) K := by
  refine (px_go (by decide +kernel : pm_fe 51 185 = some (.iload_n 2, 1)) rfl).trans ?_
  refine (px_go (by decide +kernel : pm_fe 51 186 = some (.bipush 57, 2)) rfl).trans ?_
  refine (px_ic_gt (off := 23) (tgt := 211) (by decide +kernel)).trans ?_
  exact Iff.rfl
theorem b51_191 {d : Nat} {G : PG} {M T : PH} {K : PV → PS → Prop} {l0 l1 l2 : Int} (h1 : pm_ob G l0 4) : pm_Run d 51 191 [.inr (.inr (.inl l0)), .inl l1, .inl l2] [] (G, M, T) K ↔ if pm_sg l1 ≠ pm_sg (M l0.toNat 3) then pm_Run d 51 204 [.inr (.inr (.inl l0)), .inl l1, .inl l2] [.inr (.inr (.inl l0))] (G, M, T) K else pm_Run d 51 200 [.inr (.inr (.inl l0)), .inl l1, .inl l2] [.inr (.inr (.inl l0))] (G, M, T) K := by
  refine (px_go (by decide +kernel : pm_fe 51 191 = some (.aload_n 0, 1)) rfl).trans ?_
  refine (px_go (by decide +kernel : pm_fe 51 192 = some (.iload_n 1, 1)) rfl).trans ?_
  refine (px_go (by decide +kernel : pm_fe 51 193 = some (.aload_n 0, 1)) rfl).trans ?_
  refine (px_get0 (idx := 41) (ci := 4) (k := 3) (by decide +kernel)).trans ((and_iff_right h1).trans ?_)
  refine (px_ic_ne (off := 7) (tgt := 204) (by decide +kernel)).trans ?_
  exact Iff.rfl
theorem b51_200 {d : Nat} {G : PG} {M T : PH} {K : PV → PS → Prop} {l0 l1 l2 s0 : Int} : pm_Run d 51 200 [.inr (.inr (.inl l0)), .inl l1, .inl l2] [.inr (.inr (.inl s0))] (G, M, T) K ↔ pm_Run d 51 205 [.inr (.inr (.inl l0)), .inl l1, .inl l2] [.inl 1, .inr (.inr (.inl s0))] (G, M, T) K := by
  refine (px_go (by decide +kernel : pm_fe 51 200 = some (.iconst 1, 1)) rfl).trans ?_
  refine (px_goto (off := 4) (tgt := 205) (by decide +kernel)).trans ?_
  exact Iff.rfl
theorem b51_204 {d : Nat} {G : PG} {M T : PH} {K : PV → PS → Prop} {l0 l1 l2 s0 : Int} : pm_Run d 51 204 [.inr (.inr (.inl l0)), .inl l1, .inl l2] [.inr (.inr (.inl s0))] (G, M, T) K ↔ pm_Run d 51 205 [.inr (.inr (.inl l0)), .inl l1, .inl l2] [.inl 0, .inr (.inr (.inl s0))] (G, M, T) K := by
  refine (px_go (by decide +kernel : pm_fe 51 204 = some (.iconst 0, 1)) rfl).trans ?_
  exact Iff.rfl
theorem b51_205 {d : Nat} {G : PG} {M T : PH} {K : PV → PS → Prop} {l0 l1 l2 s0 s1 : Int} (h1 : pm_ob G s1 4) : pm_Run d 51 205 [.inr (.inr (.inl l0)), .inl l1, .inl l2] [.inl s0, .inr (.inr (.inl s1))] (G, M, T) K ↔ pm_Call d 53 [.inr (.inr (.inl s1)), .inl s0] (G, M, T) (fun r S1 => pm_Run d 51 208 [.inr (.inr (.inl l0)), .inl l1, .inl l2] (pm_push r []) S1 K) := by
  refine (px_v1 (idx := 63) (m' := 53) (ci := 4) (by decide +kernel)).trans ((and_iff_right ⟨h1, (by simp [pm_wl_n, pm_wl_c, pm_w] : pm_wl [] ≤ 8)⟩).trans ?_)
  exact Iff.rfl
theorem b51_208 {d : Nat} {G : PG} {M T : PH} {K : PV → PS → Prop} {l0 l1 l2 : Int} : pm_Run d 51 208 [.inr (.inr (.inl l0)), .inl l1, .inl l2] [] (G, M, T) K ↔ pm_Run d 51 249 [.inr (.inr (.inl l0)), .inl l1, .inl l2] [] (G, M, T) K := by
  refine (px_goto (off := 41) (tgt := 249) (by decide +kernel)).trans ?_
  exact Iff.rfl
theorem b51_211 {d : Nat} {G : PG} {M T : PH} {K : PV → PS → Prop} {l0 l1 l2 : Int} (h1 : pm_ob G l0 4) : pm_Run d 51 211 [.inr (.inr (.inl l0)), .inl l1, .inl l2] [] (G, M, T) K ↔ if pm_sg l2 ≤ 0 then pm_Run d 51 235 [.inr (.inr (.inl l0)), .inl l1, .inl l2] [.inr (.inr (.inl l0))] (G, pm_sa M l0.toNat (pm_up (M l0.toNat) 7 l2), T) K else pm_Run d 51 221 [.inr (.inr (.inl l0)), .inl l1, .inl l2] [.inr (.inr (.inl l0))] (G, pm_sa M l0.toNat (pm_up (M l0.toNat) 7 l2), T) K := by
  refine (px_go (by decide +kernel : pm_fe 51 211 = some (.aload_n 0, 1)) rfl).trans ?_
  refine (px_go (by decide +kernel : pm_fe 51 212 = some (.iload_n 2, 1)) rfl).trans ?_
  refine (px_put0 (idx := 56) (ci := 4) (k := 7) (by decide +kernel)).trans ((and_iff_right h1).trans ?_)
  refine (px_go (by decide +kernel : pm_fe 51 216 = some (.aload_n 0, 1)) rfl).trans ?_
  refine (px_go (by decide +kernel : pm_fe 51 217 = some (.iload_n 2, 1)) rfl).trans ?_
  refine (px_if_le (off := 17) (tgt := 235) (by decide +kernel)).trans ?_
  exact Iff.rfl
theorem b51_228 {d : Nat} {G : PG} {M T : PH} {K : PV → PS → Prop} {l0 l1 l2 s0 s1 : Int} : pm_Run d 51 228 [.inr (.inr (.inl l0)), .inl l1, .inl l2] [.inl s0, .inr (.inr (.inl s1))] (G, M, T) K ↔ if pm_sg s0 < 0 then pm_Run d 51 235 [.inr (.inr (.inl l0)), .inl l1, .inl l2] [.inr (.inr (.inl s1))] (G, M, T) K else pm_Run d 51 231 [.inr (.inr (.inl l0)), .inl l1, .inl l2] [.inr (.inr (.inl s1))] (G, M, T) K := by
  refine (px_if_lt (off := 7) (tgt := 235) (by decide +kernel)).trans ?_
  exact Iff.rfl
theorem b51_231 {d : Nat} {G : PG} {M T : PH} {K : PV → PS → Prop} {l0 l1 l2 s0 : Int} : pm_Run d 51 231 [.inr (.inr (.inl l0)), .inl l1, .inl l2] [.inr (.inr (.inl s0))] (G, M, T) K ↔ pm_Run d 51 236 [.inr (.inr (.inl l0)), .inl l1, .inl l2] [.inl 3, .inr (.inr (.inl s0))] (G, M, T) K := by
  refine (px_go (by decide +kernel : pm_fe 51 231 = some (.iconst 3, 1)) rfl).trans ?_
  refine (px_goto (off := 4) (tgt := 236) (by decide +kernel)).trans ?_
  exact Iff.rfl
theorem b51_235 {d : Nat} {G : PG} {M T : PH} {K : PV → PS → Prop} {l0 l1 l2 s0 : Int} : pm_Run d 51 235 [.inr (.inr (.inl l0)), .inl l1, .inl l2] [.inr (.inr (.inl s0))] (G, M, T) K ↔ pm_Run d 51 236 [.inr (.inr (.inl l0)), .inl l1, .inl l2] [.inl 4, .inr (.inr (.inl s0))] (G, M, T) K := by
  refine (px_go (by decide +kernel : pm_fe 51 235 = some (.iconst 4, 1)) rfl).trans ?_
  exact Iff.rfl
theorem b51_236 {d : Nat} {G : PG} {M T : PH} {K : PV → PS → Prop} {l0 l1 l2 s0 s1 : Int} (h1 : pm_ob G s1 4) (h2 : pm_ob G l0 4) : pm_Run d 51 236 [.inr (.inr (.inl l0)), .inl l1, .inl l2] [.inl s0, .inr (.inr (.inl s1))] (G, M, T) K ↔ pm_Run d 51 249 [.inr (.inr (.inl l0)), .inl l1, .inl l2] [] (G, pm_sa (pm_sa M s1.toNat (pm_up (M s1.toNat) 4 s0)) l0.toNat (pm_up ((pm_sa M s1.toNat (pm_up (M s1.toNat) 4 s0)) l0.toNat) 3 (((pm_sa M s1.toNat (pm_up (M s1.toNat) 4 s0)) l0.toNat 3) + 1)), T) K := by
  refine (px_put0 (idx := 44) (ci := 4) (k := 4) (by decide +kernel)).trans ((and_iff_right h1).trans ?_)
  refine (px_go (by decide +kernel : pm_fe 51 239 = some (.aload_n 0, 1)) rfl).trans ?_
  refine (px_go (by decide +kernel : pm_fe 51 240 = some (.dup, 1)) rfl).trans ?_
  refine (px_get0 (idx := 41) (ci := 4) (k := 3) (by decide +kernel)).trans ((and_iff_right h2).trans ?_)
  refine (px_go (by decide +kernel : pm_fe 51 244 = some (.iconst 1, 1)) rfl).trans ?_
  refine (px_go (by decide +kernel : pm_fe 51 245 = some (.iadd, 1)) rfl).trans ?_
  refine (px_put0 (idx := 41) (ci := 4) (k := 3) (by decide +kernel)).trans ((and_iff_right h2).trans ?_)
  exact Iff.rfl
theorem b51_249 {d : Nat} {G : PG} {M T : PH} {K : PV → PS → Prop} {l0 l1 l2 : Int} : pm_Run d 51 249 [.inr (.inr (.inl l0)), .inl l1, .inl l2] [] (G, M, T) K ↔ K PU (G, M, T) := by
  refine (px_rv (by decide +kernel)).trans ?_
  exact Iff.rfl
-- X4_takeWord takeWord(Z)V
theorem en52 {d : Nat} {a p0 : Int} {S : PS} {K : PV → PS → Prop} : pm_Call (d + 1) 52 [.inr (.inr (.inl a)), .inl p0] S K ↔ pm_Run d 52 0 [.inr (.inr (.inl a)), .inl p0, PU, PU] [] S K := pm_Call_s.trans (and_iff_right (show 2 ≤ pm_ml 52 from by decide +kernel))
theorem b52_0 {d : Nat} {G : PG} {M T : PH} {K : PV → PS → Prop} {l0 l1 : Int} (h1 : pm_ob G l0 4) : pm_Run d 52 0 [.inr (.inr (.inl l0)), .inl l1, PU, PU] [] (G, M, T) K ↔ if pm_sg (M l0.toNat 2) ≤ pm_sg (M l0.toNat 3) then pm_Run d 52 104 [.inr (.inr (.inl l0)), .inl l1, PU, PU] [] (G, M, T) K else pm_Run d 52 11 [.inr (.inr (.inl l0)), .inl l1, PU, PU] [] (G, M, T) K := by
  refine (px_go (by decide +kernel : pm_fe 52 0 = some (.aload_n 0, 1)) rfl).trans ?_
  refine (px_get0 (idx := 41) (ci := 4) (k := 3) (by decide +kernel)).trans ((and_iff_right h1).trans ?_)
  refine (px_go (by decide +kernel : pm_fe 52 4 = some (.aload_n 0, 1)) rfl).trans ?_
  refine (px_get0 (idx := 37) (ci := 4) (k := 2) (by decide +kernel)).trans ((and_iff_right h1).trans ?_)
  refine (px_ic_ge (off := 96) (tgt := 104) (by decide +kernel)).trans ?_
  exact Iff.rfl
theorem b52_11 {d : Nat} {G : PG} {M T : PH} {K : PV → PS → Prop} {l0 l1 : Int} (h1 : pm_ob G l0 4) (h2 : pm_ar G (T l0.toNat 1) 101 (M l0.toNat 3) ∨ pm_ar G (T l0.toNat 1) 102 (M l0.toNat 3)) : pm_Run d 52 11 [.inr (.inr (.inl l0)), .inl l1, PU, PU] [] (G, M, T) K ↔ if pm_sg (M (T l0.toNat 1).toNat (pm_sg (M l0.toNat 3)).toNat) < pm_sg 97 then pm_Run d 52 104 [.inr (.inr (.inl l0)), .inl l1, PU, PU] [] (G, M, T) K else pm_Run d 52 25 [.inr (.inr (.inl l0)), .inl l1, PU, PU] [] (G, M, T) K := by
  refine (px_go (by decide +kernel : pm_fe 52 11 = some (.aload_n 0, 1)) rfl).trans ?_
  refine (px_get2 (idx := 15) (ci := 4) (k := 1) (by decide +kernel)).trans ((and_iff_right h1).trans ?_)
  refine (px_go (by decide +kernel : pm_fe 52 15 = some (.aload_n 0, 1)) rfl).trans ?_
  refine (px_get0 (idx := 41) (ci := 4) (k := 3) (by decide +kernel)).trans ((and_iff_right h1).trans ?_)
  refine (px_baload (by decide +kernel)).trans ((and_iff_right h2).trans ?_)
  refine (px_go (by decide +kernel : pm_fe 52 20 = some (.bipush 97, 2)) rfl).trans ?_
  refine (px_ic_lt (off := 82) (tgt := 104) (by decide +kernel)).trans ?_
  exact Iff.rfl
theorem b52_25 {d : Nat} {G : PG} {M T : PH} {K : PV → PS → Prop} {l0 l1 : Int} (h1 : pm_ob G l0 4) (h2 : pm_ar G (T l0.toNat 1) 101 (M l0.toNat 3) ∨ pm_ar G (T l0.toNat 1) 102 (M l0.toNat 3)) : pm_Run d 52 25 [.inr (.inr (.inl l0)), .inl l1, PU, PU] [] (G, M, T) K ↔ if pm_sg 122 < pm_sg (M (T l0.toNat 1).toNat (pm_sg (M l0.toNat 3)).toNat) then pm_Run d 52 104 [.inr (.inr (.inl l0)), .inl l1, PU, PU] [] (G, M, T) K else pm_Run d 52 39 [.inr (.inr (.inl l0)), .inl l1, PU, PU] [] (G, M, T) K := by
  refine (px_go (by decide +kernel : pm_fe 52 25 = some (.aload_n 0, 1)) rfl).trans ?_
  refine (px_get2 (idx := 15) (ci := 4) (k := 1) (by decide +kernel)).trans ((and_iff_right h1).trans ?_)
  refine (px_go (by decide +kernel : pm_fe 52 29 = some (.aload_n 0, 1)) rfl).trans ?_
  refine (px_get0 (idx := 41) (ci := 4) (k := 3) (by decide +kernel)).trans ((and_iff_right h1).trans ?_)
  refine (px_baload (by decide +kernel)).trans ((and_iff_right h2).trans ?_)
  refine (px_go (by decide +kernel : pm_fe 52 34 = some (.bipush 122, 2)) rfl).trans ?_
  refine (px_ic_gt (off := 68) (tgt := 104) (by decide +kernel)).trans ?_
  exact Iff.rfl
theorem b52_39 {d : Nat} {G : PG} {M T : PH} {K : PV → PS → Prop} {l0 l1 : Int} (h1 : pm_ob G l0 4) : pm_Run d 52 39 [.inr (.inr (.inl l0)), .inl l1, PU, PU] [] (G, M, T) K ↔ if pm_sg 6 ≤ pm_sg ((M l0.toNat 3) - (M l0.toNat 5)) then pm_Run d 52 104 [.inr (.inr (.inl l0)), .inl l1, PU, PU] [] (G, M, T) K else pm_Run d 52 53 [.inr (.inr (.inl l0)), .inl l1, PU, PU] [] (G, M, T) K := by
  refine (px_go (by decide +kernel : pm_fe 52 39 = some (.aload_n 0, 1)) rfl).trans ?_
  refine (px_get0 (idx := 41) (ci := 4) (k := 3) (by decide +kernel)).trans ((and_iff_right h1).trans ?_)
  refine (px_go (by decide +kernel : pm_fe 52 43 = some (.aload_n 0, 1)) rfl).trans ?_
  refine (px_get0 (idx := 47) (ci := 4) (k := 5) (by decide +kernel)).trans ((and_iff_right h1).trans ?_)
  refine (px_go (by decide +kernel : pm_fe 52 47 = some (.isub, 1)) rfl).trans ?_
  refine (px_go (by decide +kernel : pm_fe 52 48 = some (.bipush 6, 2)) rfl).trans ?_
  refine (px_ic_ge (off := 54) (tgt := 104) (by decide +kernel)).trans ?_
  exact Iff.rfl
theorem b52_53 {d : Nat} {G : PG} {M T : PH} {K : PV → PS → Prop} {l0 l1 : Int} (h1 : pm_ob G l0 4) (h2 : pm_ar G (T l0.toNat 1) 101 (M l0.toNat 3) ∨ pm_ar G (T l0.toNat 1) 102 (M l0.toNat 3)) : pm_Run d 52 53 [.inr (.inr (.inl l0)), .inl l1, PU, PU] [] (G, M, T) K ↔ pm_Run d 52 101 [.inr (.inr (.inl l0)), .inl l1, PU, PU] [] (G, pm_sa (pm_sa M l0.toNat (pm_up (M l0.toNat) 7 (pm_or (M l0.toNat 7) (pm_shl (((M (T l0.toNat 1).toNat (pm_sg (M l0.toNat 3)).toNat) - 97) + 1) (25 - (5 * ((M l0.toNat 3) - (M l0.toNat 5)))))))) l0.toNat (pm_up ((pm_sa M l0.toNat (pm_up (M l0.toNat) 7 (pm_or (M l0.toNat 7) (pm_shl (((M (T l0.toNat 1).toNat (pm_sg (M l0.toNat 3)).toNat) - 97) + 1) (25 - (5 * ((M l0.toNat 3) - (M l0.toNat 5)))))))) l0.toNat) 3 (((pm_sa M l0.toNat (pm_up (M l0.toNat) 7 (pm_or (M l0.toNat 7) (pm_shl (((M (T l0.toNat 1).toNat (pm_sg (M l0.toNat 3)).toNat) - 97) + 1) (25 - (5 * ((M l0.toNat 3) - (M l0.toNat 5)))))))) l0.toNat 3) + 1)), T) K := by
  refine (px_go (by decide +kernel : pm_fe 52 53 = some (.aload_n 0, 1)) rfl).trans ?_
  refine (px_go (by decide +kernel : pm_fe 52 54 = some (.dup, 1)) rfl).trans ?_
  refine (px_get0 (idx := 56) (ci := 4) (k := 7) (by decide +kernel)).trans ((and_iff_right h1).trans ?_)
  refine (px_go (by decide +kernel : pm_fe 52 58 = some (.aload_n 0, 1)) rfl).trans ?_
  refine (px_get2 (idx := 15) (ci := 4) (k := 1) (by decide +kernel)).trans ((and_iff_right h1).trans ?_)
  refine (px_go (by decide +kernel : pm_fe 52 62 = some (.aload_n 0, 1)) rfl).trans ?_
  refine (px_get0 (idx := 41) (ci := 4) (k := 3) (by decide +kernel)).trans ((and_iff_right h1).trans ?_)
  refine (px_baload (by decide +kernel)).trans ((and_iff_right h2).trans ?_)
  refine (px_go (by decide +kernel : pm_fe 52 67 = some (.bipush 97, 2)) rfl).trans ?_
  refine (px_go (by decide +kernel : pm_fe 52 69 = some (.isub, 1)) rfl).trans ?_
  refine (px_go (by decide +kernel : pm_fe 52 70 = some (.iconst 1, 1)) rfl).trans ?_
  refine (px_go (by decide +kernel : pm_fe 52 71 = some (.iadd, 1)) rfl).trans ?_
  refine (px_go (by decide +kernel : pm_fe 52 72 = some (.bipush 25, 2)) rfl).trans ?_
  refine (px_go (by decide +kernel : pm_fe 52 74 = some (.iconst 5, 1)) rfl).trans ?_
  refine (px_go (by decide +kernel : pm_fe 52 75 = some (.aload_n 0, 1)) rfl).trans ?_
  refine (px_get0 (idx := 41) (ci := 4) (k := 3) (by decide +kernel)).trans ((and_iff_right h1).trans ?_)
  refine (px_go (by decide +kernel : pm_fe 52 79 = some (.aload_n 0, 1)) rfl).trans ?_
  refine (px_get0 (idx := 47) (ci := 4) (k := 5) (by decide +kernel)).trans ((and_iff_right h1).trans ?_)
  refine (px_go (by decide +kernel : pm_fe 52 83 = some (.isub, 1)) rfl).trans ?_
  refine (px_go (by decide +kernel : pm_fe 52 84 = some (.imul, 1)) rfl).trans ?_
  refine (px_go (by decide +kernel : pm_fe 52 85 = some (.isub, 1)) rfl).trans ?_
  refine (px_go (by decide +kernel : pm_fe 52 86 = some (.ishl, 1)) rfl).trans ?_
  refine (px_go (by decide +kernel : pm_fe 52 87 = some (.ior, 1)) rfl).trans ?_
  refine (px_put0 (idx := 56) (ci := 4) (k := 7) (by decide +kernel)).trans ((and_iff_right h1).trans ?_)
  refine (px_go (by decide +kernel : pm_fe 52 91 = some (.aload_n 0, 1)) rfl).trans ?_
  refine (px_go (by decide +kernel : pm_fe 52 92 = some (.dup, 1)) rfl).trans ?_
  refine (px_get0 (idx := 41) (ci := 4) (k := 3) (by decide +kernel)).trans ((and_iff_right h1).trans ?_)
  refine (px_go (by decide +kernel : pm_fe 52 96 = some (.iconst 1, 1)) rfl).trans ?_
  refine (px_go (by decide +kernel : pm_fe 52 97 = some (.iadd, 1)) rfl).trans ?_
  refine (px_put0 (idx := 41) (ci := 4) (k := 3) (by decide +kernel)).trans ((and_iff_right h1).trans ?_)
  exact Iff.rfl
theorem b52_101 {d : Nat} {G : PG} {M T : PH} {K : PV → PS → Prop} {l0 l1 : Int} : pm_Run d 52 101 [.inr (.inr (.inl l0)), .inl l1, PU, PU] [] (G, M, T) K ↔ pm_Run d 52 0 [.inr (.inr (.inl l0)), .inl l1, PU, PU] [] (G, M, T) K := by
  refine (px_goto (off := (-101)) (tgt := 0) (by decide +kernel)).trans ?_
  exact Iff.rfl
theorem b52_104 {d : Nat} {G : PG} {M T : PH} {K : PV → PS → Prop} {l0 l1 : Int} (h1 : pm_ob G l0 4) : pm_Run d 52 104 [.inr (.inr (.inl l0)), .inl l1, PU, PU] [] (G, M, T) K ↔ if pm_sg (M l0.toNat 2) ≤ pm_sg (M l0.toNat 3) then pm_Run d 52 147 [.inr (.inr (.inl l0)), .inl l1, PU, PU] [] (G, M, T) K else pm_Run d 52 115 [.inr (.inr (.inl l0)), .inl l1, PU, PU] [] (G, M, T) K := by
  refine (px_go (by decide +kernel : pm_fe 52 104 = some (.aload_n 0, 1)) rfl).trans ?_
  refine (px_get0 (idx := 41) (ci := 4) (k := 3) (by decide +kernel)).trans ((and_iff_right h1).trans ?_)
  refine (px_go (by decide +kernel : pm_fe 52 108 = some (.aload_n 0, 1)) rfl).trans ?_
  refine (px_get0 (idx := 37) (ci := 4) (k := 2) (by decide +kernel)).trans ((and_iff_right h1).trans ?_)
  refine (px_ic_ge (off := 35) (tgt := 147) (by decide +kernel)).trans ?_
  exact Iff.rfl
theorem b52_115 {d : Nat} {G : PG} {M T : PH} {K : PV → PS → Prop} {l0 l1 : Int} (h1 : pm_ob G l0 4) (h2 : pm_ar G (T l0.toNat 1) 101 (M l0.toNat 3) ∨ pm_ar G (T l0.toNat 1) 102 (M l0.toNat 3)) : pm_Run d 52 115 [.inr (.inr (.inl l0)), .inl l1, PU, PU] [] (G, M, T) K ↔ if pm_sg (M (T l0.toNat 1).toNat (pm_sg (M l0.toNat 3)).toNat) < pm_sg 97 then pm_Run d 52 147 [.inr (.inr (.inl l0)), .inl l1, PU, PU] [] (G, M, T) K else pm_Run d 52 129 [.inr (.inr (.inl l0)), .inl l1, PU, PU] [] (G, M, T) K := by
  refine (px_go (by decide +kernel : pm_fe 52 115 = some (.aload_n 0, 1)) rfl).trans ?_
  refine (px_get2 (idx := 15) (ci := 4) (k := 1) (by decide +kernel)).trans ((and_iff_right h1).trans ?_)
  refine (px_go (by decide +kernel : pm_fe 52 119 = some (.aload_n 0, 1)) rfl).trans ?_
  refine (px_get0 (idx := 41) (ci := 4) (k := 3) (by decide +kernel)).trans ((and_iff_right h1).trans ?_)
  refine (px_baload (by decide +kernel)).trans ((and_iff_right h2).trans ?_)
  refine (px_go (by decide +kernel : pm_fe 52 124 = some (.bipush 97, 2)) rfl).trans ?_
  refine (px_ic_lt (off := 21) (tgt := 147) (by decide +kernel)).trans ?_
  exact Iff.rfl
theorem b52_129 {d : Nat} {G : PG} {M T : PH} {K : PV → PS → Prop} {l0 l1 : Int} (h1 : pm_ob G l0 4) (h2 : pm_ar G (T l0.toNat 1) 101 (M l0.toNat 3) ∨ pm_ar G (T l0.toNat 1) 102 (M l0.toNat 3)) : pm_Run d 52 129 [.inr (.inr (.inl l0)), .inl l1, PU, PU] [] (G, M, T) K ↔ if pm_sg 122 < pm_sg (M (T l0.toNat 1).toNat (pm_sg (M l0.toNat 3)).toNat) then pm_Run d 52 147 [.inr (.inr (.inl l0)), .inl l1, PU, PU] [] (G, M, T) K else pm_Run d 52 143 [.inr (.inr (.inl l0)), .inl l1, PU, PU] [] (G, M, T) K := by
  refine (px_go (by decide +kernel : pm_fe 52 129 = some (.aload_n 0, 1)) rfl).trans ?_
  refine (px_get2 (idx := 15) (ci := 4) (k := 1) (by decide +kernel)).trans ((and_iff_right h1).trans ?_)
  refine (px_go (by decide +kernel : pm_fe 52 133 = some (.aload_n 0, 1)) rfl).trans ?_
  refine (px_get0 (idx := 41) (ci := 4) (k := 3) (by decide +kernel)).trans ((and_iff_right h1).trans ?_)
  refine (px_baload (by decide +kernel)).trans ((and_iff_right h2).trans ?_)
  refine (px_go (by decide +kernel : pm_fe 52 138 = some (.bipush 122, 2)) rfl).trans ?_
  refine (px_ic_gt (off := 7) (tgt := 147) (by decide +kernel)).trans ?_
  exact Iff.rfl
theorem b52_143 {d : Nat} {G : PG} {M T : PH} {K : PV → PS → Prop} {l0 l1 : Int} : pm_Run d 52 143 [.inr (.inr (.inl l0)), .inl l1, PU, PU] [] (G, M, T) K ↔ pm_Run d 52 148 [.inr (.inr (.inl l0)), .inl l1, PU, PU] [.inl 1] (G, M, T) K := by
  refine (px_go (by decide +kernel : pm_fe 52 143 = some (.iconst 1, 1)) rfl).trans ?_
  refine (px_goto (off := 4) (tgt := 148) (by decide +kernel)).trans ?_
  exact Iff.rfl
theorem b52_147 {d : Nat} {G : PG} {M T : PH} {K : PV → PS → Prop} {l0 l1 : Int} : pm_Run d 52 147 [.inr (.inr (.inl l0)), .inl l1, PU, PU] [] (G, M, T) K ↔ pm_Run d 52 148 [.inr (.inr (.inl l0)), .inl l1, PU, PU] [.inl 0] (G, M, T) K := by
  refine (px_go (by decide +kernel : pm_fe 52 147 = some (.iconst 0, 1)) rfl).trans ?_
  exact Iff.rfl
theorem b52_148 {d : Nat} {G : PG} {M T : PH} {K : PV → PS → Prop} {l0 l1 s0 : Int} : pm_Run d 52 148 [.inr (.inr (.inl l0)), .inl l1, PU, PU] [.inl s0] (G, M, T) K ↔ if pm_sg l1 ≠ 0 then pm_Run d 52 158 [.inr (.inr (.inl l0)), .inl l1, .inl s0, PU] [.inr (.inr (.inl l0))] (G, M, T) K else pm_Run d 52 154 [.inr (.inr (.inl l0)), .inl l1, .inl s0, PU] [.inr (.inr (.inl l0))] (G, M, T) K := by
  refine (px_go (by decide +kernel : pm_fe 52 148 = some (.istore_n 2, 1)) rfl).trans ?_
  refine (px_go (by decide +kernel : pm_fe 52 149 = some (.aload_n 0, 1)) rfl).trans ?_
  refine (px_go (by decide +kernel : pm_fe 52 150 = some (.iload_n 1, 1)) rfl).trans ?_
  refine (px_if_ne (off := 7) (tgt := 158) (by decide +kernel)).trans ?_
  exact Iff.rfl
theorem b52_154 {d : Nat} {G : PG} {M T : PH} {K : PV → PS → Prop} {l0 l1 l2 s0 : Int} : pm_Run d 52 154 [.inr (.inr (.inl l0)), .inl l1, .inl l2, PU] [.inr (.inr (.inl s0))] (G, M, T) K ↔ if pm_sg l2 = 0 then pm_Run d 52 162 [.inr (.inr (.inl l0)), .inl l1, .inl l2, PU] [.inr (.inr (.inl s0))] (G, M, T) K else pm_Run d 52 158 [.inr (.inr (.inl l0)), .inl l1, .inl l2, PU] [.inr (.inr (.inl s0))] (G, M, T) K := by
  refine (px_go (by decide +kernel : pm_fe 52 154 = some (.iload_n 2, 1)) rfl).trans ?_
  refine (px_if_eq (off := 7) (tgt := 162) (by decide +kernel)).trans ?_
  exact Iff.rfl
theorem b52_158 {d : Nat} {G : PG} {M T : PH} {K : PV → PS → Prop} {l0 l1 l2 s0 : Int} : pm_Run d 52 158 [.inr (.inr (.inl l0)), .inl l1, .inl l2, PU] [.inr (.inr (.inl s0))] (G, M, T) K ↔ pm_Run d 52 163 [.inr (.inr (.inl l0)), .inl l1, .inl l2, PU] [.inl 4, .inr (.inr (.inl s0))] (G, M, T) K := by
  refine (px_go (by decide +kernel : pm_fe 52 158 = some (.iconst 4, 1)) rfl).trans ?_
  refine (px_goto (off := 4) (tgt := 163) (by decide +kernel)).trans ?_
  exact Iff.rfl
theorem b52_162 {d : Nat} {G : PG} {M T : PH} {K : PV → PS → Prop} {l0 l1 l2 s0 : Int} : pm_Run d 52 162 [.inr (.inr (.inl l0)), .inl l1, .inl l2, PU] [.inr (.inr (.inl s0))] (G, M, T) K ↔ pm_Run d 52 163 [.inr (.inr (.inl l0)), .inl l1, .inl l2, PU] [.inl 1, .inr (.inr (.inl s0))] (G, M, T) K := by
  refine (px_go (by decide +kernel : pm_fe 52 162 = some (.iconst 1, 1)) rfl).trans ?_
  exact Iff.rfl
theorem b52_163 {d : Nat} {G : PG} {M T : PH} {K : PV → PS → Prop} {l0 l1 l2 s0 s1 : Int} (h1 : pm_ob G s1 4) : pm_Run d 52 163 [.inr (.inr (.inl l0)), .inl l1, .inl l2, PU] [.inl s0, .inr (.inr (.inl s1))] (G, M, T) K ↔ if pm_sg l2 = 0 then pm_Run d 52 182 [.inr (.inr (.inl l0)), .inl l1, .inl l2, PU] [.inr (.inr (.inl l0))] (G, pm_sa M s1.toNat (pm_up (M s1.toNat) 4 s0), T) K else pm_Run d 52 171 [.inr (.inr (.inl l0)), .inl l1, .inl l2, PU] [.inr (.inr (.inl l0))] (G, pm_sa M s1.toNat (pm_up (M s1.toNat) 4 s0), T) K := by
  refine (px_put0 (idx := 44) (ci := 4) (k := 4) (by decide +kernel)).trans ((and_iff_right h1).trans ?_)
  refine (px_go (by decide +kernel : pm_fe 52 166 = some (.aload_n 0, 1)) rfl).trans ?_
  refine (px_go (by decide +kernel : pm_fe 52 167 = some (.iload_n 2, 1)) rfl).trans ?_
  refine (px_if_eq (off := 14) (tgt := 182) (by decide +kernel)).trans ?_
  exact Iff.rfl
theorem b52_171 {d : Nat} {G : PG} {M T : PH} {K : PV → PS → Prop} {l0 l1 l2 s0 : Int} : pm_Run d 52 171 [.inr (.inr (.inl l0)), .inl l1, .inl l2, PU] [.inr (.inr (.inl s0))] (G, M, T) K ↔ if pm_sg l1 ≠ 0 then pm_Run d 52 182 [.inr (.inr (.inl l0)), .inl l1, .inl l2, PU] [.inr (.inr (.inl s0))] (G, M, T) K else pm_Run d 52 175 [.inr (.inr (.inl l0)), .inl l1, .inl l2, PU] [.inr (.inr (.inl s0))] (G, M, T) K := by
  refine (px_go (by decide +kernel : pm_fe 52 171 = some (.iload_n 1, 1)) rfl).trans ?_
  refine (px_if_ne (off := 10) (tgt := 182) (by decide +kernel)).trans ?_
  exact Iff.rfl
theorem b52_175 {d : Nat} {G : PG} {M T : PH} {K : PV → PS → Prop} {l0 l1 l2 s0 : Int} (h1 : pm_ob G l0 4) : pm_Run d 52 175 [.inr (.inr (.inl l0)), .inl l1, .inl l2, PU] [.inr (.inr (.inl s0))] (G, M, T) K ↔ pm_Run d 52 186 [.inr (.inr (.inl l0)), .inl l1, .inl l2, PU] [.inl (M l0.toNat 3), .inr (.inr (.inl s0))] (G, M, T) K := by
  refine (px_go (by decide +kernel : pm_fe 52 175 = some (.aload_n 0, 1)) rfl).trans ?_
  refine (px_get0 (idx := 41) (ci := 4) (k := 3) (by decide +kernel)).trans ((and_iff_right h1).trans ?_)
  refine (px_goto (off := 7) (tgt := 186) (by decide +kernel)).trans ?_
  exact Iff.rfl
theorem b52_182 {d : Nat} {G : PG} {M T : PH} {K : PV → PS → Prop} {l0 l1 l2 s0 : Int} (h1 : pm_ob G l0 4) : pm_Run d 52 182 [.inr (.inr (.inl l0)), .inl l1, .inl l2, PU] [.inr (.inr (.inl s0))] (G, M, T) K ↔ pm_Run d 52 186 [.inr (.inr (.inl l0)), .inl l1, .inl l2, PU] [.inl (M l0.toNat 5), .inr (.inr (.inl s0))] (G, M, T) K := by
  refine (px_go (by decide +kernel : pm_fe 52 182 = some (.aload_n 0, 1)) rfl).trans ?_
  refine (px_get0 (idx := 47) (ci := 4) (k := 5) (by decide +kernel)).trans ((and_iff_right h1).trans ?_)
  exact Iff.rfl
theorem b52_186 {d : Nat} {G : PG} {M T : PH} {K : PV → PS → Prop} {l0 l1 l2 s0 s1 : Int} (h1 : pm_ob G s1 4) : pm_Run d 52 186 [.inr (.inr (.inl l0)), .inl l1, .inl l2, PU] [.inl s0, .inr (.inr (.inl s1))] (G, M, T) K ↔ pm_Run d 52 191 [.inr (.inr (.inl l0)), .inl l1, .inl l2, .inl 0] [] (G, pm_sa M s1.toNat (pm_up (M s1.toNat) 6 s0), T) K := by
  refine (px_put0 (idx := 50) (ci := 4) (k := 6) (by decide +kernel)).trans ((and_iff_right h1).trans ?_)
  refine (px_go (by decide +kernel : pm_fe 52 189 = some (.iconst 0, 1)) rfl).trans ?_
  refine (px_go (by decide +kernel : pm_fe 52 190 = some (.istore_n 3, 1)) rfl).trans ?_
  exact Iff.rfl
theorem b52_191 {d : Nat} {G : PG} {M T : PH} {K : PV → PS → Prop} {l0 l1 l2 l3 : Int} : pm_Run d 52 191 [.inr (.inr (.inl l0)), .inl l1, .inl l2, .inl l3] [] (G, M, T) K ↔ if pm_sg 29 ≤ pm_sg l3 then pm_Run d 52 229 [.inr (.inr (.inl l0)), .inl l1, .inl l2, .inl l3] [] (G, M, T) K else pm_Run d 52 197 [.inr (.inr (.inl l0)), .inl l1, .inl l2, .inl l3] [] (G, M, T) K := by
  refine (px_go (by decide +kernel : pm_fe 52 191 = some (.iload_n 3, 1)) rfl).trans ?_
  refine (px_go (by decide +kernel : pm_fe 52 192 = some (.bipush 29, 2)) rfl).trans ?_
  refine (px_ic_ge (off := 35) (tgt := 229) (by decide +kernel)).trans ?_
  exact Iff.rfl
theorem b52_197 {d : Nat} {G : PG} {M T : PH} {K : PV → PS → Prop} {l0 l1 l2 l3 : Int} (h1 : pm_ob G l0 4) : pm_Run d 52 197 [.inr (.inr (.inl l0)), .inl l1, .inl l2, .inl l3] [] (G, M, T) K ↔ if pm_sg (M l0.toNat 8) ≠ pm_sg (-1) then pm_Run d 52 229 [.inr (.inr (.inl l0)), .inl l1, .inl l2, .inl l3] [] (G, M, T) K else pm_Run d 52 205 [.inr (.inr (.inl l0)), .inl l1, .inl l2, .inl l3] [] (G, M, T) K := by
  refine (px_go (by decide +kernel : pm_fe 52 197 = some (.aload_n 0, 1)) rfl).trans ?_
  refine (px_get0 (idx := 53) (ci := 4) (k := 8) (by decide +kernel)).trans ((and_iff_right h1).trans ?_)
  refine (px_go (by decide +kernel : pm_fe 52 201 = some (.iconst (-1), 1)) rfl).trans ?_
  refine (px_ic_ne (off := 27) (tgt := 229) (by decide +kernel)).trans ?_
  exact Iff.rfl
theorem b52_205 {d : Nat} {G : PG} {M T : PH} {K : PV → PS → Prop} {l0 l1 l2 l3 : Int} (h1 : pm_ob G l0 4) (h2 : pm_ar G (T l0.toNat 0) 100 l3) : pm_Run d 52 205 [.inr (.inr (.inl l0)), .inl l1, .inl l2, .inl l3] [] (G, M, T) K ↔ if pm_sg (M (T l0.toNat 0).toNat (pm_sg l3).toNat) ≠ pm_sg (M l0.toNat 7) then pm_Run d 52 223 [.inr (.inr (.inl l0)), .inl l1, .inl l2, .inl l3] [] (G, M, T) K else pm_Run d 52 218 [.inr (.inr (.inl l0)), .inl l1, .inl l2, .inl l3] [] (G, M, T) K := by
  refine (px_go (by decide +kernel : pm_fe 52 205 = some (.aload_n 0, 1)) rfl).trans ?_
  refine (px_get2 (idx := 9) (ci := 4) (k := 0) (by decide +kernel)).trans ((and_iff_right h1).trans ?_)
  refine (px_go (by decide +kernel : pm_fe 52 209 = some (.iload_n 3, 1)) rfl).trans ?_
  refine (px_iaload (by decide +kernel) h2).trans ?_
  refine (px_go (by decide +kernel : pm_fe 52 211 = some (.aload_n 0, 1)) rfl).trans ?_
  refine (px_get0 (idx := 56) (ci := 4) (k := 7) (by decide +kernel)).trans ((and_iff_right h1).trans ?_)
  refine (px_ic_ne (off := 8) (tgt := 223) (by decide +kernel)).trans ?_
  exact Iff.rfl
theorem b52_218 {d : Nat} {G : PG} {M T : PH} {K : PV → PS → Prop} {l0 l1 l2 l3 : Int} (h1 : pm_ob G l0 4) : pm_Run d 52 218 [.inr (.inr (.inl l0)), .inl l1, .inl l2, .inl l3] [] (G, M, T) K ↔ pm_Run d 52 223 [.inr (.inr (.inl l0)), .inl l1, .inl l2, .inl l3] [] (G, pm_sa M l0.toNat (pm_up (M l0.toNat) 8 l3), T) K := by
  refine (px_go (by decide +kernel : pm_fe 52 218 = some (.aload_n 0, 1)) rfl).trans ?_
  refine (px_go (by decide +kernel : pm_fe 52 219 = some (.iload_n 3, 1)) rfl).trans ?_
  refine (px_put0 (idx := 53) (ci := 4) (k := 8) (by decide +kernel)).trans ((and_iff_right h1).trans ?_)
  exact Iff.rfl
theorem b52_223 {d : Nat} {G : PG} {M T : PH} {K : PV → PS → Prop} {l0 l1 l2 l3 : Int} : pm_Run d 52 223 [.inr (.inr (.inl l0)), .inl l1, .inl l2, .inl l3] [] (G, M, T) K ↔ pm_Run d 52 191 [.inr (.inr (.inl l0)), .inl l1, .inl l2, .inl (l3 + 1)] [] (G, M, T) K := by
  refine (px_go (by decide +kernel : pm_fe 52 223 = some (.iinc 3 1, 3)) rfl).trans ?_
  refine (px_goto (off := (-35)) (tgt := 191) (by decide +kernel)).trans ?_
  exact Iff.rfl
theorem b52_229 {d : Nat} {G : PG} {M T : PH} {K : PV → PS → Prop} {l0 l1 l2 l3 : Int} : pm_Run d 52 229 [.inr (.inr (.inl l0)), .inl l1, .inl l2, .inl l3] [] (G, M, T) K ↔ K PU (G, M, T) := by
  refine (px_rv (by decide +kernel)).trans ?_
  exact Iff.rfl
-- X4_takeNumber takeNumber(Z)V
theorem en53 {d : Nat} {a p0 : Int} {S : PS} {K : PV → PS → Prop} : pm_Call (d + 1) 53 [.inr (.inr (.inl a)), .inl p0] S K ↔ pm_Run d 53 0 [.inr (.inr (.inl a)), .inl p0, PU] [] S K := pm_Call_s.trans (and_iff_right (show 2 ≤ pm_ml 53 from by decide +kernel))
theorem b53_0 {d : Nat} {G : PG} {M T : PH} {K : PV → PS → Prop} {l0 l1 : Int} (h1 : pm_ob G l0 4) : pm_Run d 53 0 [.inr (.inr (.inl l0)), .inl l1, PU] [] (G, M, T) K ↔ if pm_sg (M l0.toNat 2) ≤ pm_sg (M l0.toNat 3) then pm_Run d 53 89 [.inr (.inr (.inl l0)), .inl l1, PU] [] (G, M, T) K else pm_Run d 53 11 [.inr (.inr (.inl l0)), .inl l1, PU] [] (G, M, T) K := by
  refine (px_go (by decide +kernel : pm_fe 53 0 = some (.aload_n 0, 1)) rfl).trans ?_
  refine (px_get0 (idx := 41) (ci := 4) (k := 3) (by decide +kernel)).trans ((and_iff_right h1).trans ?_)
  refine (px_go (by decide +kernel : pm_fe 53 4 = some (.aload_n 0, 1)) rfl).trans ?_
  refine (px_get0 (idx := 37) (ci := 4) (k := 2) (by decide +kernel)).trans ((and_iff_right h1).trans ?_)
  refine (px_ic_ge (off := 81) (tgt := 89) (by decide +kernel)).trans ?_
  exact Iff.rfl
theorem b53_11 {d : Nat} {G : PG} {M T : PH} {K : PV → PS → Prop} {l0 l1 : Int} (h1 : pm_ob G l0 4) (h2 : pm_ar G (T l0.toNat 1) 101 (M l0.toNat 3) ∨ pm_ar G (T l0.toNat 1) 102 (M l0.toNat 3)) : pm_Run d 53 11 [.inr (.inr (.inl l0)), .inl l1, PU] [] (G, M, T) K ↔ if pm_sg (M (T l0.toNat 1).toNat (pm_sg (M l0.toNat 3)).toNat) < pm_sg 48 then pm_Run d 53 89 [.inr (.inr (.inl l0)), .inl l1, PU] [] (G, M, T) K else pm_Run d 53 25 [.inr (.inr (.inl l0)), .inl l1, PU] [] (G, M, T) K := by
  refine (px_go (by decide +kernel : pm_fe 53 11 = some (.aload_n 0, 1)) rfl).trans ?_
  refine (px_get2 (idx := 15) (ci := 4) (k := 1) (by decide +kernel)).trans ((and_iff_right h1).trans ?_)
  refine (px_go (by decide +kernel : pm_fe 53 15 = some (.aload_n 0, 1)) rfl).trans ?_
  refine (px_get0 (idx := 41) (ci := 4) (k := 3) (by decide +kernel)).trans ((and_iff_right h1).trans ?_)
  refine (px_baload (by decide +kernel)).trans ((and_iff_right h2).trans ?_)
  refine (px_go (by decide +kernel : pm_fe 53 20 = some (.bipush 48, 2)) rfl).trans ?_
  refine (px_ic_lt (off := 67) (tgt := 89) (by decide +kernel)).trans ?_
  exact Iff.rfl
theorem b53_25 {d : Nat} {G : PG} {M T : PH} {K : PV → PS → Prop} {l0 l1 : Int} (h1 : pm_ob G l0 4) (h2 : pm_ar G (T l0.toNat 1) 101 (M l0.toNat 3) ∨ pm_ar G (T l0.toNat 1) 102 (M l0.toNat 3)) : pm_Run d 53 25 [.inr (.inr (.inl l0)), .inl l1, PU] [] (G, M, T) K ↔ if pm_sg 57 < pm_sg (M (T l0.toNat 1).toNat (pm_sg (M l0.toNat 3)).toNat) then pm_Run d 53 89 [.inr (.inr (.inl l0)), .inl l1, PU] [] (G, M, T) K else pm_Run d 53 39 [.inr (.inr (.inl l0)), .inl l1, PU] [] (G, M, T) K := by
  refine (px_go (by decide +kernel : pm_fe 53 25 = some (.aload_n 0, 1)) rfl).trans ?_
  refine (px_get2 (idx := 15) (ci := 4) (k := 1) (by decide +kernel)).trans ((and_iff_right h1).trans ?_)
  refine (px_go (by decide +kernel : pm_fe 53 29 = some (.aload_n 0, 1)) rfl).trans ?_
  refine (px_get0 (idx := 41) (ci := 4) (k := 3) (by decide +kernel)).trans ((and_iff_right h1).trans ?_)
  refine (px_baload (by decide +kernel)).trans ((and_iff_right h2).trans ?_)
  refine (px_go (by decide +kernel : pm_fe 53 34 = some (.bipush 57, 2)) rfl).trans ?_
  refine (px_ic_gt (off := 53) (tgt := 89) (by decide +kernel)).trans ?_
  exact Iff.rfl
theorem b53_39 {d : Nat} {G : PG} {M T : PH} {K : PV → PS → Prop} {l0 l1 : Int} (h1 : pm_ob G l0 4) : pm_Run d 53 39 [.inr (.inr (.inl l0)), .inl l1, PU] [] (G, M, T) K ↔ if pm_sg 4 ≤ pm_sg ((M l0.toNat 3) - (M l0.toNat 5)) then pm_Run d 53 89 [.inr (.inr (.inl l0)), .inl l1, PU] [] (G, M, T) K else pm_Run d 53 52 [.inr (.inr (.inl l0)), .inl l1, PU] [] (G, M, T) K := by
  refine (px_go (by decide +kernel : pm_fe 53 39 = some (.aload_n 0, 1)) rfl).trans ?_
  refine (px_get0 (idx := 41) (ci := 4) (k := 3) (by decide +kernel)).trans ((and_iff_right h1).trans ?_)
  refine (px_go (by decide +kernel : pm_fe 53 43 = some (.aload_n 0, 1)) rfl).trans ?_
  refine (px_get0 (idx := 47) (ci := 4) (k := 5) (by decide +kernel)).trans ((and_iff_right h1).trans ?_)
  refine (px_go (by decide +kernel : pm_fe 53 47 = some (.isub, 1)) rfl).trans ?_
  refine (px_go (by decide +kernel : pm_fe 53 48 = some (.iconst 4, 1)) rfl).trans ?_
  refine (px_ic_ge (off := 40) (tgt := 89) (by decide +kernel)).trans ?_
  exact Iff.rfl
theorem b53_52 {d : Nat} {G : PG} {M T : PH} {K : PV → PS → Prop} {l0 l1 : Int} (h1 : pm_ob G l0 4) (h2 : pm_ar G (T l0.toNat 1) 101 (M l0.toNat 3) ∨ pm_ar G (T l0.toNat 1) 102 (M l0.toNat 3)) : pm_Run d 53 52 [.inr (.inr (.inl l0)), .inl l1, PU] [] (G, M, T) K ↔ pm_Run d 53 86 [.inr (.inr (.inl l0)), .inl l1, PU] [] (G, pm_sa (pm_sa M l0.toNat (pm_up (M l0.toNat) 7 ((((M l0.toNat 7) * 10) + (M (T l0.toNat 1).toNat (pm_sg (M l0.toNat 3)).toNat)) - 48))) l0.toNat (pm_up ((pm_sa M l0.toNat (pm_up (M l0.toNat) 7 ((((M l0.toNat 7) * 10) + (M (T l0.toNat 1).toNat (pm_sg (M l0.toNat 3)).toNat)) - 48))) l0.toNat) 3 (((pm_sa M l0.toNat (pm_up (M l0.toNat) 7 ((((M l0.toNat 7) * 10) + (M (T l0.toNat 1).toNat (pm_sg (M l0.toNat 3)).toNat)) - 48))) l0.toNat 3) + 1)), T) K := by
  refine (px_go (by decide +kernel : pm_fe 53 52 = some (.aload_n 0, 1)) rfl).trans ?_
  refine (px_go (by decide +kernel : pm_fe 53 53 = some (.aload_n 0, 1)) rfl).trans ?_
  refine (px_get0 (idx := 56) (ci := 4) (k := 7) (by decide +kernel)).trans ((and_iff_right h1).trans ?_)
  refine (px_go (by decide +kernel : pm_fe 53 57 = some (.bipush 10, 2)) rfl).trans ?_
  refine (px_go (by decide +kernel : pm_fe 53 59 = some (.imul, 1)) rfl).trans ?_
  refine (px_go (by decide +kernel : pm_fe 53 60 = some (.aload_n 0, 1)) rfl).trans ?_
  refine (px_get2 (idx := 15) (ci := 4) (k := 1) (by decide +kernel)).trans ((and_iff_right h1).trans ?_)
  refine (px_go (by decide +kernel : pm_fe 53 64 = some (.aload_n 0, 1)) rfl).trans ?_
  refine (px_get0 (idx := 41) (ci := 4) (k := 3) (by decide +kernel)).trans ((and_iff_right h1).trans ?_)
  refine (px_baload (by decide +kernel)).trans ((and_iff_right h2).trans ?_)
  refine (px_go (by decide +kernel : pm_fe 53 69 = some (.iadd, 1)) rfl).trans ?_
  refine (px_go (by decide +kernel : pm_fe 53 70 = some (.bipush 48, 2)) rfl).trans ?_
  refine (px_go (by decide +kernel : pm_fe 53 72 = some (.isub, 1)) rfl).trans ?_
  refine (px_put0 (idx := 56) (ci := 4) (k := 7) (by decide +kernel)).trans ((and_iff_right h1).trans ?_)
  refine (px_go (by decide +kernel : pm_fe 53 76 = some (.aload_n 0, 1)) rfl).trans ?_
  refine (px_go (by decide +kernel : pm_fe 53 77 = some (.dup, 1)) rfl).trans ?_
  refine (px_get0 (idx := 41) (ci := 4) (k := 3) (by decide +kernel)).trans ((and_iff_right h1).trans ?_)
  refine (px_go (by decide +kernel : pm_fe 53 81 = some (.iconst 1, 1)) rfl).trans ?_
  refine (px_go (by decide +kernel : pm_fe 53 82 = some (.iadd, 1)) rfl).trans ?_
  refine (px_put0 (idx := 41) (ci := 4) (k := 3) (by decide +kernel)).trans ((and_iff_right h1).trans ?_)
  exact Iff.rfl
theorem b53_86 {d : Nat} {G : PG} {M T : PH} {K : PV → PS → Prop} {l0 l1 : Int} : pm_Run d 53 86 [.inr (.inr (.inl l0)), .inl l1, PU] [] (G, M, T) K ↔ pm_Run d 53 0 [.inr (.inr (.inl l0)), .inl l1, PU] [] (G, M, T) K := by
  refine (px_goto (off := (-86)) (tgt := 0) (by decide +kernel)).trans ?_
  exact Iff.rfl
theorem b53_89 {d : Nat} {G : PG} {M T : PH} {K : PV → PS → Prop} {l0 l1 : Int} (h1 : pm_ob G l0 4) : pm_Run d 53 89 [.inr (.inr (.inl l0)), .inl l1, PU] [] (G, M, T) K ↔ if pm_sg (M l0.toNat 2) ≤ pm_sg (M l0.toNat 3) then pm_Run d 53 132 [.inr (.inr (.inl l0)), .inl l1, PU] [] (G, M, T) K else pm_Run d 53 100 [.inr (.inr (.inl l0)), .inl l1, PU] [] (G, M, T) K := by
  refine (px_go (by decide +kernel : pm_fe 53 89 = some (.aload_n 0, 1)) rfl).trans ?_
  refine (px_get0 (idx := 41) (ci := 4) (k := 3) (by decide +kernel)).trans ((and_iff_right h1).trans ?_)
  refine (px_go (by decide +kernel : pm_fe 53 93 = some (.aload_n 0, 1)) rfl).trans ?_
  refine (px_get0 (idx := 37) (ci := 4) (k := 2) (by decide +kernel)).trans ((and_iff_right h1).trans ?_)
  refine (px_ic_ge (off := 35) (tgt := 132) (by decide +kernel)).trans ?_
  exact Iff.rfl
theorem b53_100 {d : Nat} {G : PG} {M T : PH} {K : PV → PS → Prop} {l0 l1 : Int} (h1 : pm_ob G l0 4) (h2 : pm_ar G (T l0.toNat 1) 101 (M l0.toNat 3) ∨ pm_ar G (T l0.toNat 1) 102 (M l0.toNat 3)) : pm_Run d 53 100 [.inr (.inr (.inl l0)), .inl l1, PU] [] (G, M, T) K ↔ if pm_sg (M (T l0.toNat 1).toNat (pm_sg (M l0.toNat 3)).toNat) < pm_sg 48 then pm_Run d 53 132 [.inr (.inr (.inl l0)), .inl l1, PU] [] (G, M, T) K else pm_Run d 53 114 [.inr (.inr (.inl l0)), .inl l1, PU] [] (G, M, T) K := by
  refine (px_go (by decide +kernel : pm_fe 53 100 = some (.aload_n 0, 1)) rfl).trans ?_
  refine (px_get2 (idx := 15) (ci := 4) (k := 1) (by decide +kernel)).trans ((and_iff_right h1).trans ?_)
  refine (px_go (by decide +kernel : pm_fe 53 104 = some (.aload_n 0, 1)) rfl).trans ?_
  refine (px_get0 (idx := 41) (ci := 4) (k := 3) (by decide +kernel)).trans ((and_iff_right h1).trans ?_)
  refine (px_baload (by decide +kernel)).trans ((and_iff_right h2).trans ?_)
  refine (px_go (by decide +kernel : pm_fe 53 109 = some (.bipush 48, 2)) rfl).trans ?_
  refine (px_ic_lt (off := 21) (tgt := 132) (by decide +kernel)).trans ?_
  exact Iff.rfl
theorem b53_114 {d : Nat} {G : PG} {M T : PH} {K : PV → PS → Prop} {l0 l1 : Int} (h1 : pm_ob G l0 4) (h2 : pm_ar G (T l0.toNat 1) 101 (M l0.toNat 3) ∨ pm_ar G (T l0.toNat 1) 102 (M l0.toNat 3)) : pm_Run d 53 114 [.inr (.inr (.inl l0)), .inl l1, PU] [] (G, M, T) K ↔ if pm_sg 57 < pm_sg (M (T l0.toNat 1).toNat (pm_sg (M l0.toNat 3)).toNat) then pm_Run d 53 132 [.inr (.inr (.inl l0)), .inl l1, PU] [] (G, M, T) K else pm_Run d 53 128 [.inr (.inr (.inl l0)), .inl l1, PU] [] (G, M, T) K := by
  refine (px_go (by decide +kernel : pm_fe 53 114 = some (.aload_n 0, 1)) rfl).trans ?_
  refine (px_get2 (idx := 15) (ci := 4) (k := 1) (by decide +kernel)).trans ((and_iff_right h1).trans ?_)
  refine (px_go (by decide +kernel : pm_fe 53 118 = some (.aload_n 0, 1)) rfl).trans ?_
  refine (px_get0 (idx := 41) (ci := 4) (k := 3) (by decide +kernel)).trans ((and_iff_right h1).trans ?_)
  refine (px_baload (by decide +kernel)).trans ((and_iff_right h2).trans ?_)
  refine (px_go (by decide +kernel : pm_fe 53 123 = some (.bipush 57, 2)) rfl).trans ?_
  refine (px_ic_gt (off := 7) (tgt := 132) (by decide +kernel)).trans ?_
  exact Iff.rfl
theorem b53_128 {d : Nat} {G : PG} {M T : PH} {K : PV → PS → Prop} {l0 l1 : Int} : pm_Run d 53 128 [.inr (.inr (.inl l0)), .inl l1, PU] [] (G, M, T) K ↔ pm_Run d 53 133 [.inr (.inr (.inl l0)), .inl l1, PU] [.inl 1] (G, M, T) K := by
  refine (px_go (by decide +kernel : pm_fe 53 128 = some (.iconst 1, 1)) rfl).trans ?_
  refine (px_goto (off := 4) (tgt := 133) (by decide +kernel)).trans ?_
  exact Iff.rfl
theorem b53_132 {d : Nat} {G : PG} {M T : PH} {K : PV → PS → Prop} {l0 l1 : Int} : pm_Run d 53 132 [.inr (.inr (.inl l0)), .inl l1, PU] [] (G, M, T) K ↔ pm_Run d 53 133 [.inr (.inr (.inl l0)), .inl l1, PU] [.inl 0] (G, M, T) K := by
  refine (px_go (by decide +kernel : pm_fe 53 132 = some (.iconst 0, 1)) rfl).trans ?_
  exact Iff.rfl
theorem b53_133 {d : Nat} {G : PG} {M T : PH} {K : PV → PS → Prop} {l0 l1 s0 : Int} : pm_Run d 53 133 [.inr (.inr (.inl l0)), .inl l1, PU] [.inl s0] (G, M, T) K ↔ if pm_sg l1 ≠ 0 then pm_Run d 53 143 [.inr (.inr (.inl l0)), .inl l1, .inl s0] [.inr (.inr (.inl l0))] (G, M, T) K else pm_Run d 53 139 [.inr (.inr (.inl l0)), .inl l1, .inl s0] [.inr (.inr (.inl l0))] (G, M, T) K := by
  refine (px_go (by decide +kernel : pm_fe 53 133 = some (.istore_n 2, 1)) rfl).trans ?_
  refine (px_go (by decide +kernel : pm_fe 53 134 = some (.aload_n 0, 1)) rfl).trans ?_
  refine (px_go (by decide +kernel : pm_fe 53 135 = some (.iload_n 1, 1)) rfl).trans ?_
  refine (px_if_ne (off := 7) (tgt := 143) (by decide +kernel)).trans ?_
  exact Iff.rfl
theorem b53_139 {d : Nat} {G : PG} {M T : PH} {K : PV → PS → Prop} {l0 l1 l2 s0 : Int} : pm_Run d 53 139 [.inr (.inr (.inl l0)), .inl l1, .inl l2] [.inr (.inr (.inl s0))] (G, M, T) K ↔ if pm_sg l2 = 0 then pm_Run d 53 147 [.inr (.inr (.inl l0)), .inl l1, .inl l2] [.inr (.inr (.inl s0))] (G, M, T) K else pm_Run d 53 143 [.inr (.inr (.inl l0)), .inl l1, .inl l2] [.inr (.inr (.inl s0))] (G, M, T) K := by
  refine (px_go (by decide +kernel : pm_fe 53 139 = some (.iload_n 2, 1)) rfl).trans ?_
  refine (px_if_eq (off := 7) (tgt := 147) (by decide +kernel)).trans ?_
  exact Iff.rfl
theorem b53_143 {d : Nat} {G : PG} {M T : PH} {K : PV → PS → Prop} {l0 l1 l2 s0 : Int} : pm_Run d 53 143 [.inr (.inr (.inl l0)), .inl l1, .inl l2] [.inr (.inr (.inl s0))] (G, M, T) K ↔ pm_Run d 53 148 [.inr (.inr (.inl l0)), .inl l1, .inl l2] [.inl 4, .inr (.inr (.inl s0))] (G, M, T) K := by
  refine (px_go (by decide +kernel : pm_fe 53 143 = some (.iconst 4, 1)) rfl).trans ?_
  refine (px_goto (off := 4) (tgt := 148) (by decide +kernel)).trans ?_
  exact Iff.rfl
theorem b53_147 {d : Nat} {G : PG} {M T : PH} {K : PV → PS → Prop} {l0 l1 l2 s0 : Int} : pm_Run d 53 147 [.inr (.inr (.inl l0)), .inl l1, .inl l2] [.inr (.inr (.inl s0))] (G, M, T) K ↔ pm_Run d 53 148 [.inr (.inr (.inl l0)), .inl l1, .inl l2] [.inl 2, .inr (.inr (.inl s0))] (G, M, T) K := by
  refine (px_go (by decide +kernel : pm_fe 53 147 = some (.iconst 2, 1)) rfl).trans ?_
  exact Iff.rfl
theorem b53_148 {d : Nat} {G : PG} {M T : PH} {K : PV → PS → Prop} {l0 l1 l2 s0 s1 : Int} (h1 : pm_ob G s1 4) : pm_Run d 53 148 [.inr (.inr (.inl l0)), .inl l1, .inl l2] [.inl s0, .inr (.inr (.inl s1))] (G, M, T) K ↔ if pm_sg l2 = 0 then pm_Run d 53 167 [.inr (.inr (.inl l0)), .inl l1, .inl l2] [.inr (.inr (.inl l0))] (G, pm_sa M s1.toNat (pm_up (M s1.toNat) 4 s0), T) K else pm_Run d 53 156 [.inr (.inr (.inl l0)), .inl l1, .inl l2] [.inr (.inr (.inl l0))] (G, pm_sa M s1.toNat (pm_up (M s1.toNat) 4 s0), T) K := by
  refine (px_put0 (idx := 44) (ci := 4) (k := 4) (by decide +kernel)).trans ((and_iff_right h1).trans ?_)
  refine (px_go (by decide +kernel : pm_fe 53 151 = some (.aload_n 0, 1)) rfl).trans ?_
  refine (px_go (by decide +kernel : pm_fe 53 152 = some (.iload_n 2, 1)) rfl).trans ?_
  refine (px_if_eq (off := 14) (tgt := 167) (by decide +kernel)).trans ?_
  exact Iff.rfl
theorem b53_156 {d : Nat} {G : PG} {M T : PH} {K : PV → PS → Prop} {l0 l1 l2 s0 : Int} : pm_Run d 53 156 [.inr (.inr (.inl l0)), .inl l1, .inl l2] [.inr (.inr (.inl s0))] (G, M, T) K ↔ if pm_sg l1 ≠ 0 then pm_Run d 53 167 [.inr (.inr (.inl l0)), .inl l1, .inl l2] [.inr (.inr (.inl s0))] (G, M, T) K else pm_Run d 53 160 [.inr (.inr (.inl l0)), .inl l1, .inl l2] [.inr (.inr (.inl s0))] (G, M, T) K := by
  refine (px_go (by decide +kernel : pm_fe 53 156 = some (.iload_n 1, 1)) rfl).trans ?_
  refine (px_if_ne (off := 10) (tgt := 167) (by decide +kernel)).trans ?_
  exact Iff.rfl
theorem b53_160 {d : Nat} {G : PG} {M T : PH} {K : PV → PS → Prop} {l0 l1 l2 s0 : Int} (h1 : pm_ob G l0 4) : pm_Run d 53 160 [.inr (.inr (.inl l0)), .inl l1, .inl l2] [.inr (.inr (.inl s0))] (G, M, T) K ↔ pm_Run d 53 171 [.inr (.inr (.inl l0)), .inl l1, .inl l2] [.inl (M l0.toNat 3), .inr (.inr (.inl s0))] (G, M, T) K := by
  refine (px_go (by decide +kernel : pm_fe 53 160 = some (.aload_n 0, 1)) rfl).trans ?_
  refine (px_get0 (idx := 41) (ci := 4) (k := 3) (by decide +kernel)).trans ((and_iff_right h1).trans ?_)
  refine (px_goto (off := 7) (tgt := 171) (by decide +kernel)).trans ?_
  exact Iff.rfl
theorem b53_167 {d : Nat} {G : PG} {M T : PH} {K : PV → PS → Prop} {l0 l1 l2 s0 : Int} (h1 : pm_ob G l0 4) : pm_Run d 53 167 [.inr (.inr (.inl l0)), .inl l1, .inl l2] [.inr (.inr (.inl s0))] (G, M, T) K ↔ pm_Run d 53 171 [.inr (.inr (.inl l0)), .inl l1, .inl l2] [.inl (M l0.toNat 5), .inr (.inr (.inl s0))] (G, M, T) K := by
  refine (px_go (by decide +kernel : pm_fe 53 167 = some (.aload_n 0, 1)) rfl).trans ?_
  refine (px_get0 (idx := 47) (ci := 4) (k := 5) (by decide +kernel)).trans ((and_iff_right h1).trans ?_)
  exact Iff.rfl
theorem b53_171 {d : Nat} {G : PG} {M T : PH} {K : PV → PS → Prop} {l0 l1 l2 s0 s1 : Int} (h1 : pm_ob G s1 4) : pm_Run d 53 171 [.inr (.inr (.inl l0)), .inl l1, .inl l2] [.inl s0, .inr (.inr (.inl s1))] (G, M, T) K ↔ K PU (G, pm_sa M s1.toNat (pm_up (M s1.toNat) 6 s0), T) := by
  refine (px_put0 (idx := 50) (ci := 4) (k := 6) (by decide +kernel)).trans ((and_iff_right h1).trans ?_)
  refine (px_rv (by decide +kernel)).trans ?_
  exact Iff.rfl
