-- X3_init <init>()V
theorem en39 {d : Nat} {a : Int} {S : PS} {K : PV → PS → Prop} : pm_Call (d + 1) 39 [.inr (.inr (.inl a))] S K ↔ pm_Run d 39 0 [.inr (.inr (.inl a))] [] S K := pm_Call_s.trans (and_iff_right (show 1 ≤ pm_ml 39 from by decide +kernel))
-- X3_clear clear()V
theorem en40 {d : Nat} {a : Int} {S : PS} {K : PV → PS → Prop} : pm_Call (d + 1) 40 [.inr (.inr (.inl a))] S K ↔ pm_Run d 40 0 [.inr (.inr (.inl a))] [] S K := pm_Call_s.trans (and_iff_right (show 1 ≤ pm_ml 40 from by decide +kernel))
theorem b40_0 {d : Nat} {G : PG} {M T : PH} {K : PV → PS → Prop} {l0 : Int} (h1 : pm_ob G l0 3) : pm_Run d 40 0 [.inr (.inr (.inl l0))] [] (G, M, T) K ↔ pm_Call d 307 [.inr (.inr (.inl (T l0.toNat 1))), .inl 0] (G, pm_sa M l0.toNat (pm_up (M l0.toNat) 6 0), T) (fun r S1 => pm_Run d 40 13 [.inr (.inr (.inl l0))] (pm_push r []) S1 K) := by
  refine (px_go (by decide +kernel : pm_fe 40 0 = some (.aload_n 0, 1)) rfl).trans ?_
  refine (px_go (by decide +kernel : pm_fe 40 1 = some (.iconst 0, 1)) rfl).trans ?_
  refine (px_put0 (idx := 30) (ci := 3) (k := 6) (by decide +kernel)).trans ((and_iff_right h1).trans ?_)
  refine (px_go (by decide +kernel : pm_fe 40 5 = some (.aload_n 0, 1)) rfl).trans ?_
  refine (px_get2 (idx := 15) (ci := 3) (k := 1) (by decide +kernel)).trans ((and_iff_right h1).trans ?_)
  refine (px_go (by decide +kernel : pm_fe 40 9 = some (.iconst 0, 1)) rfl).trans ?_
  refine (px_s2 (idx := 34) (m' := 307) (nest := 0) (by decide +kernel)).trans ((and_iff_right (by simp [pm_wl_n, pm_wl_c, pm_w] : pm_wl [] ≤ 8)).trans ?_)
  exact Iff.rfl
theorem b40_13 {d : Nat} {G : PG} {M T : PH} {K : PV → PS → Prop} {l0 : Int} (h1 : pm_ob G l0 3) : pm_Run d 40 13 [.inr (.inr (.inl l0))] [] (G, M, T) K ↔ pm_Call d 307 [.inr (.inr (.inl (T l0.toNat 2))), .inl 0] (G, M, T) (fun r S1 => pm_Run d 40 21 [.inr (.inr (.inl l0))] (pm_push r []) S1 K) := by
  refine (px_go (by decide +kernel : pm_fe 40 13 = some (.aload_n 0, 1)) rfl).trans ?_
  refine (px_get2 (idx := 18) (ci := 3) (k := 2) (by decide +kernel)).trans ((and_iff_right h1).trans ?_)
  refine (px_go (by decide +kernel : pm_fe 40 17 = some (.iconst 0, 1)) rfl).trans ?_
  refine (px_s2 (idx := 34) (m' := 307) (nest := 0) (by decide +kernel)).trans ((and_iff_right (by simp [pm_wl_n, pm_wl_c, pm_w] : pm_wl [] ≤ 8)).trans ?_)
  exact Iff.rfl
theorem b40_21 {d : Nat} {G : PG} {M T : PH} {K : PV → PS → Prop} {l0 : Int} (h1 : pm_ob G l0 3) : pm_Run d 40 21 [.inr (.inr (.inl l0))] [] (G, M, T) K ↔ pm_Call d 307 [.inr (.inr (.inl (T l0.toNat 3))), .inl 0] (G, M, T) (fun r S1 => pm_Run d 40 29 [.inr (.inr (.inl l0))] (pm_push r []) S1 K) := by
  refine (px_go (by decide +kernel : pm_fe 40 21 = some (.aload_n 0, 1)) rfl).trans ?_
  refine (px_get2 (idx := 21) (ci := 3) (k := 3) (by decide +kernel)).trans ((and_iff_right h1).trans ?_)
  refine (px_go (by decide +kernel : pm_fe 40 25 = some (.iconst 0, 1)) rfl).trans ?_
  refine (px_s2 (idx := 34) (m' := 307) (nest := 0) (by decide +kernel)).trans ((and_iff_right (by simp [pm_wl_n, pm_wl_c, pm_w] : pm_wl [] ≤ 8)).trans ?_)
  exact Iff.rfl
theorem b40_29 {d : Nat} {G : PG} {M T : PH} {K : PV → PS → Prop} {l0 : Int} : pm_Run d 40 29 [.inr (.inr (.inl l0))] [] (G, M, T) K ↔ K PU (G, M, T) := by
  refine (px_rv (by decide +kernel)).trans ?_
  exact Iff.rfl
-- X3_open open(I)V
theorem en41 {d : Nat} {a p0 : Int} {S : PS} {K : PV → PS → Prop} : pm_Call (d + 1) 41 [.inr (.inr (.inl a)), .inl p0] S K ↔ pm_Run d 41 0 [.inr (.inr (.inl a)), .inl p0] [] S K := pm_Call_s.trans (and_iff_right (show 2 ≤ pm_ml 41 from by decide +kernel))
theorem b41_0 {d : Nat} {G : PG} {M T : PH} {K : PV → PS → Prop} {l0 l1 : Int} (h1 : pm_ob G l0 3) (h2 : pm_ar G (T l0.toNat 1) 100 l1) (h3 : pm_ar G (T l0.toNat 2) 100 l1) : pm_Run d 41 0 [.inr (.inr (.inl l0)), .inl l1] [] (G, M, T) K ↔ pm_Run d 41 20 [.inr (.inr (.inl l0)), .inl l1] [] (G, pm_sa (pm_sa M (T l0.toNat 1).toNat (pm_up (M (T l0.toNat 1).toNat) (pm_sg l1).toNat (M l0.toNat 6))) (T l0.toNat 2).toNat (pm_up ((pm_sa M (T l0.toNat 1).toNat (pm_up (M (T l0.toNat 1).toNat) (pm_sg l1).toNat (M l0.toNat 6))) (T l0.toNat 2).toNat) (pm_sg l1).toNat ((pm_sa M (T l0.toNat 1).toNat (pm_up (M (T l0.toNat 1).toNat) (pm_sg l1).toNat (M l0.toNat 6))) l0.toNat 6)), T) K := by
  refine (px_go (by decide +kernel : pm_fe 41 0 = some (.aload_n 0, 1)) rfl).trans ?_
  refine (px_get2 (idx := 15) (ci := 3) (k := 1) (by decide +kernel)).trans ((and_iff_right h1).trans ?_)
  refine (px_go (by decide +kernel : pm_fe 41 4 = some (.iload_n 1, 1)) rfl).trans ?_
  refine (px_go (by decide +kernel : pm_fe 41 5 = some (.aload_n 0, 1)) rfl).trans ?_
  refine (px_get0 (idx := 30) (ci := 3) (k := 6) (by decide +kernel)).trans ((and_iff_right h1).trans ?_)
  refine (px_iastore (by decide +kernel)).trans ((and_iff_right h2).trans ?_)
  refine (px_go (by decide +kernel : pm_fe 41 10 = some (.aload_n 0, 1)) rfl).trans ?_
  refine (px_get2 (idx := 18) (ci := 3) (k := 2) (by decide +kernel)).trans ((and_iff_right h1).trans ?_)
  refine (px_go (by decide +kernel : pm_fe 41 14 = some (.iload_n 1, 1)) rfl).trans ?_
  refine (px_go (by decide +kernel : pm_fe 41 15 = some (.aload_n 0, 1)) rfl).trans ?_
  refine (px_get0 (idx := 30) (ci := 3) (k := 6) (by decide +kernel)).trans ((and_iff_right h1).trans ?_)
  refine (px_iastore (by decide +kernel)).trans ((and_iff_right h3).trans ?_)
  exact Iff.rfl
theorem b41_20 {d : Nat} {G : PG} {M T : PH} {K : PV → PS → Prop} {l0 l1 : Int} : pm_Run d 41 20 [.inr (.inr (.inl l0)), .inl l1] [] (G, M, T) K ↔ K PU (G, M, T) := by
  refine (px_rv (by decide +kernel)).trans ?_
  exact Iff.rfl
-- X3_close close(I)V
theorem en42 {d : Nat} {a p0 : Int} {S : PS} {K : PV → PS → Prop} : pm_Call (d + 1) 42 [.inr (.inr (.inl a)), .inl p0] S K ↔ pm_Run d 42 0 [.inr (.inr (.inl a)), .inl p0, PU] [] S K := pm_Call_s.trans (and_iff_right (show 2 ≤ pm_ml 42 from by decide +kernel))
theorem b42_0 {d : Nat} {G : PG} {M T : PH} {K : PV → PS → Prop} {l0 l1 : Int} (h1 : pm_ob G l0 3) (h2 : pm_ar G (T l0.toNat 2) 100 l1) (h3 : pm_ar G (T l0.toNat 1) 100 l1) : pm_Run d 42 0 [.inr (.inr (.inl l0)), .inl l1, PU] [] (G, M, T) K ↔ pm_Run d 42 17 [.inr (.inr (.inl l0)), .inl l1, .inl ((pm_sa M (T l0.toNat 2).toNat (pm_up (M (T l0.toNat 2).toNat) (pm_sg l1).toNat (M l0.toNat 6))) (T l0.toNat 1).toNat (pm_sg l1).toNat)] [] (G, pm_sa M (T l0.toNat 2).toNat (pm_up (M (T l0.toNat 2).toNat) (pm_sg l1).toNat (M l0.toNat 6)), T) K := by
  refine (px_go (by decide +kernel : pm_fe 42 0 = some (.aload_n 0, 1)) rfl).trans ?_
  refine (px_get2 (idx := 18) (ci := 3) (k := 2) (by decide +kernel)).trans ((and_iff_right h1).trans ?_)
  refine (px_go (by decide +kernel : pm_fe 42 4 = some (.iload_n 1, 1)) rfl).trans ?_
  refine (px_go (by decide +kernel : pm_fe 42 5 = some (.aload_n 0, 1)) rfl).trans ?_
  refine (px_get0 (idx := 30) (ci := 3) (k := 6) (by decide +kernel)).trans ((and_iff_right h1).trans ?_)
  refine (px_iastore (by decide +kernel)).trans ((and_iff_right h2).trans ?_)
  refine (px_go (by decide +kernel : pm_fe 42 10 = some (.aload_n 0, 1)) rfl).trans ?_
  refine (px_get2 (idx := 15) (ci := 3) (k := 1) (by decide +kernel)).trans ((and_iff_right h1).trans ?_)
  refine (px_go (by decide +kernel : pm_fe 42 14 = some (.iload_n 1, 1)) rfl).trans ?_
  refine (px_iaload (by decide +kernel) h3).trans ?_
  refine (px_go (by decide +kernel : pm_fe 42 16 = some (.istore_n 2, 1)) rfl).trans ?_
  exact Iff.rfl
theorem b42_17 {d : Nat} {G : PG} {M T : PH} {K : PV → PS → Prop} {l0 l1 l2 : Int} (h1 : pm_ob G l0 3) : pm_Run d 42 17 [.inr (.inr (.inl l0)), .inl l1, .inl l2] [] (G, M, T) K ↔ if pm_sg (M l0.toNat 6) ≤ pm_sg l2 then pm_Run d 42 76 [.inr (.inr (.inl l0)), .inl l1, .inl l2] [] (G, M, T) K else pm_Run d 42 25 [.inr (.inr (.inl l0)), .inl l1, .inl l2] [] (G, M, T) K := by
  refine (px_go (by decide +kernel : pm_fe 42 17 = some (.iload_n 2, 1)) rfl).trans ?_
  refine (px_go (by decide +kernel : pm_fe 42 18 = some (.aload_n 0, 1)) rfl).trans ?_
  refine (px_get0 (idx := 30) (ci := 3) (k := 6) (by decide +kernel)).trans ((and_iff_right h1).trans ?_)
  refine (px_ic_ge (off := 54) (tgt := 76) (by decide +kernel)).trans ?_
  exact Iff.rfl
theorem b42_25 {d : Nat} {G : PG} {M T : PH} {K : PV → PS → Prop} {l0 l1 l2 : Int} (h1 : pm_ob G l0 3) (h2 : pm_ar G (T l0.toNat 0) 100 l2) : pm_Run d 42 25 [.inr (.inr (.inl l0)), .inl l1, .inl l2] [] (G, M, T) K ↔ if pm_sg (M (T l0.toNat 0).toNat (pm_sg l2).toNat) < pm_sg 10000 then pm_Run d 42 70 [.inr (.inr (.inl l0)), .inl l1, .inl l2] [] (G, M, T) K else pm_Run d 42 37 [.inr (.inr (.inl l0)), .inl l1, .inl l2] [] (G, M, T) K := by
  refine (px_go (by decide +kernel : pm_fe 42 25 = some (.aload_n 0, 1)) rfl).trans ?_
  refine (px_get2 (idx := 11) (ci := 3) (k := 0) (by decide +kernel)).trans ((and_iff_right h1).trans ?_)
  refine (px_go (by decide +kernel : pm_fe 42 29 = some (.iload_n 2, 1)) rfl).trans ?_
  refine (px_iaload (by decide +kernel) h2).trans ?_
  refine (px_go (by decide +kernel : pm_fe 42 31 = some (.sipush 10000, 3)) rfl).trans ?_
  refine (px_ic_lt (off := 36) (tgt := 70) (by decide +kernel)).trans ?_
  exact Iff.rfl
theorem b42_37 {d : Nat} {G : PG} {M T : PH} {K : PV → PS → Prop} {l0 l1 l2 : Int} (h1 : pm_ob G l0 3) (h2 : pm_ar G (T l0.toNat 0) 100 l2) : pm_Run d 42 37 [.inr (.inr (.inl l0)), .inl l1, .inl l2] [] (G, M, T) K ↔ if pm_sg 20000 ≤ pm_sg (M (T l0.toNat 0).toNat (pm_sg l2).toNat) then pm_Run d 42 70 [.inr (.inr (.inl l0)), .inl l1, .inl l2] [] (G, M, T) K else pm_Run d 42 49 [.inr (.inr (.inl l0)), .inl l1, .inl l2] [] (G, M, T) K := by
  refine (px_go (by decide +kernel : pm_fe 42 37 = some (.aload_n 0, 1)) rfl).trans ?_
  refine (px_get2 (idx := 11) (ci := 3) (k := 0) (by decide +kernel)).trans ((and_iff_right h1).trans ?_)
  refine (px_go (by decide +kernel : pm_fe 42 41 = some (.iload_n 2, 1)) rfl).trans ?_
  refine (px_iaload (by decide +kernel) h2).trans ?_
  refine (px_go (by decide +kernel : pm_fe 42 43 = some (.sipush 20000, 3)) rfl).trans ?_
  refine (px_ic_ge (off := 24) (tgt := 70) (by decide +kernel)).trans ?_
  exact Iff.rfl
theorem b42_49 {d : Nat} {G : PG} {M T : PH} {K : PV → PS → Prop} {l0 l1 l2 : Int} (h1 : pm_ob G l0 3) (h2 : pm_ar G (T l0.toNat 3) 100 l1) (h3 : pm_ar G (T l0.toNat 0) 100 l2) : pm_Run d 42 49 [.inr (.inr (.inl l0)), .inl l1, .inl l2] [] (G, M, T) K ↔ pm_Run d 42 70 [.inr (.inr (.inl l0)), .inl l1, .inl l2] [] (G, pm_sa M (T l0.toNat 3).toNat (pm_up (M (T l0.toNat 3).toNat) (pm_sg l1).toNat (pm_or (M (T l0.toNat 3).toNat (pm_sg l1).toNat) (pm_shl 1 ((M (T l0.toNat 0).toNat (pm_sg l2).toNat) - 10000)))), T) K := by
  refine (px_go (by decide +kernel : pm_fe 42 49 = some (.aload_n 0, 1)) rfl).trans ?_
  refine (px_get2 (idx := 21) (ci := 3) (k := 3) (by decide +kernel)).trans ((and_iff_right h1).trans ?_)
  refine (px_go (by decide +kernel : pm_fe 42 53 = some (.iload_n 1, 1)) rfl).trans ?_
  refine (px_go (by decide +kernel : pm_fe 42 54 = some (.dup2, 1)) rfl).trans ?_
  refine (px_iaload (by decide +kernel) h2).trans ?_
  refine (px_go (by decide +kernel : pm_fe 42 56 = some (.iconst 1, 1)) rfl).trans ?_
  refine (px_go (by decide +kernel : pm_fe 42 57 = some (.aload_n 0, 1)) rfl).trans ?_
  refine (px_get2 (idx := 11) (ci := 3) (k := 0) (by decide +kernel)).trans ((and_iff_right h1).trans ?_)
  refine (px_go (by decide +kernel : pm_fe 42 61 = some (.iload_n 2, 1)) rfl).trans ?_
  refine (px_iaload (by decide +kernel) h3).trans ?_
  refine (px_go (by decide +kernel : pm_fe 42 63 = some (.sipush 10000, 3)) rfl).trans ?_
  refine (px_go (by decide +kernel : pm_fe 42 66 = some (.isub, 1)) rfl).trans ?_
  refine (px_go (by decide +kernel : pm_fe 42 67 = some (.ishl, 1)) rfl).trans ?_
  refine (px_go (by decide +kernel : pm_fe 42 68 = some (.ior, 1)) rfl).trans ?_
  refine (px_iastore (by decide +kernel)).trans ((and_iff_right h2).trans ?_)
  exact Iff.rfl
theorem b42_70 {d : Nat} {G : PG} {M T : PH} {K : PV → PS → Prop} {l0 l1 l2 : Int} : pm_Run d 42 70 [.inr (.inr (.inl l0)), .inl l1, .inl l2] [] (G, M, T) K ↔ pm_Run d 42 17 [.inr (.inr (.inl l0)), .inl l1, .inl (l2 + 1)] [] (G, M, T) K := by
  refine (px_go (by decide +kernel : pm_fe 42 70 = some (.iinc 2 1, 3)) rfl).trans ?_
  refine (px_goto (off := (-56)) (tgt := 17) (by decide +kernel)).trans ?_
  exact Iff.rfl
theorem b42_76 {d : Nat} {G : PG} {M T : PH} {K : PV → PS → Prop} {l0 l1 l2 : Int} : pm_Run d 42 76 [.inr (.inr (.inl l0)), .inl l1, .inl l2] [] (G, M, T) K ↔ K PU (G, M, T) := by
  refine (px_rv (by decide +kernel)).trans ?_
  exact Iff.rfl
-- X3_add add(I)V
theorem en43 {d : Nat} {a p0 : Int} {S : PS} {K : PV → PS → Prop} : pm_Call (d + 1) 43 [.inr (.inr (.inl a)), .inl p0] S K ↔ pm_Run d 43 0 [.inr (.inr (.inl a)), .inl p0] [] S K := pm_Call_s.trans (and_iff_right (show 2 ≤ pm_ml 43 from by decide +kernel))
theorem b43_0 {d : Nat} {G : PG} {M T : PH} {K : PV → PS → Prop} {l0 l1 : Int} (h1 : pm_ob G l0 3) (h2 : 0 ≤ T l0.toNat 0 ∧ (T l0.toNat 0).toNat < G.1 ∧ 100 ≤ (G.2.2.1 (T l0.toNat 0).toNat).1 ∧ (G.2.2.1 (T l0.toNat 0).toNat).1 ≤ 104) : pm_Run d 43 0 [.inr (.inr (.inl l0)), .inl l1] [] (G, M, T) K ↔ if pm_sg ((G.2.2.1 (T l0.toNat 0).toNat).2 : Int) ≤ pm_sg (M l0.toNat 6) then pm_Run d 43 32 [.inr (.inr (.inl l0)), .inl l1] [] (G, M, T) K else pm_Run d 43 12 [.inr (.inr (.inl l0)), .inl l1] [] (G, M, T) K := by
  refine (px_go (by decide +kernel : pm_fe 43 0 = some (.aload_n 0, 1)) rfl).trans ?_
  refine (px_get0 (idx := 30) (ci := 3) (k := 6) (by decide +kernel)).trans ((and_iff_right h1).trans ?_)
  refine (px_go (by decide +kernel : pm_fe 43 4 = some (.aload_n 0, 1)) rfl).trans ?_
  refine (px_get2 (idx := 11) (ci := 3) (k := 0) (by decide +kernel)).trans ((and_iff_right h1).trans ?_)
  refine (px_alen (by decide +kernel) h2).trans ?_
  refine (px_ic_ge (off := 23) (tgt := 32) (by decide +kernel)).trans ?_
  exact Iff.rfl
theorem b43_12 {d : Nat} {G : PG} {M T : PH} {K : PV → PS → Prop} {l0 l1 : Int} (h1 : pm_ob G l0 3) (h2 : pm_ar G (T l0.toNat 0) 100 (M l0.toNat 6)) : pm_Run d 43 12 [.inr (.inr (.inl l0)), .inl l1] [] (G, M, T) K ↔ pm_Run d 43 32 [.inr (.inr (.inl l0)), .inl l1] [] (G, pm_sa (pm_sa M (T l0.toNat 0).toNat (pm_up (M (T l0.toNat 0).toNat) (pm_sg (M l0.toNat 6)).toNat l1)) l0.toNat (pm_up ((pm_sa M (T l0.toNat 0).toNat (pm_up (M (T l0.toNat 0).toNat) (pm_sg (M l0.toNat 6)).toNat l1)) l0.toNat) 6 (((pm_sa M (T l0.toNat 0).toNat (pm_up (M (T l0.toNat 0).toNat) (pm_sg (M l0.toNat 6)).toNat l1)) l0.toNat 6) + 1)), T) K := by
  refine (px_go (by decide +kernel : pm_fe 43 12 = some (.aload_n 0, 1)) rfl).trans ?_
  refine (px_get2 (idx := 11) (ci := 3) (k := 0) (by decide +kernel)).trans ((and_iff_right h1).trans ?_)
  refine (px_go (by decide +kernel : pm_fe 43 16 = some (.aload_n 0, 1)) rfl).trans ?_
  refine (px_get0 (idx := 30) (ci := 3) (k := 6) (by decide +kernel)).trans ((and_iff_right h1).trans ?_)
  refine (px_go (by decide +kernel : pm_fe 43 20 = some (.iload_n 1, 1)) rfl).trans ?_
  refine (px_iastore (by decide +kernel)).trans ((and_iff_right h2).trans ?_)
  refine (px_go (by decide +kernel : pm_fe 43 22 = some (.aload_n 0, 1)) rfl).trans ?_
  refine (px_go (by decide +kernel : pm_fe 43 23 = some (.dup, 1)) rfl).trans ?_
  refine (px_get0 (idx := 30) (ci := 3) (k := 6) (by decide +kernel)).trans ((and_iff_right h1).trans ?_)
  refine (px_go (by decide +kernel : pm_fe 43 27 = some (.iconst 1, 1)) rfl).trans ?_
  refine (px_go (by decide +kernel : pm_fe 43 28 = some (.iadd, 1)) rfl).trans ?_
  refine (px_put0 (idx := 30) (ci := 3) (k := 6) (by decide +kernel)).trans ((and_iff_right h1).trans ?_)
  exact Iff.rfl
theorem b43_32 {d : Nat} {G : PG} {M T : PH} {K : PV → PS → Prop} {l0 l1 : Int} : pm_Run d 43 32 [.inr (.inr (.inl l0)), .inl l1] [] (G, M, T) K ↔ K PU (G, M, T) := by
  refine (px_rv (by decide +kernel)).trans ?_
  exact Iff.rfl
-- X3_isThere isThere(I)Z
theorem en44 {d : Nat} {a p0 : Int} {S : PS} {K : PV → PS → Prop} : pm_Call (d + 1) 44 [.inr (.inr (.inl a)), .inl p0] S K ↔ pm_Run d 44 0 [.inr (.inr (.inl a)), .inl p0] [] S K := pm_Call_s.trans (and_iff_right (show 2 ≤ pm_ml 44 from by decide +kernel))
theorem b44_0 {d : Nat} {G : PG} {M T : PH} {K : PV → PS → Prop} {l0 l1 : Int} (h1 : pm_ob G l0 3) (h2 : pm_ar G (T l0.toNat 2) 100 l1) (h3 : pm_ar G (T l0.toNat 1) 100 l1) : pm_Run d 44 0 [.inr (.inr (.inl l0)), .inl l1] [] (G, M, T) K ↔ if pm_sg (M (T l0.toNat 2).toNat (pm_sg l1).toNat) ≤ pm_sg (M (T l0.toNat 1).toNat (pm_sg l1).toNat) then pm_Run d 44 19 [.inr (.inr (.inl l0)), .inl l1] [] (G, M, T) K else pm_Run d 44 15 [.inr (.inr (.inl l0)), .inl l1] [] (G, M, T) K := by
  refine (px_go (by decide +kernel : pm_fe 44 0 = some (.aload_n 0, 1)) rfl).trans ?_
  refine (px_get2 (idx := 18) (ci := 3) (k := 2) (by decide +kernel)).trans ((and_iff_right h1).trans ?_)
  refine (px_go (by decide +kernel : pm_fe 44 4 = some (.iload_n 1, 1)) rfl).trans ?_
  refine (px_iaload (by decide +kernel) h2).trans ?_
  refine (px_go (by decide +kernel : pm_fe 44 6 = some (.aload_n 0, 1)) rfl).trans ?_
  refine (px_get2 (idx := 15) (ci := 3) (k := 1) (by decide +kernel)).trans ((and_iff_right h1).trans ?_)
  refine (px_go (by decide +kernel : pm_fe 44 10 = some (.iload_n 1, 1)) rfl).trans ?_
  refine (px_iaload (by decide +kernel) h3).trans ?_
  refine (px_ic_le (off := 7) (tgt := 19) (by decide +kernel)).trans ?_
  exact Iff.rfl
theorem b44_15 {d : Nat} {G : PG} {M T : PH} {K : PV → PS → Prop} {l0 l1 : Int} : pm_Run d 44 15 [.inr (.inr (.inl l0)), .inl l1] [] (G, M, T) K ↔ pm_Run d 44 20 [.inr (.inr (.inl l0)), .inl l1] [.inl 1] (G, M, T) K := by
  refine (px_go (by decide +kernel : pm_fe 44 15 = some (.iconst 1, 1)) rfl).trans ?_
  refine (px_goto (off := 4) (tgt := 20) (by decide +kernel)).trans ?_
  exact Iff.rfl
theorem b44_19 {d : Nat} {G : PG} {M T : PH} {K : PV → PS → Prop} {l0 l1 : Int} : pm_Run d 44 19 [.inr (.inr (.inl l0)), .inl l1] [] (G, M, T) K ↔ pm_Run d 44 20 [.inr (.inr (.inl l0)), .inl l1] [.inl 0] (G, M, T) K := by
  refine (px_go (by decide +kernel : pm_fe 44 19 = some (.iconst 0, 1)) rfl).trans ?_
  exact Iff.rfl
theorem b44_20 {d : Nat} {G : PG} {M T : PH} {K : PV → PS → Prop} {l0 l1 s0 : Int} (h1 : s0 = 0 ∨ s0 = 1) : pm_Run d 44 20 [.inr (.inr (.inl l0)), .inl l1] [.inl s0] (G, M, T) K ↔ K (.inl s0) (G, M, T) := by
  refine (px_rz (by decide +kernel)).trans ((and_iff_right h1).trans ?_)
  exact Iff.rfl
-- X3_uses uses(II)Z
theorem en45 {d : Nat} {a p0 p1 : Int} {S : PS} {K : PV → PS → Prop} : pm_Call (d + 1) 45 [.inr (.inr (.inl a)), .inl p0, .inl p1] S K ↔ pm_Run d 45 0 [.inr (.inr (.inl a)), .inl p0, .inl p1] [] S K := pm_Call_s.trans (and_iff_right (show 3 ≤ pm_ml 45 from by decide +kernel))
theorem b45_0 {d : Nat} {G : PG} {M T : PH} {K : PV → PS → Prop} {l0 l1 l2 : Int} (h1 : pm_ob G l0 3) (h2 : pm_ar G (T l0.toNat 3) 100 l1) : pm_Run d 45 0 [.inr (.inr (.inl l0)), .inl l1, .inl l2] [] (G, M, T) K ↔ if pm_sg (pm_and (pm_shr (M (T l0.toNat 3).toNat (pm_sg l1).toNat) l2) 1) ≠ pm_sg 1 then pm_Run d 45 18 [.inr (.inr (.inl l0)), .inl l1, .inl l2] [] (G, M, T) K else pm_Run d 45 14 [.inr (.inr (.inl l0)), .inl l1, .inl l2] [] (G, M, T) K := by
  refine (px_go (by decide +kernel : pm_fe 45 0 = some (.aload_n 0, 1)) rfl).trans ?_
  refine (px_get2 (idx := 21) (ci := 3) (k := 3) (by decide +kernel)).trans ((and_iff_right h1).trans ?_)
  refine (px_go (by decide +kernel : pm_fe 45 4 = some (.iload_n 1, 1)) rfl).trans ?_
  refine (px_iaload (by decide +kernel) h2).trans ?_
  refine (px_go (by decide +kernel : pm_fe 45 6 = some (.iload_n 2, 1)) rfl).trans ?_
  refine (px_go (by decide +kernel : pm_fe 45 7 = some (.ishr, 1)) rfl).trans ?_
  refine (px_go (by decide +kernel : pm_fe 45 8 = some (.iconst 1, 1)) rfl).trans ?_
  refine (px_go (by decide +kernel : pm_fe 45 9 = some (.iand, 1)) rfl).trans ?_
  refine (px_go (by decide +kernel : pm_fe 45 10 = some (.iconst 1, 1)) rfl).trans ?_
  refine (px_ic_ne (off := 7) (tgt := 18) (by decide +kernel)).trans ?_
  exact Iff.rfl
theorem b45_14 {d : Nat} {G : PG} {M T : PH} {K : PV → PS → Prop} {l0 l1 l2 : Int} : pm_Run d 45 14 [.inr (.inr (.inl l0)), .inl l1, .inl l2] [] (G, M, T) K ↔ pm_Run d 45 19 [.inr (.inr (.inl l0)), .inl l1, .inl l2] [.inl 1] (G, M, T) K := by
  refine (px_go (by decide +kernel : pm_fe 45 14 = some (.iconst 1, 1)) rfl).trans ?_
  refine (px_goto (off := 4) (tgt := 19) (by decide +kernel)).trans ?_
  exact Iff.rfl
theorem b45_18 {d : Nat} {G : PG} {M T : PH} {K : PV → PS → Prop} {l0 l1 l2 : Int} : pm_Run d 45 18 [.inr (.inr (.inl l0)), .inl l1, .inl l2] [] (G, M, T) K ↔ pm_Run d 45 19 [.inr (.inr (.inl l0)), .inl l1, .inl l2] [.inl 0] (G, M, T) K := by
  refine (px_go (by decide +kernel : pm_fe 45 18 = some (.iconst 0, 1)) rfl).trans ?_
  exact Iff.rfl
theorem b45_19 {d : Nat} {G : PG} {M T : PH} {K : PV → PS → Prop} {l0 l1 l2 s0 : Int} (h1 : s0 = 0 ∨ s0 = 1) : pm_Run d 45 19 [.inr (.inr (.inl l0)), .inl l1, .inl l2] [.inl s0] (G, M, T) K ↔ K (.inl s0) (G, M, T) := by
  refine (px_rz (by decide +kernel)).trans ((and_iff_right h1).trans ?_)
  exact Iff.rfl
-- X3_reckon reckon(I)I
theorem en46 {d : Nat} {a p0 : Int} {S : PS} {K : PV → PS → Prop} : pm_Call (d + 1) 46 [.inr (.inr (.inl a)), .inl p0] S K ↔ pm_Run d 46 0 [.inr (.inr (.inl a)), .inl p0, PU, PU, PU] [] S K := pm_Call_s.trans (and_iff_right (show 2 ≤ pm_ml 46 from by decide +kernel))
theorem b46_0 {d : Nat} {G : PG} {M T : PH} {K : PV → PS → Prop} {l0 l1 : Int} (h1 : pm_ob G l0 3) (h2 : pm_ar G (T l0.toNat 1) 100 l1) : pm_Run d 46 0 [.inr (.inr (.inl l0)), .inl l1, PU, PU, PU] [] (G, M, T) K ↔ pm_Run d 46 9 [.inr (.inr (.inl l0)), .inl l1, .inl 0, .inl (M (T l0.toNat 1).toNat (pm_sg l1).toNat), PU] [] (G, M, T) K := by
  refine (px_go (by decide +kernel : pm_fe 46 0 = some (.iconst 0, 1)) rfl).trans ?_
  refine (px_go (by decide +kernel : pm_fe 46 1 = some (.istore_n 2, 1)) rfl).trans ?_
  refine (px_go (by decide +kernel : pm_fe 46 2 = some (.aload_n 0, 1)) rfl).trans ?_
  refine (px_get2 (idx := 15) (ci := 3) (k := 1) (by decide +kernel)).trans ((and_iff_right h1).trans ?_)
  refine (px_go (by decide +kernel : pm_fe 46 6 = some (.iload_n 1, 1)) rfl).trans ?_
  refine (px_iaload (by decide +kernel) h2).trans ?_
  refine (px_go (by decide +kernel : pm_fe 46 8 = some (.istore_n 3, 1)) rfl).trans ?_
  exact Iff.rfl
theorem b46_9 {d : Nat} {G : PG} {M T : PH} {K : PV → PS → Prop} {l0 l1 l2 l3 : Int} {l4 : PV} (h1 : pm_ob G l0 3) (h2 : pm_ar G (T l0.toNat 2) 100 l1) : pm_Run d 46 9 [.inr (.inr (.inl l0)), .inl l1, .inl l2, .inl l3, l4] [] (G, M, T) K ↔ if pm_sg (M (T l0.toNat 2).toNat (pm_sg l1).toNat) ≤ pm_sg l3 then pm_Run d 46 189 [.inr (.inr (.inl l0)), .inl l1, .inl l2, .inl l3, l4] [] (G, M, T) K else pm_Run d 46 19 [.inr (.inr (.inl l0)), .inl l1, .inl l2, .inl l3, l4] [] (G, M, T) K := by
  refine (px_go (by decide +kernel : pm_fe 46 9 = some (.iload_n 3, 1)) rfl).trans ?_
  refine (px_go (by decide +kernel : pm_fe 46 10 = some (.aload_n 0, 1)) rfl).trans ?_
  refine (px_get2 (idx := 18) (ci := 3) (k := 2) (by decide +kernel)).trans ((and_iff_right h1).trans ?_)
  refine (px_go (by decide +kernel : pm_fe 46 14 = some (.iload_n 1, 1)) rfl).trans ?_
  refine (px_iaload (by decide +kernel) h2).trans ?_
  refine (px_ic_ge (off := 173) (tgt := 189) (by decide +kernel)).trans ?_
  exact Iff.rfl
theorem b46_19 {d : Nat} {G : PG} {M T : PH} {K : PV → PS → Prop} {l0 l1 l2 l3 : Int} {l4 : PV} (h1 : pm_ob G l0 3) (h2 : pm_ar G (T l0.toNat 0) 100 l3) : pm_Run d 46 19 [.inr (.inr (.inl l0)), .inl l1, .inl l2, .inl l3, l4] [] (G, M, T) K ↔ if pm_sg 20000 ≤ pm_sg (M (T l0.toNat 0).toNat (pm_sg l3).toNat) then pm_Run d 46 80 [.inr (.inr (.inl l0)), .inl l1, .inl l2, .inl l3, .inl (M (T l0.toNat 0).toNat (pm_sg l3).toNat)] [] (G, M, T) K else pm_Run d 46 35 [.inr (.inr (.inl l0)), .inl l1, .inl l2, .inl l3, .inl (M (T l0.toNat 0).toNat (pm_sg l3).toNat)] [] (G, M, T) K := by
  refine (px_go (by decide +kernel : pm_fe 46 19 = some (.aload_n 0, 1)) rfl).trans ?_
  refine (px_get2 (idx := 11) (ci := 3) (k := 0) (by decide +kernel)).trans ((and_iff_right h1).trans ?_)
  refine (px_go (by decide +kernel : pm_fe 46 23 = some (.iload_n 3, 1)) rfl).trans ?_
  refine (px_iaload (by decide +kernel) h2).trans ?_
  refine (px_go (by decide +kernel : pm_fe 46 25 = some (.istore 4, 2)) rfl).trans ?_
  refine (px_go (by decide +kernel : pm_fe 46 27 = some (.iload 4, 2)) rfl).trans ?_
  refine (px_go (by decide +kernel : pm_fe 46 29 = some (.sipush 20000, 3)) rfl).trans ?_
  refine (px_ic_ge (off := 48) (tgt := 80) (by decide +kernel)).trans ?_
  exact Iff.rfl
theorem b46_35 {d : Nat} {G : PG} {M T : PH} {K : PV → PS → Prop} {l0 l1 l2 l3 l4 : Int} (h1 : pm_ob G l0 3) (h2 : 0 ≤ T l0.toNat 5 ∧ (T l0.toNat 5).toNat < G.1 ∧ 100 ≤ (G.2.2.1 (T l0.toNat 5).toNat).1 ∧ (G.2.2.1 (T l0.toNat 5).toNat).1 ≤ 104) : pm_Run d 46 35 [.inr (.inr (.inl l0)), .inl l1, .inl l2, .inl l3, .inl l4] [] (G, M, T) K ↔ if pm_sg ((G.2.2.1 (T l0.toNat 5).toNat).2 : Int) ≤ pm_sg l2 then pm_Run d 46 183 [.inr (.inr (.inl l0)), .inl l1, .inl l2, .inl l3, .inl l4] [] (G, M, T) K else pm_Run d 46 44 [.inr (.inr (.inl l0)), .inl l1, .inl l2, .inl l3, .inl l4] [] (G, M, T) K := by
  refine (px_go (by decide +kernel : pm_fe 46 35 = some (.iload_n 2, 1)) rfl).trans ?_
  refine (px_go (by decide +kernel : pm_fe 46 36 = some (.aload_n 0, 1)) rfl).trans ?_
  refine (px_get2 (idx := 27) (ci := 3) (k := 5) (by decide +kernel)).trans ((and_iff_right h1).trans ?_)
  refine (px_alen (by decide +kernel) h2).trans ?_
  refine (px_ic_ge (off := 142) (tgt := 183) (by decide +kernel)).trans ?_
  exact Iff.rfl
theorem b46_44 {d : Nat} {G : PG} {M T : PH} {K : PV → PS → Prop} {l0 l1 l2 l3 l4 : Int} (h1 : pm_ob G l0 3) : pm_Run d 46 44 [.inr (.inr (.inl l0)), .inl l1, .inl l2, .inl l3, .inl l4] [] (G, M, T) K ↔ if pm_sg 10000 ≤ pm_sg l4 then pm_Run d 46 62 [.inr (.inr (.inl l0)), .inl l1, .inl l2, .inl l3, .inl l4] [.inl l2, .inr (.inr (.inl (T l0.toNat 5)))] (G, M, T) K else pm_Run d 46 57 [.inr (.inr (.inl l0)), .inl l1, .inl l2, .inl l3, .inl l4] [.inl l2, .inr (.inr (.inl (T l0.toNat 5)))] (G, M, T) K := by
  refine (px_go (by decide +kernel : pm_fe 46 44 = some (.aload_n 0, 1)) rfl).trans ?_
  refine (px_get2 (idx := 27) (ci := 3) (k := 5) (by decide +kernel)).trans ((and_iff_right h1).trans ?_)
  refine (px_go (by decide +kernel : pm_fe 46 48 = some (.iload_n 2, 1)) rfl).trans ?_
  refine (px_go (by decide +kernel : pm_fe 46 49 = some (.iload 4, 2)) rfl).trans ?_
  refine (px_go (by decide +kernel : pm_fe 46 51 = some (.sipush 10000, 3)) rfl).trans ?_
  refine (px_ic_ge (off := 8) (tgt := 62) (by decide +kernel)).trans ?_
  exact Iff.rfl
theorem b46_57 {d : Nat} {G : PG} {M T : PH} {K : PV → PS → Prop} {l0 l1 l2 l3 l4 s0 s1 : Int} : pm_Run d 46 57 [.inr (.inr (.inl l0)), .inl l1, .inl l2, .inl l3, .inl l4] [.inl s0, .inr (.inr (.inl s1))] (G, M, T) K ↔ pm_Run d 46 73 [.inr (.inr (.inl l0)), .inl l1, .inl l2, .inl l3, .inl l4] [.inl l4, .inl s0, .inr (.inr (.inl s1))] (G, M, T) K := by
  refine (px_go (by decide +kernel : pm_fe 46 57 = some (.iload 4, 2)) rfl).trans ?_
  refine (px_goto (off := 14) (tgt := 73) (by decide +kernel)).trans ?_
  exact Iff.rfl
theorem b46_62 {d : Nat} {G : PG} {M T : PH} {K : PV → PS → Prop} {l0 l1 l2 l3 l4 s0 s1 : Int} (h1 : pm_ob G l0 3) (h2 : pm_ar G (T l0.toNat 4) 100 (l4 - 10000)) : pm_Run d 46 62 [.inr (.inr (.inl l0)), .inl l1, .inl l2, .inl l3, .inl l4] [.inl s0, .inr (.inr (.inl s1))] (G, M, T) K ↔ pm_Run d 46 73 [.inr (.inr (.inl l0)), .inl l1, .inl l2, .inl l3, .inl l4] [.inl (M (T l0.toNat 4).toNat (pm_sg (l4 - 10000)).toNat), .inl s0, .inr (.inr (.inl s1))] (G, M, T) K := by
  refine (px_go (by decide +kernel : pm_fe 46 62 = some (.aload_n 0, 1)) rfl).trans ?_
  refine (px_get2 (idx := 24) (ci := 3) (k := 4) (by decide +kernel)).trans ((and_iff_right h1).trans ?_)
  refine (px_go (by decide +kernel : pm_fe 46 66 = some (.iload 4, 2)) rfl).trans ?_
  refine (px_go (by decide +kernel : pm_fe 46 68 = some (.sipush 10000, 3)) rfl).trans ?_
  refine (px_go (by decide +kernel : pm_fe 46 71 = some (.isub, 1)) rfl).trans ?_
  refine (px_iaload (by decide +kernel) h2).trans ?_
  exact Iff.rfl
theorem b46_73 {d : Nat} {G : PG} {M T : PH} {K : PV → PS → Prop} {l0 l1 l2 l3 l4 s0 s1 s2 : Int} (h1 : pm_ar G s2 100 s1) : pm_Run d 46 73 [.inr (.inr (.inl l0)), .inl l1, .inl l2, .inl l3, .inl l4] [.inl s0, .inl s1, .inr (.inr (.inl s2))] (G, M, T) K ↔ pm_Run d 46 183 [.inr (.inr (.inl l0)), .inl l1, .inl (l2 + 1), .inl l3, .inl l4] [] (G, pm_sa M s2.toNat (pm_up (M s2.toNat) (pm_sg s1).toNat s0), T) K := by
  refine (px_iastore (by decide +kernel)).trans ((and_iff_right h1).trans ?_)
  refine (px_go (by decide +kernel : pm_fe 46 74 = some (.iinc 2 1, 3)) rfl).trans ?_
  refine (px_goto (off := 106) (tgt := 183) (by decide +kernel)).trans ?_
  exact Iff.rfl
theorem b46_80 {d : Nat} {G : PG} {M T : PH} {K : PV → PS → Prop} {l0 l1 l2 l3 l4 : Int} : pm_Run d 46 80 [.inr (.inr (.inl l0)), .inl l1, .inl l2, .inl l3, .inl l4] [] (G, M, T) K ↔ if pm_sg l4 ≠ pm_sg 20026 then pm_Run d 46 110 [.inr (.inr (.inl l0)), .inl l1, .inl l2, .inl l3, .inl l4] [] (G, M, T) K else pm_Run d 46 88 [.inr (.inr (.inl l0)), .inl l1, .inl l2, .inl l3, .inl l4] [] (G, M, T) K := by
  refine (px_go (by decide +kernel : pm_fe 46 80 = some (.iload 4, 2)) rfl).trans ?_
  refine (px_go (by decide +kernel : pm_fe 46 82 = some (.sipush 20026, 3)) rfl).trans ?_
  refine (px_ic_ne (off := 25) (tgt := 110) (by decide +kernel)).trans ?_
  exact Iff.rfl
theorem b46_88 {d : Nat} {G : PG} {M T : PH} {K : PV → PS → Prop} {l0 l1 l2 l3 l4 : Int} (h1 : pm_ob G l0 3) (h2 : 0 ≤ T l0.toNat 5 ∧ (T l0.toNat 5).toNat < G.1 ∧ 100 ≤ (G.2.2.1 (T l0.toNat 5).toNat).1 ∧ (G.2.2.1 (T l0.toNat 5).toNat).1 ≤ 104) : pm_Run d 46 88 [.inr (.inr (.inl l0)), .inl l1, .inl l2, .inl l3, .inl l4] [] (G, M, T) K ↔ if pm_sg ((G.2.2.1 (T l0.toNat 5).toNat).2 : Int) ≤ pm_sg l2 then pm_Run d 46 183 [.inr (.inr (.inl l0)), .inl l1, .inl l2, .inl l3, .inl l4] [] (G, M, T) K else pm_Run d 46 97 [.inr (.inr (.inl l0)), .inl l1, .inl l2, .inl l3, .inl l4] [] (G, M, T) K := by
  refine (px_go (by decide +kernel : pm_fe 46 88 = some (.iload_n 2, 1)) rfl).trans ?_
  refine (px_go (by decide +kernel : pm_fe 46 89 = some (.aload_n 0, 1)) rfl).trans ?_
  refine (px_get2 (idx := 27) (ci := 3) (k := 5) (by decide +kernel)).trans ((and_iff_right h1).trans ?_)
  refine (px_alen (by decide +kernel) h2).trans ?_
  refine (px_ic_ge (off := 89) (tgt := 183) (by decide +kernel)).trans ?_
  exact Iff.rfl
theorem b46_97 {d : Nat} {G : PG} {M T : PH} {K : PV → PS → Prop} {l0 l1 l2 l3 l4 : Int} (h1 : pm_ob G l0 3) (h2 : pm_ar G (T l0.toNat 5) 100 l2) : pm_Run d 46 97 [.inr (.inr (.inl l0)), .inl l1, .inl l2, .inl l3, .inl l4] [] (G, M, T) K ↔ pm_Run d 46 183 [.inr (.inr (.inl l0)), .inl l1, .inl (l2 + 1), .inl l3, .inl l4] [] (G, pm_sa M (T l0.toNat 5).toNat (pm_up (M (T l0.toNat 5).toNat) (pm_sg l2).toNat 1), T) K := by
  refine (px_go (by decide +kernel : pm_fe 46 97 = some (.aload_n 0, 1)) rfl).trans ?_
  refine (px_get2 (idx := 27) (ci := 3) (k := 5) (by decide +kernel)).trans ((and_iff_right h1).trans ?_)
  refine (px_go (by decide +kernel : pm_fe 46 101 = some (.iload_n 2, 1)) rfl).trans ?_
  refine (px_go (by decide +kernel : pm_fe 46 102 = some (.iconst 1, 1)) rfl).trans ?_
  refine (px_iastore (by decide +kernel)).trans ((and_iff_right h2).trans ?_)
  refine (px_go (by decide +kernel : pm_fe 46 104 = some (.iinc 2 1, 3)) rfl).trans ?_
  refine (px_goto (off := 76) (tgt := 183) (by decide +kernel)).trans ?_
  exact Iff.rfl
theorem b46_110 {d : Nat} {G : PG} {M T : PH} {K : PV → PS → Prop} {l0 l1 l2 l3 l4 : Int} : pm_Run d 46 110 [.inr (.inr (.inl l0)), .inl l1, .inl l2, .inl l3, .inl l4] [] (G, M, T) K ↔ if pm_sg l4 ≠ pm_sg 20025 then pm_Run d 46 144 [.inr (.inr (.inl l0)), .inl l1, .inl l2, .inl l3, .inl l4] [] (G, M, T) K else pm_Run d 46 118 [.inr (.inr (.inl l0)), .inl l1, .inl l2, .inl l3, .inl l4] [] (G, M, T) K := by
  refine (px_go (by decide +kernel : pm_fe 46 110 = some (.iload 4, 2)) rfl).trans ?_
  refine (px_go (by decide +kernel : pm_fe 46 112 = some (.sipush 20025, 3)) rfl).trans ?_
  refine (px_ic_ne (off := 29) (tgt := 144) (by decide +kernel)).trans ?_
  exact Iff.rfl
theorem b46_118 {d : Nat} {G : PG} {M T : PH} {K : PV → PS → Prop} {l0 l1 l2 l3 l4 : Int} : pm_Run d 46 118 [.inr (.inr (.inl l0)), .inl l1, .inl l2, .inl l3, .inl l4] [] (G, M, T) K ↔ if pm_sg l2 < pm_sg 1 then pm_Run d 46 183 [.inr (.inr (.inl l0)), .inl l1, .inl l2, .inl l3, .inl l4] [] (G, M, T) K else pm_Run d 46 123 [.inr (.inr (.inl l0)), .inl l1, .inl l2, .inl l3, .inl l4] [] (G, M, T) K := by
  refine (px_go (by decide +kernel : pm_fe 46 118 = some (.iload_n 2, 1)) rfl).trans ?_
  refine (px_go (by decide +kernel : pm_fe 46 119 = some (.iconst 1, 1)) rfl).trans ?_
  refine (px_ic_lt (off := 63) (tgt := 183) (by decide +kernel)).trans ?_
  exact Iff.rfl
theorem b46_123 {d : Nat} {G : PG} {M T : PH} {K : PV → PS → Prop} {l0 l1 l2 l3 l4 : Int} (h1 : pm_ob G l0 3) (h2 : pm_ar G (T l0.toNat 5) 100 (l2 - 1)) : pm_Run d 46 123 [.inr (.inr (.inl l0)), .inl l1, .inl l2, .inl l3, .inl l4] [] (G, M, T) K ↔ pm_Run d 46 183 [.inr (.inr (.inl l0)), .inl l1, .inl l2, .inl l3, .inl l4] [] (G, pm_sa M (T l0.toNat 5).toNat (pm_up (M (T l0.toNat 5).toNat) (pm_sg (l2 - 1)).toNat (1 - (M (T l0.toNat 5).toNat (pm_sg (l2 - 1)).toNat))), T) K := by
  refine (px_go (by decide +kernel : pm_fe 46 123 = some (.aload_n 0, 1)) rfl).trans ?_
  refine (px_get2 (idx := 27) (ci := 3) (k := 5) (by decide +kernel)).trans ((and_iff_right h1).trans ?_)
  refine (px_go (by decide +kernel : pm_fe 46 127 = some (.iload_n 2, 1)) rfl).trans ?_
  refine (px_go (by decide +kernel : pm_fe 46 128 = some (.iconst 1, 1)) rfl).trans ?_
  refine (px_go (by decide +kernel : pm_fe 46 129 = some (.isub, 1)) rfl).trans ?_
  refine (px_go (by decide +kernel : pm_fe 46 130 = some (.iconst 1, 1)) rfl).trans ?_
  refine (px_go (by decide +kernel : pm_fe 46 131 = some (.aload_n 0, 1)) rfl).trans ?_
  refine (px_get2 (idx := 27) (ci := 3) (k := 5) (by decide +kernel)).trans ((and_iff_right h1).trans ?_)
  refine (px_go (by decide +kernel : pm_fe 46 135 = some (.iload_n 2, 1)) rfl).trans ?_
  refine (px_go (by decide +kernel : pm_fe 46 136 = some (.iconst 1, 1)) rfl).trans ?_
  refine (px_go (by decide +kernel : pm_fe 46 137 = some (.isub, 1)) rfl).trans ?_
  refine (px_iaload (by decide +kernel) h2).trans ?_
  refine (px_go (by decide +kernel : pm_fe 46 139 = some (.isub, 1)) rfl).trans ?_
  refine (px_iastore (by decide +kernel)).trans ((and_iff_right h2).trans ?_)
  refine (px_goto (off := 42) (tgt := 183) (by decide +kernel)).trans ?_
  exact Iff.rfl
theorem b46_144 {d : Nat} {G : PG} {M T : PH} {K : PV → PS → Prop} {l0 l1 l2 l3 l4 : Int} : pm_Run d 46 144 [.inr (.inr (.inl l0)), .inl l1, .inl l2, .inl l3, .inl l4] [] (G, M, T) K ↔ if pm_sg l2 < pm_sg 2 then pm_Run d 46 183 [.inr (.inr (.inl l0)), .inl l1, .inl l2, .inl l3, .inl l4] [] (G, M, T) K else pm_Run d 46 149 [.inr (.inr (.inl l0)), .inl l1, .inl l2, .inl l3, .inl l4] [] (G, M, T) K := by
  refine (px_go (by decide +kernel : pm_fe 46 144 = some (.iload_n 2, 1)) rfl).trans ?_
  refine (px_go (by decide +kernel : pm_fe 46 145 = some (.iconst 2, 1)) rfl).trans ?_
  refine (px_ic_lt (off := 37) (tgt := 183) (by decide +kernel)).trans ?_
  exact Iff.rfl
theorem b46_149 {d : Nat} {G : PG} {M T : PH} {K : PV → PS → Prop} {l0 l1 l2 l3 l4 : Int} (h1 : pm_ob G l0 3) (h2 : pm_ar G (T l0.toNat 5) 100 ((l2 + (-1)) - 1)) (h3 : pm_ar G (T l0.toNat 5) 100 (l2 + (-1))) : pm_Run d 46 149 [.inr (.inr (.inl l0)), .inl l1, .inl l2, .inl l3, .inl l4] [] (G, M, T) K ↔ pm_Call d 47 [.inl (l4 - 20000), .inl (M (T l0.toNat 5).toNat (pm_sg ((l2 + (-1)) - 1)).toNat), .inl (M (T l0.toNat 5).toNat (pm_sg (l2 + (-1))).toNat)] (G, M, T) (fun r S1 => pm_Run d 46 182 [.inr (.inr (.inl l0)), .inl l1, .inl (l2 + (-1)), .inl l3, .inl l4] (pm_push r [.inl ((l2 + (-1)) - 1), .inr (.inr (.inl (T l0.toNat 5)))]) S1 K) := by
  refine (px_go (by decide +kernel : pm_fe 46 149 = some (.iinc 2 (-1), 3)) rfl).trans ?_
  refine (px_go (by decide +kernel : pm_fe 46 152 = some (.aload_n 0, 1)) rfl).trans ?_
  refine (px_get2 (idx := 27) (ci := 3) (k := 5) (by decide +kernel)).trans ((and_iff_right h1).trans ?_)
  refine (px_go (by decide +kernel : pm_fe 46 156 = some (.iload_n 2, 1)) rfl).trans ?_
  refine (px_go (by decide +kernel : pm_fe 46 157 = some (.iconst 1, 1)) rfl).trans ?_
  refine (px_go (by decide +kernel : pm_fe 46 158 = some (.isub, 1)) rfl).trans ?_
  refine (px_go (by decide +kernel : pm_fe 46 159 = some (.iload 4, 2)) rfl).trans ?_
  refine (px_go (by decide +kernel : pm_fe 46 161 = some (.sipush 20000, 3)) rfl).trans ?_
  refine (px_go (by decide +kernel : pm_fe 46 164 = some (.isub, 1)) rfl).trans ?_
  refine (px_go (by decide +kernel : pm_fe 46 165 = some (.aload_n 0, 1)) rfl).trans ?_
  refine (px_get2 (idx := 27) (ci := 3) (k := 5) (by decide +kernel)).trans ((and_iff_right h1).trans ?_)
  refine (px_go (by decide +kernel : pm_fe 46 169 = some (.iload_n 2, 1)) rfl).trans ?_
  refine (px_go (by decide +kernel : pm_fe 46 170 = some (.iconst 1, 1)) rfl).trans ?_
  refine (px_go (by decide +kernel : pm_fe 46 171 = some (.isub, 1)) rfl).trans ?_
  refine (px_iaload (by decide +kernel) h2).trans ?_
  refine (px_go (by decide +kernel : pm_fe 46 173 = some (.aload_n 0, 1)) rfl).trans ?_
  refine (px_get2 (idx := 27) (ci := 3) (k := 5) (by decide +kernel)).trans ((and_iff_right h1).trans ?_)
  refine (px_go (by decide +kernel : pm_fe 46 177 = some (.iload_n 2, 1)) rfl).trans ?_
  refine (px_iaload (by decide +kernel) h3).trans ?_
  refine (px_s3 (idx := 40) (m' := 47) (nest := 0) (by decide +kernel)).trans ((and_iff_right (by simp [pm_wl_n, pm_wl_c, pm_w] : pm_wl [.inl ((l2 + (-1)) - 1), .inr (.inr (.inl (T l0.toNat 5)))] ≤ 8)).trans ?_)
  exact Iff.rfl
theorem b46_182 {d : Nat} {G : PG} {M T : PH} {K : PV → PS → Prop} {l0 l1 l2 l3 l4 s0 s1 s2 : Int} (h1 : pm_ar G s2 100 s1) : pm_Run d 46 182 [.inr (.inr (.inl l0)), .inl l1, .inl l2, .inl l3, .inl l4] [.inl s0, .inl s1, .inr (.inr (.inl s2))] (G, M, T) K ↔ pm_Run d 46 183 [.inr (.inr (.inl l0)), .inl l1, .inl l2, .inl l3, .inl l4] [] (G, pm_sa M s2.toNat (pm_up (M s2.toNat) (pm_sg s1).toNat s0), T) K := by
  refine (px_iastore (by decide +kernel)).trans ((and_iff_right h1).trans ?_)
  exact Iff.rfl
theorem b46_183 {d : Nat} {G : PG} {M T : PH} {K : PV → PS → Prop} {l0 l1 l2 l3 l4 : Int} : pm_Run d 46 183 [.inr (.inr (.inl l0)), .inl l1, .inl l2, .inl l3, .inl l4] [] (G, M, T) K ↔ pm_Run d 46 9 [.inr (.inr (.inl l0)), .inl l1, .inl l2, .inl (l3 + 1), .inl l4] [] (G, M, T) K := by
  refine (px_go (by decide +kernel : pm_fe 46 183 = some (.iinc 3 1, 3)) rfl).trans ?_
  refine (px_goto (off := (-177)) (tgt := 9) (by decide +kernel)).trans ?_
  exact Iff.rfl
theorem b46_189 {d : Nat} {G : PG} {M T : PH} {K : PV → PS → Prop} {l0 l1 l2 l3 : Int} {l4 : PV} : pm_Run d 46 189 [.inr (.inr (.inl l0)), .inl l1, .inl l2, .inl l3, l4] [] (G, M, T) K ↔ if pm_sg l2 ≤ 0 then pm_Run d 46 204 [.inr (.inr (.inl l0)), .inl l1, .inl l2, .inl l3, l4] [] (G, M, T) K else pm_Run d 46 193 [.inr (.inr (.inl l0)), .inl l1, .inl l2, .inl l3, l4] [] (G, M, T) K := by
  refine (px_go (by decide +kernel : pm_fe 46 189 = some (.iload_n 2, 1)) rfl).trans ?_
  refine (px_if_le (off := 14) (tgt := 204) (by decide +kernel)).trans ?_
  exact Iff.rfl
theorem b46_193 {d : Nat} {G : PG} {M T : PH} {K : PV → PS → Prop} {l0 l1 l2 l3 : Int} {l4 : PV} (h1 : pm_ob G l0 3) (h2 : pm_ar G (T l0.toNat 5) 100 (l2 - 1)) : pm_Run d 46 193 [.inr (.inr (.inl l0)), .inl l1, .inl l2, .inl l3, l4] [] (G, M, T) K ↔ pm_Run d 46 205 [.inr (.inr (.inl l0)), .inl l1, .inl l2, .inl l3, l4] [.inl (M (T l0.toNat 5).toNat (pm_sg (l2 - 1)).toNat)] (G, M, T) K := by
  refine (px_go (by decide +kernel : pm_fe 46 193 = some (.aload_n 0, 1)) rfl).trans ?_
  refine (px_get2 (idx := 27) (ci := 3) (k := 5) (by decide +kernel)).trans ((and_iff_right h1).trans ?_)
  refine (px_go (by decide +kernel : pm_fe 46 197 = some (.iload_n 2, 1)) rfl).trans ?_
  refine (px_go (by decide +kernel : pm_fe 46 198 = some (.iconst 1, 1)) rfl).trans ?_
  refine (px_go (by decide +kernel : pm_fe 46 199 = some (.isub, 1)) rfl).trans ?_
  refine (px_iaload (by decide +kernel) h2).trans ?_
  refine (px_goto (off := 4) (tgt := 205) (by decide +kernel)).trans ?_
  exact Iff.rfl
theorem b46_204 {d : Nat} {G : PG} {M T : PH} {K : PV → PS → Prop} {l0 l1 l2 l3 : Int} {l4 : PV} : pm_Run d 46 204 [.inr (.inr (.inl l0)), .inl l1, .inl l2, .inl l3, l4] [] (G, M, T) K ↔ pm_Run d 46 205 [.inr (.inr (.inl l0)), .inl l1, .inl l2, .inl l3, l4] [.inl 0] (G, M, T) K := by
  refine (px_go (by decide +kernel : pm_fe 46 204 = some (.iconst 0, 1)) rfl).trans ?_
  exact Iff.rfl
theorem b46_205 {d : Nat} {G : PG} {M T : PH} {K : PV → PS → Prop} {l0 l1 l2 l3 s0 : Int} {l4 : PV} : pm_Run d 46 205 [.inr (.inr (.inl l0)), .inl l1, .inl l2, .inl l3, l4] [.inl s0] (G, M, T) K ↔ K (.inl s0) (G, M, T) := by
  refine (px_ri (by decide +kernel)).trans ?_
  exact Iff.rfl
-- X3_joined joined(III)I
theorem en47 {d : Nat} {p0 p1 p2 : Int} {S : PS} {K : PV → PS → Prop} : pm_Call (d + 1) 47 [.inl p0, .inl p1, .inl p2] S K ↔ pm_Run d 47 0 [.inl p0, .inl p1, .inl p2, PU, PU] [] S K := pm_Call_s.trans (and_iff_right (show 3 ≤ pm_ml 47 from by decide +kernel))
theorem b47_0 {d : Nat} {G : PG} {M T : PH} {K : PV → PS → Prop} {l0 l1 l2 : Int} : pm_Run d 47 0 [.inl l0, .inl l1, .inl l2, PU, PU] [] (G, M, T) K ↔ pm_Run d 47 (pm_tg 23 [279, 287, 327, 327, 295, 311, 327, 327, 327, 327, 327, 327, 327, 327, 219, 327, 327, 327, 327, 192, 176, 327, 184, 327, 201, 327, 327, 327, 327, 327, 327, 327, 327, 327, 327, 327, 327, 237, 265, 251] 327 (pm_sg l0)) [.inl l0, .inl l1, .inl l2, .inr (.inl 0), PU] [] (G, M, T) K := by
  refine (px_go (by decide +kernel : pm_fe 47 0 = some (.lconst 0, 1)) rfl).trans ?_
  refine (px_go (by decide +kernel : pm_fe 47 1 = some (.lstore_n 3, 1)) rfl).trans ?_
  refine (px_go (by decide +kernel : pm_fe 47 2 = some (.iload_n 0, 1)) rfl).trans ?_
  refine (px_tsw (lo := 23) (dt := 327) (tl := [279, 287, 327, 327, 295, 311, 327, 327, 327, 327, 327, 327, 327, 327, 219, 327, 327, 327, 327, 192, 176, 327, 184, 327, 201, 327, 327, 327, 327, 327, 327, 327, 327, 327, 327, 327, 327, 237, 265, 251]) (by decide +kernel : pm_fe 47 3 = some (.tableswitch 324 23 62 #[276, 284, 324, 324, 292, 308, 324, 324, 324, 324, 324, 324, 324, 324, 216, 324, 324, 324, 324, 189, 173, 324, 181, 324, 198, 324, 324, 324, 324, 324, 324, 324, 324, 324, 324, 324, 324, 234, 262, 248], 173) ∧ _)).trans ?_
  exact Iff.rfl
theorem b47_176 {d : Nat} {G : PG} {M T : PH} {K : PV → PS → Prop} {l0 l1 l2 l3 : Int} : pm_Run d 47 176 [.inl l0, .inl l1, .inl l2, .inr (.inl l3), PU] [] (G, M, T) K ↔ pm_Run d 47 327 [.inl l0, .inl l1, .inl l2, .inr (.inl (pm_sg (l1 + l2))), PU] [] (G, M, T) K := by
  refine (px_go (by decide +kernel : pm_fe 47 176 = some (.iload_n 1, 1)) rfl).trans ?_
  refine (px_go (by decide +kernel : pm_fe 47 177 = some (.iload_n 2, 1)) rfl).trans ?_
  refine (px_go (by decide +kernel : pm_fe 47 178 = some (.iadd, 1)) rfl).trans ?_
  refine (px_go (by decide +kernel : pm_fe 47 179 = some (.i2l, 1)) rfl).trans ?_
  refine (px_go (by decide +kernel : pm_fe 47 180 = some (.lstore_n 3, 1)) rfl).trans ?_
  refine (px_goto (off := 146) (tgt := 327) (by decide +kernel)).trans ?_
  exact Iff.rfl
theorem b47_184 {d : Nat} {G : PG} {M T : PH} {K : PV → PS → Prop} {l0 l1 l2 l3 : Int} : pm_Run d 47 184 [.inl l0, .inl l1, .inl l2, .inr (.inl l3), PU] [] (G, M, T) K ↔ pm_Run d 47 327 [.inl l0, .inl l1, .inl l2, .inr (.inl (pm_sg (l1 - l2))), PU] [] (G, M, T) K := by
  refine (px_go (by decide +kernel : pm_fe 47 184 = some (.iload_n 1, 1)) rfl).trans ?_
  refine (px_go (by decide +kernel : pm_fe 47 185 = some (.iload_n 2, 1)) rfl).trans ?_
  refine (px_go (by decide +kernel : pm_fe 47 186 = some (.isub, 1)) rfl).trans ?_
  refine (px_go (by decide +kernel : pm_fe 47 187 = some (.i2l, 1)) rfl).trans ?_
  refine (px_go (by decide +kernel : pm_fe 47 188 = some (.lstore_n 3, 1)) rfl).trans ?_
  refine (px_goto (off := 138) (tgt := 327) (by decide +kernel)).trans ?_
  exact Iff.rfl
theorem b47_192 {d : Nat} {G : PG} {M T : PH} {K : PV → PS → Prop} {l0 l1 l2 l3 : Int} : pm_Run d 47 192 [.inl l0, .inl l1, .inl l2, .inr (.inl l3), PU] [] (G, M, T) K ↔ pm_Run d 47 327 [.inl l0, .inl l1, .inl l2, .inr (.inl ((pm_sg l1) * (pm_sg l2))), PU] [] (G, M, T) K := by
  refine (px_go (by decide +kernel : pm_fe 47 192 = some (.iload_n 1, 1)) rfl).trans ?_
  refine (px_go (by decide +kernel : pm_fe 47 193 = some (.i2l, 1)) rfl).trans ?_
  refine (px_go (by decide +kernel : pm_fe 47 194 = some (.iload_n 2, 1)) rfl).trans ?_
  refine (px_go (by decide +kernel : pm_fe 47 195 = some (.i2l, 1)) rfl).trans ?_
  refine (px_go (by decide +kernel : pm_fe 47 196 = some (.lmul, 1)) rfl).trans ?_
  refine (px_go (by decide +kernel : pm_fe 47 197 = some (.lstore_n 3, 1)) rfl).trans ?_
  refine (px_goto (off := 129) (tgt := 327) (by decide +kernel)).trans ?_
  exact Iff.rfl
theorem b47_201 {d : Nat} {G : PG} {M T : PH} {K : PV → PS → Prop} {l0 l1 l2 l3 : Int} : pm_Run d 47 201 [.inl l0, .inl l1, .inl l2, .inr (.inl l3), PU] [] (G, M, T) K ↔ if pm_sg l2 ≠ 0 then pm_Run d 47 209 [.inl l0, .inl l1, .inl l2, .inr (.inl l3), PU] [] (G, M, T) K else pm_Run d 47 205 [.inl l0, .inl l1, .inl l2, .inr (.inl l3), PU] [] (G, M, T) K := by
  refine (px_go (by decide +kernel : pm_fe 47 201 = some (.iload_n 2, 1)) rfl).trans ?_
  refine (px_if_ne (off := 7) (tgt := 209) (by decide +kernel)).trans ?_
  exact Iff.rfl
theorem b47_205 {d : Nat} {G : PG} {M T : PH} {K : PV → PS → Prop} {l0 l1 l2 l3 : Int} : pm_Run d 47 205 [.inl l0, .inl l1, .inl l2, .inr (.inl l3), PU] [] (G, M, T) K ↔ pm_Run d 47 215 [.inl l0, .inl l1, .inl l2, .inr (.inl l3), PU] [.inr (.inl 0)] (G, M, T) K := by
  refine (px_go (by decide +kernel : pm_fe 47 205 = some (.lconst 0, 1)) rfl).trans ?_
  refine (px_goto (off := 9) (tgt := 215) (by decide +kernel)).trans ?_
  exact Iff.rfl
theorem b47_209 {d : Nat} {G : PG} {M T : PH} {K : PV → PS → Prop} {l0 l1 l2 l3 : Int} (h1 : pm_sg l2 ≠ 0) : pm_Run d 47 209 [.inl l0, .inl l1, .inl l2, .inr (.inl l3), PU] [] (G, M, T) K ↔ pm_Run d 47 215 [.inl l0, .inl l1, .inl l2, .inr (.inl l3), PU] [.inr (.inl (pm_sg (pm_fd l1 l2)))] (G, M, T) K := by
  refine (px_go (by decide +kernel : pm_fe 47 209 = some (.iload_n 1, 1)) rfl).trans ?_
  refine (px_go (by decide +kernel : pm_fe 47 210 = some (.iload_n 2, 1)) rfl).trans ?_
  refine (px_m907 (idx := 44) (by decide +kernel)).trans ((and_iff_right ⟨(by simp [pm_wl_n, pm_wl_c, pm_w] : pm_wl [] ≤ 8), h1⟩).trans ?_)
  refine (px_go (by decide +kernel : pm_fe 47 214 = some (.i2l, 1)) rfl).trans ?_
  exact Iff.rfl
theorem b47_215 {d : Nat} {G : PG} {M T : PH} {K : PV → PS → Prop} {l0 l1 l2 l3 s0 : Int} : pm_Run d 47 215 [.inl l0, .inl l1, .inl l2, .inr (.inl l3), PU] [.inr (.inl s0)] (G, M, T) K ↔ pm_Run d 47 327 [.inl l0, .inl l1, .inl l2, .inr (.inl s0), PU] [] (G, M, T) K := by
  refine (px_go (by decide +kernel : pm_fe 47 215 = some (.lstore_n 3, 1)) rfl).trans ?_
  refine (px_goto (off := 111) (tgt := 327) (by decide +kernel)).trans ?_
  exact Iff.rfl
theorem b47_219 {d : Nat} {G : PG} {M T : PH} {K : PV → PS → Prop} {l0 l1 l2 l3 : Int} : pm_Run d 47 219 [.inl l0, .inl l1, .inl l2, .inr (.inl l3), PU] [] (G, M, T) K ↔ if pm_sg l2 ≠ 0 then pm_Run d 47 227 [.inl l0, .inl l1, .inl l2, .inr (.inl l3), PU] [] (G, M, T) K else pm_Run d 47 223 [.inl l0, .inl l1, .inl l2, .inr (.inl l3), PU] [] (G, M, T) K := by
  refine (px_go (by decide +kernel : pm_fe 47 219 = some (.iload_n 2, 1)) rfl).trans ?_
  refine (px_if_ne (off := 7) (tgt := 227) (by decide +kernel)).trans ?_
  exact Iff.rfl
theorem b47_223 {d : Nat} {G : PG} {M T : PH} {K : PV → PS → Prop} {l0 l1 l2 l3 : Int} : pm_Run d 47 223 [.inl l0, .inl l1, .inl l2, .inr (.inl l3), PU] [] (G, M, T) K ↔ pm_Run d 47 233 [.inl l0, .inl l1, .inl l2, .inr (.inl l3), PU] [.inr (.inl 0)] (G, M, T) K := by
  refine (px_go (by decide +kernel : pm_fe 47 223 = some (.lconst 0, 1)) rfl).trans ?_
  refine (px_goto (off := 9) (tgt := 233) (by decide +kernel)).trans ?_
  exact Iff.rfl
theorem b47_227 {d : Nat} {G : PG} {M T : PH} {K : PV → PS → Prop} {l0 l1 l2 l3 : Int} (h1 : pm_sg l2 ≠ 0) : pm_Run d 47 227 [.inl l0, .inl l1, .inl l2, .inr (.inl l3), PU] [] (G, M, T) K ↔ pm_Run d 47 233 [.inl l0, .inl l1, .inl l2, .inr (.inl l3), PU] [.inr (.inl (pm_sg (pm_fm l1 l2)))] (G, M, T) K := by
  refine (px_go (by decide +kernel : pm_fe 47 227 = some (.iload_n 1, 1)) rfl).trans ?_
  refine (px_go (by decide +kernel : pm_fe 47 228 = some (.iload_n 2, 1)) rfl).trans ?_
  refine (px_m908 (idx := 50) (by decide +kernel)).trans ((and_iff_right ⟨(by simp [pm_wl_n, pm_wl_c, pm_w] : pm_wl [] ≤ 8), h1⟩).trans ?_)
  refine (px_go (by decide +kernel : pm_fe 47 232 = some (.i2l, 1)) rfl).trans ?_
  exact Iff.rfl
theorem b47_233 {d : Nat} {G : PG} {M T : PH} {K : PV → PS → Prop} {l0 l1 l2 l3 s0 : Int} : pm_Run d 47 233 [.inl l0, .inl l1, .inl l2, .inr (.inl l3), PU] [.inr (.inl s0)] (G, M, T) K ↔ pm_Run d 47 327 [.inl l0, .inl l1, .inl l2, .inr (.inl s0), PU] [] (G, M, T) K := by
  refine (px_go (by decide +kernel : pm_fe 47 233 = some (.lstore_n 3, 1)) rfl).trans ?_
  refine (px_goto (off := 93) (tgt := 327) (by decide +kernel)).trans ?_
  exact Iff.rfl
theorem b47_237 {d : Nat} {G : PG} {M T : PH} {K : PV → PS → Prop} {l0 l1 l2 l3 : Int} : pm_Run d 47 237 [.inl l0, .inl l1, .inl l2, .inr (.inl l3), PU] [] (G, M, T) K ↔ if pm_sg l2 ≤ pm_sg l1 then pm_Run d 47 246 [.inl l0, .inl l1, .inl l2, .inr (.inl l3), PU] [] (G, M, T) K else pm_Run d 47 242 [.inl l0, .inl l1, .inl l2, .inr (.inl l3), PU] [] (G, M, T) K := by
  refine (px_go (by decide +kernel : pm_fe 47 237 = some (.iload_n 1, 1)) rfl).trans ?_
  refine (px_go (by decide +kernel : pm_fe 47 238 = some (.iload_n 2, 1)) rfl).trans ?_
  refine (px_ic_ge (off := 7) (tgt := 246) (by decide +kernel)).trans ?_
  exact Iff.rfl
theorem b47_242 {d : Nat} {G : PG} {M T : PH} {K : PV → PS → Prop} {l0 l1 l2 l3 : Int} : pm_Run d 47 242 [.inl l0, .inl l1, .inl l2, .inr (.inl l3), PU] [] (G, M, T) K ↔ pm_Run d 47 247 [.inl l0, .inl l1, .inl l2, .inr (.inl l3), PU] [.inr (.inl 1)] (G, M, T) K := by
  refine (px_go (by decide +kernel : pm_fe 47 242 = some (.lconst 1, 1)) rfl).trans ?_
  refine (px_goto (off := 4) (tgt := 247) (by decide +kernel)).trans ?_
  exact Iff.rfl
theorem b47_246 {d : Nat} {G : PG} {M T : PH} {K : PV → PS → Prop} {l0 l1 l2 l3 : Int} : pm_Run d 47 246 [.inl l0, .inl l1, .inl l2, .inr (.inl l3), PU] [] (G, M, T) K ↔ pm_Run d 47 247 [.inl l0, .inl l1, .inl l2, .inr (.inl l3), PU] [.inr (.inl 0)] (G, M, T) K := by
  refine (px_go (by decide +kernel : pm_fe 47 246 = some (.lconst 0, 1)) rfl).trans ?_
  exact Iff.rfl
theorem b47_247 {d : Nat} {G : PG} {M T : PH} {K : PV → PS → Prop} {l0 l1 l2 l3 s0 : Int} : pm_Run d 47 247 [.inl l0, .inl l1, .inl l2, .inr (.inl l3), PU] [.inr (.inl s0)] (G, M, T) K ↔ pm_Run d 47 327 [.inl l0, .inl l1, .inl l2, .inr (.inl s0), PU] [] (G, M, T) K := by
  refine (px_go (by decide +kernel : pm_fe 47 247 = some (.lstore_n 3, 1)) rfl).trans ?_
  refine (px_goto (off := 79) (tgt := 327) (by decide +kernel)).trans ?_
  exact Iff.rfl
theorem b47_251 {d : Nat} {G : PG} {M T : PH} {K : PV → PS → Prop} {l0 l1 l2 l3 : Int} : pm_Run d 47 251 [.inl l0, .inl l1, .inl l2, .inr (.inl l3), PU] [] (G, M, T) K ↔ if pm_sg l1 ≤ pm_sg l2 then pm_Run d 47 260 [.inl l0, .inl l1, .inl l2, .inr (.inl l3), PU] [] (G, M, T) K else pm_Run d 47 256 [.inl l0, .inl l1, .inl l2, .inr (.inl l3), PU] [] (G, M, T) K := by
  refine (px_go (by decide +kernel : pm_fe 47 251 = some (.iload_n 1, 1)) rfl).trans ?_
  refine (px_go (by decide +kernel : pm_fe 47 252 = some (.iload_n 2, 1)) rfl).trans ?_
  refine (px_ic_le (off := 7) (tgt := 260) (by decide +kernel)).trans ?_
  exact Iff.rfl
theorem b47_256 {d : Nat} {G : PG} {M T : PH} {K : PV → PS → Prop} {l0 l1 l2 l3 : Int} : pm_Run d 47 256 [.inl l0, .inl l1, .inl l2, .inr (.inl l3), PU] [] (G, M, T) K ↔ pm_Run d 47 261 [.inl l0, .inl l1, .inl l2, .inr (.inl l3), PU] [.inr (.inl 1)] (G, M, T) K := by
  refine (px_go (by decide +kernel : pm_fe 47 256 = some (.lconst 1, 1)) rfl).trans ?_
  refine (px_goto (off := 4) (tgt := 261) (by decide +kernel)).trans ?_
  exact Iff.rfl
theorem b47_260 {d : Nat} {G : PG} {M T : PH} {K : PV → PS → Prop} {l0 l1 l2 l3 : Int} : pm_Run d 47 260 [.inl l0, .inl l1, .inl l2, .inr (.inl l3), PU] [] (G, M, T) K ↔ pm_Run d 47 261 [.inl l0, .inl l1, .inl l2, .inr (.inl l3), PU] [.inr (.inl 0)] (G, M, T) K := by
  refine (px_go (by decide +kernel : pm_fe 47 260 = some (.lconst 0, 1)) rfl).trans ?_
  exact Iff.rfl
theorem b47_261 {d : Nat} {G : PG} {M T : PH} {K : PV → PS → Prop} {l0 l1 l2 l3 s0 : Int} : pm_Run d 47 261 [.inl l0, .inl l1, .inl l2, .inr (.inl l3), PU] [.inr (.inl s0)] (G, M, T) K ↔ pm_Run d 47 327 [.inl l0, .inl l1, .inl l2, .inr (.inl s0), PU] [] (G, M, T) K := by
  refine (px_go (by decide +kernel : pm_fe 47 261 = some (.lstore_n 3, 1)) rfl).trans ?_
  refine (px_goto (off := 65) (tgt := 327) (by decide +kernel)).trans ?_
  exact Iff.rfl
theorem b47_265 {d : Nat} {G : PG} {M T : PH} {K : PV → PS → Prop} {l0 l1 l2 l3 : Int} : pm_Run d 47 265 [.inl l0, .inl l1, .inl l2, .inr (.inl l3), PU] [] (G, M, T) K ↔ if pm_sg l1 ≠ pm_sg l2 then pm_Run d 47 274 [.inl l0, .inl l1, .inl l2, .inr (.inl l3), PU] [] (G, M, T) K else pm_Run d 47 270 [.inl l0, .inl l1, .inl l2, .inr (.inl l3), PU] [] (G, M, T) K := by
  refine (px_go (by decide +kernel : pm_fe 47 265 = some (.iload_n 1, 1)) rfl).trans ?_
  refine (px_go (by decide +kernel : pm_fe 47 266 = some (.iload_n 2, 1)) rfl).trans ?_
  refine (px_ic_ne (off := 7) (tgt := 274) (by decide +kernel)).trans ?_
  exact Iff.rfl
theorem b47_270 {d : Nat} {G : PG} {M T : PH} {K : PV → PS → Prop} {l0 l1 l2 l3 : Int} : pm_Run d 47 270 [.inl l0, .inl l1, .inl l2, .inr (.inl l3), PU] [] (G, M, T) K ↔ pm_Run d 47 275 [.inl l0, .inl l1, .inl l2, .inr (.inl l3), PU] [.inr (.inl 1)] (G, M, T) K := by
  refine (px_go (by decide +kernel : pm_fe 47 270 = some (.lconst 1, 1)) rfl).trans ?_
  refine (px_goto (off := 4) (tgt := 275) (by decide +kernel)).trans ?_
  exact Iff.rfl
theorem b47_274 {d : Nat} {G : PG} {M T : PH} {K : PV → PS → Prop} {l0 l1 l2 l3 : Int} : pm_Run d 47 274 [.inl l0, .inl l1, .inl l2, .inr (.inl l3), PU] [] (G, M, T) K ↔ pm_Run d 47 275 [.inl l0, .inl l1, .inl l2, .inr (.inl l3), PU] [.inr (.inl 0)] (G, M, T) K := by
  refine (px_go (by decide +kernel : pm_fe 47 274 = some (.lconst 0, 1)) rfl).trans ?_
  exact Iff.rfl
theorem b47_275 {d : Nat} {G : PG} {M T : PH} {K : PV → PS → Prop} {l0 l1 l2 l3 s0 : Int} : pm_Run d 47 275 [.inl l0, .inl l1, .inl l2, .inr (.inl l3), PU] [.inr (.inl s0)] (G, M, T) K ↔ pm_Run d 47 327 [.inl l0, .inl l1, .inl l2, .inr (.inl s0), PU] [] (G, M, T) K := by
  refine (px_go (by decide +kernel : pm_fe 47 275 = some (.lstore_n 3, 1)) rfl).trans ?_
  refine (px_goto (off := 51) (tgt := 327) (by decide +kernel)).trans ?_
  exact Iff.rfl
theorem b47_279 {d : Nat} {G : PG} {M T : PH} {K : PV → PS → Prop} {l0 l1 l2 l3 : Int} : pm_Run d 47 279 [.inl l0, .inl l1, .inl l2, .inr (.inl l3), PU] [] (G, M, T) K ↔ pm_Run d 47 327 [.inl l0, .inl l1, .inl l2, .inr (.inl (pm_sg (pm_or l1 l2))), PU] [] (G, M, T) K := by
  refine (px_go (by decide +kernel : pm_fe 47 279 = some (.iload_n 1, 1)) rfl).trans ?_
  refine (px_go (by decide +kernel : pm_fe 47 280 = some (.iload_n 2, 1)) rfl).trans ?_
  refine (px_go (by decide +kernel : pm_fe 47 281 = some (.ior, 1)) rfl).trans ?_
  refine (px_go (by decide +kernel : pm_fe 47 282 = some (.i2l, 1)) rfl).trans ?_
  refine (px_go (by decide +kernel : pm_fe 47 283 = some (.lstore_n 3, 1)) rfl).trans ?_
  refine (px_goto (off := 43) (tgt := 327) (by decide +kernel)).trans ?_
  exact Iff.rfl
theorem b47_287 {d : Nat} {G : PG} {M T : PH} {K : PV → PS → Prop} {l0 l1 l2 l3 : Int} : pm_Run d 47 287 [.inl l0, .inl l1, .inl l2, .inr (.inl l3), PU] [] (G, M, T) K ↔ pm_Run d 47 327 [.inl l0, .inl l1, .inl l2, .inr (.inl (pm_sg (pm_and l1 l2))), PU] [] (G, M, T) K := by
  refine (px_go (by decide +kernel : pm_fe 47 287 = some (.iload_n 1, 1)) rfl).trans ?_
  refine (px_go (by decide +kernel : pm_fe 47 288 = some (.iload_n 2, 1)) rfl).trans ?_
  refine (px_go (by decide +kernel : pm_fe 47 289 = some (.iand, 1)) rfl).trans ?_
  refine (px_go (by decide +kernel : pm_fe 47 290 = some (.i2l, 1)) rfl).trans ?_
  refine (px_go (by decide +kernel : pm_fe 47 291 = some (.lstore_n 3, 1)) rfl).trans ?_
  refine (px_goto (off := 35) (tgt := 327) (by decide +kernel)).trans ?_
  exact Iff.rfl
theorem b47_295 {d : Nat} {G : PG} {M T : PH} {K : PV → PS → Prop} {l0 l1 l2 l3 : Int} : pm_Run d 47 295 [.inl l0, .inl l1, .inl l2, .inr (.inl l3), PU] [] (G, M, T) K ↔ if pm_sg l2 ≤ pm_sg l1 then pm_Run d 47 305 [.inl l0, .inl l1, .inl l2, .inr (.inl l3), PU] [] (G, M, T) K else pm_Run d 47 300 [.inl l0, .inl l1, .inl l2, .inr (.inl l3), PU] [] (G, M, T) K := by
  refine (px_go (by decide +kernel : pm_fe 47 295 = some (.iload_n 1, 1)) rfl).trans ?_
  refine (px_go (by decide +kernel : pm_fe 47 296 = some (.iload_n 2, 1)) rfl).trans ?_
  refine (px_ic_ge (off := 8) (tgt := 305) (by decide +kernel)).trans ?_
  exact Iff.rfl
theorem b47_300 {d : Nat} {G : PG} {M T : PH} {K : PV → PS → Prop} {l0 l1 l2 l3 : Int} : pm_Run d 47 300 [.inl l0, .inl l1, .inl l2, .inr (.inl l3), PU] [] (G, M, T) K ↔ pm_Run d 47 307 [.inl l0, .inl l1, .inl l2, .inr (.inl l3), PU] [.inr (.inl (pm_sg l1))] (G, M, T) K := by
  refine (px_go (by decide +kernel : pm_fe 47 300 = some (.iload_n 1, 1)) rfl).trans ?_
  refine (px_go (by decide +kernel : pm_fe 47 301 = some (.i2l, 1)) rfl).trans ?_
  refine (px_goto (off := 5) (tgt := 307) (by decide +kernel)).trans ?_
  exact Iff.rfl
theorem b47_305 {d : Nat} {G : PG} {M T : PH} {K : PV → PS → Prop} {l0 l1 l2 l3 : Int} : pm_Run d 47 305 [.inl l0, .inl l1, .inl l2, .inr (.inl l3), PU] [] (G, M, T) K ↔ pm_Run d 47 307 [.inl l0, .inl l1, .inl l2, .inr (.inl l3), PU] [.inr (.inl (pm_sg l2))] (G, M, T) K := by
  refine (px_go (by decide +kernel : pm_fe 47 305 = some (.iload_n 2, 1)) rfl).trans ?_
  refine (px_go (by decide +kernel : pm_fe 47 306 = some (.i2l, 1)) rfl).trans ?_
  exact Iff.rfl
theorem b47_307 {d : Nat} {G : PG} {M T : PH} {K : PV → PS → Prop} {l0 l1 l2 l3 s0 : Int} : pm_Run d 47 307 [.inl l0, .inl l1, .inl l2, .inr (.inl l3), PU] [.inr (.inl s0)] (G, M, T) K ↔ pm_Run d 47 327 [.inl l0, .inl l1, .inl l2, .inr (.inl s0), PU] [] (G, M, T) K := by
  refine (px_go (by decide +kernel : pm_fe 47 307 = some (.lstore_n 3, 1)) rfl).trans ?_
  refine (px_goto (off := 19) (tgt := 327) (by decide +kernel)).trans ?_
  exact Iff.rfl
theorem b47_311 {d : Nat} {G : PG} {M T : PH} {K : PV → PS → Prop} {l0 l1 l2 l3 : Int} : pm_Run d 47 311 [.inl l0, .inl l1, .inl l2, .inr (.inl l3), PU] [] (G, M, T) K ↔ if pm_sg l1 ≤ pm_sg l2 then pm_Run d 47 321 [.inl l0, .inl l1, .inl l2, .inr (.inl l3), PU] [] (G, M, T) K else pm_Run d 47 316 [.inl l0, .inl l1, .inl l2, .inr (.inl l3), PU] [] (G, M, T) K := by
  refine (px_go (by decide +kernel : pm_fe 47 311 = some (.iload_n 1, 1)) rfl).trans ?_
  refine (px_go (by decide +kernel : pm_fe 47 312 = some (.iload_n 2, 1)) rfl).trans ?_
  refine (px_ic_le (off := 8) (tgt := 321) (by decide +kernel)).trans ?_
  exact Iff.rfl
theorem b47_316 {d : Nat} {G : PG} {M T : PH} {K : PV → PS → Prop} {l0 l1 l2 l3 : Int} : pm_Run d 47 316 [.inl l0, .inl l1, .inl l2, .inr (.inl l3), PU] [] (G, M, T) K ↔ pm_Run d 47 323 [.inl l0, .inl l1, .inl l2, .inr (.inl l3), PU] [.inr (.inl (pm_sg l1))] (G, M, T) K := by
  refine (px_go (by decide +kernel : pm_fe 47 316 = some (.iload_n 1, 1)) rfl).trans ?_
  refine (px_go (by decide +kernel : pm_fe 47 317 = some (.i2l, 1)) rfl).trans ?_
  refine (px_goto (off := 5) (tgt := 323) (by decide +kernel)).trans ?_
  exact Iff.rfl
theorem b47_321 {d : Nat} {G : PG} {M T : PH} {K : PV → PS → Prop} {l0 l1 l2 l3 : Int} : pm_Run d 47 321 [.inl l0, .inl l1, .inl l2, .inr (.inl l3), PU] [] (G, M, T) K ↔ pm_Run d 47 323 [.inl l0, .inl l1, .inl l2, .inr (.inl l3), PU] [.inr (.inl (pm_sg l2))] (G, M, T) K := by
  refine (px_go (by decide +kernel : pm_fe 47 321 = some (.iload_n 2, 1)) rfl).trans ?_
  refine (px_go (by decide +kernel : pm_fe 47 322 = some (.i2l, 1)) rfl).trans ?_
  exact Iff.rfl
theorem b47_323 {d : Nat} {G : PG} {M T : PH} {K : PV → PS → Prop} {l0 l1 l2 l3 s0 : Int} : pm_Run d 47 323 [.inl l0, .inl l1, .inl l2, .inr (.inl l3), PU] [.inr (.inl s0)] (G, M, T) K ↔ pm_Run d 47 327 [.inl l0, .inl l1, .inl l2, .inr (.inl s0), PU] [] (G, M, T) K := by
  refine (px_go (by decide +kernel : pm_fe 47 323 = some (.lstore_n 3, 1)) rfl).trans ?_
  refine (px_goto (off := 3) (tgt := 327) (by decide +kernel)).trans ?_
  exact Iff.rfl
theorem b47_327 {d : Nat} {G : PG} {M T : PH} {K : PV → PS → Prop} {l0 l1 l2 l3 : Int} : pm_Run d 47 327 [.inl l0, .inl l1, .inl l2, .inr (.inl l3), PU] [] (G, M, T) K ↔ if pm_sg (pm_cmp l3 1000000) ≤ 0 then pm_Run d 47 338 [.inl l0, .inl l1, .inl l2, .inr (.inl l3), PU] [] (G, M, T) K else pm_Run d 47 335 [.inl l0, .inl l1, .inl l2, .inr (.inl l3), PU] [] (G, M, T) K := by
  refine (px_go (by decide +kernel : pm_fe 47 327 = some (.lload_n 3, 1)) rfl).trans ?_
  refine (px_ldcL (idx := 53) (x := 1000000) (by decide +kernel)).trans ?_
  refine (px_go (by decide +kernel : pm_fe 47 331 = some (.lcmp, 1)) rfl).trans ?_
  refine (px_if_le (off := 6) (tgt := 338) (by decide +kernel)).trans ?_
  exact Iff.rfl
theorem b47_335 {d : Nat} {G : PG} {M T : PH} {K : PV → PS → Prop} {l0 l1 l2 l3 : Int} : pm_Run d 47 335 [.inl l0, .inl l1, .inl l2, .inr (.inl l3), PU] [] (G, M, T) K ↔ K (.inl 1000000) (G, M, T) := by
  refine (px_ldcI (idx := 55) (n := 2) (x := 1000000) (by decide +kernel)).trans ?_
  refine (px_ri (by decide +kernel)).trans ?_
  exact Iff.rfl
theorem b47_338 {d : Nat} {G : PG} {M T : PH} {K : PV → PS → Prop} {l0 l1 l2 l3 : Int} : pm_Run d 47 338 [.inl l0, .inl l1, .inl l2, .inr (.inl l3), PU] [] (G, M, T) K ↔ if 0 ≤ pm_sg (pm_cmp l3 (-1000000)) then pm_Run d 47 351 [.inl l0, .inl l1, .inl l2, .inr (.inl l3), PU] [] (G, M, T) K else pm_Run d 47 346 [.inl l0, .inl l1, .inl l2, .inr (.inl l3), PU] [] (G, M, T) K := by
  refine (px_go (by decide +kernel : pm_fe 47 338 = some (.lload_n 3, 1)) rfl).trans ?_
  refine (px_ldcL (idx := 56) (x := (-1000000)) (by decide +kernel)).trans ?_
  refine (px_go (by decide +kernel : pm_fe 47 342 = some (.lcmp, 1)) rfl).trans ?_
  refine (px_if_ge (off := 8) (tgt := 351) (by decide +kernel)).trans ?_
  exact Iff.rfl
theorem b47_346 {d : Nat} {G : PG} {M T : PH} {K : PV → PS → Prop} {l0 l1 l2 l3 : Int} : pm_Run d 47 346 [.inl l0, .inl l1, .inl l2, .inr (.inl l3), PU] [] (G, M, T) K ↔ pm_Run d 47 353 [.inl l0, .inl l1, .inl l2, .inr (.inl l3), PU] [.inl (-1000000)] (G, M, T) K := by
  refine (px_ldcI (idx := 58) (n := 2) (x := (-1000000)) (by decide +kernel)).trans ?_
  refine (px_goto (off := 5) (tgt := 353) (by decide +kernel)).trans ?_
  exact Iff.rfl
theorem b47_351 {d : Nat} {G : PG} {M T : PH} {K : PV → PS → Prop} {l0 l1 l2 l3 : Int} : pm_Run d 47 351 [.inl l0, .inl l1, .inl l2, .inr (.inl l3), PU] [] (G, M, T) K ↔ pm_Run d 47 353 [.inl l0, .inl l1, .inl l2, .inr (.inl l3), PU] [.inl l3] (G, M, T) K := by
  refine (px_go (by decide +kernel : pm_fe 47 351 = some (.lload_n 3, 1)) rfl).trans ?_
  refine (px_go (by decide +kernel : pm_fe 47 352 = some (.l2i, 1)) rfl).trans ?_
  exact Iff.rfl
theorem b47_353 {d : Nat} {G : PG} {M T : PH} {K : PV → PS → Prop} {l0 l1 l2 l3 s0 : Int} : pm_Run d 47 353 [.inl l0, .inl l1, .inl l2, .inr (.inl l3), PU] [.inl s0] (G, M, T) K ↔ K (.inl s0) (G, M, T) := by
  refine (px_ri (by decide +kernel)).trans ?_
  exact Iff.rfl
