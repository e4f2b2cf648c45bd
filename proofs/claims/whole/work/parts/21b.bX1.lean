-- X1_init <init>()V
theorem en12 {d : Nat} {a : Int} {S : PS} {K : PV → PS → Prop} : pm_Call (d + 1) 12 [.inr (.inr (.inl a))] S K ↔ pm_Run d 12 0 [.inr (.inr (.inl a))] [] S K := pm_Call_s.trans (and_iff_right (show 1 ≤ pm_ml 12 from by decide +kernel))
theorem b12_97 {d : Nat} {G : PG} {M T : PH} {K : PV → PS → Prop} {l0 s0 s1 : Int} (h1 : pm_ob G s1 1) (h2 : 0 ≤ s0) : pm_Run d 12 97 [.inr (.inr (.inl l0))] [.inr (.inr (.inl s0)), .inr (.inr (.inl s1))] (G, M, T) K ↔ K PU (G, M, pm_sa T s1.toNat (pm_up (T s1.toNat) 17 s0)) := by
  refine (px_put2 (idx := 53) (ci := 1) (k := 17) (by decide +kernel)).trans ((and_iff_right ⟨h1, h2⟩).trans ?_)
  refine (px_rv (by decide +kernel)).trans ?_
  exact Iff.rfl
-- X1_clear clear()V
theorem en13 {d : Nat} {a : Int} {S : PS} {K : PV → PS → Prop} : pm_Call (d + 1) 13 [.inr (.inr (.inl a))] S K ↔ pm_Run d 13 0 [.inr (.inr (.inl a))] [] S K := pm_Call_s.trans (and_iff_right (show 1 ≤ pm_ml 13 from by decide +kernel))
theorem b13_0 {d : Nat} {G : PG} {M T : PH} {K : PV → PS → Prop} {l0 : Int} (h1 : pm_ob G l0 1) : pm_Run d 13 0 [.inr (.inr (.inl l0))] [] (G, M, T) K ↔ pm_Run d 13 15 [.inr (.inr (.inl l0))] [] (G, pm_sa (pm_sa (pm_sa M l0.toNat (pm_up (M l0.toNat) 0 0)) l0.toNat (pm_up ((pm_sa M l0.toNat (pm_up (M l0.toNat) 0 0)) l0.toNat) 1 0)) l0.toNat (pm_up ((pm_sa (pm_sa M l0.toNat (pm_up (M l0.toNat) 0 0)) l0.toNat (pm_up ((pm_sa M l0.toNat (pm_up (M l0.toNat) 0 0)) l0.toNat) 1 0)) l0.toNat) 2 0), T) K := by
  refine (px_go (by decide +kernel : pm_fe 13 0 = some (.aload_n 0, 1)) rfl).trans ?_
  refine (px_go (by decide +kernel : pm_fe 13 1 = some (.iconst 0, 1)) rfl).trans ?_
  refine (px_put0 (idx := 57) (ci := 1) (k := 0) (by decide +kernel)).trans ((and_iff_right h1).trans ?_)
  refine (px_go (by decide +kernel : pm_fe 13 5 = some (.aload_n 0, 1)) rfl).trans ?_
  refine (px_go (by decide +kernel : pm_fe 13 6 = some (.iconst 0, 1)) rfl).trans ?_
  refine (px_put0 (idx := 60) (ci := 1) (k := 1) (by decide +kernel)).trans ((and_iff_right h1).trans ?_)
  refine (px_go (by decide +kernel : pm_fe 13 10 = some (.aload_n 0, 1)) rfl).trans ?_
  refine (px_go (by decide +kernel : pm_fe 13 11 = some (.iconst 0, 1)) rfl).trans ?_
  refine (px_put0 (idx := 63) (ci := 1) (k := 2) (by decide +kernel)).trans ((and_iff_right h1).trans ?_)
  exact Iff.rfl
theorem b13_15 {d : Nat} {G : PG} {M T : PH} {K : PV → PS → Prop} {l0 : Int} (h1 : pm_ob G l0 1) : pm_Run d 13 15 [.inr (.inr (.inl l0))] [] (G, M, T) K ↔ pm_Run d 13 31 [.inr (.inr (.inl l0))] [] (G, pm_sa (pm_sa (pm_sa M l0.toNat (pm_up (M l0.toNat) 3 0)) l0.toNat (pm_up ((pm_sa M l0.toNat (pm_up (M l0.toNat) 3 0)) l0.toNat) 4 0)) l0.toNat (pm_up ((pm_sa (pm_sa M l0.toNat (pm_up (M l0.toNat) 3 0)) l0.toNat (pm_up ((pm_sa M l0.toNat (pm_up (M l0.toNat) 3 0)) l0.toNat) 4 0)) l0.toNat) 5 20), T) K := by
  refine (px_go (by decide +kernel : pm_fe 13 15 = some (.aload_n 0, 1)) rfl).trans ?_
  refine (px_go (by decide +kernel : pm_fe 13 16 = some (.iconst 0, 1)) rfl).trans ?_
  refine (px_put0 (idx := 66) (ci := 1) (k := 3) (by decide +kernel)).trans ((and_iff_right h1).trans ?_)
  refine (px_go (by decide +kernel : pm_fe 13 20 = some (.aload_n 0, 1)) rfl).trans ?_
  refine (px_go (by decide +kernel : pm_fe 13 21 = some (.iconst 0, 1)) rfl).trans ?_
  refine (px_put0 (idx := 69) (ci := 1) (k := 4) (by decide +kernel)).trans ((and_iff_right h1).trans ?_)
  refine (px_go (by decide +kernel : pm_fe 13 25 = some (.aload_n 0, 1)) rfl).trans ?_
  refine (px_go (by decide +kernel : pm_fe 13 26 = some (.bipush 20, 2)) rfl).trans ?_
  refine (px_put0 (idx := 9) (ci := 1) (k := 5) (by decide +kernel)).trans ((and_iff_right h1).trans ?_)
  exact Iff.rfl
theorem b13_31 {d : Nat} {G : PG} {M T : PH} {K : PV → PS → Prop} {l0 : Int} (h1 : pm_ob G l0 1) (h2 : pm_ob G (T l0.toNat 16) 5) : pm_Run d 13 31 [.inr (.inr (.inl l0))] [] (G, M, T) K ↔ pm_Call d 57 [.inr (.inr (.inl (T l0.toNat 16)))] (G, pm_sa (pm_sa M l0.toNat (pm_up (M l0.toNat) 6 50)) l0.toNat (pm_up ((pm_sa M l0.toNat (pm_up (M l0.toNat) 6 50)) l0.toNat) 7 0), T) (fun r S1 => pm_Run d 13 49 [.inr (.inr (.inl l0))] (pm_push r []) S1 K) := by
  refine (px_go (by decide +kernel : pm_fe 13 31 = some (.aload_n 0, 1)) rfl).trans ?_
  refine (px_go (by decide +kernel : pm_fe 13 32 = some (.bipush 50, 2)) rfl).trans ?_
  refine (px_put0 (idx := 15) (ci := 1) (k := 6) (by decide +kernel)).trans ((and_iff_right h1).trans ?_)
  refine (px_go (by decide +kernel : pm_fe 13 37 = some (.aload_n 0, 1)) rfl).trans ?_
  refine (px_go (by decide +kernel : pm_fe 13 38 = some (.iconst 0, 1)) rfl).trans ?_
  refine (px_put0 (idx := 72) (ci := 1) (k := 7) (by decide +kernel)).trans ((and_iff_right h1).trans ?_)
  refine (px_go (by decide +kernel : pm_fe 13 42 = some (.aload_n 0, 1)) rfl).trans ?_
  refine (px_get2 (idx := 46) (ci := 1) (k := 16) (by decide +kernel)).trans ((and_iff_right h1).trans ?_)
  refine (px_v0 (idx := 75) (m' := 57) (ci := 5) (by decide +kernel)).trans ((and_iff_right ⟨h2, (by simp [pm_wl_n, pm_wl_c, pm_w] : pm_wl [] ≤ 8)⟩).trans ?_)
  exact Iff.rfl
theorem b13_49 {d : Nat} {G : PG} {M T : PH} {K : PV → PS → Prop} {l0 : Int} (h1 : pm_ob G l0 1) (h2 : pm_ob G (T l0.toNat 17) 3) : pm_Run d 13 49 [.inr (.inr (.inl l0))] [] (G, M, T) K ↔ pm_Call d 40 [.inr (.inr (.inl (T l0.toNat 17)))] (G, M, T) (fun r S1 => pm_Run d 13 56 [.inr (.inr (.inl l0))] (pm_push r []) S1 K) := by
  refine (px_go (by decide +kernel : pm_fe 13 49 = some (.aload_n 0, 1)) rfl).trans ?_
  refine (px_get2 (idx := 53) (ci := 1) (k := 17) (by decide +kernel)).trans ((and_iff_right h1).trans ?_)
  refine (px_v0 (idx := 78) (m' := 40) (ci := 3) (by decide +kernel)).trans ((and_iff_right ⟨h2, (by simp [pm_wl_n, pm_wl_c, pm_w] : pm_wl [] ≤ 8)⟩).trans ?_)
  exact Iff.rfl
theorem b13_56 {d : Nat} {G : PG} {M T : PH} {K : PV → PS → Prop} {l0 : Int} : pm_Run d 13 56 [.inr (.inr (.inl l0))] [] (G, M, T) K ↔ K PU (G, M, T) := by
  refine (px_rv (by decide +kernel)).trans ?_
  exact Iff.rfl
-- X1_moonNamed moonNamed(I)I
theorem en14 {d : Nat} {a p0 : Int} {S : PS} {K : PV → PS → Prop} : pm_Call (d + 1) 14 [.inr (.inr (.inl a)), .inl p0] S K ↔ pm_Run d 14 0 [.inr (.inr (.inl a)), .inl p0, PU] [] S K := pm_Call_s.trans (and_iff_right (show 2 ≤ pm_ml 14 from by decide +kernel))
theorem b14_0 {d : Nat} {G : PG} {M T : PH} {K : PV → PS → Prop} {l0 l1 : Int} : pm_Run d 14 0 [.inr (.inr (.inl l0)), .inl l1, PU] [] (G, M, T) K ↔ pm_Run d 14 2 [.inr (.inr (.inl l0)), .inl l1, .inl 0] [] (G, M, T) K := by
  refine (px_go (by decide +kernel : pm_fe 14 0 = some (.iconst 0, 1)) rfl).trans ?_
  refine (px_go (by decide +kernel : pm_fe 14 1 = some (.istore_n 2, 1)) rfl).trans ?_
  exact Iff.rfl
theorem b14_2 {d : Nat} {G : PG} {M T : PH} {K : PV → PS → Prop} {l0 l1 l2 : Int} (h1 : pm_ob G l0 1) : pm_Run d 14 2 [.inr (.inr (.inl l0)), .inl l1, .inl l2] [] (G, M, T) K ↔ if pm_sg (M l0.toNat 1) ≤ pm_sg l2 then pm_Run d 14 28 [.inr (.inr (.inl l0)), .inl l1, .inl l2] [] (G, M, T) K else pm_Run d 14 10 [.inr (.inr (.inl l0)), .inl l1, .inl l2] [] (G, M, T) K := by
  refine (px_go (by decide +kernel : pm_fe 14 2 = some (.iload_n 2, 1)) rfl).trans ?_
  refine (px_go (by decide +kernel : pm_fe 14 3 = some (.aload_n 0, 1)) rfl).trans ?_
  refine (px_get0 (idx := 60) (ci := 1) (k := 1) (by decide +kernel)).trans ((and_iff_right h1).trans ?_)
  refine (px_ic_ge (off := 21) (tgt := 28) (by decide +kernel)).trans ?_
  exact Iff.rfl
theorem b14_10 {d : Nat} {G : PG} {M T : PH} {K : PV → PS → Prop} {l0 l1 l2 : Int} (h1 : pm_ob G l0 1) (h2 : pm_ar G (T l0.toNat 8) 100 l2) : pm_Run d 14 10 [.inr (.inr (.inl l0)), .inl l1, .inl l2] [] (G, M, T) K ↔ if pm_sg (M (T l0.toNat 8).toNat (pm_sg l2).toNat) ≠ pm_sg l1 then pm_Run d 14 22 [.inr (.inr (.inl l0)), .inl l1, .inl l2] [] (G, M, T) K else pm_Run d 14 20 [.inr (.inr (.inl l0)), .inl l1, .inl l2] [] (G, M, T) K := by
  refine (px_go (by decide +kernel : pm_fe 14 10 = some (.aload_n 0, 1)) rfl).trans ?_
  refine (px_get2 (idx := 18) (ci := 1) (k := 8) (by decide +kernel)).trans ((and_iff_right h1).trans ?_)
  refine (px_go (by decide +kernel : pm_fe 14 14 = some (.iload_n 2, 1)) rfl).trans ?_
  refine (px_iaload (by decide +kernel) h2).trans ?_
  refine (px_go (by decide +kernel : pm_fe 14 16 = some (.iload_n 1, 1)) rfl).trans ?_
  refine (px_ic_ne (off := 5) (tgt := 22) (by decide +kernel)).trans ?_
  exact Iff.rfl
theorem b14_20 {d : Nat} {G : PG} {M T : PH} {K : PV → PS → Prop} {l0 l1 l2 : Int} : pm_Run d 14 20 [.inr (.inr (.inl l0)), .inl l1, .inl l2] [] (G, M, T) K ↔ K (.inl l2) (G, M, T) := by
  refine (px_go (by decide +kernel : pm_fe 14 20 = some (.iload_n 2, 1)) rfl).trans ?_
  refine (px_ri (by decide +kernel)).trans ?_
  exact Iff.rfl
theorem b14_22 {d : Nat} {G : PG} {M T : PH} {K : PV → PS → Prop} {l0 l1 l2 : Int} : pm_Run d 14 22 [.inr (.inr (.inl l0)), .inl l1, .inl l2] [] (G, M, T) K ↔ pm_Run d 14 2 [.inr (.inr (.inl l0)), .inl l1, .inl (l2 + 1)] [] (G, M, T) K := by
  refine (px_go (by decide +kernel : pm_fe 14 22 = some (.iinc 2 1, 3)) rfl).trans ?_
  refine (px_goto (off := (-23)) (tgt := 2) (by decide +kernel)).trans ?_
  exact Iff.rfl
theorem b14_28 {d : Nat} {G : PG} {M T : PH} {K : PV → PS → Prop} {l0 l1 l2 : Int} : pm_Run d 14 28 [.inr (.inr (.inl l0)), .inl l1, .inl l2] [] (G, M, T) K ↔ K (.inl (-1)) (G, M, T) := by
  refine (px_go (by decide +kernel : pm_fe 14 28 = some (.iconst (-1), 1)) rfl).trans ?_
  refine (px_ri (by decide +kernel)).trans ?_
  exact Iff.rfl
-- X1_harborNamed harborNamed(I)I
theorem en15 {d : Nat} {a p0 : Int} {S : PS} {K : PV → PS → Prop} : pm_Call (d + 1) 15 [.inr (.inr (.inl a)), .inl p0] S K ↔ pm_Run d 15 0 [.inr (.inr (.inl a)), .inl p0, PU] [] S K := pm_Call_s.trans (and_iff_right (show 2 ≤ pm_ml 15 from by decide +kernel))
theorem b15_0 {d : Nat} {G : PG} {M T : PH} {K : PV → PS → Prop} {l0 l1 : Int} : pm_Run d 15 0 [.inr (.inr (.inl l0)), .inl l1, PU] [] (G, M, T) K ↔ pm_Run d 15 2 [.inr (.inr (.inl l0)), .inl l1, .inl 0] [] (G, M, T) K := by
  refine (px_go (by decide +kernel : pm_fe 15 0 = some (.iconst 0, 1)) rfl).trans ?_
  refine (px_go (by decide +kernel : pm_fe 15 1 = some (.istore_n 2, 1)) rfl).trans ?_
  exact Iff.rfl
theorem b15_2 {d : Nat} {G : PG} {M T : PH} {K : PV → PS → Prop} {l0 l1 l2 : Int} (h1 : pm_ob G l0 1) : pm_Run d 15 2 [.inr (.inr (.inl l0)), .inl l1, .inl l2] [] (G, M, T) K ↔ if pm_sg (M l0.toNat 2) ≤ pm_sg l2 then pm_Run d 15 28 [.inr (.inr (.inl l0)), .inl l1, .inl l2] [] (G, M, T) K else pm_Run d 15 10 [.inr (.inr (.inl l0)), .inl l1, .inl l2] [] (G, M, T) K := by
  refine (px_go (by decide +kernel : pm_fe 15 2 = some (.iload_n 2, 1)) rfl).trans ?_
  refine (px_go (by decide +kernel : pm_fe 15 3 = some (.aload_n 0, 1)) rfl).trans ?_
  refine (px_get0 (idx := 63) (ci := 1) (k := 2) (by decide +kernel)).trans ((and_iff_right h1).trans ?_)
  refine (px_ic_ge (off := 21) (tgt := 28) (by decide +kernel)).trans ?_
  exact Iff.rfl
theorem b15_10 {d : Nat} {G : PG} {M T : PH} {K : PV → PS → Prop} {l0 l1 l2 : Int} (h1 : pm_ob G l0 1) (h2 : pm_ar G (T l0.toNat 10) 100 l2) : pm_Run d 15 10 [.inr (.inr (.inl l0)), .inl l1, .inl l2] [] (G, M, T) K ↔ if pm_sg (M (T l0.toNat 10).toNat (pm_sg l2).toNat) ≠ pm_sg l1 then pm_Run d 15 22 [.inr (.inr (.inl l0)), .inl l1, .inl l2] [] (G, M, T) K else pm_Run d 15 20 [.inr (.inr (.inl l0)), .inl l1, .inl l2] [] (G, M, T) K := by
  refine (px_go (by decide +kernel : pm_fe 15 10 = some (.aload_n 0, 1)) rfl).trans ?_
  refine (px_get2 (idx := 25) (ci := 1) (k := 10) (by decide +kernel)).trans ((and_iff_right h1).trans ?_)
  refine (px_go (by decide +kernel : pm_fe 15 14 = some (.iload_n 2, 1)) rfl).trans ?_
  refine (px_iaload (by decide +kernel) h2).trans ?_
  refine (px_go (by decide +kernel : pm_fe 15 16 = some (.iload_n 1, 1)) rfl).trans ?_
  refine (px_ic_ne (off := 5) (tgt := 22) (by decide +kernel)).trans ?_
  exact Iff.rfl
theorem b15_20 {d : Nat} {G : PG} {M T : PH} {K : PV → PS → Prop} {l0 l1 l2 : Int} : pm_Run d 15 20 [.inr (.inr (.inl l0)), .inl l1, .inl l2] [] (G, M, T) K ↔ K (.inl l2) (G, M, T) := by
  refine (px_go (by decide +kernel : pm_fe 15 20 = some (.iload_n 2, 1)) rfl).trans ?_
  refine (px_ri (by decide +kernel)).trans ?_
  exact Iff.rfl
theorem b15_22 {d : Nat} {G : PG} {M T : PH} {K : PV → PS → Prop} {l0 l1 l2 : Int} : pm_Run d 15 22 [.inr (.inr (.inl l0)), .inl l1, .inl l2] [] (G, M, T) K ↔ pm_Run d 15 2 [.inr (.inr (.inl l0)), .inl l1, .inl (l2 + 1)] [] (G, M, T) K := by
  refine (px_go (by decide +kernel : pm_fe 15 22 = some (.iinc 2 1, 3)) rfl).trans ?_
  refine (px_goto (off := (-23)) (tgt := 2) (by decide +kernel)).trans ?_
  exact Iff.rfl
theorem b15_28 {d : Nat} {G : PG} {M T : PH} {K : PV → PS → Prop} {l0 l1 l2 : Int} : pm_Run d 15 28 [.inr (.inr (.inl l0)), .inl l1, .inl l2] [] (G, M, T) K ↔ K (.inl (-1)) (G, M, T) := by
  refine (px_go (by decide +kernel : pm_fe 15 28 = some (.iconst (-1), 1)) rfl).trans ?_
  refine (px_ri (by decide +kernel)).trans ?_
  exact Iff.rfl
-- X1_hasHarborAt hasHarborAt(I)Z
theorem en16 {d : Nat} {a p0 : Int} {S : PS} {K : PV → PS → Prop} : pm_Call (d + 1) 16 [.inr (.inr (.inl a)), .inl p0] S K ↔ pm_Run d 16 0 [.inr (.inr (.inl a)), .inl p0, PU] [] S K := pm_Call_s.trans (and_iff_right (show 2 ≤ pm_ml 16 from by decide +kernel))
theorem b16_0 {d : Nat} {G : PG} {M T : PH} {K : PV → PS → Prop} {l0 l1 : Int} : pm_Run d 16 0 [.inr (.inr (.inl l0)), .inl l1, PU] [] (G, M, T) K ↔ pm_Run d 16 2 [.inr (.inr (.inl l0)), .inl l1, .inl 0] [] (G, M, T) K := by
  refine (px_go (by decide +kernel : pm_fe 16 0 = some (.iconst 0, 1)) rfl).trans ?_
  refine (px_go (by decide +kernel : pm_fe 16 1 = some (.istore_n 2, 1)) rfl).trans ?_
  exact Iff.rfl
theorem b16_2 {d : Nat} {G : PG} {M T : PH} {K : PV → PS → Prop} {l0 l1 l2 : Int} (h1 : pm_ob G l0 1) : pm_Run d 16 2 [.inr (.inr (.inl l0)), .inl l1, .inl l2] [] (G, M, T) K ↔ if pm_sg (M l0.toNat 2) ≤ pm_sg l2 then pm_Run d 16 28 [.inr (.inr (.inl l0)), .inl l1, .inl l2] [] (G, M, T) K else pm_Run d 16 10 [.inr (.inr (.inl l0)), .inl l1, .inl l2] [] (G, M, T) K := by
  refine (px_go (by decide +kernel : pm_fe 16 2 = some (.iload_n 2, 1)) rfl).trans ?_
  refine (px_go (by decide +kernel : pm_fe 16 3 = some (.aload_n 0, 1)) rfl).trans ?_
  refine (px_get0 (idx := 63) (ci := 1) (k := 2) (by decide +kernel)).trans ((and_iff_right h1).trans ?_)
  refine (px_ic_ge (off := 21) (tgt := 28) (by decide +kernel)).trans ?_
  exact Iff.rfl
theorem b16_10 {d : Nat} {G : PG} {M T : PH} {K : PV → PS → Prop} {l0 l1 l2 : Int} (h1 : pm_ob G l0 1) (h2 : pm_ar G (T l0.toNat 11) 100 l2) : pm_Run d 16 10 [.inr (.inr (.inl l0)), .inl l1, .inl l2] [] (G, M, T) K ↔ if pm_sg (M (T l0.toNat 11).toNat (pm_sg l2).toNat) ≠ pm_sg l1 then pm_Run d 16 22 [.inr (.inr (.inl l0)), .inl l1, .inl l2] [] (G, M, T) K else pm_Run d 16 20 [.inr (.inr (.inl l0)), .inl l1, .inl l2] [] (G, M, T) K := by
  refine (px_go (by decide +kernel : pm_fe 16 10 = some (.aload_n 0, 1)) rfl).trans ?_
  refine (px_get2 (idx := 28) (ci := 1) (k := 11) (by decide +kernel)).trans ((and_iff_right h1).trans ?_)
  refine (px_go (by decide +kernel : pm_fe 16 14 = some (.iload_n 2, 1)) rfl).trans ?_
  refine (px_iaload (by decide +kernel) h2).trans ?_
  refine (px_go (by decide +kernel : pm_fe 16 16 = some (.iload_n 1, 1)) rfl).trans ?_
  refine (px_ic_ne (off := 5) (tgt := 22) (by decide +kernel)).trans ?_
  exact Iff.rfl
theorem b16_20 {d : Nat} {G : PG} {M T : PH} {K : PV → PS → Prop} {l0 l1 l2 : Int} : pm_Run d 16 20 [.inr (.inr (.inl l0)), .inl l1, .inl l2] [] (G, M, T) K ↔ K (.inl 1) (G, M, T) := by
  refine (px_go (by decide +kernel : pm_fe 16 20 = some (.iconst 1, 1)) rfl).trans ?_
  refine (px_rz (by decide +kernel)).trans ((and_iff_right (by decide : (1 : Int) = (0 : Int) ∨ (1 : Int) = (1 : Int))).trans ?_)
  exact Iff.rfl
theorem b16_22 {d : Nat} {G : PG} {M T : PH} {K : PV → PS → Prop} {l0 l1 l2 : Int} : pm_Run d 16 22 [.inr (.inr (.inl l0)), .inl l1, .inl l2] [] (G, M, T) K ↔ pm_Run d 16 2 [.inr (.inr (.inl l0)), .inl l1, .inl (l2 + 1)] [] (G, M, T) K := by
  refine (px_go (by decide +kernel : pm_fe 16 22 = some (.iinc 2 1, 3)) rfl).trans ?_
  refine (px_goto (off := (-23)) (tgt := 2) (by decide +kernel)).trans ?_
  exact Iff.rfl
theorem b16_28 {d : Nat} {G : PG} {M T : PH} {K : PV → PS → Prop} {l0 l1 l2 : Int} : pm_Run d 16 28 [.inr (.inr (.inl l0)), .inl l1, .inl l2] [] (G, M, T) K ↔ K (.inl 0) (G, M, T) := by
  refine (px_go (by decide +kernel : pm_fe 16 28 = some (.iconst 0, 1)) rfl).trans ?_
  refine (px_rz (by decide +kernel)).trans ((and_iff_right (by decide : (0 : Int) = (0 : Int) ∨ (0 : Int) = (1 : Int))).trans ?_)
  exact Iff.rfl
-- X1_owedBy owedBy(I)I
theorem en17 {d : Nat} {a p0 : Int} {S : PS} {K : PV → PS → Prop} : pm_Call (d + 1) 17 [.inr (.inr (.inl a)), .inl p0] S K ↔ pm_Run d 17 0 [.inr (.inr (.inl a)), .inl p0, PU, PU] [] S K := pm_Call_s.trans (and_iff_right (show 2 ≤ pm_ml 17 from by decide +kernel))
theorem b17_0 {d : Nat} {G : PG} {M T : PH} {K : PV → PS → Prop} {l0 l1 : Int} : pm_Run d 17 0 [.inr (.inr (.inl l0)), .inl l1, PU, PU] [] (G, M, T) K ↔ pm_Run d 17 4 [.inr (.inr (.inl l0)), .inl l1, .inl 0, .inl 0] [] (G, M, T) K := by
  refine (px_go (by decide +kernel : pm_fe 17 0 = some (.iconst 0, 1)) rfl).trans ?_
  refine (px_go (by decide +kernel : pm_fe 17 1 = some (.istore_n 2, 1)) rfl).trans ?_
  refine (px_go (by decide +kernel : pm_fe 17 2 = some (.iconst 0, 1)) rfl).trans ?_
  refine (px_go (by decide +kernel : pm_fe 17 3 = some (.istore_n 3, 1)) rfl).trans ?_
  exact Iff.rfl
theorem b17_4 {d : Nat} {G : PG} {M T : PH} {K : PV → PS → Prop} {l0 l1 l2 l3 : Int} (h1 : pm_ob G l0 1) : pm_Run d 17 4 [.inr (.inr (.inl l0)), .inl l1, .inl l2, .inl l3] [] (G, M, T) K ↔ if pm_sg (M l0.toNat 3) ≤ pm_sg l3 then pm_Run d 17 37 [.inr (.inr (.inl l0)), .inl l1, .inl l2, .inl l3] [] (G, M, T) K else pm_Run d 17 12 [.inr (.inr (.inl l0)), .inl l1, .inl l2, .inl l3] [] (G, M, T) K := by
  refine (px_go (by decide +kernel : pm_fe 17 4 = some (.iload_n 3, 1)) rfl).trans ?_
  refine (px_go (by decide +kernel : pm_fe 17 5 = some (.aload_n 0, 1)) rfl).trans ?_
  refine (px_get0 (idx := 66) (ci := 1) (k := 3) (by decide +kernel)).trans ((and_iff_right h1).trans ?_)
  refine (px_ic_ge (off := 28) (tgt := 37) (by decide +kernel)).trans ?_
  exact Iff.rfl
theorem b17_12 {d : Nat} {G : PG} {M T : PH} {K : PV → PS → Prop} {l0 l1 l2 l3 : Int} (h1 : pm_ob G l0 1) (h2 : pm_ar G (T l0.toNat 13) 100 l3) : pm_Run d 17 12 [.inr (.inr (.inl l0)), .inl l1, .inl l2, .inl l3] [] (G, M, T) K ↔ if pm_sg (M (T l0.toNat 13).toNat (pm_sg l3).toNat) ≠ pm_sg l1 then pm_Run d 17 31 [.inr (.inr (.inl l0)), .inl l1, .inl l2, .inl l3] [] (G, M, T) K else pm_Run d 17 22 [.inr (.inr (.inl l0)), .inl l1, .inl l2, .inl l3] [] (G, M, T) K := by
  refine (px_go (by decide +kernel : pm_fe 17 12 = some (.aload_n 0, 1)) rfl).trans ?_
  refine (px_get2 (idx := 34) (ci := 1) (k := 13) (by decide +kernel)).trans ((and_iff_right h1).trans ?_)
  refine (px_go (by decide +kernel : pm_fe 17 16 = some (.iload_n 3, 1)) rfl).trans ?_
  refine (px_iaload (by decide +kernel) h2).trans ?_
  refine (px_go (by decide +kernel : pm_fe 17 18 = some (.iload_n 1, 1)) rfl).trans ?_
  refine (px_ic_ne (off := 12) (tgt := 31) (by decide +kernel)).trans ?_
  exact Iff.rfl
theorem b17_22 {d : Nat} {G : PG} {M T : PH} {K : PV → PS → Prop} {l0 l1 l2 l3 : Int} (h1 : pm_ob G l0 1) (h2 : pm_ar G (T l0.toNat 15) 100 l3) : pm_Run d 17 22 [.inr (.inr (.inl l0)), .inl l1, .inl l2, .inl l3] [] (G, M, T) K ↔ pm_Run d 17 31 [.inr (.inr (.inl l0)), .inl l1, .inl (l2 + (M (T l0.toNat 15).toNat (pm_sg l3).toNat)), .inl l3] [] (G, M, T) K := by
  refine (px_go (by decide +kernel : pm_fe 17 22 = some (.iload_n 2, 1)) rfl).trans ?_
  refine (px_go (by decide +kernel : pm_fe 17 23 = some (.aload_n 0, 1)) rfl).trans ?_
  refine (px_get2 (idx := 40) (ci := 1) (k := 15) (by decide +kernel)).trans ((and_iff_right h1).trans ?_)
  refine (px_go (by decide +kernel : pm_fe 17 27 = some (.iload_n 3, 1)) rfl).trans ?_
  refine (px_iaload (by decide +kernel) h2).trans ?_
  refine (px_go (by decide +kernel : pm_fe 17 29 = some (.iadd, 1)) rfl).trans ?_
  refine (px_go (by decide +kernel : pm_fe 17 30 = some (.istore_n 2, 1)) rfl).trans ?_
  exact Iff.rfl
theorem b17_31 {d : Nat} {G : PG} {M T : PH} {K : PV → PS → Prop} {l0 l1 l2 l3 : Int} : pm_Run d 17 31 [.inr (.inr (.inl l0)), .inl l1, .inl l2, .inl l3] [] (G, M, T) K ↔ pm_Run d 17 4 [.inr (.inr (.inl l0)), .inl l1, .inl l2, .inl (l3 + 1)] [] (G, M, T) K := by
  refine (px_go (by decide +kernel : pm_fe 17 31 = some (.iinc 3 1, 3)) rfl).trans ?_
  refine (px_goto (off := (-30)) (tgt := 4) (by decide +kernel)).trans ?_
  exact Iff.rfl
theorem b17_37 {d : Nat} {G : PG} {M T : PH} {K : PV → PS → Prop} {l0 l1 l2 l3 : Int} : pm_Run d 17 37 [.inr (.inr (.inl l0)), .inl l1, .inl l2, .inl l3] [] (G, M, T) K ↔ K (.inl l2) (G, M, T) := by
  refine (px_go (by decide +kernel : pm_fe 17 37 = some (.iload_n 2, 1)) rfl).trans ?_
  refine (px_ri (by decide +kernel)).trans ?_
  exact Iff.rfl
-- X1_owedTo owedTo(II)I
theorem en18 {d : Nat} {a p0 p1 : Int} {S : PS} {K : PV → PS → Prop} : pm_Call (d + 1) 18 [.inr (.inr (.inl a)), .inl p0, .inl p1] S K ↔ pm_Run d 18 0 [.inr (.inr (.inl a)), .inl p0, .inl p1, PU, PU] [] S K := pm_Call_s.trans (and_iff_right (show 3 ≤ pm_ml 18 from by decide +kernel))
theorem b18_0 {d : Nat} {G : PG} {M T : PH} {K : PV → PS → Prop} {l0 l1 l2 : Int} : pm_Run d 18 0 [.inr (.inr (.inl l0)), .inl l1, .inl l2, PU, PU] [] (G, M, T) K ↔ pm_Run d 18 5 [.inr (.inr (.inl l0)), .inl l1, .inl l2, .inl 0, .inl 0] [] (G, M, T) K := by
  refine (px_go (by decide +kernel : pm_fe 18 0 = some (.iconst 0, 1)) rfl).trans ?_
  refine (px_go (by decide +kernel : pm_fe 18 1 = some (.istore_n 3, 1)) rfl).trans ?_
  refine (px_go (by decide +kernel : pm_fe 18 2 = some (.iconst 0, 1)) rfl).trans ?_
  refine (px_go (by decide +kernel : pm_fe 18 3 = some (.istore 4, 2)) rfl).trans ?_
  exact Iff.rfl
theorem b18_5 {d : Nat} {G : PG} {M T : PH} {K : PV → PS → Prop} {l0 l1 l2 l3 l4 : Int} (h1 : pm_ob G l0 1) : pm_Run d 18 5 [.inr (.inr (.inl l0)), .inl l1, .inl l2, .inl l3, .inl l4] [] (G, M, T) K ↔ if pm_sg (M l0.toNat 3) ≤ pm_sg l4 then pm_Run d 18 55 [.inr (.inr (.inl l0)), .inl l1, .inl l2, .inl l3, .inl l4] [] (G, M, T) K else pm_Run d 18 14 [.inr (.inr (.inl l0)), .inl l1, .inl l2, .inl l3, .inl l4] [] (G, M, T) K := by
  refine (px_go (by decide +kernel : pm_fe 18 5 = some (.iload 4, 2)) rfl).trans ?_
  refine (px_go (by decide +kernel : pm_fe 18 7 = some (.aload_n 0, 1)) rfl).trans ?_
  refine (px_get0 (idx := 66) (ci := 1) (k := 3) (by decide +kernel)).trans ((and_iff_right h1).trans ?_)
  refine (px_ic_ge (off := 44) (tgt := 55) (by decide +kernel)).trans ?_
  exact Iff.rfl
theorem b18_14 {d : Nat} {G : PG} {M T : PH} {K : PV → PS → Prop} {l0 l1 l2 l3 l4 : Int} (h1 : pm_ob G l0 1) (h2 : pm_ar G (T l0.toNat 14) 100 l4) : pm_Run d 18 14 [.inr (.inr (.inl l0)), .inl l1, .inl l2, .inl l3, .inl l4] [] (G, M, T) K ↔ if pm_sg (M (T l0.toNat 14).toNat (pm_sg l4).toNat) ≠ pm_sg l1 then pm_Run d 18 49 [.inr (.inr (.inl l0)), .inl l1, .inl l2, .inl l3, .inl l4] [] (G, M, T) K else pm_Run d 18 25 [.inr (.inr (.inl l0)), .inl l1, .inl l2, .inl l3, .inl l4] [] (G, M, T) K := by
  refine (px_go (by decide +kernel : pm_fe 18 14 = some (.aload_n 0, 1)) rfl).trans ?_
  refine (px_get2 (idx := 37) (ci := 1) (k := 14) (by decide +kernel)).trans ((and_iff_right h1).trans ?_)
  refine (px_go (by decide +kernel : pm_fe 18 18 = some (.iload 4, 2)) rfl).trans ?_
  refine (px_iaload (by decide +kernel) h2).trans ?_
  refine (px_go (by decide +kernel : pm_fe 18 21 = some (.iload_n 1, 1)) rfl).trans ?_
  refine (px_ic_ne (off := 27) (tgt := 49) (by decide +kernel)).trans ?_
  exact Iff.rfl
theorem b18_25 {d : Nat} {G : PG} {M T : PH} {K : PV → PS → Prop} {l0 l1 l2 l3 l4 : Int} (h1 : pm_ob G l0 1) (h2 : pm_ar G (T l0.toNat 13) 100 l4) : pm_Run d 18 25 [.inr (.inr (.inl l0)), .inl l1, .inl l2, .inl l3, .inl l4] [] (G, M, T) K ↔ if pm_sg (pm_and (pm_shr l2 (M (T l0.toNat 13).toNat (pm_sg l4).toNat)) 1) ≠ 0 then pm_Run d 18 49 [.inr (.inr (.inl l0)), .inl l1, .inl l2, .inl l3, .inl l4] [] (G, M, T) K else pm_Run d 18 39 [.inr (.inr (.inl l0)), .inl l1, .inl l2, .inl l3, .inl l4] [] (G, M, T) K := by
  refine (px_go (by decide +kernel : pm_fe 18 25 = some (.iload_n 2, 1)) rfl).trans ?_
  refine (px_go (by decide +kernel : pm_fe 18 26 = some (.aload_n 0, 1)) rfl).trans ?_
  refine (px_get2 (idx := 34) (ci := 1) (k := 13) (by decide +kernel)).trans ((and_iff_right h1).trans ?_)
  refine (px_go (by decide +kernel : pm_fe 18 30 = some (.iload 4, 2)) rfl).trans ?_
  refine (px_iaload (by decide +kernel) h2).trans ?_
  refine (px_go (by decide +kernel : pm_fe 18 33 = some (.ishr, 1)) rfl).trans ?_
  refine (px_go (by decide +kernel : pm_fe 18 34 = some (.iconst 1, 1)) rfl).trans ?_
  refine (px_go (by decide +kernel : pm_fe 18 35 = some (.iand, 1)) rfl).trans ?_
  refine (px_if_ne (off := 13) (tgt := 49) (by decide +kernel)).trans ?_
  exact Iff.rfl
theorem b18_39 {d : Nat} {G : PG} {M T : PH} {K : PV → PS → Prop} {l0 l1 l2 l3 l4 : Int} (h1 : pm_ob G l0 1) (h2 : pm_ar G (T l0.toNat 15) 100 l4) : pm_Run d 18 39 [.inr (.inr (.inl l0)), .inl l1, .inl l2, .inl l3, .inl l4] [] (G, M, T) K ↔ pm_Run d 18 49 [.inr (.inr (.inl l0)), .inl l1, .inl l2, .inl (l3 + (M (T l0.toNat 15).toNat (pm_sg l4).toNat)), .inl l4] [] (G, M, T) K := by
  refine (px_go (by decide +kernel : pm_fe 18 39 = some (.iload_n 3, 1)) rfl).trans ?_
  refine (px_go (by decide +kernel : pm_fe 18 40 = some (.aload_n 0, 1)) rfl).trans ?_
  refine (px_get2 (idx := 40) (ci := 1) (k := 15) (by decide +kernel)).trans ((and_iff_right h1).trans ?_)
  refine (px_go (by decide +kernel : pm_fe 18 44 = some (.iload 4, 2)) rfl).trans ?_
  refine (px_iaload (by decide +kernel) h2).trans ?_
  refine (px_go (by decide +kernel : pm_fe 18 47 = some (.iadd, 1)) rfl).trans ?_
  refine (px_go (by decide +kernel : pm_fe 18 48 = some (.istore_n 3, 1)) rfl).trans ?_
  exact Iff.rfl
theorem b18_49 {d : Nat} {G : PG} {M T : PH} {K : PV → PS → Prop} {l0 l1 l2 l3 l4 : Int} : pm_Run d 18 49 [.inr (.inr (.inl l0)), .inl l1, .inl l2, .inl l3, .inl l4] [] (G, M, T) K ↔ pm_Run d 18 5 [.inr (.inr (.inl l0)), .inl l1, .inl l2, .inl l3, .inl (l4 + 1)] [] (G, M, T) K := by
  refine (px_go (by decide +kernel : pm_fe 18 49 = some (.iinc 4 1, 3)) rfl).trans ?_
  refine (px_goto (off := (-47)) (tgt := 5) (by decide +kernel)).trans ?_
  exact Iff.rfl
theorem b18_55 {d : Nat} {G : PG} {M T : PH} {K : PV → PS → Prop} {l0 l1 l2 l3 l4 : Int} : pm_Run d 18 55 [.inr (.inr (.inl l0)), .inl l1, .inl l2, .inl l3, .inl l4] [] (G, M, T) K ↔ K (.inl l3) (G, M, T) := by
  refine (px_go (by decide +kernel : pm_fe 18 55 = some (.iload_n 3, 1)) rfl).trans ?_
  refine (px_ri (by decide +kernel)).trans ?_
  exact Iff.rfl
-- X1_failing failing([I)I
theorem en19 {d : Nat} {a p0 : Int} {S : PS} {K : PV → PS → Prop} : pm_Call (d + 1) 19 [.inr (.inr (.inl a)), .inr (.inr (.inl p0))] S K ↔ pm_Run d 19 0 [.inr (.inr (.inl a)), .inr (.inr (.inl p0)), PU, PU, PU, PU] [] S K := pm_Call_s.trans (and_iff_right (show 2 ≤ pm_ml 19 from by decide +kernel))
theorem b19_0 {d : Nat} {G : PG} {M T : PH} {K : PV → PS → Prop} {l0 l1 : Int} : pm_Run d 19 0 [.inr (.inr (.inl l0)), .inr (.inr (.inl l1)), PU, PU, PU, PU] [] (G, M, T) K ↔ pm_Run d 19 4 [.inr (.inr (.inl l0)), .inr (.inr (.inl l1)), .inl 0, .inl 0, PU, PU] [] (G, M, T) K := by
  refine (px_go (by decide +kernel : pm_fe 19 0 = some (.iconst 0, 1)) rfl).trans ?_
  refine (px_go (by decide +kernel : pm_fe 19 1 = some (.istore_n 2, 1)) rfl).trans ?_
  refine (px_go (by decide +kernel : pm_fe 19 2 = some (.iconst 0, 1)) rfl).trans ?_
  refine (px_go (by decide +kernel : pm_fe 19 3 = some (.istore_n 3, 1)) rfl).trans ?_
  exact Iff.rfl
theorem b19_4 {d : Nat} {G : PG} {M T : PH} {K : PV → PS → Prop} {l0 l1 l2 l3 : Int} {l4 l5 : PV} : pm_Run d 19 4 [.inr (.inr (.inl l0)), .inr (.inr (.inl l1)), .inl l2, .inl l3, l4, l5] [] (G, M, T) K ↔ if pm_sg 8 < pm_sg l3 then pm_Run d 19 78 [.inr (.inr (.inl l0)), .inr (.inr (.inl l1)), .inl l2, .inl l3, l4, l5] [] (G, M, T) K else pm_Run d 19 10 [.inr (.inr (.inl l0)), .inr (.inr (.inl l1)), .inl l2, .inl l3, l4, l5] [] (G, M, T) K := by
  refine (px_go (by decide +kernel : pm_fe 19 4 = some (.iload_n 3, 1)) rfl).trans ?_
  refine (px_go (by decide +kernel : pm_fe 19 5 = some (.bipush 8, 2)) rfl).trans ?_
  refine (px_ic_gt (off := 71) (tgt := 78) (by decide +kernel)).trans ?_
  exact Iff.rfl
theorem b19_10 {d : Nat} {G : PG} {M T : PH} {K : PV → PS → Prop} {l0 l1 l2 l3 : Int} {l4 l5 : PV} : pm_Run d 19 10 [.inr (.inr (.inl l0)), .inr (.inr (.inl l1)), .inl l2, .inl l3, l4, l5] [] (G, M, T) K ↔ pm_Run d 19 16 [.inr (.inr (.inl l0)), .inr (.inr (.inl l1)), .inl l2, .inl l3, .inl l2, .inl 0] [] (G, M, T) K := by
  refine (px_go (by decide +kernel : pm_fe 19 10 = some (.iload_n 2, 1)) rfl).trans ?_
  refine (px_go (by decide +kernel : pm_fe 19 11 = some (.istore 4, 2)) rfl).trans ?_
  refine (px_go (by decide +kernel : pm_fe 19 13 = some (.iconst 0, 1)) rfl).trans ?_
  refine (px_go (by decide +kernel : pm_fe 19 14 = some (.istore 5, 2)) rfl).trans ?_
  exact Iff.rfl
theorem b19_16 {d : Nat} {G : PG} {M T : PH} {K : PV → PS → Prop} {l0 l1 l2 l3 l4 l5 : Int} (h1 : pm_ob G l0 1) : pm_Run d 19 16 [.inr (.inr (.inl l0)), .inr (.inr (.inl l1)), .inl l2, .inl l3, .inl l4, .inl l5] [] (G, M, T) K ↔ if pm_sg (M l0.toNat 2) ≤ pm_sg l5 then pm_Run d 19 61 [.inr (.inr (.inl l0)), .inr (.inr (.inl l1)), .inl l2, .inl l3, .inl l4, .inl l5] [] (G, M, T) K else pm_Run d 19 25 [.inr (.inr (.inl l0)), .inr (.inr (.inl l1)), .inl l2, .inl l3, .inl l4, .inl l5] [] (G, M, T) K := by
  refine (px_go (by decide +kernel : pm_fe 19 16 = some (.iload 5, 2)) rfl).trans ?_
  refine (px_go (by decide +kernel : pm_fe 19 18 = some (.aload_n 0, 1)) rfl).trans ?_
  refine (px_get0 (idx := 63) (ci := 1) (k := 2) (by decide +kernel)).trans ((and_iff_right h1).trans ?_)
  refine (px_ic_ge (off := 39) (tgt := 61) (by decide +kernel)).trans ?_
  exact Iff.rfl
theorem b19_25 {d : Nat} {G : PG} {M T : PH} {K : PV → PS → Prop} {l0 l1 l2 l3 l4 l5 : Int} (h1 : pm_ar G l1 100 l5) (h2 : pm_ob G l0 1) : pm_Run d 19 25 [.inr (.inr (.inl l0)), .inr (.inr (.inl l1)), .inl l2, .inl l3, .inl l4, .inl l5] [] (G, M, T) K ↔ pm_Call d 18 [.inr (.inr (.inl l0)), .inl l5, .inl l2] (G, M, T) (fun r S1 => pm_Run d 19 36 [.inr (.inr (.inl l0)), .inr (.inr (.inl l1)), .inl l2, .inl l3, .inl l4, .inl l5] (pm_push r [.inl (M l1.toNat (pm_sg l5).toNat)]) S1 K) := by
  refine (px_go (by decide +kernel : pm_fe 19 25 = some (.aload_n 1, 1)) rfl).trans ?_
  refine (px_go (by decide +kernel : pm_fe 19 26 = some (.iload 5, 2)) rfl).trans ?_
  refine (px_iaload (by decide +kernel) h1).trans ?_
  refine (px_go (by decide +kernel : pm_fe 19 29 = some (.aload_n 0, 1)) rfl).trans ?_
  refine (px_go (by decide +kernel : pm_fe 19 30 = some (.iload 5, 2)) rfl).trans ?_
  refine (px_go (by decide +kernel : pm_fe 19 32 = some (.iload_n 2, 1)) rfl).trans ?_
  refine (px_v2 (idx := 79) (m' := 18) (ci := 1) (by decide +kernel)).trans ((and_iff_right ⟨h2, (by simp [pm_wl_n, pm_wl_c, pm_w] : pm_wl [.inl (M l1.toNat (pm_sg l5).toNat)] ≤ 8)⟩).trans ?_)
  exact Iff.rfl
theorem b19_36 {d : Nat} {G : PG} {M T : PH} {K : PV → PS → Prop} {l0 l1 l2 l3 l4 l5 s0 s1 : Int} (h1 : pm_ob G l0 1) : pm_Run d 19 36 [.inr (.inr (.inl l0)), .inr (.inr (.inl l1)), .inl l2, .inl l3, .inl l4, .inl l5] [.inl s0, .inl s1] (G, M, T) K ↔ pm_Call d 17 [.inr (.inr (.inl l0)), .inl l5] (G, M, T) (fun r S1 => pm_Run d 19 43 [.inr (.inr (.inl l0)), .inr (.inr (.inl l1)), .inl l2, .inl l3, .inl l4, .inl l5] (pm_push r [.inl (s1 + s0)]) S1 K) := by
  refine (px_go (by decide +kernel : pm_fe 19 36 = some (.iadd, 1)) rfl).trans ?_
  refine (px_go (by decide +kernel : pm_fe 19 37 = some (.aload_n 0, 1)) rfl).trans ?_
  refine (px_go (by decide +kernel : pm_fe 19 38 = some (.iload 5, 2)) rfl).trans ?_
  refine (px_v1 (idx := 83) (m' := 17) (ci := 1) (by decide +kernel)).trans ((and_iff_right ⟨h1, (by simp [pm_wl_n, pm_wl_c, pm_w] : pm_wl [.inl (s1 + s0)] ≤ 8)⟩).trans ?_)
  exact Iff.rfl
theorem b19_43 {d : Nat} {G : PG} {M T : PH} {K : PV → PS → Prop} {l0 l1 l2 l3 l4 l5 s0 s1 : Int} : pm_Run d 19 43 [.inr (.inr (.inl l0)), .inr (.inr (.inl l1)), .inl l2, .inl l3, .inl l4, .inl l5] [.inl s0, .inl s1] (G, M, T) K ↔ if pm_sg s0 ≤ pm_sg s1 then pm_Run d 19 55 [.inr (.inr (.inl l0)), .inr (.inr (.inl l1)), .inl l2, .inl l3, .inl l4, .inl l5] [] (G, M, T) K else pm_Run d 19 46 [.inr (.inr (.inl l0)), .inr (.inr (.inl l1)), .inl l2, .inl l3, .inl l4, .inl l5] [] (G, M, T) K := by
  refine (px_ic_ge (off := 12) (tgt := 55) (by decide +kernel)).trans ?_
  exact Iff.rfl
theorem b19_46 {d : Nat} {G : PG} {M T : PH} {K : PV → PS → Prop} {l0 l1 l2 l3 l4 l5 : Int} : pm_Run d 19 46 [.inr (.inr (.inl l0)), .inr (.inr (.inl l1)), .inl l2, .inl l3, .inl l4, .inl l5] [] (G, M, T) K ↔ pm_Run d 19 55 [.inr (.inr (.inl l0)), .inr (.inr (.inl l1)), .inl l2, .inl l3, .inl (pm_or l4 (pm_shl 1 l5)), .inl l5] [] (G, M, T) K := by
  refine (px_go (by decide +kernel : pm_fe 19 46 = some (.iload 4, 2)) rfl).trans ?_
  refine (px_go (by decide +kernel : pm_fe 19 48 = some (.iconst 1, 1)) rfl).trans ?_
  refine (px_go (by decide +kernel : pm_fe 19 49 = some (.iload 5, 2)) rfl).trans ?_
  refine (px_go (by decide +kernel : pm_fe 19 51 = some (.ishl, 1)) rfl).trans ?_
  refine (px_go (by decide +kernel : pm_fe 19 52 = some (.ior, 1)) rfl).trans ?_
  refine (px_go (by decide +kernel : pm_fe 19 53 = some (.istore 4, 2)) rfl).trans ?_
  exact Iff.rfl
theorem b19_55 {d : Nat} {G : PG} {M T : PH} {K : PV → PS → Prop} {l0 l1 l2 l3 l4 l5 : Int} : pm_Run d 19 55 [.inr (.inr (.inl l0)), .inr (.inr (.inl l1)), .inl l2, .inl l3, .inl l4, .inl l5] [] (G, M, T) K ↔ pm_Run d 19 16 [.inr (.inr (.inl l0)), .inr (.inr (.inl l1)), .inl l2, .inl l3, .inl l4, .inl (l5 + 1)] [] (G, M, T) K := by
  refine (px_go (by decide +kernel : pm_fe 19 55 = some (.iinc 5 1, 3)) rfl).trans ?_
  refine (px_goto (off := (-42)) (tgt := 16) (by decide +kernel)).trans ?_
  exact Iff.rfl
theorem b19_61 {d : Nat} {G : PG} {M T : PH} {K : PV → PS → Prop} {l0 l1 l2 l3 l4 l5 : Int} : pm_Run d 19 61 [.inr (.inr (.inl l0)), .inr (.inr (.inl l1)), .inl l2, .inl l3, .inl l4, .inl l5] [] (G, M, T) K ↔ if pm_sg l4 ≠ pm_sg l2 then pm_Run d 19 69 [.inr (.inr (.inl l0)), .inr (.inr (.inl l1)), .inl l2, .inl l3, .inl l4, .inl l5] [] (G, M, T) K else pm_Run d 19 67 [.inr (.inr (.inl l0)), .inr (.inr (.inl l1)), .inl l2, .inl l3, .inl l4, .inl l5] [] (G, M, T) K := by
  refine (px_go (by decide +kernel : pm_fe 19 61 = some (.iload 4, 2)) rfl).trans ?_
  refine (px_go (by decide +kernel : pm_fe 19 63 = some (.iload_n 2, 1)) rfl).trans ?_
  refine (px_ic_ne (off := 5) (tgt := 69) (by decide +kernel)).trans ?_
  exact Iff.rfl
theorem b19_67 {d : Nat} {G : PG} {M T : PH} {K : PV → PS → Prop} {l0 l1 l2 l3 l4 l5 : Int} : pm_Run d 19 67 [.inr (.inr (.inl l0)), .inr (.inr (.inl l1)), .inl l2, .inl l3, .inl l4, .inl l5] [] (G, M, T) K ↔ K (.inl l2) (G, M, T) := by
  refine (px_go (by decide +kernel : pm_fe 19 67 = some (.iload_n 2, 1)) rfl).trans ?_
  refine (px_ri (by decide +kernel)).trans ?_
  exact Iff.rfl
theorem b19_69 {d : Nat} {G : PG} {M T : PH} {K : PV → PS → Prop} {l0 l1 l2 l3 l4 l5 : Int} : pm_Run d 19 69 [.inr (.inr (.inl l0)), .inr (.inr (.inl l1)), .inl l2, .inl l3, .inl l4, .inl l5] [] (G, M, T) K ↔ pm_Run d 19 4 [.inr (.inr (.inl l0)), .inr (.inr (.inl l1)), .inl l4, .inl (l3 + 1), .inl l4, .inl l5] [] (G, M, T) K := by
  refine (px_go (by decide +kernel : pm_fe 19 69 = some (.iload 4, 2)) rfl).trans ?_
  refine (px_go (by decide +kernel : pm_fe 19 71 = some (.istore_n 2, 1)) rfl).trans ?_
  refine (px_go (by decide +kernel : pm_fe 19 72 = some (.iinc 3 1, 3)) rfl).trans ?_
  refine (px_goto (off := (-71)) (tgt := 4) (by decide +kernel)).trans ?_
  exact Iff.rfl
theorem b19_78 {d : Nat} {G : PG} {M T : PH} {K : PV → PS → Prop} {l0 l1 l2 l3 : Int} {l4 l5 : PV} : pm_Run d 19 78 [.inr (.inr (.inl l0)), .inr (.inr (.inl l1)), .inl l2, .inl l3, l4, l5] [] (G, M, T) K ↔ K (.inl l2) (G, M, T) := by
  refine (px_go (by decide +kernel : pm_fe 19 78 = some (.iload_n 2, 1)) rfl).trans ?_
  refine (px_ri (by decide +kernel)).trans ?_
  exact Iff.rfl
-- X1_placeAfter placeAfter(LMoonTender$Moment;II)I
theorem en20 {d : Nat} {a p0 p1 p2 : Int} {S : PS} {K : PV → PS → Prop} : pm_Call (d + 1) 20 [.inr (.inr (.inl a)), .inr (.inr (.inl p0)), .inl p1, .inl p2] S K ↔ pm_Run d 20 0 [.inr (.inr (.inl a)), .inr (.inr (.inl p0)), .inl p1, .inl p2] [] S K := pm_Call_s.trans (and_iff_right (show 4 ≤ pm_ml 20 from by decide +kernel))
theorem b20_0 {d : Nat} {G : PG} {M T : PH} {K : PV → PS → Prop} {l0 l1 l2 l3 : Int} (h1 : pm_ob G l0 1) : pm_Run d 20 0 [.inr (.inr (.inl l0)), .inr (.inr (.inl l1)), .inl l2, .inl l3] [] (G, M, T) K ↔ if pm_sg (M l0.toNat 0) ≤ 0 then pm_Run d 20 30 [.inr (.inr (.inl l0)), .inr (.inr (.inl l1)), .inl l2, .inl l3] [] (G, M, T) K else pm_Run d 20 7 [.inr (.inr (.inl l0)), .inr (.inr (.inl l1)), .inl l2, .inl l3] [] (G, M, T) K := by
  refine (px_go (by decide +kernel : pm_fe 20 0 = some (.aload_n 0, 1)) rfl).trans ?_
  refine (px_get0 (idx := 57) (ci := 1) (k := 0) (by decide +kernel)).trans ((and_iff_right h1).trans ?_)
  refine (px_if_le (off := 26) (tgt := 30) (by decide +kernel)).trans ?_
  exact Iff.rfl
theorem b20_7 {d : Nat} {G : PG} {M T : PH} {K : PV → PS → Prop} {l0 l1 l2 l3 : Int} (h1 : pm_ob G l1 5) (h2 : pm_ar G (T l1.toNat 1) 100 l2) (h3 : pm_ob G l0 1) (h4 : pm_ar G (T l0.toNat 9) 100 l2) (h5 : pm_sg (M l0.toNat 0) ≠ 0) : pm_Run d 20 7 [.inr (.inr (.inl l0)), .inr (.inr (.inl l1)), .inl l2, .inl l3] [] (G, M, T) K ↔ pm_Run d 20 31 [.inr (.inr (.inl l0)), .inr (.inr (.inl l1)), .inl l2, .inl l3] [.inl (pm_rem ((M (T l1.toNat 1).toNat (pm_sg l2).toNat) + (l3 * (M (T l0.toNat 9).toNat (pm_sg l2).toNat))) (M l0.toNat 0))] (G, M, T) K := by
  refine (px_go (by decide +kernel : pm_fe 20 7 = some (.aload_n 1, 1)) rfl).trans ?_
  refine (px_get2 (idx := 87) (ci := 5) (k := 1) (by decide +kernel)).trans ((and_iff_right h1).trans ?_)
  refine (px_go (by decide +kernel : pm_fe 20 11 = some (.iload_n 2, 1)) rfl).trans ?_
  refine (px_iaload (by decide +kernel) h2).trans ?_
  refine (px_go (by decide +kernel : pm_fe 20 13 = some (.iload_n 3, 1)) rfl).trans ?_
  refine (px_go (by decide +kernel : pm_fe 20 14 = some (.aload_n 0, 1)) rfl).trans ?_
  refine (px_get2 (idx := 22) (ci := 1) (k := 9) (by decide +kernel)).trans ((and_iff_right h3).trans ?_)
  refine (px_go (by decide +kernel : pm_fe 20 18 = some (.iload_n 2, 1)) rfl).trans ?_
  refine (px_iaload (by decide +kernel) h4).trans ?_
  refine (px_go (by decide +kernel : pm_fe 20 20 = some (.imul, 1)) rfl).trans ?_
  refine (px_go (by decide +kernel : pm_fe 20 21 = some (.iadd, 1)) rfl).trans ?_
  refine (px_go (by decide +kernel : pm_fe 20 22 = some (.aload_n 0, 1)) rfl).trans ?_
  refine (px_get0 (idx := 57) (ci := 1) (k := 0) (by decide +kernel)).trans ((and_iff_right h3).trans ?_)
  refine (px_irem (by decide +kernel)).trans ((and_iff_right h5).trans ?_)
  refine (px_goto (off := 4) (tgt := 31) (by decide +kernel)).trans ?_
  exact Iff.rfl
theorem b20_30 {d : Nat} {G : PG} {M T : PH} {K : PV → PS → Prop} {l0 l1 l2 l3 : Int} : pm_Run d 20 30 [.inr (.inr (.inl l0)), .inr (.inr (.inl l1)), .inl l2, .inl l3] [] (G, M, T) K ↔ pm_Run d 20 31 [.inr (.inr (.inl l0)), .inr (.inr (.inl l1)), .inl l2, .inl l3] [.inl 0] (G, M, T) K := by
  refine (px_go (by decide +kernel : pm_fe 20 30 = some (.iconst 0, 1)) rfl).trans ?_
  exact Iff.rfl
theorem b20_31 {d : Nat} {G : PG} {M T : PH} {K : PV → PS → Prop} {l0 l1 l2 l3 s0 : Int} : pm_Run d 20 31 [.inr (.inr (.inl l0)), .inr (.inr (.inl l1)), .inl l2, .inl l3] [.inl s0] (G, M, T) K ↔ K (.inl s0) (G, M, T) := by
  refine (px_ri (by decide +kernel)).trans ?_
  exact Iff.rfl
-- X1_meeting meeting(LMoonTender$Moment;)I
theorem en21 {d : Nat} {a p0 : Int} {S : PS} {K : PV → PS → Prop} : pm_Call (d + 1) 21 [.inr (.inr (.inl a)), .inr (.inr (.inl p0))] S K ↔ pm_Run d 21 0 [.inr (.inr (.inl a)), .inr (.inr (.inl p0)), PU, PU, PU] [] S K := pm_Call_s.trans (and_iff_right (show 2 ≤ pm_ml 21 from by decide +kernel))
theorem b21_0 {d : Nat} {G : PG} {M T : PH} {K : PV → PS → Prop} {l0 l1 : Int} : pm_Run d 21 0 [.inr (.inr (.inl l0)), .inr (.inr (.inl l1)), PU, PU, PU] [] (G, M, T) K ↔ pm_Run d 21 2 [.inr (.inr (.inl l0)), .inr (.inr (.inl l1)), .inl 0, PU, PU] [] (G, M, T) K := by
  refine (px_go (by decide +kernel : pm_fe 21 0 = some (.iconst 0, 1)) rfl).trans ?_
  refine (px_go (by decide +kernel : pm_fe 21 1 = some (.istore_n 2, 1)) rfl).trans ?_
  exact Iff.rfl
theorem b21_2 {d : Nat} {G : PG} {M T : PH} {K : PV → PS → Prop} {l0 l1 l2 : Int} {l3 l4 : PV} (h1 : pm_ob G l0 1) : pm_Run d 21 2 [.inr (.inr (.inl l0)), .inr (.inr (.inl l1)), .inl l2, l3, l4] [] (G, M, T) K ↔ if pm_sg (M l0.toNat 0) ≤ pm_sg l2 then pm_Run d 21 74 [.inr (.inr (.inl l0)), .inr (.inr (.inl l1)), .inl l2, l3, l4] [] (G, M, T) K else pm_Run d 21 10 [.inr (.inr (.inl l0)), .inr (.inr (.inl l1)), .inl l2, l3, l4] [] (G, M, T) K := by
  refine (px_go (by decide +kernel : pm_fe 21 2 = some (.iload_n 2, 1)) rfl).trans ?_
  refine (px_go (by decide +kernel : pm_fe 21 3 = some (.aload_n 0, 1)) rfl).trans ?_
  refine (px_get0 (idx := 57) (ci := 1) (k := 0) (by decide +kernel)).trans ((and_iff_right h1).trans ?_)
  refine (px_ic_ge (off := 67) (tgt := 74) (by decide +kernel)).trans ?_
  exact Iff.rfl
theorem b21_10 {d : Nat} {G : PG} {M T : PH} {K : PV → PS → Prop} {l0 l1 l2 : Int} {l3 l4 : PV} (h1 : pm_ob G l0 1) : pm_Run d 21 10 [.inr (.inr (.inl l0)), .inr (.inr (.inl l1)), .inl l2, l3, l4] [] (G, M, T) K ↔ if pm_sg (M l0.toNat 1) ≤ 0 then pm_Run d 21 74 [.inr (.inr (.inl l0)), .inr (.inr (.inl l1)), .inl l2, l3, l4] [] (G, M, T) K else pm_Run d 21 17 [.inr (.inr (.inl l0)), .inr (.inr (.inl l1)), .inl l2, l3, l4] [] (G, M, T) K := by
  refine (px_go (by decide +kernel : pm_fe 21 10 = some (.aload_n 0, 1)) rfl).trans ?_
  refine (px_get0 (idx := 60) (ci := 1) (k := 1) (by decide +kernel)).trans ((and_iff_right h1).trans ?_)
  refine (px_if_le (off := 60) (tgt := 74) (by decide +kernel)).trans ?_
  exact Iff.rfl
theorem b21_17 {d : Nat} {G : PG} {M T : PH} {K : PV → PS → Prop} {l0 l1 l2 : Int} {l3 l4 : PV} : pm_Run d 21 17 [.inr (.inr (.inl l0)), .inr (.inr (.inl l1)), .inl l2, l3, l4] [] (G, M, T) K ↔ pm_Run d 21 22 [.inr (.inr (.inl l0)), .inr (.inr (.inl l1)), .inl l2, .inl 1, .inl 1] [] (G, M, T) K := by
  refine (px_go (by decide +kernel : pm_fe 21 17 = some (.iconst 1, 1)) rfl).trans ?_
  refine (px_go (by decide +kernel : pm_fe 21 18 = some (.istore_n 3, 1)) rfl).trans ?_
  refine (px_go (by decide +kernel : pm_fe 21 19 = some (.iconst 1, 1)) rfl).trans ?_
  refine (px_go (by decide +kernel : pm_fe 21 20 = some (.istore 4, 2)) rfl).trans ?_
  exact Iff.rfl
theorem b21_22 {d : Nat} {G : PG} {M T : PH} {K : PV → PS → Prop} {l0 l1 l2 l3 l4 : Int} (h1 : pm_ob G l0 1) : pm_Run d 21 22 [.inr (.inr (.inl l0)), .inr (.inr (.inl l1)), .inl l2, .inl l3, .inl l4] [] (G, M, T) K ↔ if pm_sg (M l0.toNat 1) ≤ pm_sg l4 then pm_Run d 21 58 [.inr (.inr (.inl l0)), .inr (.inr (.inl l1)), .inl l2, .inl l3, .inl l4] [] (G, M, T) K else pm_Run d 21 31 [.inr (.inr (.inl l0)), .inr (.inr (.inl l1)), .inl l2, .inl l3, .inl l4] [] (G, M, T) K := by
  refine (px_go (by decide +kernel : pm_fe 21 22 = some (.iload 4, 2)) rfl).trans ?_
  refine (px_go (by decide +kernel : pm_fe 21 24 = some (.aload_n 0, 1)) rfl).trans ?_
  refine (px_get0 (idx := 60) (ci := 1) (k := 1) (by decide +kernel)).trans ((and_iff_right h1).trans ?_)
  refine (px_ic_ge (off := 30) (tgt := 58) (by decide +kernel)).trans ?_
  exact Iff.rfl
theorem b21_31 {d : Nat} {G : PG} {M T : PH} {K : PV → PS → Prop} {l0 l1 l2 l3 l4 : Int} (h1 : pm_ob G l0 1) : pm_Run d 21 31 [.inr (.inr (.inl l0)), .inr (.inr (.inl l1)), .inl l2, .inl l3, .inl l4] [] (G, M, T) K ↔ pm_Call d 20 [.inr (.inr (.inl l0)), .inr (.inr (.inl l1)), .inl l4, .inl l2] (G, M, T) (fun r S1 => pm_Run d 21 39 [.inr (.inr (.inl l0)), .inr (.inr (.inl l1)), .inl l2, .inl l3, .inl l4] (pm_push r []) S1 K) := by
  refine (px_go (by decide +kernel : pm_fe 21 31 = some (.aload_n 0, 1)) rfl).trans ?_
  refine (px_go (by decide +kernel : pm_fe 21 32 = some (.aload_n 1, 1)) rfl).trans ?_
  refine (px_go (by decide +kernel : pm_fe 21 33 = some (.iload 4, 2)) rfl).trans ?_
  refine (px_go (by decide +kernel : pm_fe 21 35 = some (.iload_n 2, 1)) rfl).trans ?_
  refine (px_v3 (idx := 90) (m' := 20) (ci := 1) (by decide +kernel)).trans ((and_iff_right ⟨h1, (by simp [pm_wl_n, pm_wl_c, pm_w] : pm_wl [] ≤ 8)⟩).trans ?_)
  exact Iff.rfl
theorem b21_39 {d : Nat} {G : PG} {M T : PH} {K : PV → PS → Prop} {l0 l1 l2 l3 l4 s0 : Int} (h1 : pm_ob G l0 1) : pm_Run d 21 39 [.inr (.inr (.inl l0)), .inr (.inr (.inl l1)), .inl l2, .inl l3, .inl l4] [.inl s0] (G, M, T) K ↔ pm_Call d 20 [.inr (.inr (.inl l0)), .inr (.inr (.inl l1)), .inl 0, .inl l2] (G, M, T) (fun r S1 => pm_Run d 21 46 [.inr (.inr (.inl l0)), .inr (.inr (.inl l1)), .inl l2, .inl l3, .inl l4] (pm_push r [.inl s0]) S1 K) := by
  refine (px_go (by decide +kernel : pm_fe 21 39 = some (.aload_n 0, 1)) rfl).trans ?_
  refine (px_go (by decide +kernel : pm_fe 21 40 = some (.aload_n 1, 1)) rfl).trans ?_
  refine (px_go (by decide +kernel : pm_fe 21 41 = some (.iconst 0, 1)) rfl).trans ?_
  refine (px_go (by decide +kernel : pm_fe 21 42 = some (.iload_n 2, 1)) rfl).trans ?_
  refine (px_v3 (idx := 90) (m' := 20) (ci := 1) (by decide +kernel)).trans ((and_iff_right ⟨h1, (by simp [pm_wl_n, pm_wl_c, pm_w] : pm_wl [.inl s0] ≤ 8)⟩).trans ?_)
  exact Iff.rfl
theorem b21_46 {d : Nat} {G : PG} {M T : PH} {K : PV → PS → Prop} {l0 l1 l2 l3 l4 s0 s1 : Int} : pm_Run d 21 46 [.inr (.inr (.inl l0)), .inr (.inr (.inl l1)), .inl l2, .inl l3, .inl l4] [.inl s0, .inl s1] (G, M, T) K ↔ if pm_sg s1 ≠ pm_sg s0 then pm_Run d 21 52 [.inr (.inr (.inl l0)), .inr (.inr (.inl l1)), .inl l2, .inl l3, .inl l4] [] (G, M, T) K else pm_Run d 21 49 [.inr (.inr (.inl l0)), .inr (.inr (.inl l1)), .inl l2, .inl l3, .inl l4] [] (G, M, T) K := by
  refine (px_ic_ne (off := 6) (tgt := 52) (by decide +kernel)).trans ?_
  exact Iff.rfl
theorem b21_49 {d : Nat} {G : PG} {M T : PH} {K : PV → PS → Prop} {l0 l1 l2 l3 l4 : Int} : pm_Run d 21 49 [.inr (.inr (.inl l0)), .inr (.inr (.inl l1)), .inl l2, .inl l3, .inl l4] [] (G, M, T) K ↔ pm_Run d 21 52 [.inr (.inr (.inl l0)), .inr (.inr (.inl l1)), .inl l2, .inl (l3 + 1), .inl l4] [] (G, M, T) K := by
  refine (px_go (by decide +kernel : pm_fe 21 49 = some (.iinc 3 1, 3)) rfl).trans ?_
  exact Iff.rfl
theorem b21_52 {d : Nat} {G : PG} {M T : PH} {K : PV → PS → Prop} {l0 l1 l2 l3 l4 : Int} : pm_Run d 21 52 [.inr (.inr (.inl l0)), .inr (.inr (.inl l1)), .inl l2, .inl l3, .inl l4] [] (G, M, T) K ↔ pm_Run d 21 22 [.inr (.inr (.inl l0)), .inr (.inr (.inl l1)), .inl l2, .inl l3, .inl (l4 + 1)] [] (G, M, T) K := by
  refine (px_go (by decide +kernel : pm_fe 21 52 = some (.iinc 4 1, 3)) rfl).trans ?_
  refine (px_goto (off := (-33)) (tgt := 22) (by decide +kernel)).trans ?_
  exact Iff.rfl
theorem b21_58 {d : Nat} {G : PG} {M T : PH} {K : PV → PS → Prop} {l0 l1 l2 l3 l4 : Int} (h1 : pm_ob G l0 1) : pm_Run d 21 58 [.inr (.inr (.inl l0)), .inr (.inr (.inl l1)), .inl l2, .inl l3, .inl l4] [] (G, M, T) K ↔ if pm_sg l3 ≠ pm_sg (M l0.toNat 1) then pm_Run d 21 68 [.inr (.inr (.inl l0)), .inr (.inr (.inl l1)), .inl l2, .inl l3, .inl l4] [] (G, M, T) K else pm_Run d 21 66 [.inr (.inr (.inl l0)), .inr (.inr (.inl l1)), .inl l2, .inl l3, .inl l4] [] (G, M, T) K := by
  refine (px_go (by decide +kernel : pm_fe 21 58 = some (.iload_n 3, 1)) rfl).trans ?_
  refine (px_go (by decide +kernel : pm_fe 21 59 = some (.aload_n 0, 1)) rfl).trans ?_
  refine (px_get0 (idx := 60) (ci := 1) (k := 1) (by decide +kernel)).trans ((and_iff_right h1).trans ?_)
  refine (px_ic_ne (off := 5) (tgt := 68) (by decide +kernel)).trans ?_
  exact Iff.rfl
theorem b21_66 {d : Nat} {G : PG} {M T : PH} {K : PV → PS → Prop} {l0 l1 l2 l3 l4 : Int} : pm_Run d 21 66 [.inr (.inr (.inl l0)), .inr (.inr (.inl l1)), .inl l2, .inl l3, .inl l4] [] (G, M, T) K ↔ K (.inl l2) (G, M, T) := by
  refine (px_go (by decide +kernel : pm_fe 21 66 = some (.iload_n 2, 1)) rfl).trans ?_
  refine (px_ri (by decide +kernel)).trans ?_
  exact Iff.rfl
theorem b21_68 {d : Nat} {G : PG} {M T : PH} {K : PV → PS → Prop} {l0 l1 l2 l3 l4 : Int} : pm_Run d 21 68 [.inr (.inr (.inl l0)), .inr (.inr (.inl l1)), .inl l2, .inl l3, .inl l4] [] (G, M, T) K ↔ pm_Run d 21 2 [.inr (.inr (.inl l0)), .inr (.inr (.inl l1)), .inl (l2 + 1), .inl l3, .inl l4] [] (G, M, T) K := by
  refine (px_go (by decide +kernel : pm_fe 21 68 = some (.iinc 2 1, 3)) rfl).trans ?_
  refine (px_goto (off := (-69)) (tgt := 2) (by decide +kernel)).trans ?_
  exact Iff.rfl
theorem b21_74 {d : Nat} {G : PG} {M T : PH} {K : PV → PS → Prop} {l0 l1 l2 : Int} {l3 l4 : PV} : pm_Run d 21 74 [.inr (.inr (.inl l0)), .inr (.inr (.inl l1)), .inl l2, l3, l4] [] (G, M, T) K ↔ K (.inl (-1)) (G, M, T) := by
  refine (px_go (by decide +kernel : pm_fe 21 74 = some (.iconst (-1), 1)) rfl).trans ?_
  refine (px_ri (by decide +kernel)).trans ?_
  exact Iff.rfl
