-- X7_init <init>()V
theorem en99 {d : Nat} {a : Int} {S : PS} {K : PV → PS → Prop} : pm_Call (d + 1) 99 [.inr (.inr (.inl a))] S K ↔ pm_Run d 99 0 [.inr (.inr (.inl a)), PU] [] S K := pm_Call_s.trans (and_iff_right (show 1 ≤ pm_ml 99 from by decide +kernel))
theorem b99_15 {d : Nat} {G : PG} {M T : PH} {K : PV → PS → Prop} {l0 l1 : Int} : pm_Run d 99 15 [.inr (.inr (.inl l0)), .inl l1] [] (G, M, T) K ↔ if pm_sg 20 ≤ pm_sg l1 then pm_Run d 99 40 [.inr (.inr (.inl l0)), .inl l1] [] (G, M, T) K else pm_Run d 99 21 [.inr (.inr (.inl l0)), .inl l1] [] (G, M, T) K := by
  refine (px_go (by decide +kernel : pm_fe 99 15 = some (.iload_n 1, 1)) rfl).trans ?_
  refine (px_go (by decide +kernel : pm_fe 99 16 = some (.bipush 20, 2)) rfl).trans ?_
  refine (px_ic_ge (off := 22) (tgt := 40) (by decide +kernel)).trans ?_
  exact Iff.rfl
theorem b99_33 {d : Nat} {G : PG} {M T : PH} {K : PV → PS → Prop} {l0 l1 s0 s1 s2 : Int} (h1 : pm_ar G s2 104 s1) (h2 : pm_ob G s0 5) : pm_Run d 99 33 [.inr (.inr (.inl l0)), .inl l1] [.inr (.inr (.inl s0)), .inl s1, .inr (.inr (.inl s2))] (G, M, T) K ↔ pm_Run d 99 15 [.inr (.inr (.inl l0)), .inl (l1 + 1)] [] (G, M, pm_sa T s2.toNat (pm_up (T s2.toNat) (pm_sg s1).toNat s0)) K := by
  refine (px_aastore (by decide +kernel)).trans ((and_iff_right ⟨h1, h2⟩).trans ?_)
  refine (px_go (by decide +kernel : pm_fe 99 34 = some (.iinc 1 1, 3)) rfl).trans ?_
  refine (px_goto (off := (-22)) (tgt := 15) (by decide +kernel)).trans ?_
  exact Iff.rfl
theorem b99_40 {d : Nat} {G : PG} {M T : PH} {K : PV → PS → Prop} {l0 l1 : Int} : pm_Run d 99 40 [.inr (.inr (.inl l0)), .inl l1] [] (G, M, T) K ↔ K PU (G, M, T) := by
  refine (px_rv (by decide +kernel)).trans ?_
  exact Iff.rfl
-- X7_forget forget()V
theorem en100 {d : Nat} {a : Int} {S : PS} {K : PV → PS → Prop} : pm_Call (d + 1) 100 [.inr (.inr (.inl a))] S K ↔ pm_Run d 100 0 [.inr (.inr (.inl a))] [] S K := pm_Call_s.trans (and_iff_right (show 1 ≤ pm_ml 100 from by decide +kernel))
theorem b100_0 {d : Nat} {G : PG} {M T : PH} {K : PV → PS → Prop} {l0 : Int} (h1 : pm_ob G l0 7) : pm_Run d 100 0 [.inr (.inr (.inl l0))] [] (G, M, T) K ↔ K PU (G, pm_sa M l0.toNat (pm_up (M l0.toNat) 2 0), T) := by
  refine (px_go (by decide +kernel : pm_fe 100 0 = some (.aload_n 0, 1)) rfl).trans ?_
  refine (px_go (by decide +kernel : pm_fe 100 1 = some (.iconst 0, 1)) rfl).trans ?_
  refine (px_put0 (idx := 18) (ci := 7) (k := 2) (by decide +kernel)).trans ((and_iff_right h1).trans ?_)
  refine (px_rv (by decide +kernel)).trans ?_
  exact Iff.rfl
-- X7_keep keep(LMoonTender$Moment;)V
theorem en101 {d : Nat} {a p0 : Int} {S : PS} {K : PV → PS → Prop} : pm_Call (d + 1) 101 [.inr (.inr (.inl a)), .inr (.inr (.inl p0))] S K ↔ pm_Run d 101 0 [.inr (.inr (.inl a)), .inr (.inr (.inl p0))] [] S K := pm_Call_s.trans (and_iff_right (show 2 ≤ pm_ml 101 from by decide +kernel))
theorem b101_0 {d : Nat} {G : PG} {M T : PH} {K : PV → PS → Prop} {l0 l1 : Int} (h1 : pm_ob G l0 7) (h2 : pm_ar G (T l0.toNat 0) 104 (M l0.toNat 1)) (h3 : 0 ≤ T (T l0.toNat 0).toNat (pm_sg (M l0.toNat 1)).toNat) (h4 : pm_ob G (T (T l0.toNat 0).toNat (pm_sg (M l0.toNat 1)).toNat) 5) : pm_Run d 101 0 [.inr (.inr (.inl l0)), .inr (.inr (.inl l1))] [] (G, M, T) K ↔ pm_Call d 56 [.inr (.inr (.inl (T (T l0.toNat 0).toNat (pm_sg (M l0.toNat 1)).toNat))), .inr (.inr (.inl l1))] (G, M, T) (fun r S1 => pm_Run d 101 13 [.inr (.inr (.inl l0)), .inr (.inr (.inl l1))] (pm_push r []) S1 K) := by
  refine (px_go (by decide +kernel : pm_fe 101 0 = some (.aload_n 0, 1)) rfl).trans ?_
  refine (px_get2 (idx := 11) (ci := 7) (k := 0) (by decide +kernel)).trans ((and_iff_right h1).trans ?_)
  refine (px_go (by decide +kernel : pm_fe 101 4 = some (.aload_n 0, 1)) rfl).trans ?_
  refine (px_get0 (idx := 22) (ci := 7) (k := 1) (by decide +kernel)).trans ((and_iff_right h1).trans ?_)
  refine (px_aaload (by decide +kernel)).trans ((and_iff_right ⟨h2, h3⟩).trans ?_)
  refine (px_go (by decide +kernel : pm_fe 101 9 = some (.aload_n 1, 1)) rfl).trans ?_
  refine (px_v1 (idx := 25) (m' := 56) (ci := 5) (by decide +kernel)).trans ((and_iff_right ⟨h4, (by simp [pm_wl_n, pm_wl_c, pm_w] : pm_wl [] ≤ 8)⟩).trans ?_)
  exact Iff.rfl
theorem b101_13 {d : Nat} {G : PG} {M T : PH} {K : PV → PS → Prop} {l0 l1 : Int} (h1 : pm_ob G l0 7) : pm_Run d 101 13 [.inr (.inr (.inl l0)), .inr (.inr (.inl l1))] [] (G, M, T) K ↔ pm_Run d 101 41 [.inr (.inr (.inl l0)), .inr (.inr (.inl l1))] [] (G, pm_sa (pm_sa M l0.toNat (pm_up (M l0.toNat) 1 (pm_rem ((M l0.toNat 1) + 1) 20))) l0.toNat (pm_up ((pm_sa M l0.toNat (pm_up (M l0.toNat) 1 (pm_rem ((M l0.toNat 1) + 1) 20))) l0.toNat) 2 (pm_mn 20 (((pm_sa M l0.toNat (pm_up (M l0.toNat) 1 (pm_rem ((M l0.toNat 1) + 1) 20))) l0.toNat 2) + 1))), T) K := by
  refine (px_go (by decide +kernel : pm_fe 101 13 = some (.aload_n 0, 1)) rfl).trans ?_
  refine (px_go (by decide +kernel : pm_fe 101 14 = some (.aload_n 0, 1)) rfl).trans ?_
  refine (px_get0 (idx := 22) (ci := 7) (k := 1) (by decide +kernel)).trans ((and_iff_right h1).trans ?_)
  refine (px_go (by decide +kernel : pm_fe 101 18 = some (.iconst 1, 1)) rfl).trans ?_
  refine (px_go (by decide +kernel : pm_fe 101 19 = some (.iadd, 1)) rfl).trans ?_
  refine (px_go (by decide +kernel : pm_fe 101 20 = some (.bipush 20, 2)) rfl).trans ?_
  refine (px_irem (by decide +kernel)).trans ((and_iff_right (by decide : pm_sg (20 : Int) ≠ (0 : Int))).trans ?_)
  refine (px_put0 (idx := 22) (ci := 7) (k := 1) (by decide +kernel)).trans ((and_iff_right h1).trans ?_)
  refine (px_go (by decide +kernel : pm_fe 101 26 = some (.aload_n 0, 1)) rfl).trans ?_
  refine (px_go (by decide +kernel : pm_fe 101 27 = some (.bipush 20, 2)) rfl).trans ?_
  refine (px_go (by decide +kernel : pm_fe 101 29 = some (.aload_n 0, 1)) rfl).trans ?_
  refine (px_get0 (idx := 18) (ci := 7) (k := 2) (by decide +kernel)).trans ((and_iff_right h1).trans ?_)
  refine (px_go (by decide +kernel : pm_fe 101 33 = some (.iconst 1, 1)) rfl).trans ?_
  refine (px_go (by decide +kernel : pm_fe 101 34 = some (.iadd, 1)) rfl).trans ?_
  refine (px_m906 (idx := 29) (by decide +kernel)).trans ((and_iff_right (by simp [pm_wl_n, pm_wl_c, pm_w] : pm_wl [.inr (.inr (.inl l0))] ≤ 8)).trans ?_)
  refine (px_put0 (idx := 18) (ci := 7) (k := 2) (by decide +kernel)).trans ((and_iff_right h1).trans ?_)
  exact Iff.rfl
theorem b101_41 {d : Nat} {G : PG} {M T : PH} {K : PV → PS → Prop} {l0 l1 : Int} : pm_Run d 101 41 [.inr (.inr (.inl l0)), .inr (.inr (.inl l1))] [] (G, M, T) K ↔ K PU (G, M, T) := by
  refine (px_rv (by decide +kernel)).trans ?_
  exact Iff.rfl
-- X7_bringBack bringBack(LMoonTender$Moment;)V
theorem en102 {d : Nat} {a p0 : Int} {S : PS} {K : PV → PS → Prop} : pm_Call (d + 1) 102 [.inr (.inr (.inl a)), .inr (.inr (.inl p0))] S K ↔ pm_Run d 102 0 [.inr (.inr (.inl a)), .inr (.inr (.inl p0))] [] S K := pm_Call_s.trans (and_iff_right (show 2 ≤ pm_ml 102 from by decide +kernel))
theorem b102_0 {d : Nat} {G : PG} {M T : PH} {K : PV → PS → Prop} {l0 l1 : Int} (h1 : pm_ob G l0 7) : pm_Run d 102 0 [.inr (.inr (.inl l0)), .inr (.inr (.inl l1))] [] (G, M, T) K ↔ if pm_sg (M l0.toNat 2) ≤ 0 then pm_Run d 102 46 [.inr (.inr (.inl l0)), .inr (.inr (.inl l1))] [] (G, M, T) K else pm_Run d 102 7 [.inr (.inr (.inl l0)), .inr (.inr (.inl l1))] [] (G, M, T) K := by
  refine (px_go (by decide +kernel : pm_fe 102 0 = some (.aload_n 0, 1)) rfl).trans ?_
  refine (px_get0 (idx := 18) (ci := 7) (k := 2) (by decide +kernel)).trans ((and_iff_right h1).trans ?_)
  refine (px_if_le (off := 42) (tgt := 46) (by decide +kernel)).trans ?_
  exact Iff.rfl
theorem b102_7 {d : Nat} {G : PG} {M T : PH} {K : PV → PS → Prop} {l0 l1 : Int} (h1 : pm_ob G l0 7) : pm_Run d 102 7 [.inr (.inr (.inl l0)), .inr (.inr (.inl l1))] [] (G, M, T) K ↔ pm_Run d 102 33 [.inr (.inr (.inl l0)), .inr (.inr (.inl l1))] [] (G, pm_sa (pm_sa M l0.toNat (pm_up (M l0.toNat) 1 (pm_rem (((M l0.toNat 1) + 20) - 1) 20))) l0.toNat (pm_up ((pm_sa M l0.toNat (pm_up (M l0.toNat) 1 (pm_rem (((M l0.toNat 1) + 20) - 1) 20))) l0.toNat) 2 (((pm_sa M l0.toNat (pm_up (M l0.toNat) 1 (pm_rem (((M l0.toNat 1) + 20) - 1) 20))) l0.toNat 2) - 1)), T) K := by
  refine (px_go (by decide +kernel : pm_fe 102 7 = some (.aload_n 0, 1)) rfl).trans ?_
  refine (px_go (by decide +kernel : pm_fe 102 8 = some (.aload_n 0, 1)) rfl).trans ?_
  refine (px_get0 (idx := 22) (ci := 7) (k := 1) (by decide +kernel)).trans ((and_iff_right h1).trans ?_)
  refine (px_go (by decide +kernel : pm_fe 102 12 = some (.bipush 20, 2)) rfl).trans ?_
  refine (px_go (by decide +kernel : pm_fe 102 14 = some (.iadd, 1)) rfl).trans ?_
  refine (px_go (by decide +kernel : pm_fe 102 15 = some (.iconst 1, 1)) rfl).trans ?_
  refine (px_go (by decide +kernel : pm_fe 102 16 = some (.isub, 1)) rfl).trans ?_
  refine (px_go (by decide +kernel : pm_fe 102 17 = some (.bipush 20, 2)) rfl).trans ?_
  refine (px_irem (by decide +kernel)).trans ((and_iff_right (by decide : pm_sg (20 : Int) ≠ (0 : Int))).trans ?_)
  refine (px_put0 (idx := 22) (ci := 7) (k := 1) (by decide +kernel)).trans ((and_iff_right h1).trans ?_)
  refine (px_go (by decide +kernel : pm_fe 102 23 = some (.aload_n 0, 1)) rfl).trans ?_
  refine (px_go (by decide +kernel : pm_fe 102 24 = some (.dup, 1)) rfl).trans ?_
  refine (px_get0 (idx := 18) (ci := 7) (k := 2) (by decide +kernel)).trans ((and_iff_right h1).trans ?_)
  refine (px_go (by decide +kernel : pm_fe 102 28 = some (.iconst 1, 1)) rfl).trans ?_
  refine (px_go (by decide +kernel : pm_fe 102 29 = some (.isub, 1)) rfl).trans ?_
  refine (px_put0 (idx := 18) (ci := 7) (k := 2) (by decide +kernel)).trans ((and_iff_right h1).trans ?_)
  exact Iff.rfl
theorem b102_33 {d : Nat} {G : PG} {M T : PH} {K : PV → PS → Prop} {l0 l1 : Int} (h1 : pm_ob G l0 7) (h2 : pm_ar G (T l0.toNat 0) 104 (M l0.toNat 1)) (h3 : 0 ≤ T (T l0.toNat 0).toNat (pm_sg (M l0.toNat 1)).toNat) (h4 : pm_ob G l1 5) : pm_Run d 102 33 [.inr (.inr (.inl l0)), .inr (.inr (.inl l1))] [] (G, M, T) K ↔ pm_Call d 56 [.inr (.inr (.inl l1)), .inr (.inr (.inl (T (T l0.toNat 0).toNat (pm_sg (M l0.toNat 1)).toNat)))] (G, M, T) (fun r S1 => pm_Run d 102 46 [.inr (.inr (.inl l0)), .inr (.inr (.inl l1))] (pm_push r []) S1 K) := by
  refine (px_go (by decide +kernel : pm_fe 102 33 = some (.aload_n 1, 1)) rfl).trans ?_
  refine (px_go (by decide +kernel : pm_fe 102 34 = some (.aload_n 0, 1)) rfl).trans ?_
  refine (px_get2 (idx := 11) (ci := 7) (k := 0) (by decide +kernel)).trans ((and_iff_right h1).trans ?_)
  refine (px_go (by decide +kernel : pm_fe 102 38 = some (.aload_n 0, 1)) rfl).trans ?_
  refine (px_get0 (idx := 22) (ci := 7) (k := 1) (by decide +kernel)).trans ((and_iff_right h1).trans ?_)
  refine (px_aaload (by decide +kernel)).trans ((and_iff_right ⟨h2, h3⟩).trans ?_)
  refine (px_v1 (idx := 25) (m' := 56) (ci := 5) (by decide +kernel)).trans ((and_iff_right ⟨h4, (by simp [pm_wl_n, pm_wl_c, pm_w] : pm_wl [] ≤ 8)⟩).trans ?_)
  exact Iff.rfl
theorem b102_46 {d : Nat} {G : PG} {M T : PH} {K : PV → PS → Prop} {l0 l1 : Int} : pm_Run d 102 46 [.inr (.inr (.inl l0)), .inr (.inr (.inl l1))] [] (G, M, T) K ↔ K PU (G, M, T) := by
  refine (px_rv (by decide +kernel)).trans ?_
  exact Iff.rfl
