-- X5_init <init>()V
theorem en54 {d : Nat} {a : Int} {S : PS} {K : PV → PS → Prop} : pm_Call (d + 1) 54 [.inr (.inr (.inl a))] S K ↔ pm_Run d 54 0 [.inr (.inr (.inl a))] [] S K := pm_Call_s.trans (and_iff_right (show 1 ≤ pm_ml 54 from by decide +kernel))
-- X5_pair pair(II)I
theorem en55 {d : Nat} {p0 p1 : Int} {S : PS} {K : PV → PS → Prop} : pm_Call (d + 1) 55 [.inl p0, .inl p1] S K ↔ pm_Run d 55 0 [.inl p0, .inl p1] [] S K := pm_Call_s.trans (and_iff_right (show 2 ≤ pm_ml 55 from by decide +kernel))
theorem b55_0 {d : Nat} {G : PG} {M T : PH} {K : PV → PS → Prop} {l0 l1 : Int} : pm_Run d 55 0 [.inl l0, .inl l1] [] (G, M, T) K ↔ K (.inl ((l0 * 3) + l1)) (G, M, T) := by
  refine (px_go (by decide +kernel : pm_fe 55 0 = some (.iload_n 0, 1)) rfl).trans ?_
  refine (px_go (by decide +kernel : pm_fe 55 1 = some (.iconst 3, 1)) rfl).trans ?_
  refine (px_go (by decide +kernel : pm_fe 55 2 = some (.imul, 1)) rfl).trans ?_
  refine (px_go (by decide +kernel : pm_fe 55 3 = some (.iload_n 1, 1)) rfl).trans ?_
  refine (px_go (by decide +kernel : pm_fe 55 4 = some (.iadd, 1)) rfl).trans ?_
  refine (px_ri (by decide +kernel)).trans ?_
  exact Iff.rfl
-- X5_copyFrom copyFrom(LMoonTender$Moment;)V
theorem en56 {d : Nat} {a p0 : Int} {S : PS} {K : PV → PS → Prop} : pm_Call (d + 1) 56 [.inr (.inr (.inl a)), .inr (.inr (.inl p0))] S K ↔ pm_Run d 56 0 [.inr (.inr (.inl a)), .inr (.inr (.inl p0))] [] S K := pm_Call_s.trans (and_iff_right (show 2 ≤ pm_ml 56 from by decide +kernel))
theorem b56_0 {d : Nat} {G : PG} {M T : PH} {K : PV → PS → Prop} {l0 l1 : Int} (h1 : pm_ob G l1 5) (h2 : pm_ob G l0 5) (h3 : 0 ≤ T l0.toNat 1 ∧ (T l0.toNat 1).toNat < G.1 ∧ 100 ≤ (G.2.2.1 (T l0.toNat 1).toNat).1 ∧ (G.2.2.1 (T l0.toNat 1).toNat).1 ≤ 104) (h4 : pm_ob G (T l1.toNat 1) 100) (h5 : pm_ob G (T l0.toNat 1) 100) (h6 : 0 ≤ pm_sg ((G.2.2.1 (T l0.toNat 1).toNat).2 : Int)) (h7 : pm_sg 0 + pm_sg ((G.2.2.1 (T l0.toNat 1).toNat).2 : Int) ≤ (G.2.2.1 (T l1.toNat 1).toNat).2) (h8 : pm_sg 0 + pm_sg ((G.2.2.1 (T l0.toNat 1).toNat).2 : Int) ≤ (G.2.2.1 (T l0.toNat 1).toNat).2) (h9 : (T l1.toNat 1) ≠ (T l0.toNat 1)) : pm_Run d 56 0 [.inr (.inr (.inl l0)), .inr (.inr (.inl l1))] [] (G, M, T) K ↔ pm_Run d 56 26 [.inr (.inr (.inl l0)), .inr (.inr (.inl l1))] [] (G, pm_sa (pm_sa M l0.toNat (pm_up (M l0.toNat) 0 (M l1.toNat 0))) (T l0.toNat 1).toNat (pm_cp ((pm_sa M l0.toNat (pm_up (M l0.toNat) 0 (M l1.toNat 0))) (T l1.toNat 1).toNat) ((pm_sa M l0.toNat (pm_up (M l0.toNat) 0 (M l1.toNat 0))) (T l0.toNat 1).toNat) (pm_sg 0).toNat (pm_sg 0).toNat (pm_sg ((G.2.2.1 (T l0.toNat 1).toNat).2 : Int)).toNat), T) K := by
  refine (px_go (by decide +kernel : pm_fe 56 0 = some (.aload_n 0, 1)) rfl).trans ?_
  refine (px_go (by decide +kernel : pm_fe 56 1 = some (.aload_n 1, 1)) rfl).trans ?_
  refine (px_get0 (idx := 27) (ci := 5) (k := 0) (by decide +kernel)).trans ((and_iff_right h1).trans ?_)
  refine (px_put0 (idx := 27) (ci := 5) (k := 0) (by decide +kernel)).trans ((and_iff_right h2).trans ?_)
  refine (px_go (by decide +kernel : pm_fe 56 8 = some (.aload_n 1, 1)) rfl).trans ?_
  refine (px_get2 (idx := 9) (ci := 5) (k := 1) (by decide +kernel)).trans ((and_iff_right h1).trans ?_)
  refine (px_go (by decide +kernel : pm_fe 56 12 = some (.iconst 0, 1)) rfl).trans ?_
  refine (px_go (by decide +kernel : pm_fe 56 13 = some (.aload_n 0, 1)) rfl).trans ?_
  refine (px_get2 (idx := 9) (ci := 5) (k := 1) (by decide +kernel)).trans ((and_iff_right h2).trans ?_)
  refine (px_go (by decide +kernel : pm_fe 56 17 = some (.iconst 0, 1)) rfl).trans ?_
  refine (px_go (by decide +kernel : pm_fe 56 18 = some (.aload_n 0, 1)) rfl).trans ?_
  refine (px_get2 (idx := 9) (ci := 5) (k := 1) (by decide +kernel)).trans ((and_iff_right h2).trans ?_)
  refine (px_alen (by decide +kernel) h3).trans ?_
  refine (px_acpy (idx := 31) (by decide +kernel)).trans ((and_iff_right ⟨h4, h5, (by decide : (0 : Int) ≤ pm_sg (0 : Int)), (by decide : (0 : Int) ≤ pm_sg (0 : Int)), h6, h7, h8, h9, (by simp [pm_wl_n, pm_wl_c, pm_w] : pm_wl [] ≤ 8)⟩).trans ?_)
  exact Iff.rfl
theorem b56_26 {d : Nat} {G : PG} {M T : PH} {K : PV → PS → Prop} {l0 l1 : Int} (h1 : pm_ob G l1 5) (h2 : pm_ob G l0 5) (h3 : 0 ≤ T l0.toNat 2 ∧ (T l0.toNat 2).toNat < G.1 ∧ 100 ≤ (G.2.2.1 (T l0.toNat 2).toNat).1 ∧ (G.2.2.1 (T l0.toNat 2).toNat).1 ≤ 104) (h4 : pm_ob G (T l1.toNat 2) 100) (h5 : pm_ob G (T l0.toNat 2) 100) (h6 : 0 ≤ pm_sg ((G.2.2.1 (T l0.toNat 2).toNat).2 : Int)) (h7 : pm_sg 0 + pm_sg ((G.2.2.1 (T l0.toNat 2).toNat).2 : Int) ≤ (G.2.2.1 (T l1.toNat 2).toNat).2) (h8 : pm_sg 0 + pm_sg ((G.2.2.1 (T l0.toNat 2).toNat).2 : Int) ≤ (G.2.2.1 (T l0.toNat 2).toNat).2) (h9 : (T l1.toNat 2) ≠ (T l0.toNat 2)) (h10 : 0 ≤ T l0.toNat 3 ∧ (T l0.toNat 3).toNat < G.1 ∧ 100 ≤ (G.2.2.1 (T l0.toNat 3).toNat).1 ∧ (G.2.2.1 (T l0.toNat 3).toNat).1 ≤ 104) (h11 : pm_ob G (T l1.toNat 3) 100) (h12 : pm_ob G (T l0.toNat 3) 100) (h13 : 0 ≤ pm_sg ((G.2.2.1 (T l0.toNat 3).toNat).2 : Int)) (h14 : pm_sg 0 + pm_sg ((G.2.2.1 (T l0.toNat 3).toNat).2 : Int) ≤ (G.2.2.1 (T l1.toNat 3).toNat).2) (h15 : pm_sg 0 + pm_sg ((G.2.2.1 (T l0.toNat 3).toNat).2 : Int) ≤ (G.2.2.1 (T l0.toNat 3).toNat).2) (h16 : (T l1.toNat 3) ≠ (T l0.toNat 3)) : pm_Run d 56 26 [.inr (.inr (.inl l0)), .inr (.inr (.inl l1))] [] (G, M, T) K ↔ pm_Run d 56 62 [.inr (.inr (.inl l0)), .inr (.inr (.inl l1))] [] (G, pm_sa (pm_sa M (T l0.toNat 2).toNat (pm_cp (M (T l1.toNat 2).toNat) (M (T l0.toNat 2).toNat) (pm_sg 0).toNat (pm_sg 0).toNat (pm_sg ((G.2.2.1 (T l0.toNat 2).toNat).2 : Int)).toNat)) (T l0.toNat 3).toNat (pm_cp ((pm_sa M (T l0.toNat 2).toNat (pm_cp (M (T l1.toNat 2).toNat) (M (T l0.toNat 2).toNat) (pm_sg 0).toNat (pm_sg 0).toNat (pm_sg ((G.2.2.1 (T l0.toNat 2).toNat).2 : Int)).toNat)) (T l1.toNat 3).toNat) ((pm_sa M (T l0.toNat 2).toNat (pm_cp (M (T l1.toNat 2).toNat) (M (T l0.toNat 2).toNat) (pm_sg 0).toNat (pm_sg 0).toNat (pm_sg ((G.2.2.1 (T l0.toNat 2).toNat).2 : Int)).toNat)) (T l0.toNat 3).toNat) (pm_sg 0).toNat (pm_sg 0).toNat (pm_sg ((G.2.2.1 (T l0.toNat 3).toNat).2 : Int)).toNat), T) K := by
  refine (px_go (by decide +kernel : pm_fe 56 26 = some (.aload_n 1, 1)) rfl).trans ?_
  refine (px_get2 (idx := 15) (ci := 5) (k := 2) (by decide +kernel)).trans ((and_iff_right h1).trans ?_)
  refine (px_go (by decide +kernel : pm_fe 56 30 = some (.iconst 0, 1)) rfl).trans ?_
  refine (px_go (by decide +kernel : pm_fe 56 31 = some (.aload_n 0, 1)) rfl).trans ?_
  refine (px_get2 (idx := 15) (ci := 5) (k := 2) (by decide +kernel)).trans ((and_iff_right h2).trans ?_)
  refine (px_go (by decide +kernel : pm_fe 56 35 = some (.iconst 0, 1)) rfl).trans ?_
  refine (px_go (by decide +kernel : pm_fe 56 36 = some (.aload_n 0, 1)) rfl).trans ?_
  refine (px_get2 (idx := 15) (ci := 5) (k := 2) (by decide +kernel)).trans ((and_iff_right h2).trans ?_)
  refine (px_alen (by decide +kernel) h3).trans ?_
  refine (px_acpy (idx := 31) (by decide +kernel)).trans ((and_iff_right ⟨h4, h5, (by decide : (0 : Int) ≤ pm_sg (0 : Int)), (by decide : (0 : Int) ≤ pm_sg (0 : Int)), h6, h7, h8, h9, (by simp [pm_wl_n, pm_wl_c, pm_w] : pm_wl [] ≤ 8)⟩).trans ?_)
  refine (px_go (by decide +kernel : pm_fe 56 44 = some (.aload_n 1, 1)) rfl).trans ?_
  refine (px_get2 (idx := 18) (ci := 5) (k := 3) (by decide +kernel)).trans ((and_iff_right h1).trans ?_)
  refine (px_go (by decide +kernel : pm_fe 56 48 = some (.iconst 0, 1)) rfl).trans ?_
  refine (px_go (by decide +kernel : pm_fe 56 49 = some (.aload_n 0, 1)) rfl).trans ?_
  refine (px_get2 (idx := 18) (ci := 5) (k := 3) (by decide +kernel)).trans ((and_iff_right h2).trans ?_)
  refine (px_go (by decide +kernel : pm_fe 56 53 = some (.iconst 0, 1)) rfl).trans ?_
  refine (px_go (by decide +kernel : pm_fe 56 54 = some (.aload_n 0, 1)) rfl).trans ?_
  refine (px_get2 (idx := 18) (ci := 5) (k := 3) (by decide +kernel)).trans ((and_iff_right h2).trans ?_)
  refine (px_alen (by decide +kernel) h10).trans ?_
  refine (px_acpy (idx := 31) (by decide +kernel)).trans ((and_iff_right ⟨h11, h12, (by decide : (0 : Int) ≤ pm_sg (0 : Int)), (by decide : (0 : Int) ≤ pm_sg (0 : Int)), h13, h14, h15, h16, (by simp [pm_wl_n, pm_wl_c, pm_w] : pm_wl [] ≤ 8)⟩).trans ?_)
  exact Iff.rfl
theorem b56_62 {d : Nat} {G : PG} {M T : PH} {K : PV → PS → Prop} {l0 l1 : Int} (h1 : pm_ob G l1 5) (h2 : pm_ob G l0 5) (h3 : 0 ≤ T l0.toNat 4 ∧ (T l0.toNat 4).toNat < G.1 ∧ 100 ≤ (G.2.2.1 (T l0.toNat 4).toNat).1 ∧ (G.2.2.1 (T l0.toNat 4).toNat).1 ≤ 104) (h4 : pm_ob G (T l1.toNat 4) 100) (h5 : pm_ob G (T l0.toNat 4) 100) (h6 : 0 ≤ pm_sg ((G.2.2.1 (T l0.toNat 4).toNat).2 : Int)) (h7 : pm_sg 0 + pm_sg ((G.2.2.1 (T l0.toNat 4).toNat).2 : Int) ≤ (G.2.2.1 (T l1.toNat 4).toNat).2) (h8 : pm_sg 0 + pm_sg ((G.2.2.1 (T l0.toNat 4).toNat).2 : Int) ≤ (G.2.2.1 (T l0.toNat 4).toNat).2) (h9 : (T l1.toNat 4) ≠ (T l0.toNat 4)) (h10 : 0 ≤ T l0.toNat 5 ∧ (T l0.toNat 5).toNat < G.1 ∧ 100 ≤ (G.2.2.1 (T l0.toNat 5).toNat).1 ∧ (G.2.2.1 (T l0.toNat 5).toNat).1 ≤ 104) (h11 : pm_ob G (T l1.toNat 5) 100) (h12 : pm_ob G (T l0.toNat 5) 100) (h13 : 0 ≤ pm_sg ((G.2.2.1 (T l0.toNat 5).toNat).2 : Int)) (h14 : pm_sg 0 + pm_sg ((G.2.2.1 (T l0.toNat 5).toNat).2 : Int) ≤ (G.2.2.1 (T l1.toNat 5).toNat).2) (h15 : pm_sg 0 + pm_sg ((G.2.2.1 (T l0.toNat 5).toNat).2 : Int) ≤ (G.2.2.1 (T l0.toNat 5).toNat).2) (h16 : (T l1.toNat 5) ≠ (T l0.toNat 5)) : pm_Run d 56 62 [.inr (.inr (.inl l0)), .inr (.inr (.inl l1))] [] (G, M, T) K ↔ pm_Run d 56 98 [.inr (.inr (.inl l0)), .inr (.inr (.inl l1))] [] (G, pm_sa (pm_sa M (T l0.toNat 4).toNat (pm_cp (M (T l1.toNat 4).toNat) (M (T l0.toNat 4).toNat) (pm_sg 0).toNat (pm_sg 0).toNat (pm_sg ((G.2.2.1 (T l0.toNat 4).toNat).2 : Int)).toNat)) (T l0.toNat 5).toNat (pm_cp ((pm_sa M (T l0.toNat 4).toNat (pm_cp (M (T l1.toNat 4).toNat) (M (T l0.toNat 4).toNat) (pm_sg 0).toNat (pm_sg 0).toNat (pm_sg ((G.2.2.1 (T l0.toNat 4).toNat).2 : Int)).toNat)) (T l1.toNat 5).toNat) ((pm_sa M (T l0.toNat 4).toNat (pm_cp (M (T l1.toNat 4).toNat) (M (T l0.toNat 4).toNat) (pm_sg 0).toNat (pm_sg 0).toNat (pm_sg ((G.2.2.1 (T l0.toNat 4).toNat).2 : Int)).toNat)) (T l0.toNat 5).toNat) (pm_sg 0).toNat (pm_sg 0).toNat (pm_sg ((G.2.2.1 (T l0.toNat 5).toNat).2 : Int)).toNat), T) K := by
  refine (px_go (by decide +kernel : pm_fe 56 62 = some (.aload_n 1, 1)) rfl).trans ?_
  refine (px_get2 (idx := 21) (ci := 5) (k := 4) (by decide +kernel)).trans ((and_iff_right h1).trans ?_)
  refine (px_go (by decide +kernel : pm_fe 56 66 = some (.iconst 0, 1)) rfl).trans ?_
  refine (px_go (by decide +kernel : pm_fe 56 67 = some (.aload_n 0, 1)) rfl).trans ?_
  refine (px_get2 (idx := 21) (ci := 5) (k := 4) (by decide +kernel)).trans ((and_iff_right h2).trans ?_)
  refine (px_go (by decide +kernel : pm_fe 56 71 = some (.iconst 0, 1)) rfl).trans ?_
  refine (px_go (by decide +kernel : pm_fe 56 72 = some (.aload_n 0, 1)) rfl).trans ?_
  refine (px_get2 (idx := 21) (ci := 5) (k := 4) (by decide +kernel)).trans ((and_iff_right h2).trans ?_)
  refine (px_alen (by decide +kernel) h3).trans ?_
  refine (px_acpy (idx := 31) (by decide +kernel)).trans ((and_iff_right ⟨h4, h5, (by decide : (0 : Int) ≤ pm_sg (0 : Int)), (by decide : (0 : Int) ≤ pm_sg (0 : Int)), h6, h7, h8, h9, (by simp [pm_wl_n, pm_wl_c, pm_w] : pm_wl [] ≤ 8)⟩).trans ?_)
  refine (px_go (by decide +kernel : pm_fe 56 80 = some (.aload_n 1, 1)) rfl).trans ?_
  refine (px_get2 (idx := 24) (ci := 5) (k := 5) (by decide +kernel)).trans ((and_iff_right h1).trans ?_)
  refine (px_go (by decide +kernel : pm_fe 56 84 = some (.iconst 0, 1)) rfl).trans ?_
  refine (px_go (by decide +kernel : pm_fe 56 85 = some (.aload_n 0, 1)) rfl).trans ?_
  refine (px_get2 (idx := 24) (ci := 5) (k := 5) (by decide +kernel)).trans ((and_iff_right h2).trans ?_)
  refine (px_go (by decide +kernel : pm_fe 56 89 = some (.iconst 0, 1)) rfl).trans ?_
  refine (px_go (by decide +kernel : pm_fe 56 90 = some (.aload_n 0, 1)) rfl).trans ?_
  refine (px_get2 (idx := 24) (ci := 5) (k := 5) (by decide +kernel)).trans ((and_iff_right h2).trans ?_)
  refine (px_alen (by decide +kernel) h10).trans ?_
  refine (px_acpy (idx := 31) (by decide +kernel)).trans ((and_iff_right ⟨h11, h12, (by decide : (0 : Int) ≤ pm_sg (0 : Int)), (by decide : (0 : Int) ≤ pm_sg (0 : Int)), h13, h14, h15, h16, (by simp [pm_wl_n, pm_wl_c, pm_w] : pm_wl [] ≤ 8)⟩).trans ?_)
  exact Iff.rfl
theorem b56_98 {d : Nat} {G : PG} {M T : PH} {K : PV → PS → Prop} {l0 l1 : Int} : pm_Run d 56 98 [.inr (.inr (.inl l0)), .inr (.inr (.inl l1))] [] (G, M, T) K ↔ K PU (G, M, T) := by
  refine (px_rv (by decide +kernel)).trans ?_
  exact Iff.rfl
-- X5_clear clear()V
theorem en57 {d : Nat} {a : Int} {S : PS} {K : PV → PS → Prop} : pm_Call (d + 1) 57 [.inr (.inr (.inl a))] S K ↔ pm_Run d 57 0 [.inr (.inr (.inl a))] [] S K := pm_Call_s.trans (and_iff_right (show 1 ≤ pm_ml 57 from by decide +kernel))
theorem b57_0 {d : Nat} {G : PG} {M T : PH} {K : PV → PS → Prop} {l0 : Int} (h1 : pm_ob G l0 5) : pm_Run d 57 0 [.inr (.inr (.inl l0))] [] (G, M, T) K ↔ pm_Call d 307 [.inr (.inr (.inl (T l0.toNat 1))), .inl 0] (G, pm_sa M l0.toNat (pm_up (M l0.toNat) 0 0), T) (fun r S1 => pm_Run d 57 13 [.inr (.inr (.inl l0))] (pm_push r []) S1 K) := by
  refine (px_go (by decide +kernel : pm_fe 57 0 = some (.aload_n 0, 1)) rfl).trans ?_
  refine (px_go (by decide +kernel : pm_fe 57 1 = some (.iconst 0, 1)) rfl).trans ?_
  refine (px_put0 (idx := 27) (ci := 5) (k := 0) (by decide +kernel)).trans ((and_iff_right h1).trans ?_)
  refine (px_go (by decide +kernel : pm_fe 57 5 = some (.aload_n 0, 1)) rfl).trans ?_
  refine (px_get2 (idx := 9) (ci := 5) (k := 1) (by decide +kernel)).trans ((and_iff_right h1).trans ?_)
  refine (px_go (by decide +kernel : pm_fe 57 9 = some (.iconst 0, 1)) rfl).trans ?_
  refine (px_s2 (idx := 37) (m' := 307) (nest := 0) (by decide +kernel)).trans ((and_iff_right (by simp [pm_wl_n, pm_wl_c, pm_w] : pm_wl [] ≤ 8)).trans ?_)
  exact Iff.rfl
theorem b57_13 {d : Nat} {G : PG} {M T : PH} {K : PV → PS → Prop} {l0 : Int} (h1 : pm_ob G l0 5) : pm_Run d 57 13 [.inr (.inr (.inl l0))] [] (G, M, T) K ↔ pm_Call d 307 [.inr (.inr (.inl (T l0.toNat 2))), .inl 0] (G, M, T) (fun r S1 => pm_Run d 57 21 [.inr (.inr (.inl l0))] (pm_push r []) S1 K) := by
  refine (px_go (by decide +kernel : pm_fe 57 13 = some (.aload_n 0, 1)) rfl).trans ?_
  refine (px_get2 (idx := 15) (ci := 5) (k := 2) (by decide +kernel)).trans ((and_iff_right h1).trans ?_)
  refine (px_go (by decide +kernel : pm_fe 57 17 = some (.iconst 0, 1)) rfl).trans ?_
  refine (px_s2 (idx := 37) (m' := 307) (nest := 0) (by decide +kernel)).trans ((and_iff_right (by simp [pm_wl_n, pm_wl_c, pm_w] : pm_wl [] ≤ 8)).trans ?_)
  exact Iff.rfl
theorem b57_21 {d : Nat} {G : PG} {M T : PH} {K : PV → PS → Prop} {l0 : Int} (h1 : pm_ob G l0 5) : pm_Run d 57 21 [.inr (.inr (.inl l0))] [] (G, M, T) K ↔ pm_Call d 307 [.inr (.inr (.inl (T l0.toNat 3))), .inl 0] (G, M, T) (fun r S1 => pm_Run d 57 29 [.inr (.inr (.inl l0))] (pm_push r []) S1 K) := by
  refine (px_go (by decide +kernel : pm_fe 57 21 = some (.aload_n 0, 1)) rfl).trans ?_
  refine (px_get2 (idx := 18) (ci := 5) (k := 3) (by decide +kernel)).trans ((and_iff_right h1).trans ?_)
  refine (px_go (by decide +kernel : pm_fe 57 25 = some (.iconst 0, 1)) rfl).trans ?_
  refine (px_s2 (idx := 37) (m' := 307) (nest := 0) (by decide +kernel)).trans ((and_iff_right (by simp [pm_wl_n, pm_wl_c, pm_w] : pm_wl [] ≤ 8)).trans ?_)
  exact Iff.rfl
theorem b57_29 {d : Nat} {G : PG} {M T : PH} {K : PV → PS → Prop} {l0 : Int} (h1 : pm_ob G l0 5) : pm_Run d 57 29 [.inr (.inr (.inl l0))] [] (G, M, T) K ↔ pm_Call d 307 [.inr (.inr (.inl (T l0.toNat 4))), .inl 0] (G, M, T) (fun r S1 => pm_Run d 57 37 [.inr (.inr (.inl l0))] (pm_push r []) S1 K) := by
  refine (px_go (by decide +kernel : pm_fe 57 29 = some (.aload_n 0, 1)) rfl).trans ?_
  refine (px_get2 (idx := 21) (ci := 5) (k := 4) (by decide +kernel)).trans ((and_iff_right h1).trans ?_)
  refine (px_go (by decide +kernel : pm_fe 57 33 = some (.iconst 0, 1)) rfl).trans ?_
  refine (px_s2 (idx := 37) (m' := 307) (nest := 0) (by decide +kernel)).trans ((and_iff_right (by simp [pm_wl_n, pm_wl_c, pm_w] : pm_wl [] ≤ 8)).trans ?_)
  exact Iff.rfl
theorem b57_37 {d : Nat} {G : PG} {M T : PH} {K : PV → PS → Prop} {l0 : Int} (h1 : pm_ob G l0 5) : pm_Run d 57 37 [.inr (.inr (.inl l0))] [] (G, M, T) K ↔ pm_Call d 307 [.inr (.inr (.inl (T l0.toNat 5))), .inl 0] (G, M, T) (fun r S1 => pm_Run d 57 45 [.inr (.inr (.inl l0))] (pm_push r []) S1 K) := by
  refine (px_go (by decide +kernel : pm_fe 57 37 = some (.aload_n 0, 1)) rfl).trans ?_
  refine (px_get2 (idx := 24) (ci := 5) (k := 5) (by decide +kernel)).trans ((and_iff_right h1).trans ?_)
  refine (px_go (by decide +kernel : pm_fe 57 41 = some (.iconst 0, 1)) rfl).trans ?_
  refine (px_s2 (idx := 37) (m' := 307) (nest := 0) (by decide +kernel)).trans ((and_iff_right (by simp [pm_wl_n, pm_wl_c, pm_w] : pm_wl [] ≤ 8)).trans ?_)
  exact Iff.rfl
theorem b57_45 {d : Nat} {G : PG} {M T : PH} {K : PV → PS → Prop} {l0 : Int} : pm_Run d 57 45 [.inr (.inr (.inl l0))] [] (G, M, T) K ↔ K PU (G, M, T) := by
  refine (px_rv (by decide +kernel)).trans ?_
  exact Iff.rfl
-- X5_offeredTo offeredTo(I)I
theorem en58 {d : Nat} {a p0 : Int} {S : PS} {K : PV → PS → Prop} : pm_Call (d + 1) 58 [.inr (.inr (.inl a)), .inl p0] S K ↔ pm_Run d 58 0 [.inr (.inr (.inl a)), .inl p0, PU, PU] [] S K := pm_Call_s.trans (and_iff_right (show 2 ≤ pm_ml 58 from by decide +kernel))
theorem b58_0 {d : Nat} {G : PG} {M T : PH} {K : PV → PS → Prop} {l0 l1 : Int} : pm_Run d 58 0 [.inr (.inr (.inl l0)), .inl l1, PU, PU] [] (G, M, T) K ↔ pm_Run d 58 4 [.inr (.inr (.inl l0)), .inl l1, .inl 0, .inl 0] [] (G, M, T) K := by
  refine (px_go (by decide +kernel : pm_fe 58 0 = some (.iconst 0, 1)) rfl).trans ?_
  refine (px_go (by decide +kernel : pm_fe 58 1 = some (.istore_n 2, 1)) rfl).trans ?_
  refine (px_go (by decide +kernel : pm_fe 58 2 = some (.iconst 0, 1)) rfl).trans ?_
  refine (px_go (by decide +kernel : pm_fe 58 3 = some (.istore_n 3, 1)) rfl).trans ?_
  exact Iff.rfl
theorem b58_4 {d : Nat} {G : PG} {M T : PH} {K : PV → PS → Prop} {l0 l1 l2 l3 : Int} : pm_Run d 58 4 [.inr (.inr (.inl l0)), .inl l1, .inl l2, .inl l3] [] (G, M, T) K ↔ if pm_sg 8 ≤ pm_sg l3 then pm_Run d 58 29 [.inr (.inr (.inl l0)), .inl l1, .inl l2, .inl l3] [] (G, M, T) K else pm_Run d 58 10 [.inr (.inr (.inl l0)), .inl l1, .inl l2, .inl l3] [] (G, M, T) K := by
  refine (px_go (by decide +kernel : pm_fe 58 4 = some (.iload_n 3, 1)) rfl).trans ?_
  refine (px_go (by decide +kernel : pm_fe 58 5 = some (.bipush 8, 2)) rfl).trans ?_
  refine (px_ic_ge (off := 22) (tgt := 29) (by decide +kernel)).trans ?_
  exact Iff.rfl
theorem b58_10 {d : Nat} {G : PG} {M T : PH} {K : PV → PS → Prop} {l0 l1 l2 l3 : Int} (h1 : pm_ob G l0 5) (h2 : pm_ar G (T l0.toNat 4) 100 ((l3 * 3) + l1)) : pm_Run d 58 10 [.inr (.inr (.inl l0)), .inl l1, .inl l2, .inl l3] [] (G, M, T) K ↔ pm_Run d 58 4 [.inr (.inr (.inl l0)), .inl l1, .inl (l2 + (M (T l0.toNat 4).toNat (pm_sg ((l3 * 3) + l1)).toNat)), .inl (l3 + 1)] [] (G, M, T) K := by
  refine (px_go (by decide +kernel : pm_fe 58 10 = some (.iload_n 2, 1)) rfl).trans ?_
  refine (px_go (by decide +kernel : pm_fe 58 11 = some (.aload_n 0, 1)) rfl).trans ?_
  refine (px_get2 (idx := 21) (ci := 5) (k := 4) (by decide +kernel)).trans ((and_iff_right h1).trans ?_)
  refine (px_go (by decide +kernel : pm_fe 58 15 = some (.iload_n 3, 1)) rfl).trans ?_
  refine (px_go (by decide +kernel : pm_fe 58 16 = some (.iconst 3, 1)) rfl).trans ?_
  refine (px_go (by decide +kernel : pm_fe 58 17 = some (.imul, 1)) rfl).trans ?_
  refine (px_go (by decide +kernel : pm_fe 58 18 = some (.iload_n 1, 1)) rfl).trans ?_
  refine (px_go (by decide +kernel : pm_fe 58 19 = some (.iadd, 1)) rfl).trans ?_
  refine (px_iaload (by decide +kernel) h2).trans ?_
  refine (px_go (by decide +kernel : pm_fe 58 21 = some (.iadd, 1)) rfl).trans ?_
  refine (px_go (by decide +kernel : pm_fe 58 22 = some (.istore_n 2, 1)) rfl).trans ?_
  refine (px_go (by decide +kernel : pm_fe 58 23 = some (.iinc 3 1, 3)) rfl).trans ?_
  refine (px_goto (off := (-22)) (tgt := 4) (by decide +kernel)).trans ?_
  exact Iff.rfl
theorem b58_29 {d : Nat} {G : PG} {M T : PH} {K : PV → PS → Prop} {l0 l1 l2 l3 : Int} : pm_Run d 58 29 [.inr (.inr (.inl l0)), .inl l1, .inl l2, .inl l3] [] (G, M, T) K ↔ K (.inl l2) (G, M, T) := by
  refine (px_go (by decide +kernel : pm_fe 58 29 = some (.iload_n 2, 1)) rfl).trans ?_
  refine (px_ri (by decide +kernel)).trans ?_
  exact Iff.rfl
-- X5_dueTo dueTo(I)I
theorem en59 {d : Nat} {a p0 : Int} {S : PS} {K : PV → PS → Prop} : pm_Call (d + 1) 59 [.inr (.inr (.inl a)), .inl p0] S K ↔ pm_Run d 59 0 [.inr (.inr (.inl a)), .inl p0, PU, PU] [] S K := pm_Call_s.trans (and_iff_right (show 2 ≤ pm_ml 59 from by decide +kernel))
theorem b59_0 {d : Nat} {G : PG} {M T : PH} {K : PV → PS → Prop} {l0 l1 : Int} : pm_Run d 59 0 [.inr (.inr (.inl l0)), .inl l1, PU, PU] [] (G, M, T) K ↔ pm_Run d 59 4 [.inr (.inr (.inl l0)), .inl l1, .inl 0, .inl 0] [] (G, M, T) K := by
  refine (px_go (by decide +kernel : pm_fe 59 0 = some (.iconst 0, 1)) rfl).trans ?_
  refine (px_go (by decide +kernel : pm_fe 59 1 = some (.istore_n 2, 1)) rfl).trans ?_
  refine (px_go (by decide +kernel : pm_fe 59 2 = some (.iconst 0, 1)) rfl).trans ?_
  refine (px_go (by decide +kernel : pm_fe 59 3 = some (.istore_n 3, 1)) rfl).trans ?_
  exact Iff.rfl
theorem b59_4 {d : Nat} {G : PG} {M T : PH} {K : PV → PS → Prop} {l0 l1 l2 l3 : Int} : pm_Run d 59 4 [.inr (.inr (.inl l0)), .inl l1, .inl l2, .inl l3] [] (G, M, T) K ↔ if pm_sg 8 ≤ pm_sg l3 then pm_Run d 59 29 [.inr (.inr (.inl l0)), .inl l1, .inl l2, .inl l3] [] (G, M, T) K else pm_Run d 59 10 [.inr (.inr (.inl l0)), .inl l1, .inl l2, .inl l3] [] (G, M, T) K := by
  refine (px_go (by decide +kernel : pm_fe 59 4 = some (.iload_n 3, 1)) rfl).trans ?_
  refine (px_go (by decide +kernel : pm_fe 59 5 = some (.bipush 8, 2)) rfl).trans ?_
  refine (px_ic_ge (off := 22) (tgt := 29) (by decide +kernel)).trans ?_
  exact Iff.rfl
theorem b59_10 {d : Nat} {G : PG} {M T : PH} {K : PV → PS → Prop} {l0 l1 l2 l3 : Int} (h1 : pm_ob G l0 5) (h2 : pm_ar G (T l0.toNat 5) 100 ((l3 * 3) + l1)) : pm_Run d 59 10 [.inr (.inr (.inl l0)), .inl l1, .inl l2, .inl l3] [] (G, M, T) K ↔ pm_Run d 59 4 [.inr (.inr (.inl l0)), .inl l1, .inl (l2 + (M (T l0.toNat 5).toNat (pm_sg ((l3 * 3) + l1)).toNat)), .inl (l3 + 1)] [] (G, M, T) K := by
  refine (px_go (by decide +kernel : pm_fe 59 10 = some (.iload_n 2, 1)) rfl).trans ?_
  refine (px_go (by decide +kernel : pm_fe 59 11 = some (.aload_n 0, 1)) rfl).trans ?_
  refine (px_get2 (idx := 24) (ci := 5) (k := 5) (by decide +kernel)).trans ((and_iff_right h1).trans ?_)
  refine (px_go (by decide +kernel : pm_fe 59 15 = some (.iload_n 3, 1)) rfl).trans ?_
  refine (px_go (by decide +kernel : pm_fe 59 16 = some (.iconst 3, 1)) rfl).trans ?_
  refine (px_go (by decide +kernel : pm_fe 59 17 = some (.imul, 1)) rfl).trans ?_
  refine (px_go (by decide +kernel : pm_fe 59 18 = some (.iload_n 1, 1)) rfl).trans ?_
  refine (px_go (by decide +kernel : pm_fe 59 19 = some (.iadd, 1)) rfl).trans ?_
  refine (px_iaload (by decide +kernel) h2).trans ?_
  refine (px_go (by decide +kernel : pm_fe 59 21 = some (.iadd, 1)) rfl).trans ?_
  refine (px_go (by decide +kernel : pm_fe 59 22 = some (.istore_n 2, 1)) rfl).trans ?_
  refine (px_go (by decide +kernel : pm_fe 59 23 = some (.iinc 3 1, 3)) rfl).trans ?_
  refine (px_goto (off := (-22)) (tgt := 4) (by decide +kernel)).trans ?_
  exact Iff.rfl
theorem b59_29 {d : Nat} {G : PG} {M T : PH} {K : PV → PS → Prop} {l0 l1 l2 l3 : Int} : pm_Run d 59 29 [.inr (.inr (.inl l0)), .inl l1, .inl l2, .inl l3] [] (G, M, T) K ↔ K (.inl l2) (G, M, T) := by
  refine (px_go (by decide +kernel : pm_fe 59 29 = some (.iload_n 2, 1)) rfl).trans ?_
  refine (px_ri (by decide +kernel)).trans ?_
  exact Iff.rfl
-- X5_offeredBy offeredBy(I)I
theorem en60 {d : Nat} {a p0 : Int} {S : PS} {K : PV → PS → Prop} : pm_Call (d + 1) 60 [.inr (.inr (.inl a)), .inl p0] S K ↔ pm_Run d 60 0 [.inr (.inr (.inl a)), .inl p0, PU, PU] [] S K := pm_Call_s.trans (and_iff_right (show 2 ≤ pm_ml 60 from by decide +kernel))
theorem b60_0 {d : Nat} {G : PG} {M T : PH} {K : PV → PS → Prop} {l0 l1 : Int} : pm_Run d 60 0 [.inr (.inr (.inl l0)), .inl l1, PU, PU] [] (G, M, T) K ↔ pm_Run d 60 4 [.inr (.inr (.inl l0)), .inl l1, .inl 0, .inl 0] [] (G, M, T) K := by
  refine (px_go (by decide +kernel : pm_fe 60 0 = some (.iconst 0, 1)) rfl).trans ?_
  refine (px_go (by decide +kernel : pm_fe 60 1 = some (.istore_n 2, 1)) rfl).trans ?_
  refine (px_go (by decide +kernel : pm_fe 60 2 = some (.iconst 0, 1)) rfl).trans ?_
  refine (px_go (by decide +kernel : pm_fe 60 3 = some (.istore_n 3, 1)) rfl).trans ?_
  exact Iff.rfl
theorem b60_4 {d : Nat} {G : PG} {M T : PH} {K : PV → PS → Prop} {l0 l1 l2 l3 : Int} : pm_Run d 60 4 [.inr (.inr (.inl l0)), .inl l1, .inl l2, .inl l3] [] (G, M, T) K ↔ if pm_sg 3 ≤ pm_sg l3 then pm_Run d 60 28 [.inr (.inr (.inl l0)), .inl l1, .inl l2, .inl l3] [] (G, M, T) K else pm_Run d 60 9 [.inr (.inr (.inl l0)), .inl l1, .inl l2, .inl l3] [] (G, M, T) K := by
  refine (px_go (by decide +kernel : pm_fe 60 4 = some (.iload_n 3, 1)) rfl).trans ?_
  refine (px_go (by decide +kernel : pm_fe 60 5 = some (.iconst 3, 1)) rfl).trans ?_
  refine (px_ic_ge (off := 22) (tgt := 28) (by decide +kernel)).trans ?_
  exact Iff.rfl
theorem b60_9 {d : Nat} {G : PG} {M T : PH} {K : PV → PS → Prop} {l0 l1 l2 l3 : Int} (h1 : pm_ob G l0 5) (h2 : pm_ar G (T l0.toNat 4) 100 ((l1 * 3) + l3)) : pm_Run d 60 9 [.inr (.inr (.inl l0)), .inl l1, .inl l2, .inl l3] [] (G, M, T) K ↔ pm_Run d 60 4 [.inr (.inr (.inl l0)), .inl l1, .inl (l2 + (M (T l0.toNat 4).toNat (pm_sg ((l1 * 3) + l3)).toNat)), .inl (l3 + 1)] [] (G, M, T) K := by
  refine (px_go (by decide +kernel : pm_fe 60 9 = some (.iload_n 2, 1)) rfl).trans ?_
  refine (px_go (by decide +kernel : pm_fe 60 10 = some (.aload_n 0, 1)) rfl).trans ?_
  refine (px_get2 (idx := 21) (ci := 5) (k := 4) (by decide +kernel)).trans ((and_iff_right h1).trans ?_)
  refine (px_go (by decide +kernel : pm_fe 60 14 = some (.iload_n 1, 1)) rfl).trans ?_
  refine (px_go (by decide +kernel : pm_fe 60 15 = some (.iconst 3, 1)) rfl).trans ?_
  refine (px_go (by decide +kernel : pm_fe 60 16 = some (.imul, 1)) rfl).trans ?_
  refine (px_go (by decide +kernel : pm_fe 60 17 = some (.iload_n 3, 1)) rfl).trans ?_
  refine (px_go (by decide +kernel : pm_fe 60 18 = some (.iadd, 1)) rfl).trans ?_
  refine (px_iaload (by decide +kernel) h2).trans ?_
  refine (px_go (by decide +kernel : pm_fe 60 20 = some (.iadd, 1)) rfl).trans ?_
  refine (px_go (by decide +kernel : pm_fe 60 21 = some (.istore_n 2, 1)) rfl).trans ?_
  refine (px_go (by decide +kernel : pm_fe 60 22 = some (.iinc 3 1, 3)) rfl).trans ?_
  refine (px_goto (off := (-21)) (tgt := 4) (by decide +kernel)).trans ?_
  exact Iff.rfl
theorem b60_28 {d : Nat} {G : PG} {M T : PH} {K : PV → PS → Prop} {l0 l1 l2 l3 : Int} : pm_Run d 60 28 [.inr (.inr (.inl l0)), .inl l1, .inl l2, .inl l3] [] (G, M, T) K ↔ K (.inl l2) (G, M, T) := by
  refine (px_go (by decide +kernel : pm_fe 60 28 = some (.iload_n 2, 1)) rfl).trans ?_
  refine (px_ri (by decide +kernel)).trans ?_
  exact Iff.rfl
-- X5_dueFrom dueFrom(I)I
theorem en61 {d : Nat} {a p0 : Int} {S : PS} {K : PV → PS → Prop} : pm_Call (d + 1) 61 [.inr (.inr (.inl a)), .inl p0] S K ↔ pm_Run d 61 0 [.inr (.inr (.inl a)), .inl p0, PU, PU] [] S K := pm_Call_s.trans (and_iff_right (show 2 ≤ pm_ml 61 from by decide +kernel))
theorem b61_0 {d : Nat} {G : PG} {M T : PH} {K : PV → PS → Prop} {l0 l1 : Int} : pm_Run d 61 0 [.inr (.inr (.inl l0)), .inl l1, PU, PU] [] (G, M, T) K ↔ pm_Run d 61 4 [.inr (.inr (.inl l0)), .inl l1, .inl 0, .inl 0] [] (G, M, T) K := by
  refine (px_go (by decide +kernel : pm_fe 61 0 = some (.iconst 0, 1)) rfl).trans ?_
  refine (px_go (by decide +kernel : pm_fe 61 1 = some (.istore_n 2, 1)) rfl).trans ?_
  refine (px_go (by decide +kernel : pm_fe 61 2 = some (.iconst 0, 1)) rfl).trans ?_
  refine (px_go (by decide +kernel : pm_fe 61 3 = some (.istore_n 3, 1)) rfl).trans ?_
  exact Iff.rfl
theorem b61_4 {d : Nat} {G : PG} {M T : PH} {K : PV → PS → Prop} {l0 l1 l2 l3 : Int} : pm_Run d 61 4 [.inr (.inr (.inl l0)), .inl l1, .inl l2, .inl l3] [] (G, M, T) K ↔ if pm_sg 3 ≤ pm_sg l3 then pm_Run d 61 28 [.inr (.inr (.inl l0)), .inl l1, .inl l2, .inl l3] [] (G, M, T) K else pm_Run d 61 9 [.inr (.inr (.inl l0)), .inl l1, .inl l2, .inl l3] [] (G, M, T) K := by
  refine (px_go (by decide +kernel : pm_fe 61 4 = some (.iload_n 3, 1)) rfl).trans ?_
  refine (px_go (by decide +kernel : pm_fe 61 5 = some (.iconst 3, 1)) rfl).trans ?_
  refine (px_ic_ge (off := 22) (tgt := 28) (by decide +kernel)).trans ?_
  exact Iff.rfl
theorem b61_9 {d : Nat} {G : PG} {M T : PH} {K : PV → PS → Prop} {l0 l1 l2 l3 : Int} (h1 : pm_ob G l0 5) (h2 : pm_ar G (T l0.toNat 5) 100 ((l1 * 3) + l3)) : pm_Run d 61 9 [.inr (.inr (.inl l0)), .inl l1, .inl l2, .inl l3] [] (G, M, T) K ↔ pm_Run d 61 4 [.inr (.inr (.inl l0)), .inl l1, .inl (l2 + (M (T l0.toNat 5).toNat (pm_sg ((l1 * 3) + l3)).toNat)), .inl (l3 + 1)] [] (G, M, T) K := by
  refine (px_go (by decide +kernel : pm_fe 61 9 = some (.iload_n 2, 1)) rfl).trans ?_
  refine (px_go (by decide +kernel : pm_fe 61 10 = some (.aload_n 0, 1)) rfl).trans ?_
  refine (px_get2 (idx := 24) (ci := 5) (k := 5) (by decide +kernel)).trans ((and_iff_right h1).trans ?_)
  refine (px_go (by decide +kernel : pm_fe 61 14 = some (.iload_n 1, 1)) rfl).trans ?_
  refine (px_go (by decide +kernel : pm_fe 61 15 = some (.iconst 3, 1)) rfl).trans ?_
  refine (px_go (by decide +kernel : pm_fe 61 16 = some (.imul, 1)) rfl).trans ?_
  refine (px_go (by decide +kernel : pm_fe 61 17 = some (.iload_n 3, 1)) rfl).trans ?_
  refine (px_go (by decide +kernel : pm_fe 61 18 = some (.iadd, 1)) rfl).trans ?_
  refine (px_iaload (by decide +kernel) h2).trans ?_
  refine (px_go (by decide +kernel : pm_fe 61 20 = some (.iadd, 1)) rfl).trans ?_
  refine (px_go (by decide +kernel : pm_fe 61 21 = some (.istore_n 2, 1)) rfl).trans ?_
  refine (px_go (by decide +kernel : pm_fe 61 22 = some (.iinc 3 1, 3)) rfl).trans ?_
  refine (px_goto (off := (-21)) (tgt := 4) (by decide +kernel)).trans ?_
  exact Iff.rfl
theorem b61_28 {d : Nat} {G : PG} {M T : PH} {K : PV → PS → Prop} {l0 l1 l2 l3 : Int} : pm_Run d 61 28 [.inr (.inr (.inl l0)), .inl l1, .inl l2, .inl l3] [] (G, M, T) K ↔ K (.inl l2) (G, M, T) := by
  refine (px_go (by decide +kernel : pm_fe 61 28 = some (.iload_n 2, 1)) rfl).trans ?_
  refine (px_ri (by decide +kernel)).trans ?_
  exact Iff.rfl
-- X5_offeredInAll offeredInAll()I
theorem en62 {d : Nat} {a : Int} {S : PS} {K : PV → PS → Prop} : pm_Call (d + 1) 62 [.inr (.inr (.inl a))] S K ↔ pm_Run d 62 0 [.inr (.inr (.inl a))] [] S K := pm_Call_s.trans (and_iff_right (show 1 ≤ pm_ml 62 from by decide +kernel))
theorem b62_0 {d : Nat} {G : PG} {M T : PH} {K : PV → PS → Prop} {l0 : Int} (h1 : pm_ob G l0 5) : pm_Run d 62 0 [.inr (.inr (.inl l0))] [] (G, M, T) K ↔ pm_Call d 65 [.inr (.inr (.inl (T l0.toNat 4)))] (G, M, T) (fun r S1 => pm_Run d 62 7 [.inr (.inr (.inl l0))] (pm_push r []) S1 K) := by
  refine (px_go (by decide +kernel : pm_fe 62 0 = some (.aload_n 0, 1)) rfl).trans ?_
  refine (px_get2 (idx := 21) (ci := 5) (k := 4) (by decide +kernel)).trans ((and_iff_right h1).trans ?_)
  refine (px_s1 (idx := 43) (m' := 65) (nest := 0) (by decide +kernel)).trans ((and_iff_right (by simp [pm_wl_n, pm_wl_c, pm_w] : pm_wl [] ≤ 8)).trans ?_)
  exact Iff.rfl
theorem b62_7 {d : Nat} {G : PG} {M T : PH} {K : PV → PS → Prop} {l0 s0 : Int} : pm_Run d 62 7 [.inr (.inr (.inl l0))] [.inl s0] (G, M, T) K ↔ K (.inl s0) (G, M, T) := by
  refine (px_ri (by decide +kernel)).trans ?_
  exact Iff.rfl
-- X5_coinsInPurses coinsInPurses()I
theorem en63 {d : Nat} {a : Int} {S : PS} {K : PV → PS → Prop} : pm_Call (d + 1) 63 [.inr (.inr (.inl a))] S K ↔ pm_Run d 63 0 [.inr (.inr (.inl a))] [] S K := pm_Call_s.trans (and_iff_right (show 1 ≤ pm_ml 63 from by decide +kernel))
theorem b63_0 {d : Nat} {G : PG} {M T : PH} {K : PV → PS → Prop} {l0 : Int} (h1 : pm_ob G l0 5) : pm_Run d 63 0 [.inr (.inr (.inl l0))] [] (G, M, T) K ↔ pm_Call d 65 [.inr (.inr (.inl (T l0.toNat 3)))] (G, M, T) (fun r S1 => pm_Run d 63 7 [.inr (.inr (.inl l0))] (pm_push r []) S1 K) := by
  refine (px_go (by decide +kernel : pm_fe 63 0 = some (.aload_n 0, 1)) rfl).trans ?_
  refine (px_get2 (idx := 18) (ci := 5) (k := 3) (by decide +kernel)).trans ((and_iff_right h1).trans ?_)
  refine (px_s1 (idx := 43) (m' := 65) (nest := 0) (by decide +kernel)).trans ((and_iff_right (by simp [pm_wl_n, pm_wl_c, pm_w] : pm_wl [] ≤ 8)).trans ?_)
  exact Iff.rfl
theorem b63_7 {d : Nat} {G : PG} {M T : PH} {K : PV → PS → Prop} {l0 s0 : Int} : pm_Run d 63 7 [.inr (.inr (.inl l0))] [.inl s0] (G, M, T) K ↔ K (.inl s0) (G, M, T) := by
  refine (px_ri (by decide +kernel)).trans ?_
  exact Iff.rfl
-- X5_coinsDue coinsDue()I
theorem en64 {d : Nat} {a : Int} {S : PS} {K : PV → PS → Prop} : pm_Call (d + 1) 64 [.inr (.inr (.inl a))] S K ↔ pm_Run d 64 0 [.inr (.inr (.inl a))] [] S K := pm_Call_s.trans (and_iff_right (show 1 ≤ pm_ml 64 from by decide +kernel))
theorem b64_0 {d : Nat} {G : PG} {M T : PH} {K : PV → PS → Prop} {l0 : Int} (h1 : pm_ob G l0 5) : pm_Run d 64 0 [.inr (.inr (.inl l0))] [] (G, M, T) K ↔ pm_Call d 65 [.inr (.inr (.inl (T l0.toNat 5)))] (G, M, T) (fun r S1 => pm_Run d 64 7 [.inr (.inr (.inl l0))] (pm_push r []) S1 K) := by
  refine (px_go (by decide +kernel : pm_fe 64 0 = some (.aload_n 0, 1)) rfl).trans ?_
  refine (px_get2 (idx := 24) (ci := 5) (k := 5) (by decide +kernel)).trans ((and_iff_right h1).trans ?_)
  refine (px_s1 (idx := 43) (m' := 65) (nest := 0) (by decide +kernel)).trans ((and_iff_right (by simp [pm_wl_n, pm_wl_c, pm_w] : pm_wl [] ≤ 8)).trans ?_)
  exact Iff.rfl
theorem b64_7 {d : Nat} {G : PG} {M T : PH} {K : PV → PS → Prop} {l0 s0 : Int} : pm_Run d 64 7 [.inr (.inr (.inl l0))] [.inl s0] (G, M, T) K ↔ K (.inl s0) (G, M, T) := by
  refine (px_ri (by decide +kernel)).trans ?_
  exact Iff.rfl
-- X5_sumOf sumOf([I)I
theorem en65 {d : Nat} {p0 : Int} {S : PS} {K : PV → PS → Prop} : pm_Call (d + 1) 65 [.inr (.inr (.inl p0))] S K ↔ pm_Run d 65 0 [.inr (.inr (.inl p0)), PU, PU] [] S K := pm_Call_s.trans (and_iff_right (show 1 ≤ pm_ml 65 from by decide +kernel))
theorem b65_0 {d : Nat} {G : PG} {M T : PH} {K : PV → PS → Prop} {l0 : Int} : pm_Run d 65 0 [.inr (.inr (.inl l0)), PU, PU] [] (G, M, T) K ↔ pm_Run d 65 4 [.inr (.inr (.inl l0)), .inl 0, .inl 0] [] (G, M, T) K := by
  refine (px_go (by decide +kernel : pm_fe 65 0 = some (.iconst 0, 1)) rfl).trans ?_
  refine (px_go (by decide +kernel : pm_fe 65 1 = some (.istore_n 1, 1)) rfl).trans ?_
  refine (px_go (by decide +kernel : pm_fe 65 2 = some (.iconst 0, 1)) rfl).trans ?_
  refine (px_go (by decide +kernel : pm_fe 65 3 = some (.istore_n 2, 1)) rfl).trans ?_
  exact Iff.rfl
theorem b65_4 {d : Nat} {G : PG} {M T : PH} {K : PV → PS → Prop} {l0 l1 l2 : Int} (h1 : 0 ≤ l0 ∧ l0.toNat < G.1 ∧ 100 ≤ (G.2.2.1 l0.toNat).1 ∧ (G.2.2.1 l0.toNat).1 ≤ 104) : pm_Run d 65 4 [.inr (.inr (.inl l0)), .inl l1, .inl l2] [] (G, M, T) K ↔ if pm_sg ((G.2.2.1 l0.toNat).2 : Int) ≤ pm_sg l2 then pm_Run d 65 22 [.inr (.inr (.inl l0)), .inl l1, .inl l2] [] (G, M, T) K else pm_Run d 65 10 [.inr (.inr (.inl l0)), .inl l1, .inl l2] [] (G, M, T) K := by
  refine (px_go (by decide +kernel : pm_fe 65 4 = some (.iload_n 2, 1)) rfl).trans ?_
  refine (px_go (by decide +kernel : pm_fe 65 5 = some (.aload_n 0, 1)) rfl).trans ?_
  refine (px_alen (by decide +kernel) h1).trans ?_
  refine (px_ic_ge (off := 15) (tgt := 22) (by decide +kernel)).trans ?_
  exact Iff.rfl
theorem b65_10 {d : Nat} {G : PG} {M T : PH} {K : PV → PS → Prop} {l0 l1 l2 : Int} (h1 : pm_ar G l0 100 l2) : pm_Run d 65 10 [.inr (.inr (.inl l0)), .inl l1, .inl l2] [] (G, M, T) K ↔ pm_Run d 65 4 [.inr (.inr (.inl l0)), .inl (l1 + (M l0.toNat (pm_sg l2).toNat)), .inl (l2 + 1)] [] (G, M, T) K := by
  refine (px_go (by decide +kernel : pm_fe 65 10 = some (.iload_n 1, 1)) rfl).trans ?_
  refine (px_go (by decide +kernel : pm_fe 65 11 = some (.aload_n 0, 1)) rfl).trans ?_
  refine (px_go (by decide +kernel : pm_fe 65 12 = some (.iload_n 2, 1)) rfl).trans ?_
  refine (px_iaload (by decide +kernel) h1).trans ?_
  refine (px_go (by decide +kernel : pm_fe 65 14 = some (.iadd, 1)) rfl).trans ?_
  refine (px_go (by decide +kernel : pm_fe 65 15 = some (.istore_n 1, 1)) rfl).trans ?_
  refine (px_go (by decide +kernel : pm_fe 65 16 = some (.iinc 2 1, 3)) rfl).trans ?_
  refine (px_goto (off := (-15)) (tgt := 4) (by decide +kernel)).trans ?_
  exact Iff.rfl
theorem b65_22 {d : Nat} {G : PG} {M T : PH} {K : PV → PS → Prop} {l0 l1 l2 : Int} : pm_Run d 65 22 [.inr (.inr (.inl l0)), .inl l1, .inl l2] [] (G, M, T) K ↔ K (.inl l1) (G, M, T) := by
  refine (px_go (by decide +kernel : pm_fe 65 22 = some (.iload_n 1, 1)) rfl).trans ?_
  refine (px_ri (by decide +kernel)).trans ?_
  exact Iff.rfl
