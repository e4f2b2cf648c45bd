-- X8_init <init>()V
theorem en103 {d : Nat} {a : Int} {S : PS} {K : PV → PS → Prop} : pm_Call (d + 1) 103 [.inr (.inr (.inl a))] S K ↔ pm_Run d 103 0 [.inr (.inr (.inl a))] [] S K := pm_Call_s.trans (and_iff_right (show 1 ≤ pm_ml 103 from by decide +kernel))
-- X8_paint paint(LMoonTender$Chart;LMoonTender$Moment;)V
theorem en104 {d : Nat} {a p0 p1 : Int} {S : PS} {K : PV → PS → Prop} : pm_Call (d + 1) 104 [.inr (.inr (.inl a)), .inr (.inr (.inl p0)), .inr (.inr (.inl p1))] S K ↔ pm_Run d 104 0 [.inr (.inr (.inl a)), .inr (.inr (.inl p0)), .inr (.inr (.inl p1)), PU, PU] [] S K := pm_Call_s.trans (and_iff_right (show 3 ≤ pm_ml 104 from by decide +kernel))
theorem b104_0 {d : Nat} {G : PG} {M T : PH} {K : PV → PS → Prop} {l0 l1 l2 : Int} (h1 : pm_ob G l0 8) (h2 : pm_ob G l2 5) : pm_Run d 104 0 [.inr (.inr (.inl l0)), .inr (.inr (.inl l1)), .inr (.inr (.inl l2)), PU, PU] [] (G, M, T) K ↔ pm_Call d 108 [.inr (.inr (.inl l0)), .inl ((pm_sa M l0.toNat (pm_up (M l0.toNat) 2 0)) l2.toNat 0)] (G, pm_sa M l0.toNat (pm_up (M l0.toNat) 2 0), T) (fun r S1 => pm_Run d 104 13 [.inr (.inr (.inl l0)), .inr (.inr (.inl l1)), .inr (.inr (.inl l2)), PU, PU] (pm_push r []) S1 K) := by
  refine (px_go (by decide +kernel : pm_fe 104 0 = some (.aload_n 0, 1)) rfl).trans ?_
  refine (px_go (by decide +kernel : pm_fe 104 1 = some (.iconst 0, 1)) rfl).trans ?_
  refine (px_put0 (idx := 25) (ci := 8) (k := 2) (by decide +kernel)).trans ((and_iff_right h1).trans ?_)
  refine (px_go (by decide +kernel : pm_fe 104 5 = some (.aload_n 0, 1)) rfl).trans ?_
  refine (px_go (by decide +kernel : pm_fe 104 6 = some (.aload_n 2, 1)) rfl).trans ?_
  refine (px_get0 (idx := 29) (ci := 5) (k := 0) (by decide +kernel)).trans ((and_iff_right h2).trans ?_)
  refine (px_v1 (idx := 32) (m' := 108) (ci := 8) (by decide +kernel)).trans ((and_iff_right ⟨h1, (by simp [pm_wl_n, pm_wl_c, pm_w] : pm_wl [] ≤ 8)⟩).trans ?_)
  exact Iff.rfl
theorem b104_13 {d : Nat} {G : PG} {M T : PH} {K : PV → PS → Prop} {l0 l1 l2 : Int} : pm_Run d 104 13 [.inr (.inr (.inl l0)), .inr (.inr (.inl l1)), .inr (.inr (.inl l2)), PU, PU] [] (G, M, T) K ↔ pm_Run d 104 15 [.inr (.inr (.inl l0)), .inr (.inr (.inl l1)), .inr (.inr (.inl l2)), .inl 0, PU] [] (G, M, T) K := by
  refine (px_go (by decide +kernel : pm_fe 104 13 = some (.iconst 0, 1)) rfl).trans ?_
  refine (px_go (by decide +kernel : pm_fe 104 14 = some (.istore_n 3, 1)) rfl).trans ?_
  exact Iff.rfl
theorem b104_15 {d : Nat} {G : PG} {M T : PH} {K : PV → PS → Prop} {l0 l1 l2 l3 : Int} (h1 : pm_ob G l1 1) : pm_Run d 104 15 [.inr (.inr (.inl l0)), .inr (.inr (.inl l1)), .inr (.inr (.inl l2)), .inl l3, PU] [] (G, M, T) K ↔ if pm_sg (M l1.toNat 1) ≤ pm_sg l3 then pm_Run d 104 49 [.inr (.inr (.inl l0)), .inr (.inr (.inl l1)), .inr (.inr (.inl l2)), .inl l3, PU] [] (G, M, T) K else pm_Run d 104 23 [.inr (.inr (.inl l0)), .inr (.inr (.inl l1)), .inr (.inr (.inl l2)), .inl l3, PU] [] (G, M, T) K := by
  refine (px_go (by decide +kernel : pm_fe 104 15 = some (.iload_n 3, 1)) rfl).trans ?_
  refine (px_go (by decide +kernel : pm_fe 104 16 = some (.aload_n 1, 1)) rfl).trans ?_
  refine (px_get0 (idx := 36) (ci := 1) (k := 1) (by decide +kernel)).trans ((and_iff_right h1).trans ?_)
  refine (px_ic_ge (off := 29) (tgt := 49) (by decide +kernel)).trans ?_
  exact Iff.rfl
theorem b104_23 {d : Nat} {G : PG} {M T : PH} {K : PV → PS → Prop} {l0 l1 l2 l3 : Int} (h1 : pm_ob G l2 5) (h2 : pm_ar G (T l2.toNat 1) 100 l3) (h3 : pm_ob G l0 8) : pm_Run d 104 23 [.inr (.inr (.inl l0)), .inr (.inr (.inl l1)), .inr (.inr (.inl l2)), .inl l3, PU] [] (G, M, T) K ↔ pm_Call d 107 [.inr (.inr (.inl l0)), .inl (M (T l2.toNat 1).toNat (pm_sg l3).toNat)] (G, M, T) (fun r S1 => pm_Run d 104 33 [.inr (.inr (.inl l0)), .inr (.inr (.inl l1)), .inr (.inr (.inl l2)), .inl l3, PU] (pm_push r []) S1 K) := by
  refine (px_go (by decide +kernel : pm_fe 104 23 = some (.aload_n 0, 1)) rfl).trans ?_
  refine (px_go (by decide +kernel : pm_fe 104 24 = some (.aload_n 2, 1)) rfl).trans ?_
  refine (px_get2 (idx := 41) (ci := 5) (k := 1) (by decide +kernel)).trans ((and_iff_right h1).trans ?_)
  refine (px_go (by decide +kernel : pm_fe 104 28 = some (.iload_n 3, 1)) rfl).trans ?_
  refine (px_iaload (by decide +kernel) h2).trans ?_
  refine (px_v1 (idx := 45) (m' := 107) (ci := 8) (by decide +kernel)).trans ((and_iff_right ⟨h3, (by simp [pm_wl_n, pm_wl_c, pm_w] : pm_wl [] ≤ 8)⟩).trans ?_)
  exact Iff.rfl
theorem b104_33 {d : Nat} {G : PG} {M T : PH} {K : PV → PS → Prop} {l0 l1 l2 l3 : Int} (h1 : pm_ob G l2 5) (h2 : pm_ar G (T l2.toNat 2) 100 l3) (h3 : pm_ob G l0 8) : pm_Run d 104 33 [.inr (.inr (.inl l0)), .inr (.inr (.inl l1)), .inr (.inr (.inl l2)), .inl l3, PU] [] (G, M, T) K ↔ pm_Call d 107 [.inr (.inr (.inl l0)), .inl (M (T l2.toNat 2).toNat (pm_sg l3).toNat)] (G, M, T) (fun r S1 => pm_Run d 104 43 [.inr (.inr (.inl l0)), .inr (.inr (.inl l1)), .inr (.inr (.inl l2)), .inl l3, PU] (pm_push r []) S1 K) := by
  refine (px_go (by decide +kernel : pm_fe 104 33 = some (.aload_n 0, 1)) rfl).trans ?_
  refine (px_go (by decide +kernel : pm_fe 104 34 = some (.aload_n 2, 1)) rfl).trans ?_
  refine (px_get2 (idx := 48) (ci := 5) (k := 2) (by decide +kernel)).trans ((and_iff_right h1).trans ?_)
  refine (px_go (by decide +kernel : pm_fe 104 38 = some (.iload_n 3, 1)) rfl).trans ?_
  refine (px_iaload (by decide +kernel) h2).trans ?_
  refine (px_v1 (idx := 45) (m' := 107) (ci := 8) (by decide +kernel)).trans ((and_iff_right ⟨h3, (by simp [pm_wl_n, pm_wl_c, pm_w] : pm_wl [] ≤ 8)⟩).trans ?_)
  exact Iff.rfl
theorem b104_43 {d : Nat} {G : PG} {M T : PH} {K : PV → PS → Prop} {l0 l1 l2 l3 : Int} : pm_Run d 104 43 [.inr (.inr (.inl l0)), .inr (.inr (.inl l1)), .inr (.inr (.inl l2)), .inl l3, PU] [] (G, M, T) K ↔ pm_Run d 104 15 [.inr (.inr (.inl l0)), .inr (.inr (.inl l1)), .inr (.inr (.inl l2)), .inl (l3 + 1), PU] [] (G, M, T) K := by
  refine (px_go (by decide +kernel : pm_fe 104 43 = some (.iinc 3 1, 3)) rfl).trans ?_
  refine (px_goto (off := (-31)) (tgt := 15) (by decide +kernel)).trans ?_
  exact Iff.rfl
theorem b104_49 {d : Nat} {G : PG} {M T : PH} {K : PV → PS → Prop} {l0 l1 l2 l3 : Int} : pm_Run d 104 49 [.inr (.inr (.inl l0)), .inr (.inr (.inl l1)), .inr (.inr (.inl l2)), .inl l3, PU] [] (G, M, T) K ↔ pm_Run d 104 51 [.inr (.inr (.inl l0)), .inr (.inr (.inl l1)), .inr (.inr (.inl l2)), .inl 0, PU] [] (G, M, T) K := by
  refine (px_go (by decide +kernel : pm_fe 104 49 = some (.iconst 0, 1)) rfl).trans ?_
  refine (px_go (by decide +kernel : pm_fe 104 50 = some (.istore_n 3, 1)) rfl).trans ?_
  exact Iff.rfl
theorem b104_51 {d : Nat} {G : PG} {M T : PH} {K : PV → PS → Prop} {l0 l1 l2 l3 : Int} {l4 : PV} (h1 : pm_ob G l1 1) : pm_Run d 104 51 [.inr (.inr (.inl l0)), .inr (.inr (.inl l1)), .inr (.inr (.inl l2)), .inl l3, l4] [] (G, M, T) K ↔ if pm_sg (M l1.toNat 2) ≤ pm_sg l3 then pm_Run d 104 123 [.inr (.inr (.inl l0)), .inr (.inr (.inl l1)), .inr (.inr (.inl l2)), .inl l3, l4] [] (G, M, T) K else pm_Run d 104 59 [.inr (.inr (.inl l0)), .inr (.inr (.inl l1)), .inr (.inr (.inl l2)), .inl l3, l4] [] (G, M, T) K := by
  refine (px_go (by decide +kernel : pm_fe 104 51 = some (.iload_n 3, 1)) rfl).trans ?_
  refine (px_go (by decide +kernel : pm_fe 104 52 = some (.aload_n 1, 1)) rfl).trans ?_
  refine (px_get0 (idx := 51) (ci := 1) (k := 2) (by decide +kernel)).trans ((and_iff_right h1).trans ?_)
  refine (px_ic_ge (off := 67) (tgt := 123) (by decide +kernel)).trans ?_
  exact Iff.rfl
theorem b104_59 {d : Nat} {G : PG} {M T : PH} {K : PV → PS → Prop} {l0 l1 l2 l3 : Int} {l4 : PV} (h1 : pm_ob G l2 5) (h2 : pm_ar G (T l2.toNat 3) 100 l3) (h3 : pm_ob G l0 8) : pm_Run d 104 59 [.inr (.inr (.inl l0)), .inr (.inr (.inl l1)), .inr (.inr (.inl l2)), .inl l3, l4] [] (G, M, T) K ↔ pm_Call d 108 [.inr (.inr (.inl l0)), .inl (M (T l2.toNat 3).toNat (pm_sg l3).toNat)] (G, M, T) (fun r S1 => pm_Run d 104 69 [.inr (.inr (.inl l0)), .inr (.inr (.inl l1)), .inr (.inr (.inl l2)), .inl l3, l4] (pm_push r []) S1 K) := by
  refine (px_go (by decide +kernel : pm_fe 104 59 = some (.aload_n 0, 1)) rfl).trans ?_
  refine (px_go (by decide +kernel : pm_fe 104 60 = some (.aload_n 2, 1)) rfl).trans ?_
  refine (px_get2 (idx := 54) (ci := 5) (k := 3) (by decide +kernel)).trans ((and_iff_right h1).trans ?_)
  refine (px_go (by decide +kernel : pm_fe 104 64 = some (.iload_n 3, 1)) rfl).trans ?_
  refine (px_iaload (by decide +kernel) h2).trans ?_
  refine (px_v1 (idx := 32) (m' := 108) (ci := 8) (by decide +kernel)).trans ((and_iff_right ⟨h3, (by simp [pm_wl_n, pm_wl_c, pm_w] : pm_wl [] ≤ 8)⟩).trans ?_)
  exact Iff.rfl
theorem b104_69 {d : Nat} {G : PG} {M T : PH} {K : PV → PS → Prop} {l0 l1 l2 l3 : Int} {l4 : PV} : pm_Run d 104 69 [.inr (.inr (.inl l0)), .inr (.inr (.inl l1)), .inr (.inr (.inl l2)), .inl l3, l4] [] (G, M, T) K ↔ pm_Run d 104 72 [.inr (.inr (.inl l0)), .inr (.inr (.inl l1)), .inr (.inr (.inl l2)), .inl l3, .inl 0] [] (G, M, T) K := by
  refine (px_go (by decide +kernel : pm_fe 104 69 = some (.iconst 0, 1)) rfl).trans ?_
  refine (px_go (by decide +kernel : pm_fe 104 70 = some (.istore 4, 2)) rfl).trans ?_
  exact Iff.rfl
theorem b104_72 {d : Nat} {G : PG} {M T : PH} {K : PV → PS → Prop} {l0 l1 l2 l3 l4 : Int} (h1 : pm_ob G l1 1) : pm_Run d 104 72 [.inr (.inr (.inl l0)), .inr (.inr (.inl l1)), .inr (.inr (.inl l2)), .inl l3, .inl l4] [] (G, M, T) K ↔ if pm_sg (M l1.toNat 1) ≤ pm_sg l4 then pm_Run d 104 117 [.inr (.inr (.inl l0)), .inr (.inr (.inl l1)), .inr (.inr (.inl l2)), .inl l3, .inl l4] [] (G, M, T) K else pm_Run d 104 81 [.inr (.inr (.inl l0)), .inr (.inr (.inl l1)), .inr (.inr (.inl l2)), .inl l3, .inl l4] [] (G, M, T) K := by
  refine (px_go (by decide +kernel : pm_fe 104 72 = some (.iload 4, 2)) rfl).trans ?_
  refine (px_go (by decide +kernel : pm_fe 104 74 = some (.aload_n 1, 1)) rfl).trans ?_
  refine (px_get0 (idx := 36) (ci := 1) (k := 1) (by decide +kernel)).trans ((and_iff_right h1).trans ?_)
  refine (px_ic_ge (off := 39) (tgt := 117) (by decide +kernel)).trans ?_
  exact Iff.rfl
theorem b104_81 {d : Nat} {G : PG} {M T : PH} {K : PV → PS → Prop} {l0 l1 l2 l3 l4 : Int} (h1 : pm_ob G l2 5) : pm_Run d 104 81 [.inr (.inr (.inl l0)), .inr (.inr (.inl l1)), .inr (.inr (.inl l2)), .inl l3, .inl l4] [] (G, M, T) K ↔ pm_Call d 55 [.inl l3, .inl l4] (G, M, T) (fun r S1 => pm_Run d 104 92 [.inr (.inr (.inl l0)), .inr (.inr (.inl l1)), .inr (.inr (.inl l2)), .inl l3, .inl l4] (pm_push r [.inr (.inr (.inl (T l2.toNat 4))), .inr (.inr (.inl l0))]) S1 K) := by
  refine (px_go (by decide +kernel : pm_fe 104 81 = some (.aload_n 0, 1)) rfl).trans ?_
  refine (px_go (by decide +kernel : pm_fe 104 82 = some (.aload_n 2, 1)) rfl).trans ?_
  refine (px_get2 (idx := 57) (ci := 5) (k := 4) (by decide +kernel)).trans ((and_iff_right h1).trans ?_)
  refine (px_go (by decide +kernel : pm_fe 104 86 = some (.iload_n 3, 1)) rfl).trans ?_
  refine (px_go (by decide +kernel : pm_fe 104 87 = some (.iload 4, 2)) rfl).trans ?_
  refine (px_s2 (idx := 60) (m' := 55) (nest := 0) (by decide +kernel)).trans ((and_iff_right (by simp [pm_wl_n, pm_wl_c, pm_w] : pm_wl [.inr (.inr (.inl (T l2.toNat 4))), .inr (.inr (.inl l0))] ≤ 8)).trans ?_)
  exact Iff.rfl
theorem b104_92 {d : Nat} {G : PG} {M T : PH} {K : PV → PS → Prop} {l0 l1 l2 l3 l4 s0 s1 s2 : Int} (h1 : pm_ar G s1 100 s0) (h2 : pm_ob G s2 8) : pm_Run d 104 92 [.inr (.inr (.inl l0)), .inr (.inr (.inl l1)), .inr (.inr (.inl l2)), .inl l3, .inl l4] [.inl s0, .inr (.inr (.inl s1)), .inr (.inr (.inl s2))] (G, M, T) K ↔ pm_Call d 107 [.inr (.inr (.inl s2)), .inl (M s1.toNat (pm_sg s0).toNat)] (G, M, T) (fun r S1 => pm_Run d 104 96 [.inr (.inr (.inl l0)), .inr (.inr (.inl l1)), .inr (.inr (.inl l2)), .inl l3, .inl l4] (pm_push r []) S1 K) := by
  refine (px_iaload (by decide +kernel) h1).trans ?_
  refine (px_v1 (idx := 45) (m' := 107) (ci := 8) (by decide +kernel)).trans ((and_iff_right ⟨h2, (by simp [pm_wl_n, pm_wl_c, pm_w] : pm_wl [] ≤ 8)⟩).trans ?_)
  exact Iff.rfl
theorem b104_96 {d : Nat} {G : PG} {M T : PH} {K : PV → PS → Prop} {l0 l1 l2 l3 l4 : Int} (h1 : pm_ob G l2 5) : pm_Run d 104 96 [.inr (.inr (.inl l0)), .inr (.inr (.inl l1)), .inr (.inr (.inl l2)), .inl l3, .inl l4] [] (G, M, T) K ↔ pm_Call d 55 [.inl l3, .inl l4] (G, M, T) (fun r S1 => pm_Run d 104 107 [.inr (.inr (.inl l0)), .inr (.inr (.inl l1)), .inr (.inr (.inl l2)), .inl l3, .inl l4] (pm_push r [.inr (.inr (.inl (T l2.toNat 5))), .inr (.inr (.inl l0))]) S1 K) := by
  refine (px_go (by decide +kernel : pm_fe 104 96 = some (.aload_n 0, 1)) rfl).trans ?_
  refine (px_go (by decide +kernel : pm_fe 104 97 = some (.aload_n 2, 1)) rfl).trans ?_
  refine (px_get2 (idx := 64) (ci := 5) (k := 5) (by decide +kernel)).trans ((and_iff_right h1).trans ?_)
  refine (px_go (by decide +kernel : pm_fe 104 101 = some (.iload_n 3, 1)) rfl).trans ?_
  refine (px_go (by decide +kernel : pm_fe 104 102 = some (.iload 4, 2)) rfl).trans ?_
  refine (px_s2 (idx := 60) (m' := 55) (nest := 0) (by decide +kernel)).trans ((and_iff_right (by simp [pm_wl_n, pm_wl_c, pm_w] : pm_wl [.inr (.inr (.inl (T l2.toNat 5))), .inr (.inr (.inl l0))] ≤ 8)).trans ?_)
  exact Iff.rfl
theorem b104_107 {d : Nat} {G : PG} {M T : PH} {K : PV → PS → Prop} {l0 l1 l2 l3 l4 s0 s1 s2 : Int} (h1 : pm_ar G s1 100 s0) (h2 : pm_ob G s2 8) : pm_Run d 104 107 [.inr (.inr (.inl l0)), .inr (.inr (.inl l1)), .inr (.inr (.inl l2)), .inl l3, .inl l4] [.inl s0, .inr (.inr (.inl s1)), .inr (.inr (.inl s2))] (G, M, T) K ↔ pm_Call d 108 [.inr (.inr (.inl s2)), .inl (M s1.toNat (pm_sg s0).toNat)] (G, M, T) (fun r S1 => pm_Run d 104 111 [.inr (.inr (.inl l0)), .inr (.inr (.inl l1)), .inr (.inr (.inl l2)), .inl l3, .inl l4] (pm_push r []) S1 K) := by
  refine (px_iaload (by decide +kernel) h1).trans ?_
  refine (px_v1 (idx := 32) (m' := 108) (ci := 8) (by decide +kernel)).trans ((and_iff_right ⟨h2, (by simp [pm_wl_n, pm_wl_c, pm_w] : pm_wl [] ≤ 8)⟩).trans ?_)
  exact Iff.rfl
theorem b104_111 {d : Nat} {G : PG} {M T : PH} {K : PV → PS → Prop} {l0 l1 l2 l3 l4 : Int} : pm_Run d 104 111 [.inr (.inr (.inl l0)), .inr (.inr (.inl l1)), .inr (.inr (.inl l2)), .inl l3, .inl l4] [] (G, M, T) K ↔ pm_Run d 104 72 [.inr (.inr (.inl l0)), .inr (.inr (.inl l1)), .inr (.inr (.inl l2)), .inl l3, .inl (l4 + 1)] [] (G, M, T) K := by
  refine (px_go (by decide +kernel : pm_fe 104 111 = some (.iinc 4 1, 3)) rfl).trans ?_
  refine (px_goto (off := (-42)) (tgt := 72) (by decide +kernel)).trans ?_
  exact Iff.rfl
theorem b104_117 {d : Nat} {G : PG} {M T : PH} {K : PV → PS → Prop} {l0 l1 l2 l3 l4 : Int} : pm_Run d 104 117 [.inr (.inr (.inl l0)), .inr (.inr (.inl l1)), .inr (.inr (.inl l2)), .inl l3, .inl l4] [] (G, M, T) K ↔ pm_Run d 104 51 [.inr (.inr (.inl l0)), .inr (.inr (.inl l1)), .inr (.inr (.inl l2)), .inl (l3 + 1), .inl l4] [] (G, M, T) K := by
  refine (px_go (by decide +kernel : pm_fe 104 117 = some (.iinc 3 1, 3)) rfl).trans ?_
  refine (px_goto (off := (-69)) (tgt := 51) (by decide +kernel)).trans ?_
  exact Iff.rfl
theorem b104_123 {d : Nat} {G : PG} {M T : PH} {K : PV → PS → Prop} {l0 l1 l2 l3 : Int} {l4 : PV} (h1 : pm_ob G l0 8) : pm_Run d 104 123 [.inr (.inr (.inl l0)), .inr (.inr (.inl l1)), .inr (.inr (.inl l2)), .inl l3, l4] [] (G, M, T) K ↔ pm_Call d 106 [.inr (.inr (.inl (T l0.toNat 0))), .inl (M l0.toNat 2)] (G, M, T) (fun r S1 => pm_Run d 104 135 [.inr (.inr (.inl l0)), .inr (.inr (.inl l1)), .inr (.inr (.inl l2)), .inl l3, l4] (pm_push r [.inr (.inr (.inl l0))]) S1 K) := by
  refine (px_go (by decide +kernel : pm_fe 104 123 = some (.aload_n 0, 1)) rfl).trans ?_
  refine (px_go (by decide +kernel : pm_fe 104 124 = some (.aload_n 0, 1)) rfl).trans ?_
  refine (px_get2 (idx := 11) (ci := 8) (k := 0) (by decide +kernel)).trans ((and_iff_right h1).trans ?_)
  refine (px_go (by decide +kernel : pm_fe 104 128 = some (.aload_n 0, 1)) rfl).trans ?_
  refine (px_get0 (idx := 25) (ci := 8) (k := 2) (by decide +kernel)).trans ((and_iff_right h1).trans ?_)
  refine (px_s2 (idx := 67) (m' := 106) (nest := 0) (by decide +kernel)).trans ((and_iff_right (by simp [pm_wl_n, pm_wl_c, pm_w] : pm_wl [.inr (.inr (.inl l0))] ≤ 8)).trans ?_)
  exact Iff.rfl
theorem b104_135 {d : Nat} {G : PG} {M T : PH} {K : PV → PS → Prop} {l0 l1 l2 l3 s0 s1 : Int} {l4 : PV} (h1 : pm_ob G s1 8) : pm_Run d 104 135 [.inr (.inr (.inl l0)), .inr (.inr (.inl l1)), .inr (.inr (.inl l2)), .inl l3, l4] [.inl s0, .inr (.inr (.inl s1))] (G, M, T) K ↔ pm_Call d 107 [.inr (.inr (.inl s1)), .inl s0] (G, M, T) (fun r S1 => pm_Run d 104 138 [.inr (.inr (.inl l0)), .inr (.inr (.inl l1)), .inr (.inr (.inl l2)), .inl l3, l4] (pm_push r []) S1 K) := by
  refine (px_v1 (idx := 45) (m' := 107) (ci := 8) (by decide +kernel)).trans ((and_iff_right ⟨h1, (by simp [pm_wl_n, pm_wl_c, pm_w] : pm_wl [] ≤ 8)⟩).trans ?_)
  exact Iff.rfl
theorem b104_138 {d : Nat} {G : PG} {M T : PH} {K : PV → PS → Prop} {l0 l1 l2 l3 : Int} {l4 : PV} : pm_Run d 104 138 [.inr (.inr (.inl l0)), .inr (.inr (.inl l1)), .inr (.inr (.inl l2)), .inl l3, l4] [] (G, M, T) K ↔ K PU (G, M, T) := by
  refine (px_rv (by decide +kernel)).trans ?_
  exact Iff.rfl
-- X8_shows shows(LMoonTender$Chart;[BI)Z
theorem en105 {d : Nat} {a p0 p1 p2 : Int} {S : PS} {K : PV → PS → Prop} : pm_Call (d + 1) 105 [.inr (.inr (.inl a)), .inr (.inr (.inl p0)), .inr (.inr (.inl p1)), .inl p2] S K ↔ pm_Run d 105 0 [.inr (.inr (.inl a)), .inr (.inr (.inl p0)), .inr (.inr (.inl p1)), .inl p2, PU, PU, PU] [] S K := pm_Call_s.trans (and_iff_right (show 4 ≤ pm_ml 105 from by decide +kernel))
theorem b105_0 {d : Nat} {G : PG} {M T : PH} {K : PV → PS → Prop} {l0 l1 l2 l3 : Int} (h1 : pm_ob G l1 1) : pm_Run d 105 0 [.inr (.inr (.inl l0)), .inr (.inr (.inl l1)), .inr (.inr (.inl l2)), .inl l3, PU, PU, PU] [] (G, M, T) K ↔ if pm_sg l3 ≠ pm_sg ((3 + (2 * (M l1.toNat 1))) + ((M l1.toNat 2) * (2 + (3 * (M l1.toNat 1))))) then pm_Run d 105 55 [.inr (.inr (.inl l0)), .inr (.inr (.inl l1)), .inr (.inr (.inl l2)), .inl l3, .inl ((3 + (2 * (M l1.toNat 1))) + ((M l1.toNat 2) * (2 + (3 * (M l1.toNat 1))))), PU, PU] [] (G, M, T) K else pm_Run d 105 30 [.inr (.inr (.inl l0)), .inr (.inr (.inl l1)), .inr (.inr (.inl l2)), .inl l3, .inl ((3 + (2 * (M l1.toNat 1))) + ((M l1.toNat 2) * (2 + (3 * (M l1.toNat 1))))), PU, PU] [] (G, M, T) K := by
  refine (px_go (by decide +kernel : pm_fe 105 0 = some (.iconst 3, 1)) rfl).trans ?_
  refine (px_go (by decide +kernel : pm_fe 105 1 = some (.iconst 2, 1)) rfl).trans ?_
  refine (px_go (by decide +kernel : pm_fe 105 2 = some (.aload_n 1, 1)) rfl).trans ?_
  refine (px_get0 (idx := 36) (ci := 1) (k := 1) (by decide +kernel)).trans ((and_iff_right h1).trans ?_)
  refine (px_go (by decide +kernel : pm_fe 105 6 = some (.imul, 1)) rfl).trans ?_
  refine (px_go (by decide +kernel : pm_fe 105 7 = some (.iadd, 1)) rfl).trans ?_
  refine (px_go (by decide +kernel : pm_fe 105 8 = some (.aload_n 1, 1)) rfl).trans ?_
  refine (px_get0 (idx := 51) (ci := 1) (k := 2) (by decide +kernel)).trans ((and_iff_right h1).trans ?_)
  refine (px_go (by decide +kernel : pm_fe 105 12 = some (.iconst 2, 1)) rfl).trans ?_
  refine (px_go (by decide +kernel : pm_fe 105 13 = some (.iconst 3, 1)) rfl).trans ?_
  refine (px_go (by decide +kernel : pm_fe 105 14 = some (.aload_n 1, 1)) rfl).trans ?_
  refine (px_get0 (idx := 36) (ci := 1) (k := 1) (by decide +kernel)).trans ((and_iff_right h1).trans ?_)
  refine (px_go (by decide +kernel : pm_fe 105 18 = some (.imul, 1)) rfl).trans ?_
  refine (px_go (by decide +kernel : pm_fe 105 19 = some (.iadd, 1)) rfl).trans ?_
  refine (px_go (by decide +kernel : pm_fe 105 20 = some (.imul, 1)) rfl).trans ?_
  refine (px_go (by decide +kernel : pm_fe 105 21 = some (.iadd, 1)) rfl).trans ?_
  refine (px_go (by decide +kernel : pm_fe 105 22 = some (.istore 4, 2)) rfl).trans ?_
  refine (px_go (by decide +kernel : pm_fe 105 24 = some (.iload_n 3, 1)) rfl).trans ?_
  refine (px_go (by decide +kernel : pm_fe 105 25 = some (.iload 4, 2)) rfl).trans ?_
  refine (px_ic_ne (off := 28) (tgt := 55) (by decide +kernel)).trans ?_
  exact Iff.rfl
theorem b105_30 {d : Nat} {G : PG} {M T : PH} {K : PV → PS → Prop} {l0 l1 l2 l3 l4 : Int} (h1 : 0 ≤ l2 ∧ l2.toNat < G.1 ∧ 100 ≤ (G.2.2.1 l2.toNat).1 ∧ (G.2.2.1 l2.toNat).1 ≤ 104) : pm_Run d 105 30 [.inr (.inr (.inl l0)), .inr (.inr (.inl l1)), .inr (.inr (.inl l2)), .inl l3, .inl l4, PU, PU] [] (G, M, T) K ↔ if pm_sg ((G.2.2.1 l2.toNat).2 : Int) < pm_sg l3 then pm_Run d 105 55 [.inr (.inr (.inl l0)), .inr (.inr (.inl l1)), .inr (.inr (.inl l2)), .inl l3, .inl l4, PU, PU] [] (G, M, T) K else pm_Run d 105 36 [.inr (.inr (.inl l0)), .inr (.inr (.inl l1)), .inr (.inr (.inl l2)), .inl l3, .inl l4, PU, PU] [] (G, M, T) K := by
  refine (px_go (by decide +kernel : pm_fe 105 30 = some (.iload_n 3, 1)) rfl).trans ?_
  refine (px_go (by decide +kernel : pm_fe 105 31 = some (.aload_n 2, 1)) rfl).trans ?_
  refine (px_alen (by decide +kernel) h1).trans ?_
  refine (px_ic_gt (off := 22) (tgt := 55) (by decide +kernel)).trans ?_
  exact Iff.rfl
theorem b105_36 {d : Nat} {G : PG} {M T : PH} {K : PV → PS → Prop} {l0 l1 l2 l3 l4 : Int} (h1 : pm_ar G l2 101 (l3 - 1) ∨ pm_ar G l2 102 (l3 - 1)) : pm_Run d 105 36 [.inr (.inr (.inl l0)), .inr (.inr (.inl l1)), .inr (.inr (.inl l2)), .inl l3, .inl l4, PU, PU] [] (G, M, T) K ↔ pm_Call d 106 [.inr (.inr (.inl l2)), .inl (l3 - 1)] (G, M, T) (fun r S1 => pm_Run d 105 52 [.inr (.inr (.inl l0)), .inr (.inr (.inl l1)), .inr (.inr (.inl l2)), .inl l3, .inl l4, PU, PU] (pm_push r [.inl (pm_and (M l2.toNat (pm_sg (l3 - 1)).toNat) 255)]) S1 K) := by
  refine (px_go (by decide +kernel : pm_fe 105 36 = some (.aload_n 2, 1)) rfl).trans ?_
  refine (px_go (by decide +kernel : pm_fe 105 37 = some (.iload_n 3, 1)) rfl).trans ?_
  refine (px_go (by decide +kernel : pm_fe 105 38 = some (.iconst 1, 1)) rfl).trans ?_
  refine (px_go (by decide +kernel : pm_fe 105 39 = some (.isub, 1)) rfl).trans ?_
  refine (px_baload (by decide +kernel)).trans ((and_iff_right h1).trans ?_)
  refine (px_go (by decide +kernel : pm_fe 105 41 = some (.sipush 255, 3)) rfl).trans ?_
  refine (px_go (by decide +kernel : pm_fe 105 44 = some (.iand, 1)) rfl).trans ?_
  refine (px_go (by decide +kernel : pm_fe 105 45 = some (.aload_n 2, 1)) rfl).trans ?_
  refine (px_go (by decide +kernel : pm_fe 105 46 = some (.iload_n 3, 1)) rfl).trans ?_
  refine (px_go (by decide +kernel : pm_fe 105 47 = some (.iconst 1, 1)) rfl).trans ?_
  refine (px_go (by decide +kernel : pm_fe 105 48 = some (.isub, 1)) rfl).trans ?_
  refine (px_s2 (idx := 67) (m' := 106) (nest := 0) (by decide +kernel)).trans ((and_iff_right (by simp [pm_wl_n, pm_wl_c, pm_w] : pm_wl [.inl (pm_and (M l2.toNat (pm_sg (l3 - 1)).toNat) 255)] ≤ 8)).trans ?_)
  exact Iff.rfl
theorem b105_52 {d : Nat} {G : PG} {M T : PH} {K : PV → PS → Prop} {l0 l1 l2 l3 l4 s0 s1 : Int} : pm_Run d 105 52 [.inr (.inr (.inl l0)), .inr (.inr (.inl l1)), .inr (.inr (.inl l2)), .inl l3, .inl l4, PU, PU] [.inl s0, .inl s1] (G, M, T) K ↔ if pm_sg s1 = pm_sg s0 then pm_Run d 105 57 [.inr (.inr (.inl l0)), .inr (.inr (.inl l1)), .inr (.inr (.inl l2)), .inl l3, .inl l4, PU, PU] [] (G, M, T) K else pm_Run d 105 55 [.inr (.inr (.inl l0)), .inr (.inr (.inl l1)), .inr (.inr (.inl l2)), .inl l3, .inl l4, PU, PU] [] (G, M, T) K := by
  refine (px_ic_eq (off := 5) (tgt := 57) (by decide +kernel)).trans ?_
  exact Iff.rfl
theorem b105_55 {d : Nat} {G : PG} {M T : PH} {K : PV → PS → Prop} {l0 l1 l2 l3 l4 : Int} : pm_Run d 105 55 [.inr (.inr (.inl l0)), .inr (.inr (.inl l1)), .inr (.inr (.inl l2)), .inl l3, .inl l4, PU, PU] [] (G, M, T) K ↔ K (.inl 0) (G, M, T) := by
  refine (px_go (by decide +kernel : pm_fe 105 55 = some (.iconst 0, 1)) rfl).trans ?_
  refine (px_rz (by decide +kernel)).trans ((and_iff_right (by decide : (0 : Int) = (0 : Int) ∨ (0 : Int) = (1 : Int))).trans ?_)
  exact Iff.rfl
theorem b105_57 {d : Nat} {G : PG} {M T : PH} {K : PV → PS → Prop} {l0 l1 l2 l3 l4 : Int} (h1 : pm_ob G l0 8) (h2 : 0 ≤ l2) (h3 : pm_ob G ((pm_sa T l0.toNat (pm_up (T l0.toNat) 3 l2)) l0.toNat 1) 5) : pm_Run d 105 57 [.inr (.inr (.inl l0)), .inr (.inr (.inl l1)), .inr (.inr (.inl l2)), .inl l3, .inl l4, PU, PU] [] (G, M, T) K ↔ pm_Call d 57 [.inr (.inr (.inl ((pm_sa T l0.toNat (pm_up (T l0.toNat) 3 l2)) l0.toNat 1)))] (G, pm_sa (pm_sa M l0.toNat (pm_up (M l0.toNat) 4 0)) l0.toNat (pm_up ((pm_sa M l0.toNat (pm_up (M l0.toNat) 4 0)) l0.toNat) 5 1), pm_sa T l0.toNat (pm_up (T l0.toNat) 3 l2)) (fun r S1 => pm_Run d 105 79 [.inr (.inr (.inl l0)), .inr (.inr (.inl l1)), .inr (.inr (.inl l2)), .inl l3, .inl l4, PU, PU] (pm_push r []) S1 K) := by
  refine (px_go (by decide +kernel : pm_fe 105 57 = some (.aload_n 0, 1)) rfl).trans ?_
  refine (px_go (by decide +kernel : pm_fe 105 58 = some (.aload_n 2, 1)) rfl).trans ?_
  refine (px_put2 (idx := 22) (ci := 8) (k := 3) (by decide +kernel)).trans ((and_iff_right ⟨h1, h2⟩).trans ?_)
  refine (px_go (by decide +kernel : pm_fe 105 62 = some (.aload_n 0, 1)) rfl).trans ?_
  refine (px_go (by decide +kernel : pm_fe 105 63 = some (.iconst 0, 1)) rfl).trans ?_
  refine (px_put0 (idx := 71) (ci := 8) (k := 4) (by decide +kernel)).trans ((and_iff_right h1).trans ?_)
  refine (px_go (by decide +kernel : pm_fe 105 67 = some (.aload_n 0, 1)) rfl).trans ?_
  refine (px_go (by decide +kernel : pm_fe 105 68 = some (.iconst 1, 1)) rfl).trans ?_
  refine (px_put3 (idx := 74) (ci := 8) (k := 5) (by decide +kernel)).trans ((and_iff_right ⟨h1, (by decide : (1 : Int) = (0 : Int) ∨ (1 : Int) = (1 : Int))⟩).trans ?_)
  refine (px_go (by decide +kernel : pm_fe 105 72 = some (.aload_n 0, 1)) rfl).trans ?_
  refine (px_get2 (idx := 18) (ci := 8) (k := 1) (by decide +kernel)).trans ((and_iff_right h1).trans ?_)
  refine (px_v0 (idx := 78) (m' := 57) (ci := 5) (by decide +kernel)).trans ((and_iff_right ⟨h3, (by simp [pm_wl_n, pm_wl_c, pm_w] : pm_wl [] ≤ 8)⟩).trans ?_)
  exact Iff.rfl
theorem b105_79 {d : Nat} {G : PG} {M T : PH} {K : PV → PS → Prop} {l0 l1 l2 l3 l4 : Int} (h1 : pm_ob G l0 8) : pm_Run d 105 79 [.inr (.inr (.inl l0)), .inr (.inr (.inl l1)), .inr (.inr (.inl l2)), .inl l3, .inl l4, PU, PU] [] (G, M, T) K ↔ pm_Call d 111 [.inr (.inr (.inl l0)), .inl 9999] (G, M, T) (fun r S1 => pm_Run d 105 90 [.inr (.inr (.inl l0)), .inr (.inr (.inl l1)), .inr (.inr (.inl l2)), .inl l3, .inl l4, PU, PU] (pm_push r [.inr (.inr (.inl (T l0.toNat 1)))]) S1 K) := by
  refine (px_go (by decide +kernel : pm_fe 105 79 = some (.aload_n 0, 1)) rfl).trans ?_
  refine (px_get2 (idx := 18) (ci := 8) (k := 1) (by decide +kernel)).trans ((and_iff_right h1).trans ?_)
  refine (px_go (by decide +kernel : pm_fe 105 83 = some (.aload_n 0, 1)) rfl).trans ?_
  refine (px_go (by decide +kernel : pm_fe 105 84 = some (.sipush 9999, 3)) rfl).trans ?_
  refine (px_v1 (idx := 81) (m' := 111) (ci := 8) (by decide +kernel)).trans ((and_iff_right ⟨h1, (by simp [pm_wl_n, pm_wl_c, pm_w] : pm_wl [.inr (.inr (.inl (T l0.toNat 1)))] ≤ 8)⟩).trans ?_)
  exact Iff.rfl
theorem b105_90 {d : Nat} {G : PG} {M T : PH} {K : PV → PS → Prop} {l0 l1 l2 l3 l4 s0 s1 : Int} (h1 : pm_ob G s1 5) : pm_Run d 105 90 [.inr (.inr (.inl l0)), .inr (.inr (.inl l1)), .inr (.inr (.inl l2)), .inl l3, .inl l4, PU, PU] [.inl s0, .inr (.inr (.inl s1))] (G, M, T) K ↔ pm_Run d 105 96 [.inr (.inr (.inl l0)), .inr (.inr (.inl l1)), .inr (.inr (.inl l2)), .inl l3, .inl l4, .inl 0, PU] [] (G, pm_sa M s1.toNat (pm_up (M s1.toNat) 0 s0), T) K := by
  refine (px_put0 (idx := 29) (ci := 5) (k := 0) (by decide +kernel)).trans ((and_iff_right h1).trans ?_)
  refine (px_go (by decide +kernel : pm_fe 105 93 = some (.iconst 0, 1)) rfl).trans ?_
  refine (px_go (by decide +kernel : pm_fe 105 94 = some (.istore 5, 2)) rfl).trans ?_
  exact Iff.rfl
theorem b105_96 {d : Nat} {G : PG} {M T : PH} {K : PV → PS → Prop} {l0 l1 l2 l3 l4 l5 : Int} (h1 : pm_ob G l1 1) : pm_Run d 105 96 [.inr (.inr (.inl l0)), .inr (.inr (.inl l1)), .inr (.inr (.inl l2)), .inl l3, .inl l4, .inl l5, PU] [] (G, M, T) K ↔ if pm_sg (M l1.toNat 1) ≤ pm_sg l5 then pm_Run d 105 147 [.inr (.inr (.inl l0)), .inr (.inr (.inl l1)), .inr (.inr (.inl l2)), .inl l3, .inl l4, .inl l5, PU] [] (G, M, T) K else pm_Run d 105 105 [.inr (.inr (.inl l0)), .inr (.inr (.inl l1)), .inr (.inr (.inl l2)), .inl l3, .inl l4, .inl l5, PU] [] (G, M, T) K := by
  refine (px_go (by decide +kernel : pm_fe 105 96 = some (.iload 5, 2)) rfl).trans ?_
  refine (px_go (by decide +kernel : pm_fe 105 98 = some (.aload_n 1, 1)) rfl).trans ?_
  refine (px_get0 (idx := 36) (ci := 1) (k := 1) (by decide +kernel)).trans ((and_iff_right h1).trans ?_)
  refine (px_ic_ge (off := 45) (tgt := 147) (by decide +kernel)).trans ?_
  exact Iff.rfl
theorem b105_105 {d : Nat} {G : PG} {M T : PH} {K : PV → PS → Prop} {l0 l1 l2 l3 l4 l5 : Int} (h1 : pm_ob G l0 8) (h2 : pm_ob G (T l0.toNat 1) 5) (h3 : pm_ob G l1 1) : pm_Run d 105 105 [.inr (.inr (.inl l0)), .inr (.inr (.inl l1)), .inr (.inr (.inl l2)), .inl l3, .inl l4, .inl l5, PU] [] (G, M, T) K ↔ pm_Call d 110 [.inr (.inr (.inl l0)), .inl ((M l1.toNat 0) - 1)] (G, M, T) (fun r S1 => pm_Run d 105 124 [.inr (.inr (.inl l0)), .inr (.inr (.inl l1)), .inr (.inr (.inl l2)), .inl l3, .inl l4, .inl l5, PU] (pm_push r [.inl l5, .inr (.inr (.inl (T (T l0.toNat 1).toNat 1)))]) S1 K) := by
  refine (px_go (by decide +kernel : pm_fe 105 105 = some (.aload_n 0, 1)) rfl).trans ?_
  refine (px_get2 (idx := 18) (ci := 8) (k := 1) (by decide +kernel)).trans ((and_iff_right h1).trans ?_)
  refine (px_get2 (idx := 41) (ci := 5) (k := 1) (by decide +kernel)).trans ((and_iff_right h2).trans ?_)
  refine (px_go (by decide +kernel : pm_fe 105 112 = some (.iload 5, 2)) rfl).trans ?_
  refine (px_go (by decide +kernel : pm_fe 105 114 = some (.aload_n 0, 1)) rfl).trans ?_
  refine (px_go (by decide +kernel : pm_fe 105 115 = some (.aload_n 1, 1)) rfl).trans ?_
  refine (px_get0 (idx := 85) (ci := 1) (k := 0) (by decide +kernel)).trans ((and_iff_right h3).trans ?_)
  refine (px_go (by decide +kernel : pm_fe 105 119 = some (.iconst 1, 1)) rfl).trans ?_
  refine (px_go (by decide +kernel : pm_fe 105 120 = some (.isub, 1)) rfl).trans ?_
  refine (px_v1 (idx := 88) (m' := 110) (ci := 8) (by decide +kernel)).trans ((and_iff_right ⟨h1, (by simp [pm_wl_n, pm_wl_c, pm_w] : pm_wl [.inl l5, .inr (.inr (.inl (T (T l0.toNat 1).toNat 1)))] ≤ 8)⟩).trans ?_)
  exact Iff.rfl
theorem b105_124 {d : Nat} {G : PG} {M T : PH} {K : PV → PS → Prop} {l0 l1 l2 l3 l4 l5 s0 s1 s2 : Int} (h1 : pm_ar G s2 100 s1) (h2 : pm_ob G l0 8) (h3 : pm_ob G (T l0.toNat 1) 5) : pm_Run d 105 124 [.inr (.inr (.inl l0)), .inr (.inr (.inl l1)), .inr (.inr (.inl l2)), .inl l3, .inl l4, .inl l5, PU] [.inl s0, .inl s1, .inr (.inr (.inl s2))] (G, M, T) K ↔ pm_Call d 110 [.inr (.inr (.inl l0)), .inl 9] (G, pm_sa M s2.toNat (pm_up (M s2.toNat) (pm_sg s1).toNat s0), T) (fun r S1 => pm_Run d 105 140 [.inr (.inr (.inl l0)), .inr (.inr (.inl l1)), .inr (.inr (.inl l2)), .inl l3, .inl l4, .inl l5, PU] (pm_push r [.inl l5, .inr (.inr (.inl (T (T l0.toNat 1).toNat 2)))]) S1 K) := by
  refine (px_iastore (by decide +kernel)).trans ((and_iff_right h1).trans ?_)
  refine (px_go (by decide +kernel : pm_fe 105 125 = some (.aload_n 0, 1)) rfl).trans ?_
  refine (px_get2 (idx := 18) (ci := 8) (k := 1) (by decide +kernel)).trans ((and_iff_right h2).trans ?_)
  refine (px_get2 (idx := 48) (ci := 5) (k := 2) (by decide +kernel)).trans ((and_iff_right h3).trans ?_)
  refine (px_go (by decide +kernel : pm_fe 105 132 = some (.iload 5, 2)) rfl).trans ?_
  refine (px_go (by decide +kernel : pm_fe 105 134 = some (.aload_n 0, 1)) rfl).trans ?_
  refine (px_go (by decide +kernel : pm_fe 105 135 = some (.bipush 9, 2)) rfl).trans ?_
  refine (px_v1 (idx := 88) (m' := 110) (ci := 8) (by decide +kernel)).trans ((and_iff_right ⟨h2, (by simp [pm_wl_n, pm_wl_c, pm_w] : pm_wl [.inl l5, .inr (.inr (.inl (T (T l0.toNat 1).toNat 2)))] ≤ 8)⟩).trans ?_)
  exact Iff.rfl
theorem b105_140 {d : Nat} {G : PG} {M T : PH} {K : PV → PS → Prop} {l0 l1 l2 l3 l4 l5 s0 s1 s2 : Int} (h1 : pm_ar G s2 100 s1) : pm_Run d 105 140 [.inr (.inr (.inl l0)), .inr (.inr (.inl l1)), .inr (.inr (.inl l2)), .inl l3, .inl l4, .inl l5, PU] [.inl s0, .inl s1, .inr (.inr (.inl s2))] (G, M, T) K ↔ pm_Run d 105 96 [.inr (.inr (.inl l0)), .inr (.inr (.inl l1)), .inr (.inr (.inl l2)), .inl l3, .inl l4, .inl (l5 + 1), PU] [] (G, pm_sa M s2.toNat (pm_up (M s2.toNat) (pm_sg s1).toNat s0), T) K := by
  refine (px_iastore (by decide +kernel)).trans ((and_iff_right h1).trans ?_)
  refine (px_go (by decide +kernel : pm_fe 105 141 = some (.iinc 5 1, 3)) rfl).trans ?_
  refine (px_goto (off := (-48)) (tgt := 96) (by decide +kernel)).trans ?_
  exact Iff.rfl
theorem b105_147 {d : Nat} {G : PG} {M T : PH} {K : PV → PS → Prop} {l0 l1 l2 l3 l4 l5 : Int} : pm_Run d 105 147 [.inr (.inr (.inl l0)), .inr (.inr (.inl l1)), .inr (.inr (.inl l2)), .inl l3, .inl l4, .inl l5, PU] [] (G, M, T) K ↔ pm_Run d 105 150 [.inr (.inr (.inl l0)), .inr (.inr (.inl l1)), .inr (.inr (.inl l2)), .inl l3, .inl l4, .inl 0, PU] [] (G, M, T) K := by
  refine (px_go (by decide +kernel : pm_fe 105 147 = some (.iconst 0, 1)) rfl).trans ?_
  refine (px_go (by decide +kernel : pm_fe 105 148 = some (.istore 5, 2)) rfl).trans ?_
  exact Iff.rfl
theorem b105_150 {d : Nat} {G : PG} {M T : PH} {K : PV → PS → Prop} {l0 l1 l2 l3 l4 l5 : Int} {l6 : PV} (h1 : pm_ob G l1 1) : pm_Run d 105 150 [.inr (.inr (.inl l0)), .inr (.inr (.inl l1)), .inr (.inr (.inl l2)), .inl l3, .inl l4, .inl l5, l6] [] (G, M, T) K ↔ if pm_sg (M l1.toNat 2) ≤ pm_sg l5 then pm_Run d 105 243 [.inr (.inr (.inl l0)), .inr (.inr (.inl l1)), .inr (.inr (.inl l2)), .inl l3, .inl l4, .inl l5, l6] [] (G, M, T) K else pm_Run d 105 159 [.inr (.inr (.inl l0)), .inr (.inr (.inl l1)), .inr (.inr (.inl l2)), .inl l3, .inl l4, .inl l5, l6] [] (G, M, T) K := by
  refine (px_go (by decide +kernel : pm_fe 105 150 = some (.iload 5, 2)) rfl).trans ?_
  refine (px_go (by decide +kernel : pm_fe 105 152 = some (.aload_n 1, 1)) rfl).trans ?_
  refine (px_get0 (idx := 51) (ci := 1) (k := 2) (by decide +kernel)).trans ((and_iff_right h1).trans ?_)
  refine (px_ic_ge (off := 87) (tgt := 243) (by decide +kernel)).trans ?_
  exact Iff.rfl
theorem b105_159 {d : Nat} {G : PG} {M T : PH} {K : PV → PS → Prop} {l0 l1 l2 l3 l4 l5 : Int} {l6 : PV} (h1 : pm_ob G l0 8) (h2 : pm_ob G (T l0.toNat 1) 5) : pm_Run d 105 159 [.inr (.inr (.inl l0)), .inr (.inr (.inl l1)), .inr (.inr (.inl l2)), .inl l3, .inl l4, .inl l5, l6] [] (G, M, T) K ↔ pm_Call d 111 [.inr (.inr (.inl l0)), .inl 9999] (G, M, T) (fun r S1 => pm_Run d 105 175 [.inr (.inr (.inl l0)), .inr (.inr (.inl l1)), .inr (.inr (.inl l2)), .inl l3, .inl l4, .inl l5, l6] (pm_push r [.inl l5, .inr (.inr (.inl (T (T l0.toNat 1).toNat 3)))]) S1 K) := by
  refine (px_go (by decide +kernel : pm_fe 105 159 = some (.aload_n 0, 1)) rfl).trans ?_
  refine (px_get2 (idx := 18) (ci := 8) (k := 1) (by decide +kernel)).trans ((and_iff_right h1).trans ?_)
  refine (px_get2 (idx := 54) (ci := 5) (k := 3) (by decide +kernel)).trans ((and_iff_right h2).trans ?_)
  refine (px_go (by decide +kernel : pm_fe 105 166 = some (.iload 5, 2)) rfl).trans ?_
  refine (px_go (by decide +kernel : pm_fe 105 168 = some (.aload_n 0, 1)) rfl).trans ?_
  refine (px_go (by decide +kernel : pm_fe 105 169 = some (.sipush 9999, 3)) rfl).trans ?_
  refine (px_v1 (idx := 81) (m' := 111) (ci := 8) (by decide +kernel)).trans ((and_iff_right ⟨h1, (by simp [pm_wl_n, pm_wl_c, pm_w] : pm_wl [.inl l5, .inr (.inr (.inl (T (T l0.toNat 1).toNat 3)))] ≤ 8)⟩).trans ?_)
  exact Iff.rfl
theorem b105_175 {d : Nat} {G : PG} {M T : PH} {K : PV → PS → Prop} {l0 l1 l2 l3 l4 l5 s0 s1 s2 : Int} {l6 : PV} (h1 : pm_ar G s2 100 s1) : pm_Run d 105 175 [.inr (.inr (.inl l0)), .inr (.inr (.inl l1)), .inr (.inr (.inl l2)), .inl l3, .inl l4, .inl l5, l6] [.inl s0, .inl s1, .inr (.inr (.inl s2))] (G, M, T) K ↔ pm_Run d 105 179 [.inr (.inr (.inl l0)), .inr (.inr (.inl l1)), .inr (.inr (.inl l2)), .inl l3, .inl l4, .inl l5, .inl 0] [] (G, pm_sa M s2.toNat (pm_up (M s2.toNat) (pm_sg s1).toNat s0), T) K := by
  refine (px_iastore (by decide +kernel)).trans ((and_iff_right h1).trans ?_)
  refine (px_go (by decide +kernel : pm_fe 105 176 = some (.iconst 0, 1)) rfl).trans ?_
  refine (px_go (by decide +kernel : pm_fe 105 177 = some (.istore 6, 2)) rfl).trans ?_
  exact Iff.rfl
theorem b105_179 {d : Nat} {G : PG} {M T : PH} {K : PV → PS → Prop} {l0 l1 l2 l3 l4 l5 l6 : Int} (h1 : pm_ob G l1 1) : pm_Run d 105 179 [.inr (.inr (.inl l0)), .inr (.inr (.inl l1)), .inr (.inr (.inl l2)), .inl l3, .inl l4, .inl l5, .inl l6] [] (G, M, T) K ↔ if pm_sg (M l1.toNat 1) ≤ pm_sg l6 then pm_Run d 105 237 [.inr (.inr (.inl l0)), .inr (.inr (.inl l1)), .inr (.inr (.inl l2)), .inl l3, .inl l4, .inl l5, .inl l6] [] (G, M, T) K else pm_Run d 105 188 [.inr (.inr (.inl l0)), .inr (.inr (.inl l1)), .inr (.inr (.inl l2)), .inl l3, .inl l4, .inl l5, .inl l6] [] (G, M, T) K := by
  refine (px_go (by decide +kernel : pm_fe 105 179 = some (.iload 6, 2)) rfl).trans ?_
  refine (px_go (by decide +kernel : pm_fe 105 181 = some (.aload_n 1, 1)) rfl).trans ?_
  refine (px_get0 (idx := 36) (ci := 1) (k := 1) (by decide +kernel)).trans ((and_iff_right h1).trans ?_)
  refine (px_ic_ge (off := 52) (tgt := 237) (by decide +kernel)).trans ?_
  exact Iff.rfl
theorem b105_188 {d : Nat} {G : PG} {M T : PH} {K : PV → PS → Prop} {l0 l1 l2 l3 l4 l5 l6 : Int} (h1 : pm_ob G l0 8) (h2 : pm_ob G (T l0.toNat 1) 5) : pm_Run d 105 188 [.inr (.inr (.inl l0)), .inr (.inr (.inl l1)), .inr (.inr (.inl l2)), .inl l3, .inl l4, .inl l5, .inl l6] [] (G, M, T) K ↔ pm_Call d 55 [.inl l5, .inl l6] (G, M, T) (fun r S1 => pm_Run d 105 202 [.inr (.inr (.inl l0)), .inr (.inr (.inl l1)), .inr (.inr (.inl l2)), .inl l3, .inl l4, .inl l5, .inl l6] (pm_push r [.inr (.inr (.inl (T (T l0.toNat 1).toNat 4)))]) S1 K) := by
  refine (px_go (by decide +kernel : pm_fe 105 188 = some (.aload_n 0, 1)) rfl).trans ?_
  refine (px_get2 (idx := 18) (ci := 8) (k := 1) (by decide +kernel)).trans ((and_iff_right h1).trans ?_)
  refine (px_get2 (idx := 57) (ci := 5) (k := 4) (by decide +kernel)).trans ((and_iff_right h2).trans ?_)
  refine (px_go (by decide +kernel : pm_fe 105 195 = some (.iload 5, 2)) rfl).trans ?_
  refine (px_go (by decide +kernel : pm_fe 105 197 = some (.iload 6, 2)) rfl).trans ?_
  refine (px_s2 (idx := 60) (m' := 55) (nest := 0) (by decide +kernel)).trans ((and_iff_right (by simp [pm_wl_n, pm_wl_c, pm_w] : pm_wl [.inr (.inr (.inl (T (T l0.toNat 1).toNat 4)))] ≤ 8)).trans ?_)
  exact Iff.rfl
theorem b105_202 {d : Nat} {G : PG} {M T : PH} {K : PV → PS → Prop} {l0 l1 l2 l3 l4 l5 l6 s0 s1 : Int} (h1 : pm_ob G l0 8) : pm_Run d 105 202 [.inr (.inr (.inl l0)), .inr (.inr (.inl l1)), .inr (.inr (.inl l2)), .inl l3, .inl l4, .inl l5, .inl l6] [.inl s0, .inr (.inr (.inl s1))] (G, M, T) K ↔ pm_Call d 110 [.inr (.inr (.inl l0)), .inl 20] (G, M, T) (fun r S1 => pm_Run d 105 208 [.inr (.inr (.inl l0)), .inr (.inr (.inl l1)), .inr (.inr (.inl l2)), .inl l3, .inl l4, .inl l5, .inl l6] (pm_push r [.inl s0, .inr (.inr (.inl s1))]) S1 K) := by
  refine (px_go (by decide +kernel : pm_fe 105 202 = some (.aload_n 0, 1)) rfl).trans ?_
  refine (px_go (by decide +kernel : pm_fe 105 203 = some (.bipush 20, 2)) rfl).trans ?_
  refine (px_v1 (idx := 88) (m' := 110) (ci := 8) (by decide +kernel)).trans ((and_iff_right ⟨h1, (by simp [pm_wl_n, pm_wl_c, pm_w] : pm_wl [.inl s0, .inr (.inr (.inl s1))] ≤ 8)⟩).trans ?_)
  exact Iff.rfl
theorem b105_208 {d : Nat} {G : PG} {M T : PH} {K : PV → PS → Prop} {l0 l1 l2 l3 l4 l5 l6 s0 s1 s2 : Int} (h1 : pm_ar G s2 100 s1) (h2 : pm_ob G l0 8) (h3 : pm_ob G (T l0.toNat 1) 5) : pm_Run d 105 208 [.inr (.inr (.inl l0)), .inr (.inr (.inl l1)), .inr (.inr (.inl l2)), .inl l3, .inl l4, .inl l5, .inl l6] [.inl s0, .inl s1, .inr (.inr (.inl s2))] (G, M, T) K ↔ pm_Call d 55 [.inl l5, .inl l6] (G, pm_sa M s2.toNat (pm_up (M s2.toNat) (pm_sg s1).toNat s0), T) (fun r S1 => pm_Run d 105 223 [.inr (.inr (.inl l0)), .inr (.inr (.inl l1)), .inr (.inr (.inl l2)), .inl l3, .inl l4, .inl l5, .inl l6] (pm_push r [.inr (.inr (.inl (T (T l0.toNat 1).toNat 5)))]) S1 K) := by
  refine (px_iastore (by decide +kernel)).trans ((and_iff_right h1).trans ?_)
  refine (px_go (by decide +kernel : pm_fe 105 209 = some (.aload_n 0, 1)) rfl).trans ?_
  refine (px_get2 (idx := 18) (ci := 8) (k := 1) (by decide +kernel)).trans ((and_iff_right h2).trans ?_)
  refine (px_get2 (idx := 64) (ci := 5) (k := 5) (by decide +kernel)).trans ((and_iff_right h3).trans ?_)
  refine (px_go (by decide +kernel : pm_fe 105 216 = some (.iload 5, 2)) rfl).trans ?_
  refine (px_go (by decide +kernel : pm_fe 105 218 = some (.iload 6, 2)) rfl).trans ?_
  refine (px_s2 (idx := 60) (m' := 55) (nest := 0) (by decide +kernel)).trans ((and_iff_right (by simp [pm_wl_n, pm_wl_c, pm_w] : pm_wl [.inr (.inr (.inl (T (T l0.toNat 1).toNat 5)))] ≤ 8)).trans ?_)
  exact Iff.rfl
theorem b105_223 {d : Nat} {G : PG} {M T : PH} {K : PV → PS → Prop} {l0 l1 l2 l3 l4 l5 l6 s0 s1 : Int} (h1 : pm_ob G l0 8) : pm_Run d 105 223 [.inr (.inr (.inl l0)), .inr (.inr (.inl l1)), .inr (.inr (.inl l2)), .inl l3, .inl l4, .inl l5, .inl l6] [.inl s0, .inr (.inr (.inl s1))] (G, M, T) K ↔ pm_Call d 111 [.inr (.inr (.inl l0)), .inl 9999] (G, M, T) (fun r S1 => pm_Run d 105 230 [.inr (.inr (.inl l0)), .inr (.inr (.inl l1)), .inr (.inr (.inl l2)), .inl l3, .inl l4, .inl l5, .inl l6] (pm_push r [.inl s0, .inr (.inr (.inl s1))]) S1 K) := by
  refine (px_go (by decide +kernel : pm_fe 105 223 = some (.aload_n 0, 1)) rfl).trans ?_
  refine (px_go (by decide +kernel : pm_fe 105 224 = some (.sipush 9999, 3)) rfl).trans ?_
  refine (px_v1 (idx := 81) (m' := 111) (ci := 8) (by decide +kernel)).trans ((and_iff_right ⟨h1, (by simp [pm_wl_n, pm_wl_c, pm_w] : pm_wl [.inl s0, .inr (.inr (.inl s1))] ≤ 8)⟩).trans ?_)
  exact Iff.rfl
theorem b105_230 {d : Nat} {G : PG} {M T : PH} {K : PV → PS → Prop} {l0 l1 l2 l3 l4 l5 l6 s0 s1 s2 : Int} (h1 : pm_ar G s2 100 s1) : pm_Run d 105 230 [.inr (.inr (.inl l0)), .inr (.inr (.inl l1)), .inr (.inr (.inl l2)), .inl l3, .inl l4, .inl l5, .inl l6] [.inl s0, .inl s1, .inr (.inr (.inl s2))] (G, M, T) K ↔ pm_Run d 105 179 [.inr (.inr (.inl l0)), .inr (.inr (.inl l1)), .inr (.inr (.inl l2)), .inl l3, .inl l4, .inl l5, .inl (l6 + 1)] [] (G, pm_sa M s2.toNat (pm_up (M s2.toNat) (pm_sg s1).toNat s0), T) K := by
  refine (px_iastore (by decide +kernel)).trans ((and_iff_right h1).trans ?_)
  refine (px_go (by decide +kernel : pm_fe 105 231 = some (.iinc 6 1, 3)) rfl).trans ?_
  refine (px_goto (off := (-55)) (tgt := 179) (by decide +kernel)).trans ?_
  exact Iff.rfl
theorem b105_237 {d : Nat} {G : PG} {M T : PH} {K : PV → PS → Prop} {l0 l1 l2 l3 l4 l5 l6 : Int} : pm_Run d 105 237 [.inr (.inr (.inl l0)), .inr (.inr (.inl l1)), .inr (.inr (.inl l2)), .inl l3, .inl l4, .inl l5, .inl l6] [] (G, M, T) K ↔ pm_Run d 105 150 [.inr (.inr (.inl l0)), .inr (.inr (.inl l1)), .inr (.inr (.inl l2)), .inl l3, .inl l4, .inl (l5 + 1), .inl l6] [] (G, M, T) K := by
  refine (px_go (by decide +kernel : pm_fe 105 237 = some (.iinc 5 1, 3)) rfl).trans ?_
  refine (px_goto (off := (-90)) (tgt := 150) (by decide +kernel)).trans ?_
  exact Iff.rfl
theorem b105_243 {d : Nat} {G : PG} {M T : PH} {K : PV → PS → Prop} {l0 l1 l2 l3 l4 l5 : Int} {l6 : PV} (h1 : pm_ob G l0 8) (h2 : (M l0.toNat 5) = 0 ∨ (M l0.toNat 5) = 1) : pm_Run d 105 243 [.inr (.inr (.inl l0)), .inr (.inr (.inl l1)), .inr (.inr (.inl l2)), .inl l3, .inl l4, .inl l5, l6] [] (G, M, T) K ↔ K (.inl (M l0.toNat 5)) (G, M, T) := by
  refine (px_go (by decide +kernel : pm_fe 105 243 = some (.aload_n 0, 1)) rfl).trans ?_
  refine (px_get0 (idx := 74) (ci := 8) (k := 5) (by decide +kernel)).trans ((and_iff_right h1).trans ?_)
  refine (px_rz (by decide +kernel)).trans ((and_iff_right h2).trans ?_)
  exact Iff.rfl
-- X8_checkOf checkOf([BI)I
theorem en106 {d : Nat} {p0 p1 : Int} {S : PS} {K : PV → PS → Prop} : pm_Call (d + 1) 106 [.inr (.inr (.inl p0)), .inl p1] S K ↔ pm_Run d 106 0 [.inr (.inr (.inl p0)), .inl p1, PU, PU] [] S K := pm_Call_s.trans (and_iff_right (show 2 ≤ pm_ml 106 from by decide +kernel))
theorem b106_0 {d : Nat} {G : PG} {M T : PH} {K : PV → PS → Prop} {l0 l1 : Int} : pm_Run d 106 0 [.inr (.inr (.inl l0)), .inl l1, PU, PU] [] (G, M, T) K ↔ pm_Run d 106 5 [.inr (.inr (.inl l0)), .inl l1, .inl 89, .inl 0] [] (G, M, T) K := by
  refine (px_go (by decide +kernel : pm_fe 106 0 = some (.bipush 89, 2)) rfl).trans ?_
  refine (px_go (by decide +kernel : pm_fe 106 2 = some (.istore_n 2, 1)) rfl).trans ?_
  refine (px_go (by decide +kernel : pm_fe 106 3 = some (.iconst 0, 1)) rfl).trans ?_
  refine (px_go (by decide +kernel : pm_fe 106 4 = some (.istore_n 3, 1)) rfl).trans ?_
  exact Iff.rfl
theorem b106_5 {d : Nat} {G : PG} {M T : PH} {K : PV → PS → Prop} {l0 l1 l2 l3 : Int} : pm_Run d 106 5 [.inr (.inr (.inl l0)), .inl l1, .inl l2, .inl l3] [] (G, M, T) K ↔ if pm_sg l1 ≤ pm_sg l3 then pm_Run d 106 38 [.inr (.inr (.inl l0)), .inl l1, .inl l2, .inl l3] [] (G, M, T) K else pm_Run d 106 10 [.inr (.inr (.inl l0)), .inl l1, .inl l2, .inl l3] [] (G, M, T) K := by
  refine (px_go (by decide +kernel : pm_fe 106 5 = some (.iload_n 3, 1)) rfl).trans ?_
  refine (px_go (by decide +kernel : pm_fe 106 6 = some (.iload_n 1, 1)) rfl).trans ?_
  refine (px_ic_ge (off := 31) (tgt := 38) (by decide +kernel)).trans ?_
  exact Iff.rfl
theorem b106_10 {d : Nat} {G : PG} {M T : PH} {K : PV → PS → Prop} {l0 l1 l2 l3 : Int} (h1 : 0 ≤ l0 ∧ l0.toNat < G.1 ∧ 100 ≤ (G.2.2.1 l0.toNat).1 ∧ (G.2.2.1 l0.toNat).1 ≤ 104) : pm_Run d 106 10 [.inr (.inr (.inl l0)), .inl l1, .inl l2, .inl l3] [] (G, M, T) K ↔ if pm_sg ((G.2.2.1 l0.toNat).2 : Int) ≤ pm_sg l3 then pm_Run d 106 38 [.inr (.inr (.inl l0)), .inl l1, .inl l2, .inl l3] [] (G, M, T) K else pm_Run d 106 16 [.inr (.inr (.inl l0)), .inl l1, .inl l2, .inl l3] [] (G, M, T) K := by
  refine (px_go (by decide +kernel : pm_fe 106 10 = some (.iload_n 3, 1)) rfl).trans ?_
  refine (px_go (by decide +kernel : pm_fe 106 11 = some (.aload_n 0, 1)) rfl).trans ?_
  refine (px_alen (by decide +kernel) h1).trans ?_
  refine (px_ic_ge (off := 25) (tgt := 38) (by decide +kernel)).trans ?_
  exact Iff.rfl
theorem b106_16 {d : Nat} {G : PG} {M T : PH} {K : PV → PS → Prop} {l0 l1 l2 l3 : Int} (h1 : pm_ar G l0 101 l3 ∨ pm_ar G l0 102 l3) : pm_Run d 106 16 [.inr (.inr (.inl l0)), .inl l1, .inl l2, .inl l3] [] (G, M, T) K ↔ pm_Run d 106 5 [.inr (.inr (.inl l0)), .inl l1, .inl (pm_rem ((5 * l2) + (pm_and (M l0.toNat (pm_sg l3).toNat) 255)) 251), .inl (l3 + 1)] [] (G, M, T) K := by
  refine (px_go (by decide +kernel : pm_fe 106 16 = some (.iconst 5, 1)) rfl).trans ?_
  refine (px_go (by decide +kernel : pm_fe 106 17 = some (.iload_n 2, 1)) rfl).trans ?_
  refine (px_go (by decide +kernel : pm_fe 106 18 = some (.imul, 1)) rfl).trans ?_
  refine (px_go (by decide +kernel : pm_fe 106 19 = some (.aload_n 0, 1)) rfl).trans ?_
  refine (px_go (by decide +kernel : pm_fe 106 20 = some (.iload_n 3, 1)) rfl).trans ?_
  refine (px_baload (by decide +kernel)).trans ((and_iff_right h1).trans ?_)
  refine (px_go (by decide +kernel : pm_fe 106 22 = some (.sipush 255, 3)) rfl).trans ?_
  refine (px_go (by decide +kernel : pm_fe 106 25 = some (.iand, 1)) rfl).trans ?_
  refine (px_go (by decide +kernel : pm_fe 106 26 = some (.iadd, 1)) rfl).trans ?_
  refine (px_go (by decide +kernel : pm_fe 106 27 = some (.sipush 251, 3)) rfl).trans ?_
  refine (px_irem (by decide +kernel)).trans ((and_iff_right (by decide : pm_sg (251 : Int) ≠ (0 : Int))).trans ?_)
  refine (px_go (by decide +kernel : pm_fe 106 31 = some (.istore_n 2, 1)) rfl).trans ?_
  refine (px_go (by decide +kernel : pm_fe 106 32 = some (.iinc 3 1, 3)) rfl).trans ?_
  refine (px_goto (off := (-30)) (tgt := 5) (by decide +kernel)).trans ?_
  exact Iff.rfl
theorem b106_38 {d : Nat} {G : PG} {M T : PH} {K : PV → PS → Prop} {l0 l1 l2 l3 : Int} : pm_Run d 106 38 [.inr (.inr (.inl l0)), .inl l1, .inl l2, .inl l3] [] (G, M, T) K ↔ K (.inl l2) (G, M, T) := by
  refine (px_go (by decide +kernel : pm_fe 106 38 = some (.iload_n 2, 1)) rfl).trans ?_
  refine (px_ri (by decide +kernel)).trans ?_
  exact Iff.rfl
-- X8_put put(I)V
theorem en107 {d : Nat} {a p0 : Int} {S : PS} {K : PV → PS → Prop} : pm_Call (d + 1) 107 [.inr (.inr (.inl a)), .inl p0] S K ↔ pm_Run d 107 0 [.inr (.inr (.inl a)), .inl p0] [] S K := pm_Call_s.trans (and_iff_right (show 2 ≤ pm_ml 107 from by decide +kernel))
theorem b107_0 {d : Nat} {G : PG} {M T : PH} {K : PV → PS → Prop} {l0 l1 : Int} (h1 : pm_ob G l0 8) (h2 : 0 ≤ T l0.toNat 0 ∧ (T l0.toNat 0).toNat < G.1 ∧ 100 ≤ (G.2.2.1 (T l0.toNat 0).toNat).1 ∧ (G.2.2.1 (T l0.toNat 0).toNat).1 ≤ 104) : pm_Run d 107 0 [.inr (.inr (.inl l0)), .inl l1] [] (G, M, T) K ↔ if pm_sg ((G.2.2.1 (T l0.toNat 0).toNat).2 : Int) ≤ pm_sg (M l0.toNat 2) then pm_Run d 107 33 [.inr (.inr (.inl l0)), .inl l1] [] (G, M, T) K else pm_Run d 107 12 [.inr (.inr (.inl l0)), .inl l1] [] (G, M, T) K := by
  refine (px_go (by decide +kernel : pm_fe 107 0 = some (.aload_n 0, 1)) rfl).trans ?_
  refine (px_get0 (idx := 25) (ci := 8) (k := 2) (by decide +kernel)).trans ((and_iff_right h1).trans ?_)
  refine (px_go (by decide +kernel : pm_fe 107 4 = some (.aload_n 0, 1)) rfl).trans ?_
  refine (px_get2 (idx := 11) (ci := 8) (k := 0) (by decide +kernel)).trans ((and_iff_right h1).trans ?_)
  refine (px_alen (by decide +kernel) h2).trans ?_
  refine (px_ic_ge (off := 24) (tgt := 33) (by decide +kernel)).trans ?_
  exact Iff.rfl
theorem b107_12 {d : Nat} {G : PG} {M T : PH} {K : PV → PS → Prop} {l0 l1 : Int} (h1 : pm_ob G l0 8) (h2 : pm_ar G (T l0.toNat 0) 101 (M l0.toNat 2)) : pm_Run d 107 12 [.inr (.inr (.inl l0)), .inl l1] [] (G, M, T) K ↔ pm_Run d 107 33 [.inr (.inr (.inl l0)), .inl l1] [] (G, pm_sa (pm_sa M (T l0.toNat 0).toNat (pm_up (M (T l0.toNat 0).toNat) (pm_sg (M l0.toNat 2)).toNat (pm_b8 (pm_b8 l1)))) l0.toNat (pm_up ((pm_sa M (T l0.toNat 0).toNat (pm_up (M (T l0.toNat 0).toNat) (pm_sg (M l0.toNat 2)).toNat (pm_b8 (pm_b8 l1)))) l0.toNat) 2 (((pm_sa M (T l0.toNat 0).toNat (pm_up (M (T l0.toNat 0).toNat) (pm_sg (M l0.toNat 2)).toNat (pm_b8 (pm_b8 l1)))) l0.toNat 2) + 1)), T) K := by
  refine (px_go (by decide +kernel : pm_fe 107 12 = some (.aload_n 0, 1)) rfl).trans ?_
  refine (px_get2 (idx := 11) (ci := 8) (k := 0) (by decide +kernel)).trans ((and_iff_right h1).trans ?_)
  refine (px_go (by decide +kernel : pm_fe 107 16 = some (.aload_n 0, 1)) rfl).trans ?_
  refine (px_get0 (idx := 25) (ci := 8) (k := 2) (by decide +kernel)).trans ((and_iff_right h1).trans ?_)
  refine (px_go (by decide +kernel : pm_fe 107 20 = some (.iload_n 1, 1)) rfl).trans ?_
  refine (px_go (by decide +kernel : pm_fe 107 21 = some (.i2b, 1)) rfl).trans ?_
  refine (px_bastore (by decide +kernel) h2).trans ?_
  refine (px_go (by decide +kernel : pm_fe 107 23 = some (.aload_n 0, 1)) rfl).trans ?_
  refine (px_go (by decide +kernel : pm_fe 107 24 = some (.dup, 1)) rfl).trans ?_
  refine (px_get0 (idx := 25) (ci := 8) (k := 2) (by decide +kernel)).trans ((and_iff_right h1).trans ?_)
  refine (px_go (by decide +kernel : pm_fe 107 28 = some (.iconst 1, 1)) rfl).trans ?_
  refine (px_go (by decide +kernel : pm_fe 107 29 = some (.iadd, 1)) rfl).trans ?_
  refine (px_put0 (idx := 25) (ci := 8) (k := 2) (by decide +kernel)).trans ((and_iff_right h1).trans ?_)
  exact Iff.rfl
theorem b107_33 {d : Nat} {G : PG} {M T : PH} {K : PV → PS → Prop} {l0 l1 : Int} : pm_Run d 107 33 [.inr (.inr (.inl l0)), .inl l1] [] (G, M, T) K ↔ K PU (G, M, T) := by
  refine (px_rv (by decide +kernel)).trans ?_
  exact Iff.rfl
-- X8_putTwo putTwo(I)V
theorem en108 {d : Nat} {a p0 : Int} {S : PS} {K : PV → PS → Prop} : pm_Call (d + 1) 108 [.inr (.inr (.inl a)), .inl p0] S K ↔ pm_Run d 108 0 [.inr (.inr (.inl a)), .inl p0] [] S K := pm_Call_s.trans (and_iff_right (show 2 ≤ pm_ml 108 from by decide +kernel))
theorem b108_0 {d : Nat} {G : PG} {M T : PH} {K : PV → PS → Prop} {l0 l1 : Int} (h1 : pm_ob G l0 8) : pm_Run d 108 0 [.inr (.inr (.inl l0)), .inl l1] [] (G, M, T) K ↔ pm_Call d 107 [.inr (.inr (.inl l0)), .inl (pm_shr l1 8)] (G, M, T) (fun r S1 => pm_Run d 108 8 [.inr (.inr (.inl l0)), .inl l1] (pm_push r []) S1 K) := by
  refine (px_go (by decide +kernel : pm_fe 108 0 = some (.aload_n 0, 1)) rfl).trans ?_
  refine (px_go (by decide +kernel : pm_fe 108 1 = some (.iload_n 1, 1)) rfl).trans ?_
  refine (px_go (by decide +kernel : pm_fe 108 2 = some (.bipush 8, 2)) rfl).trans ?_
  refine (px_go (by decide +kernel : pm_fe 108 4 = some (.ishr, 1)) rfl).trans ?_
  refine (px_v1 (idx := 45) (m' := 107) (ci := 8) (by decide +kernel)).trans ((and_iff_right ⟨h1, (by simp [pm_wl_n, pm_wl_c, pm_w] : pm_wl [] ≤ 8)⟩).trans ?_)
  exact Iff.rfl
theorem b108_8 {d : Nat} {G : PG} {M T : PH} {K : PV → PS → Prop} {l0 l1 : Int} (h1 : pm_ob G l0 8) : pm_Run d 108 8 [.inr (.inr (.inl l0)), .inl l1] [] (G, M, T) K ↔ pm_Call d 107 [.inr (.inr (.inl l0)), .inl l1] (G, M, T) (fun r S1 => pm_Run d 108 13 [.inr (.inr (.inl l0)), .inl l1] (pm_push r []) S1 K) := by
  refine (px_go (by decide +kernel : pm_fe 108 8 = some (.aload_n 0, 1)) rfl).trans ?_
  refine (px_go (by decide +kernel : pm_fe 108 9 = some (.iload_n 1, 1)) rfl).trans ?_
  refine (px_v1 (idx := 45) (m' := 107) (ci := 8) (by decide +kernel)).trans ((and_iff_right ⟨h1, (by simp [pm_wl_n, pm_wl_c, pm_w] : pm_wl [] ≤ 8)⟩).trans ?_)
  exact Iff.rfl
theorem b108_13 {d : Nat} {G : PG} {M T : PH} {K : PV → PS → Prop} {l0 l1 : Int} : pm_Run d 108 13 [.inr (.inr (.inl l0)), .inl l1] [] (G, M, T) K ↔ K PU (G, M, T) := by
  refine (px_rv (by decide +kernel)).trans ?_
  exact Iff.rfl
-- X8_octetAt octetAt(I)I
theorem en109 {d : Nat} {a p0 : Int} {S : PS} {K : PV → PS → Prop} : pm_Call (d + 1) 109 [.inr (.inr (.inl a)), .inl p0] S K ↔ pm_Run d 109 0 [.inr (.inr (.inl a)), .inl p0] [] S K := pm_Call_s.trans (and_iff_right (show 2 ≤ pm_ml 109 from by decide +kernel))
theorem b109_0 {d : Nat} {G : PG} {M T : PH} {K : PV → PS → Prop} {l0 l1 : Int} : pm_Run d 109 0 [.inr (.inr (.inl l0)), .inl l1] [] (G, M, T) K ↔ if pm_sg l1 < 0 then pm_Run d 109 26 [.inr (.inr (.inl l0)), .inl l1] [] (G, M, T) K else pm_Run d 109 4 [.inr (.inr (.inl l0)), .inl l1] [] (G, M, T) K := by
  refine (px_go (by decide +kernel : pm_fe 109 0 = some (.iload_n 1, 1)) rfl).trans ?_
  refine (px_if_lt (off := 25) (tgt := 26) (by decide +kernel)).trans ?_
  exact Iff.rfl
theorem b109_4 {d : Nat} {G : PG} {M T : PH} {K : PV → PS → Prop} {l0 l1 : Int} (h1 : pm_ob G l0 8) (h2 : 0 ≤ T l0.toNat 3 ∧ (T l0.toNat 3).toNat < G.1 ∧ 100 ≤ (G.2.2.1 (T l0.toNat 3).toNat).1 ∧ (G.2.2.1 (T l0.toNat 3).toNat).1 ≤ 104) : pm_Run d 109 4 [.inr (.inr (.inl l0)), .inl l1] [] (G, M, T) K ↔ if pm_sg ((G.2.2.1 (T l0.toNat 3).toNat).2 : Int) ≤ pm_sg l1 then pm_Run d 109 26 [.inr (.inr (.inl l0)), .inl l1] [] (G, M, T) K else pm_Run d 109 13 [.inr (.inr (.inl l0)), .inl l1] [] (G, M, T) K := by
  refine (px_go (by decide +kernel : pm_fe 109 4 = some (.iload_n 1, 1)) rfl).trans ?_
  refine (px_go (by decide +kernel : pm_fe 109 5 = some (.aload_n 0, 1)) rfl).trans ?_
  refine (px_get2 (idx := 22) (ci := 8) (k := 3) (by decide +kernel)).trans ((and_iff_right h1).trans ?_)
  refine (px_alen (by decide +kernel) h2).trans ?_
  refine (px_ic_ge (off := 16) (tgt := 26) (by decide +kernel)).trans ?_
  exact Iff.rfl
theorem b109_13 {d : Nat} {G : PG} {M T : PH} {K : PV → PS → Prop} {l0 l1 : Int} (h1 : pm_ob G l0 8) (h2 : pm_ar G (T l0.toNat 3) 101 l1 ∨ pm_ar G (T l0.toNat 3) 102 l1) : pm_Run d 109 13 [.inr (.inr (.inl l0)), .inl l1] [] (G, M, T) K ↔ pm_Run d 109 27 [.inr (.inr (.inl l0)), .inl l1] [.inl (pm_and (M (T l0.toNat 3).toNat (pm_sg l1).toNat) 255)] (G, M, T) K := by
  refine (px_go (by decide +kernel : pm_fe 109 13 = some (.aload_n 0, 1)) rfl).trans ?_
  refine (px_get2 (idx := 22) (ci := 8) (k := 3) (by decide +kernel)).trans ((and_iff_right h1).trans ?_)
  refine (px_go (by decide +kernel : pm_fe 109 17 = some (.iload_n 1, 1)) rfl).trans ?_
  refine (px_baload (by decide +kernel)).trans ((and_iff_right h2).trans ?_)
  refine (px_go (by decide +kernel : pm_fe 109 19 = some (.sipush 255, 3)) rfl).trans ?_
  refine (px_go (by decide +kernel : pm_fe 109 22 = some (.iand, 1)) rfl).trans ?_
  refine (px_goto (off := 4) (tgt := 27) (by decide +kernel)).trans ?_
  exact Iff.rfl
theorem b109_26 {d : Nat} {G : PG} {M T : PH} {K : PV → PS → Prop} {l0 l1 : Int} : pm_Run d 109 26 [.inr (.inr (.inl l0)), .inl l1] [] (G, M, T) K ↔ pm_Run d 109 27 [.inr (.inr (.inl l0)), .inl l1] [.inl 0] (G, M, T) K := by
  refine (px_go (by decide +kernel : pm_fe 109 26 = some (.iconst 0, 1)) rfl).trans ?_
  exact Iff.rfl
theorem b109_27 {d : Nat} {G : PG} {M T : PH} {K : PV → PS → Prop} {l0 l1 s0 : Int} : pm_Run d 109 27 [.inr (.inr (.inl l0)), .inl l1] [.inl s0] (G, M, T) K ↔ K (.inl s0) (G, M, T) := by
  refine (px_ri (by decide +kernel)).trans ?_
  exact Iff.rfl
-- X8_get get(I)I
theorem en110 {d : Nat} {a p0 : Int} {S : PS} {K : PV → PS → Prop} : pm_Call (d + 1) 110 [.inr (.inr (.inl a)), .inl p0] S K ↔ pm_Run d 110 0 [.inr (.inr (.inl a)), .inl p0, PU] [] S K := pm_Call_s.trans (and_iff_right (show 2 ≤ pm_ml 110 from by decide +kernel))
theorem b110_0 {d : Nat} {G : PG} {M T : PH} {K : PV → PS → Prop} {l0 l1 : Int} (h1 : pm_ob G l0 8) : pm_Run d 110 0 [.inr (.inr (.inl l0)), .inl l1, PU] [] (G, M, T) K ↔ pm_Call d 109 [.inr (.inr (.inl l0)), .inl (M l0.toNat 4)] (G, M, T) (fun r S1 => pm_Run d 110 8 [.inr (.inr (.inl l0)), .inl l1, PU] (pm_push r []) S1 K) := by
  refine (px_go (by decide +kernel : pm_fe 110 0 = some (.aload_n 0, 1)) rfl).trans ?_
  refine (px_go (by decide +kernel : pm_fe 110 1 = some (.aload_n 0, 1)) rfl).trans ?_
  refine (px_get0 (idx := 71) (ci := 8) (k := 4) (by decide +kernel)).trans ((and_iff_right h1).trans ?_)
  refine (px_v1 (idx := 91) (m' := 109) (ci := 8) (by decide +kernel)).trans ((and_iff_right ⟨h1, (by simp [pm_wl_n, pm_wl_c, pm_w] : pm_wl [] ≤ 8)⟩).trans ?_)
  exact Iff.rfl
theorem b110_8 {d : Nat} {G : PG} {M T : PH} {K : PV → PS → Prop} {l0 l1 s0 : Int} (h1 : pm_ob G l0 8) : pm_Run d 110 8 [.inr (.inr (.inl l0)), .inl l1, PU] [.inl s0] (G, M, T) K ↔ if pm_sg l1 < pm_sg s0 then pm_Run d 110 33 [.inr (.inr (.inl l0)), .inl l1, .inl s0] [.inl ((pm_sa M l0.toNat (pm_up (M l0.toNat) 4 ((M l0.toNat 4) + 1))) l0.toNat 5), .inr (.inr (.inl l0))] (G, pm_sa M l0.toNat (pm_up (M l0.toNat) 4 ((M l0.toNat 4) + 1)), T) K else pm_Run d 110 29 [.inr (.inr (.inl l0)), .inl l1, .inl s0] [.inl ((pm_sa M l0.toNat (pm_up (M l0.toNat) 4 ((M l0.toNat 4) + 1))) l0.toNat 5), .inr (.inr (.inl l0))] (G, pm_sa M l0.toNat (pm_up (M l0.toNat) 4 ((M l0.toNat 4) + 1)), T) K := by
  refine (px_go (by decide +kernel : pm_fe 110 8 = some (.istore_n 2, 1)) rfl).trans ?_
  refine (px_go (by decide +kernel : pm_fe 110 9 = some (.aload_n 0, 1)) rfl).trans ?_
  refine (px_go (by decide +kernel : pm_fe 110 10 = some (.dup, 1)) rfl).trans ?_
  refine (px_get0 (idx := 71) (ci := 8) (k := 4) (by decide +kernel)).trans ((and_iff_right h1).trans ?_)
  refine (px_go (by decide +kernel : pm_fe 110 14 = some (.iconst 1, 1)) rfl).trans ?_
  refine (px_go (by decide +kernel : pm_fe 110 15 = some (.iadd, 1)) rfl).trans ?_
  refine (px_put0 (idx := 71) (ci := 8) (k := 4) (by decide +kernel)).trans ((and_iff_right h1).trans ?_)
  refine (px_go (by decide +kernel : pm_fe 110 19 = some (.aload_n 0, 1)) rfl).trans ?_
  refine (px_go (by decide +kernel : pm_fe 110 20 = some (.dup, 1)) rfl).trans ?_
  refine (px_get0 (idx := 74) (ci := 8) (k := 5) (by decide +kernel)).trans ((and_iff_right h1).trans ?_)
  refine (px_go (by decide +kernel : pm_fe 110 24 = some (.iload_n 2, 1)) rfl).trans ?_
  refine (px_go (by decide +kernel : pm_fe 110 25 = some (.iload_n 1, 1)) rfl).trans ?_
  refine (px_ic_gt (off := 7) (tgt := 33) (by decide +kernel)).trans ?_
  exact Iff.rfl
theorem b110_29 {d : Nat} {G : PG} {M T : PH} {K : PV → PS → Prop} {l0 l1 l2 s0 s1 : Int} : pm_Run d 110 29 [.inr (.inr (.inl l0)), .inl l1, .inl l2] [.inl s0, .inr (.inr (.inl s1))] (G, M, T) K ↔ pm_Run d 110 34 [.inr (.inr (.inl l0)), .inl l1, .inl l2] [.inl 1, .inl s0, .inr (.inr (.inl s1))] (G, M, T) K := by
  refine (px_go (by decide +kernel : pm_fe 110 29 = some (.iconst 1, 1)) rfl).trans ?_
  refine (px_goto (off := 4) (tgt := 34) (by decide +kernel)).trans ?_
  exact Iff.rfl
theorem b110_33 {d : Nat} {G : PG} {M T : PH} {K : PV → PS → Prop} {l0 l1 l2 s0 s1 : Int} : pm_Run d 110 33 [.inr (.inr (.inl l0)), .inl l1, .inl l2] [.inl s0, .inr (.inr (.inl s1))] (G, M, T) K ↔ pm_Run d 110 34 [.inr (.inr (.inl l0)), .inl l1, .inl l2] [.inl 0, .inl s0, .inr (.inr (.inl s1))] (G, M, T) K := by
  refine (px_go (by decide +kernel : pm_fe 110 33 = some (.iconst 0, 1)) rfl).trans ?_
  exact Iff.rfl
theorem b110_34 {d : Nat} {G : PG} {M T : PH} {K : PV → PS → Prop} {l0 l1 l2 s0 s1 s2 : Int} (h1 : pm_ob G s2 8) (h2 : (pm_and s1 s0) = 0 ∨ (pm_and s1 s0) = 1) : pm_Run d 110 34 [.inr (.inr (.inl l0)), .inl l1, .inl l2] [.inl s0, .inl s1, .inr (.inr (.inl s2))] (G, M, T) K ↔ K (.inl l2) (G, pm_sa M s2.toNat (pm_up (M s2.toNat) 5 (pm_and s1 s0)), T) := by
  refine (px_go (by decide +kernel : pm_fe 110 34 = some (.iand, 1)) rfl).trans ?_
  refine (px_put3 (idx := 74) (ci := 8) (k := 5) (by decide +kernel)).trans ((and_iff_right ⟨h1, h2⟩).trans ?_)
  refine (px_go (by decide +kernel : pm_fe 110 38 = some (.iload_n 2, 1)) rfl).trans ?_
  refine (px_ri (by decide +kernel)).trans ?_
  exact Iff.rfl
-- X8_getTwo getTwo(I)I
theorem en111 {d : Nat} {a p0 : Int} {S : PS} {K : PV → PS → Prop} : pm_Call (d + 1) 111 [.inr (.inr (.inl a)), .inl p0] S K ↔ pm_Run d 111 0 [.inr (.inr (.inl a)), .inl p0, PU] [] S K := pm_Call_s.trans (and_iff_right (show 2 ≤ pm_ml 111 from by decide +kernel))
theorem b111_0 {d : Nat} {G : PG} {M T : PH} {K : PV → PS → Prop} {l0 l1 : Int} (h1 : pm_ob G l0 8) : pm_Run d 111 0 [.inr (.inr (.inl l0)), .inl l1, PU] [] (G, M, T) K ↔ pm_Call d 109 [.inr (.inr (.inl l0)), .inl (M l0.toNat 4)] (G, M, T) (fun r S1 => pm_Run d 111 8 [.inr (.inr (.inl l0)), .inl l1, PU] (pm_push r []) S1 K) := by
  refine (px_go (by decide +kernel : pm_fe 111 0 = some (.aload_n 0, 1)) rfl).trans ?_
  refine (px_go (by decide +kernel : pm_fe 111 1 = some (.aload_n 0, 1)) rfl).trans ?_
  refine (px_get0 (idx := 71) (ci := 8) (k := 4) (by decide +kernel)).trans ((and_iff_right h1).trans ?_)
  refine (px_v1 (idx := 91) (m' := 109) (ci := 8) (by decide +kernel)).trans ((and_iff_right ⟨h1, (by simp [pm_wl_n, pm_wl_c, pm_w] : pm_wl [] ≤ 8)⟩).trans ?_)
  exact Iff.rfl
theorem b111_8 {d : Nat} {G : PG} {M T : PH} {K : PV → PS → Prop} {l0 l1 s0 : Int} (h1 : pm_ob G l0 8) : pm_Run d 111 8 [.inr (.inr (.inl l0)), .inl l1, PU] [.inl s0] (G, M, T) K ↔ pm_Call d 109 [.inr (.inr (.inl l0)), .inl ((M l0.toNat 4) + 1)] (G, M, T) (fun r S1 => pm_Run d 111 21 [.inr (.inr (.inl l0)), .inl l1, PU] (pm_push r [.inl (pm_shl s0 8)]) S1 K) := by
  refine (px_go (by decide +kernel : pm_fe 111 8 = some (.bipush 8, 2)) rfl).trans ?_
  refine (px_go (by decide +kernel : pm_fe 111 10 = some (.ishl, 1)) rfl).trans ?_
  refine (px_go (by decide +kernel : pm_fe 111 11 = some (.aload_n 0, 1)) rfl).trans ?_
  refine (px_go (by decide +kernel : pm_fe 111 12 = some (.aload_n 0, 1)) rfl).trans ?_
  refine (px_get0 (idx := 71) (ci := 8) (k := 4) (by decide +kernel)).trans ((and_iff_right h1).trans ?_)
  refine (px_go (by decide +kernel : pm_fe 111 16 = some (.iconst 1, 1)) rfl).trans ?_
  refine (px_go (by decide +kernel : pm_fe 111 17 = some (.iadd, 1)) rfl).trans ?_
  refine (px_v1 (idx := 91) (m' := 109) (ci := 8) (by decide +kernel)).trans ((and_iff_right ⟨h1, (by simp [pm_wl_n, pm_wl_c, pm_w] : pm_wl [.inl (pm_shl s0 8)] ≤ 8)⟩).trans ?_)
  exact Iff.rfl
theorem b111_21 {d : Nat} {G : PG} {M T : PH} {K : PV → PS → Prop} {l0 l1 s0 s1 : Int} (h1 : pm_ob G l0 8) : pm_Run d 111 21 [.inr (.inr (.inl l0)), .inl l1, PU] [.inl s0, .inl s1] (G, M, T) K ↔ if pm_sg l1 < pm_sg (pm_or s1 s0) then pm_Run d 111 47 [.inr (.inr (.inl l0)), .inl l1, .inl (pm_or s1 s0)] [.inl ((pm_sa M l0.toNat (pm_up (M l0.toNat) 4 ((M l0.toNat 4) + 2))) l0.toNat 5), .inr (.inr (.inl l0))] (G, pm_sa M l0.toNat (pm_up (M l0.toNat) 4 ((M l0.toNat 4) + 2)), T) K else pm_Run d 111 43 [.inr (.inr (.inl l0)), .inl l1, .inl (pm_or s1 s0)] [.inl ((pm_sa M l0.toNat (pm_up (M l0.toNat) 4 ((M l0.toNat 4) + 2))) l0.toNat 5), .inr (.inr (.inl l0))] (G, pm_sa M l0.toNat (pm_up (M l0.toNat) 4 ((M l0.toNat 4) + 2)), T) K := by
  refine (px_go (by decide +kernel : pm_fe 111 21 = some (.ior, 1)) rfl).trans ?_
  refine (px_go (by decide +kernel : pm_fe 111 22 = some (.istore_n 2, 1)) rfl).trans ?_
  refine (px_go (by decide +kernel : pm_fe 111 23 = some (.aload_n 0, 1)) rfl).trans ?_
  refine (px_go (by decide +kernel : pm_fe 111 24 = some (.dup, 1)) rfl).trans ?_
  refine (px_get0 (idx := 71) (ci := 8) (k := 4) (by decide +kernel)).trans ((and_iff_right h1).trans ?_)
  refine (px_go (by decide +kernel : pm_fe 111 28 = some (.iconst 2, 1)) rfl).trans ?_
  refine (px_go (by decide +kernel : pm_fe 111 29 = some (.iadd, 1)) rfl).trans ?_
  refine (px_put0 (idx := 71) (ci := 8) (k := 4) (by decide +kernel)).trans ((and_iff_right h1).trans ?_)
  refine (px_go (by decide +kernel : pm_fe 111 33 = some (.aload_n 0, 1)) rfl).trans ?_
  refine (px_go (by decide +kernel : pm_fe 111 34 = some (.dup, 1)) rfl).trans ?_
  refine (px_get0 (idx := 74) (ci := 8) (k := 5) (by decide +kernel)).trans ((and_iff_right h1).trans ?_)
  refine (px_go (by decide +kernel : pm_fe 111 38 = some (.iload_n 2, 1)) rfl).trans ?_
  refine (px_go (by decide +kernel : pm_fe 111 39 = some (.iload_n 1, 1)) rfl).trans ?_
  refine (px_ic_gt (off := 7) (tgt := 47) (by decide +kernel)).trans ?_
  exact Iff.rfl
theorem b111_43 {d : Nat} {G : PG} {M T : PH} {K : PV → PS → Prop} {l0 l1 l2 s0 s1 : Int} : pm_Run d 111 43 [.inr (.inr (.inl l0)), .inl l1, .inl l2] [.inl s0, .inr (.inr (.inl s1))] (G, M, T) K ↔ pm_Run d 111 48 [.inr (.inr (.inl l0)), .inl l1, .inl l2] [.inl 1, .inl s0, .inr (.inr (.inl s1))] (G, M, T) K := by
  refine (px_go (by decide +kernel : pm_fe 111 43 = some (.iconst 1, 1)) rfl).trans ?_
  refine (px_goto (off := 4) (tgt := 48) (by decide +kernel)).trans ?_
  exact Iff.rfl
theorem b111_47 {d : Nat} {G : PG} {M T : PH} {K : PV → PS → Prop} {l0 l1 l2 s0 s1 : Int} : pm_Run d 111 47 [.inr (.inr (.inl l0)), .inl l1, .inl l2] [.inl s0, .inr (.inr (.inl s1))] (G, M, T) K ↔ pm_Run d 111 48 [.inr (.inr (.inl l0)), .inl l1, .inl l2] [.inl 0, .inl s0, .inr (.inr (.inl s1))] (G, M, T) K := by
  refine (px_go (by decide +kernel : pm_fe 111 47 = some (.iconst 0, 1)) rfl).trans ?_
  exact Iff.rfl
theorem b111_48 {d : Nat} {G : PG} {M T : PH} {K : PV → PS → Prop} {l0 l1 l2 s0 s1 s2 : Int} (h1 : pm_ob G s2 8) (h2 : (pm_and s1 s0) = 0 ∨ (pm_and s1 s0) = 1) : pm_Run d 111 48 [.inr (.inr (.inl l0)), .inl l1, .inl l2] [.inl s0, .inl s1, .inr (.inr (.inl s2))] (G, M, T) K ↔ K (.inl l2) (G, pm_sa M s2.toNat (pm_up (M s2.toNat) 5 (pm_and s1 s0)), T) := by
  refine (px_go (by decide +kernel : pm_fe 111 48 = some (.iand, 1)) rfl).trans ?_
  refine (px_put3 (idx := 74) (ci := 8) (k := 5) (by decide +kernel)).trans ((and_iff_right ⟨h1, h2⟩).trans ?_)
  refine (px_go (by decide +kernel : pm_fe 111 52 = some (.iload_n 2, 1)) rfl).trans ?_
  refine (px_ri (by decide +kernel)).trans ?_
  exact Iff.rfl
