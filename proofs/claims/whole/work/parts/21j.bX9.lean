-- X9_init <init>()V
theorem en112 {d : Nat} {a : Int} {S : PS} {K : PV → PS → Prop} : pm_Call (d + 1) 112 [.inr (.inr (.inl a))] S K ↔ pm_Run d 112 0 [.inr (.inr (.inl a))] [] S K := pm_Call_s.trans (and_iff_right (show 1 ≤ pm_ml 112 from by decide +kernel))
-- X9_rise rise(LMoonTender$Chart;LMoonTender$Moment;)V
theorem en113 {d : Nat} {a p0 p1 : Int} {S : PS} {K : PV → PS → Prop} : pm_Call (d + 1) 113 [.inr (.inr (.inl a)), .inr (.inr (.inl p0)), .inr (.inr (.inl p1))] S K ↔ pm_Run d 113 0 [.inr (.inr (.inl a)), .inr (.inr (.inl p0)), .inr (.inr (.inl p1)), PU, PU, PU] [] S K := pm_Call_s.trans (and_iff_right (show 3 ≤ pm_ml 113 from by decide +kernel))
theorem b113_0 {d : Nat} {G : PG} {M T : PH} {K : PV → PS → Prop} {l0 l1 l2 : Int} (h1 : pm_ob G l2 5) : pm_Run d 113 0 [.inr (.inr (.inl l0)), .inr (.inr (.inl l1)), .inr (.inr (.inl l2)), PU, PU, PU] [] (G, M, T) K ↔ pm_Call d 62 [.inr (.inr (.inl l2))] (G, M, T) (fun r S1 => pm_Run d 113 4 [.inr (.inr (.inl l0)), .inr (.inr (.inl l1)), .inr (.inr (.inl l2)), PU, PU, PU] (pm_push r []) S1 K) := by
  refine (px_go (by decide +kernel : pm_fe 113 0 = some (.aload_n 2, 1)) rfl).trans ?_
  refine (px_v0 (idx := 18) (m' := 62) (ci := 5) (by decide +kernel)).trans ((and_iff_right ⟨h1, (by simp [pm_wl_n, pm_wl_c, pm_w] : pm_wl [] ≤ 8)⟩).trans ?_)
  exact Iff.rfl
theorem b113_4 {d : Nat} {G : PG} {M T : PH} {K : PV → PS → Prop} {l0 l1 l2 s0 : Int} : pm_Run d 113 4 [.inr (.inr (.inl l0)), .inr (.inr (.inl l1)), .inr (.inr (.inl l2)), PU, PU, PU] [.inl s0] (G, M, T) K ↔ pm_Run d 113 8 [.inr (.inr (.inl l0)), .inr (.inr (.inl l1)), .inr (.inr (.inl l2)), .inl s0, .inl 0, PU] [] (G, M, T) K := by
  refine (px_go (by decide +kernel : pm_fe 113 4 = some (.istore_n 3, 1)) rfl).trans ?_
  refine (px_go (by decide +kernel : pm_fe 113 5 = some (.iconst 0, 1)) rfl).trans ?_
  refine (px_go (by decide +kernel : pm_fe 113 6 = some (.istore 4, 2)) rfl).trans ?_
  exact Iff.rfl
theorem b113_8 {d : Nat} {G : PG} {M T : PH} {K : PV → PS → Prop} {l0 l1 l2 l3 l4 : Int} {l5 : PV} (h1 : pm_ob G l1 1) : pm_Run d 113 8 [.inr (.inr (.inl l0)), .inr (.inr (.inl l1)), .inr (.inr (.inl l2)), .inl l3, .inl l4, l5] [] (G, M, T) K ↔ if pm_sg (M l1.toNat 1) ≤ pm_sg l4 then pm_Run d 113 45 [.inr (.inr (.inl l0)), .inr (.inr (.inl l1)), .inr (.inr (.inl l2)), .inl l3, .inl l4, l5] [] (G, M, T) K else pm_Run d 113 17 [.inr (.inr (.inl l0)), .inr (.inr (.inl l1)), .inr (.inr (.inl l2)), .inl l3, .inl l4, l5] [] (G, M, T) K := by
  refine (px_go (by decide +kernel : pm_fe 113 8 = some (.iload 4, 2)) rfl).trans ?_
  refine (px_go (by decide +kernel : pm_fe 113 10 = some (.aload_n 1, 1)) rfl).trans ?_
  refine (px_get0 (idx := 24) (ci := 1) (k := 1) (by decide +kernel)).trans ((and_iff_right h1).trans ?_)
  refine (px_ic_ge (off := 31) (tgt := 45) (by decide +kernel)).trans ?_
  exact Iff.rfl
theorem b113_17 {d : Nat} {G : PG} {M T : PH} {K : PV → PS → Prop} {l0 l1 l2 l3 l4 : Int} {l5 : PV} (h1 : pm_ob G l2 5) : pm_Run d 113 17 [.inr (.inr (.inl l0)), .inr (.inr (.inl l1)), .inr (.inr (.inl l2)), .inl l3, .inl l4, l5] [] (G, M, T) K ↔ pm_Call d 58 [.inr (.inr (.inl l2)), .inl l4] (G, M, T) (fun r S1 => pm_Run d 113 23 [.inr (.inr (.inl l0)), .inr (.inr (.inl l1)), .inr (.inr (.inl l2)), .inl l3, .inl l4, l5] (pm_push r []) S1 K) := by
  refine (px_go (by decide +kernel : pm_fe 113 17 = some (.aload_n 2, 1)) rfl).trans ?_
  refine (px_go (by decide +kernel : pm_fe 113 18 = some (.iload 4, 2)) rfl).trans ?_
  refine (px_v1 (idx := 30) (m' := 58) (ci := 5) (by decide +kernel)).trans ((and_iff_right ⟨h1, (by simp [pm_wl_n, pm_wl_c, pm_w] : pm_wl [] ≤ 8)⟩).trans ?_)
  exact Iff.rfl
theorem b113_23 {d : Nat} {G : PG} {M T : PH} {K : PV → PS → Prop} {l0 l1 l2 l3 l4 s0 : Int} {l5 : PV} (h1 : pm_ob G l0 9) : pm_Run d 113 23 [.inr (.inr (.inl l0)), .inr (.inr (.inl l1)), .inr (.inr (.inl l2)), .inl l3, .inl l4, l5] [.inl s0] (G, M, T) K ↔ pm_Call d 114 [.inr (.inr (.inl l0)), .inr (.inr (.inl l1)), .inr (.inr (.inl l2)), .inl l4, .inl s0, .inl (l3 - s0)] (G, M, T) (fun r S1 => pm_Run d 113 39 [.inr (.inr (.inl l0)), .inr (.inr (.inl l1)), .inr (.inr (.inl l2)), .inl l3, .inl l4, .inl s0] (pm_push r []) S1 K) := by
  refine (px_go (by decide +kernel : pm_fe 113 23 = some (.istore 5, 2)) rfl).trans ?_
  refine (px_go (by decide +kernel : pm_fe 113 25 = some (.aload_n 0, 1)) rfl).trans ?_
  refine (px_go (by decide +kernel : pm_fe 113 26 = some (.aload_n 1, 1)) rfl).trans ?_
  refine (px_go (by decide +kernel : pm_fe 113 27 = some (.aload_n 2, 1)) rfl).trans ?_
  refine (px_go (by decide +kernel : pm_fe 113 28 = some (.iload 4, 2)) rfl).trans ?_
  refine (px_go (by decide +kernel : pm_fe 113 30 = some (.iload 5, 2)) rfl).trans ?_
  refine (px_go (by decide +kernel : pm_fe 113 32 = some (.iload_n 3, 1)) rfl).trans ?_
  refine (px_go (by decide +kernel : pm_fe 113 33 = some (.iload 5, 2)) rfl).trans ?_
  refine (px_go (by decide +kernel : pm_fe 113 35 = some (.isub, 1)) rfl).trans ?_
  refine (px_v5 (idx := 34) (m' := 114) (ci := 9) (by decide +kernel)).trans ((and_iff_right ⟨h1, (by simp [pm_wl_n, pm_wl_c, pm_w] : pm_wl [] ≤ 8)⟩).trans ?_)
  exact Iff.rfl
theorem b113_39 {d : Nat} {G : PG} {M T : PH} {K : PV → PS → Prop} {l0 l1 l2 l3 l4 l5 : Int} : pm_Run d 113 39 [.inr (.inr (.inl l0)), .inr (.inr (.inl l1)), .inr (.inr (.inl l2)), .inl l3, .inl l4, .inl l5] [] (G, M, T) K ↔ pm_Run d 113 8 [.inr (.inr (.inl l0)), .inr (.inr (.inl l1)), .inr (.inr (.inl l2)), .inl l3, .inl (l4 + 1), .inl l5] [] (G, M, T) K := by
  refine (px_go (by decide +kernel : pm_fe 113 39 = some (.iinc 4 1, 3)) rfl).trans ?_
  refine (px_goto (off := (-34)) (tgt := 8) (by decide +kernel)).trans ?_
  exact Iff.rfl
theorem b113_45 {d : Nat} {G : PG} {M T : PH} {K : PV → PS → Prop} {l0 l1 l2 l3 l4 : Int} {l5 : PV} (h1 : pm_ob G l0 9) : pm_Run d 113 45 [.inr (.inr (.inl l0)), .inr (.inr (.inl l1)), .inr (.inr (.inl l2)), .inl l3, .inl l4, l5] [] (G, M, T) K ↔ pm_Call d 116 [.inr (.inr (.inl l0)), .inr (.inr (.inl l1))] (G, M, T) (fun r S1 => pm_Run d 113 50 [.inr (.inr (.inl l0)), .inr (.inr (.inl l1)), .inr (.inr (.inl l2)), .inl l3, .inl l4, l5] (pm_push r []) S1 K) := by
  refine (px_go (by decide +kernel : pm_fe 113 45 = some (.aload_n 0, 1)) rfl).trans ?_
  refine (px_go (by decide +kernel : pm_fe 113 46 = some (.aload_n 1, 1)) rfl).trans ?_
  refine (px_v1 (idx := 38) (m' := 116) (ci := 9) (by decide +kernel)).trans ((and_iff_right ⟨h1, (by simp [pm_wl_n, pm_wl_c, pm_w] : pm_wl [] ≤ 8)⟩).trans ?_)
  exact Iff.rfl
theorem b113_50 {d : Nat} {G : PG} {M T : PH} {K : PV → PS → Prop} {l0 l1 l2 l3 l4 : Int} {l5 : PV} : pm_Run d 113 50 [.inr (.inr (.inl l0)), .inr (.inr (.inl l1)), .inr (.inr (.inl l2)), .inl l3, .inl l4, l5] [] (G, M, T) K ↔ K PU (G, M, T) := by
  refine (px_rv (by decide +kernel)).trans ?_
  exact Iff.rfl
-- X9_fillPulls fillPulls(LMoonTender$Chart;LMoonTender$Moment;III)V
theorem en114 {d : Nat} {a p0 p1 p2 p3 p4 : Int} {S : PS} {K : PV → PS → Prop} : pm_Call (d + 1) 114 [.inr (.inr (.inl a)), .inr (.inr (.inl p0)), .inr (.inr (.inl p1)), .inl p2, .inl p3, .inl p4] S K ↔ pm_Run d 114 0 [.inr (.inr (.inl a)), .inr (.inr (.inl p0)), .inr (.inr (.inl p1)), .inl p2, .inl p3, .inl p4, PU, PU, PU, PU, PU, PU, PU, PU, PU] [] S K := pm_Call_s.trans (and_iff_right (show 6 ≤ pm_ml 114 from by decide +kernel))
theorem b114_0 {d : Nat} {G : PG} {M T : PH} {K : PV → PS → Prop} {l0 l1 l2 l3 l4 l5 : Int} : pm_Run d 114 0 [.inr (.inr (.inl l0)), .inr (.inr (.inl l1)), .inr (.inr (.inl l2)), .inl l3, .inl l4, .inl l5, PU, PU, PU, PU, PU, PU, PU, PU, PU] [] (G, M, T) K ↔ pm_Call d 118 [.inr (.inr (.inl l1)), .inr (.inr (.inl l2)), .inl l3, .inl l4, .inl l5] (G, M, T) (fun r S1 => pm_Run d 114 10 [.inr (.inr (.inl l0)), .inr (.inr (.inl l1)), .inr (.inr (.inl l2)), .inl l3, .inl l4, .inl l5, PU, PU, PU, PU, PU, PU, PU, PU, PU] (pm_push r []) S1 K) := by
  refine (px_go (by decide +kernel : pm_fe 114 0 = some (.aload_n 1, 1)) rfl).trans ?_
  refine (px_go (by decide +kernel : pm_fe 114 1 = some (.aload_n 2, 1)) rfl).trans ?_
  refine (px_go (by decide +kernel : pm_fe 114 2 = some (.iload_n 3, 1)) rfl).trans ?_
  refine (px_go (by decide +kernel : pm_fe 114 3 = some (.iload 4, 2)) rfl).trans ?_
  refine (px_go (by decide +kernel : pm_fe 114 5 = some (.iload 5, 2)) rfl).trans ?_
  refine (px_s5 (idx := 42) (m' := 118) (nest := 0) (by decide +kernel)).trans ((and_iff_right (by simp [pm_wl_n, pm_wl_c, pm_w] : pm_wl [] ≤ 8)).trans ?_)
  exact Iff.rfl
theorem b114_10 {d : Nat} {G : PG} {M T : PH} {K : PV → PS → Prop} {l0 l1 l2 l3 l4 l5 : Int} (h1 : pm_ob G l1 1) (h2 : pm_ob G (T l1.toNat 17) 3) : pm_Run d 114 10 [.inr (.inr (.inl l0)), .inr (.inr (.inl l1)), .inr (.inr (.inl l2)), .inl l3, .inl l4, .inl l5, PU, PU, PU, PU, PU, PU, PU, PU, PU] [] (G, M, T) K ↔ pm_Call d 45 [.inr (.inr (.inl (T l1.toNat 17))), .inl 0, .inl 22] (G, M, T) (fun r S1 => pm_Run d 114 24 [.inr (.inr (.inl l0)), .inr (.inr (.inl l1)), .inr (.inr (.inl l2)), .inl l3, .inl l4, .inl l5, .inr (.inr (.inl (T l1.toNat 17))), PU, PU, PU, PU, PU, PU, PU, PU] (pm_push r []) S1 K) := by
  refine (px_go (by decide +kernel : pm_fe 114 10 = some (.aload_n 1, 1)) rfl).trans ?_
  refine (px_get2 (idx := 45) (ci := 1) (k := 17) (by decide +kernel)).trans ((and_iff_right h1).trans ?_)
  refine (px_go (by decide +kernel : pm_fe 114 14 = some (.astore 6, 2)) rfl).trans ?_
  refine (px_go (by decide +kernel : pm_fe 114 16 = some (.aload 6, 2)) rfl).trans ?_
  refine (px_go (by decide +kernel : pm_fe 114 18 = some (.iconst 0, 1)) rfl).trans ?_
  refine (px_go (by decide +kernel : pm_fe 114 19 = some (.bipush 22, 2)) rfl).trans ?_
  refine (px_v2 (idx := 51) (m' := 45) (ci := 3) (by decide +kernel)).trans ((and_iff_right ⟨h2, (by simp [pm_wl_n, pm_wl_c, pm_w] : pm_wl [] ≤ 8)⟩).trans ?_)
  exact Iff.rfl
theorem b114_24 {d : Nat} {G : PG} {M T : PH} {K : PV → PS → Prop} {l0 l1 l2 l3 l4 l5 l6 s0 : Int} : pm_Run d 114 24 [.inr (.inr (.inl l0)), .inr (.inr (.inl l1)), .inr (.inr (.inl l2)), .inl l3, .inl l4, .inl l5, .inr (.inr (.inl l6)), PU, PU, PU, PU, PU, PU, PU, PU] [.inl s0] (G, M, T) K ↔ if pm_sg s0 ≠ 0 then pm_Run d 114 42 [.inr (.inr (.inl l0)), .inr (.inr (.inl l1)), .inr (.inr (.inl l2)), .inl l3, .inl l4, .inl l5, .inr (.inr (.inl l6)), .inl s0, PU, PU, PU, PU, PU, PU, PU] [] (G, M, T) K else pm_Run d 114 31 [.inr (.inr (.inl l0)), .inr (.inr (.inl l1)), .inr (.inr (.inl l2)), .inl l3, .inl l4, .inl l5, .inr (.inr (.inl l6)), .inl s0, PU, PU, PU, PU, PU, PU, PU] [] (G, M, T) K := by
  refine (px_go (by decide +kernel : pm_fe 114 24 = some (.istore 7, 2)) rfl).trans ?_
  refine (px_go (by decide +kernel : pm_fe 114 26 = some (.iload 7, 2)) rfl).trans ?_
  refine (px_if_ne (off := 14) (tgt := 42) (by decide +kernel)).trans ?_
  exact Iff.rfl
theorem b114_31 {d : Nat} {G : PG} {M T : PH} {K : PV → PS → Prop} {l0 l1 l2 l3 l4 l5 l6 l7 : Int} (h1 : pm_ob G l6 3) : pm_Run d 114 31 [.inr (.inr (.inl l0)), .inr (.inr (.inl l1)), .inr (.inr (.inl l2)), .inl l3, .inl l4, .inl l5, .inr (.inr (.inl l6)), .inl l7, PU, PU, PU, PU, PU, PU, PU] [] (G, M, T) K ↔ pm_Call d 45 [.inr (.inr (.inl l6)), .inl 0, .inl 18] (G, M, T) (fun r S1 => pm_Run d 114 39 [.inr (.inr (.inl l0)), .inr (.inr (.inl l1)), .inr (.inr (.inl l2)), .inl l3, .inl l4, .inl l5, .inr (.inr (.inl l6)), .inl l7, PU, PU, PU, PU, PU, PU, PU] (pm_push r []) S1 K) := by
  refine (px_go (by decide +kernel : pm_fe 114 31 = some (.aload 6, 2)) rfl).trans ?_
  refine (px_go (by decide +kernel : pm_fe 114 33 = some (.iconst 0, 1)) rfl).trans ?_
  refine (px_go (by decide +kernel : pm_fe 114 34 = some (.bipush 18, 2)) rfl).trans ?_
  refine (px_v2 (idx := 51) (m' := 45) (ci := 3) (by decide +kernel)).trans ((and_iff_right ⟨h1, (by simp [pm_wl_n, pm_wl_c, pm_w] : pm_wl [] ≤ 8)⟩).trans ?_)
  exact Iff.rfl
theorem b114_39 {d : Nat} {G : PG} {M T : PH} {K : PV → PS → Prop} {l0 l1 l2 l3 l4 l5 l6 l7 s0 : Int} : pm_Run d 114 39 [.inr (.inr (.inl l0)), .inr (.inr (.inl l1)), .inr (.inr (.inl l2)), .inl l3, .inl l4, .inl l5, .inr (.inr (.inl l6)), .inl l7, PU, PU, PU, PU, PU, PU, PU] [.inl s0] (G, M, T) K ↔ if pm_sg s0 = 0 then pm_Run d 114 46 [.inr (.inr (.inl l0)), .inr (.inr (.inl l1)), .inr (.inr (.inl l2)), .inl l3, .inl l4, .inl l5, .inr (.inr (.inl l6)), .inl l7, PU, PU, PU, PU, PU, PU, PU] [] (G, M, T) K else pm_Run d 114 42 [.inr (.inr (.inl l0)), .inr (.inr (.inl l1)), .inr (.inr (.inl l2)), .inl l3, .inl l4, .inl l5, .inr (.inr (.inl l6)), .inl l7, PU, PU, PU, PU, PU, PU, PU] [] (G, M, T) K := by
  refine (px_if_eq (off := 7) (tgt := 46) (by decide +kernel)).trans ?_
  exact Iff.rfl
theorem b114_42 {d : Nat} {G : PG} {M T : PH} {K : PV → PS → Prop} {l0 l1 l2 l3 l4 l5 l6 l7 : Int} : pm_Run d 114 42 [.inr (.inr (.inl l0)), .inr (.inr (.inl l1)), .inr (.inr (.inl l2)), .inl l3, .inl l4, .inl l5, .inr (.inr (.inl l6)), .inl l7, PU, PU, PU, PU, PU, PU, PU] [] (G, M, T) K ↔ pm_Run d 114 47 [.inr (.inr (.inl l0)), .inr (.inr (.inl l1)), .inr (.inr (.inl l2)), .inl l3, .inl l4, .inl l5, .inr (.inr (.inl l6)), .inl l7, PU, PU, PU, PU, PU, PU, PU] [.inl 1] (G, M, T) K := by
  refine (px_go (by decide +kernel : pm_fe 114 42 = some (.iconst 1, 1)) rfl).trans ?_
  refine (px_goto (off := 4) (tgt := 47) (by decide +kernel)).trans ?_
  exact Iff.rfl
theorem b114_46 {d : Nat} {G : PG} {M T : PH} {K : PV → PS → Prop} {l0 l1 l2 l3 l4 l5 l6 l7 : Int} : pm_Run d 114 46 [.inr (.inr (.inl l0)), .inr (.inr (.inl l1)), .inr (.inr (.inl l2)), .inl l3, .inl l4, .inl l5, .inr (.inr (.inl l6)), .inl l7, PU, PU, PU, PU, PU, PU, PU] [] (G, M, T) K ↔ pm_Run d 114 47 [.inr (.inr (.inl l0)), .inr (.inr (.inl l1)), .inr (.inr (.inl l2)), .inl l3, .inl l4, .inl l5, .inr (.inr (.inl l6)), .inl l7, PU, PU, PU, PU, PU, PU, PU] [.inl 0] (G, M, T) K := by
  refine (px_go (by decide +kernel : pm_fe 114 46 = some (.iconst 0, 1)) rfl).trans ?_
  exact Iff.rfl
theorem b114_47 {d : Nat} {G : PG} {M T : PH} {K : PV → PS → Prop} {l0 l1 l2 l3 l4 l5 l6 l7 s0 : Int} (h1 : pm_ob G l2 5) (h2 : pm_ar G (T l2.toNat 1) 100 l3) : pm_Run d 114 47 [.inr (.inr (.inl l0)), .inr (.inr (.inl l1)), .inr (.inr (.inl l2)), .inl l3, .inl l4, .inl l5, .inr (.inr (.inl l6)), .inl l7, PU, PU, PU, PU, PU, PU, PU] [.inl s0] (G, M, T) K ↔ if pm_sg l7 = 0 then pm_Run d 114 80 [.inr (.inr (.inl l0)), .inr (.inr (.inl l1)), .inr (.inr (.inl l2)), .inl l3, .inl l4, .inl l5, .inr (.inr (.inl l6)), .inl l7, .inl s0, .inl (l3 * 24), .inl (M (T l2.toNat 1).toNat (pm_sg l3).toNat), .inl 0, PU, PU, PU] [] (G, M, T) K else pm_Run d 114 71 [.inr (.inr (.inl l0)), .inr (.inr (.inl l1)), .inr (.inr (.inl l2)), .inl l3, .inl l4, .inl l5, .inr (.inr (.inl l6)), .inl l7, .inl s0, .inl (l3 * 24), .inl (M (T l2.toNat 1).toNat (pm_sg l3).toNat), .inl 0, PU, PU, PU] [] (G, M, T) K := by
  refine (px_go (by decide +kernel : pm_fe 114 47 = some (.istore 8, 2)) rfl).trans ?_
  refine (px_go (by decide +kernel : pm_fe 114 49 = some (.iload_n 3, 1)) rfl).trans ?_
  refine (px_go (by decide +kernel : pm_fe 114 50 = some (.bipush 24, 2)) rfl).trans ?_
  refine (px_go (by decide +kernel : pm_fe 114 52 = some (.imul, 1)) rfl).trans ?_
  refine (px_go (by decide +kernel : pm_fe 114 53 = some (.istore 9, 2)) rfl).trans ?_
  refine (px_go (by decide +kernel : pm_fe 114 55 = some (.aload_n 2, 1)) rfl).trans ?_
  refine (px_get2 (idx := 55) (ci := 5) (k := 1) (by decide +kernel)).trans ((and_iff_right h1).trans ?_)
  refine (px_go (by decide +kernel : pm_fe 114 59 = some (.iload_n 3, 1)) rfl).trans ?_
  refine (px_iaload (by decide +kernel) h2).trans ?_
  refine (px_go (by decide +kernel : pm_fe 114 61 = some (.istore 10, 2)) rfl).trans ?_
  refine (px_go (by decide +kernel : pm_fe 114 63 = some (.iconst 0, 1)) rfl).trans ?_
  refine (px_go (by decide +kernel : pm_fe 114 64 = some (.istore 11, 2)) rfl).trans ?_
  refine (px_go (by decide +kernel : pm_fe 114 66 = some (.iload 7, 2)) rfl).trans ?_
  refine (px_if_eq (off := 12) (tgt := 80) (by decide +kernel)).trans ?_
  exact Iff.rfl
theorem b114_71 {d : Nat} {G : PG} {M T : PH} {K : PV → PS → Prop} {l0 l1 l2 l3 l4 l5 l6 l7 l8 l9 l10 l11 : Int} (h1 : pm_ob G l1 1) : pm_Run d 114 71 [.inr (.inr (.inl l0)), .inr (.inr (.inl l1)), .inr (.inr (.inl l2)), .inl l3, .inl l4, .inl l5, .inr (.inr (.inl l6)), .inl l7, .inl l8, .inl l9, .inl l10, .inl l11, PU, PU, PU] [] (G, M, T) K ↔ pm_Run d 114 86 [.inr (.inr (.inl l0)), .inr (.inr (.inl l1)), .inr (.inr (.inl l2)), .inl l3, .inl l4, .inl l5, .inr (.inr (.inl l6)), .inl l7, .inl l8, .inl l9, .inl l10, .inl l11, PU, PU, PU] [.inl ((M l1.toNat 0) - 1)] (G, M, T) K := by
  refine (px_go (by decide +kernel : pm_fe 114 71 = some (.aload_n 1, 1)) rfl).trans ?_
  refine (px_get0 (idx := 58) (ci := 1) (k := 0) (by decide +kernel)).trans ((and_iff_right h1).trans ?_)
  refine (px_go (by decide +kernel : pm_fe 114 75 = some (.iconst 1, 1)) rfl).trans ?_
  refine (px_go (by decide +kernel : pm_fe 114 76 = some (.isub, 1)) rfl).trans ?_
  refine (px_goto (off := 9) (tgt := 86) (by decide +kernel)).trans ?_
  exact Iff.rfl
theorem b114_80 {d : Nat} {G : PG} {M T : PH} {K : PV → PS → Prop} {l0 l1 l2 l3 l4 l5 l6 l7 l8 l9 l10 l11 : Int} (h1 : pm_ob G l1 1) : pm_Run d 114 80 [.inr (.inr (.inl l0)), .inr (.inr (.inl l1)), .inr (.inr (.inl l2)), .inl l3, .inl l4, .inl l5, .inr (.inr (.inl l6)), .inl l7, .inl l8, .inl l9, .inl l10, .inl l11, PU, PU, PU] [] (G, M, T) K ↔ pm_Run d 114 86 [.inr (.inr (.inl l0)), .inr (.inr (.inl l1)), .inr (.inr (.inl l2)), .inl l3, .inl l4, .inl l5, .inr (.inr (.inl l6)), .inl l7, .inl l8, .inl l9, .inl l10, .inl l11, PU, PU, PU] [.inl (pm_div (M l1.toNat 0) 2)] (G, M, T) K := by
  refine (px_go (by decide +kernel : pm_fe 114 80 = some (.aload_n 1, 1)) rfl).trans ?_
  refine (px_get0 (idx := 58) (ci := 1) (k := 0) (by decide +kernel)).trans ((and_iff_right h1).trans ?_)
  refine (px_go (by decide +kernel : pm_fe 114 84 = some (.iconst 2, 1)) rfl).trans ?_
  refine (px_idiv (by decide +kernel)).trans ((and_iff_right (by decide : pm_sg (2 : Int) ≠ (0 : Int))).trans ?_)
  exact Iff.rfl
theorem b114_86 {d : Nat} {G : PG} {M T : PH} {K : PV → PS → Prop} {l0 l1 l2 l3 l4 l5 l6 l7 l8 l9 l10 l11 s0 : Int} : pm_Run d 114 86 [.inr (.inr (.inl l0)), .inr (.inr (.inl l1)), .inr (.inr (.inl l2)), .inl l3, .inl l4, .inl l5, .inr (.inr (.inl l6)), .inl l7, .inl l8, .inl l9, .inl l10, .inl l11, PU, PU, PU] [.inl s0] (G, M, T) K ↔ pm_Run d 114 91 [.inr (.inr (.inl l0)), .inr (.inr (.inl l1)), .inr (.inr (.inl l2)), .inl l3, .inl l4, .inl l5, .inr (.inr (.inl l6)), .inl l7, .inl l8, .inl l9, .inl l10, .inl l11, .inl s0, .inl 0, PU] [] (G, M, T) K := by
  refine (px_go (by decide +kernel : pm_fe 114 86 = some (.istore 12, 2)) rfl).trans ?_
  refine (px_go (by decide +kernel : pm_fe 114 88 = some (.iconst 0, 1)) rfl).trans ?_
  refine (px_go (by decide +kernel : pm_fe 114 89 = some (.istore 13, 2)) rfl).trans ?_
  exact Iff.rfl
theorem b114_91 {d : Nat} {G : PG} {M T : PH} {K : PV → PS → Prop} {l0 l1 l2 l3 l4 l5 l6 l7 l8 l9 l10 l11 l12 l13 : Int} {l14 : PV} : pm_Run d 114 91 [.inr (.inr (.inl l0)), .inr (.inr (.inl l1)), .inr (.inr (.inl l2)), .inl l3, .inl l4, .inl l5, .inr (.inr (.inl l6)), .inl l7, .inl l8, .inl l9, .inl l10, .inl l11, .inl l12, .inl l13, l14] [] (G, M, T) K ↔ if pm_sg l12 < pm_sg l13 then pm_Run d 114 220 [.inr (.inr (.inl l0)), .inr (.inr (.inl l1)), .inr (.inr (.inl l2)), .inl l3, .inl l4, .inl l5, .inr (.inr (.inl l6)), .inl l7, .inl l8, .inl l9, .inl l10, .inl l11, .inl l12, .inl l13, l14] [] (G, M, T) K else pm_Run d 114 98 [.inr (.inr (.inl l0)), .inr (.inr (.inl l1)), .inr (.inr (.inl l2)), .inl l3, .inl l4, .inl l5, .inr (.inr (.inl l6)), .inl l7, .inl l8, .inl l9, .inl l10, .inl l11, .inl l12, .inl l13, l14] [] (G, M, T) K := by
  refine (px_go (by decide +kernel : pm_fe 114 91 = some (.iload 13, 2)) rfl).trans ?_
  refine (px_go (by decide +kernel : pm_fe 114 93 = some (.iload 12, 2)) rfl).trans ?_
  refine (px_ic_gt (off := 125) (tgt := 220) (by decide +kernel)).trans ?_
  exact Iff.rfl
theorem b114_98 {d : Nat} {G : PG} {M T : PH} {K : PV → PS → Prop} {l0 l1 l2 l3 l4 l5 l6 l7 l8 l9 l10 l11 l12 l13 : Int} {l14 : PV} (h1 : pm_ob G l1 1) : pm_Run d 114 98 [.inr (.inr (.inl l0)), .inr (.inr (.inl l1)), .inr (.inr (.inl l2)), .inl l3, .inl l4, .inl l5, .inr (.inr (.inl l6)), .inl l7, .inl l8, .inl l9, .inl l10, .inl l11, .inl l12, .inl l13, l14] [] (G, M, T) K ↔ if pm_sg (M l1.toNat 0) ≤ 0 then pm_Run d 114 220 [.inr (.inr (.inl l0)), .inr (.inr (.inl l1)), .inr (.inr (.inl l2)), .inl l3, .inl l4, .inl l5, .inr (.inr (.inl l6)), .inl l7, .inl l8, .inl l9, .inl l10, .inl l11, .inl l12, .inl l13, l14] [] (G, M, T) K else pm_Run d 114 105 [.inr (.inr (.inl l0)), .inr (.inr (.inl l1)), .inr (.inr (.inl l2)), .inl l3, .inl l4, .inl l5, .inr (.inr (.inl l6)), .inl l7, .inl l8, .inl l9, .inl l10, .inl l11, .inl l12, .inl l13, l14] [] (G, M, T) K := by
  refine (px_go (by decide +kernel : pm_fe 114 98 = some (.aload_n 1, 1)) rfl).trans ?_
  refine (px_get0 (idx := 58) (ci := 1) (k := 0) (by decide +kernel)).trans ((and_iff_right h1).trans ?_)
  refine (px_if_le (off := 118) (tgt := 220) (by decide +kernel)).trans ?_
  exact Iff.rfl
theorem b114_105 {d : Nat} {G : PG} {M T : PH} {K : PV → PS → Prop} {l0 l1 l2 l3 l4 l5 l6 l7 l8 l9 l10 l11 l12 l13 : Int} {l14 : PV} (h1 : pm_ob G l1 1) (h2 : pm_sg (M l1.toNat 0) ≠ 0) : pm_Run d 114 105 [.inr (.inr (.inl l0)), .inr (.inr (.inl l1)), .inr (.inr (.inl l2)), .inl l3, .inl l4, .inl l5, .inr (.inr (.inl l6)), .inl l7, .inl l8, .inl l9, .inl l10, .inl l11, .inl l12, .inl l13, l14] [] (G, M, T) K ↔ if pm_sg l8 ≠ 0 then pm_Run d 114 127 [.inr (.inr (.inl l0)), .inr (.inr (.inl l1)), .inr (.inr (.inl l2)), .inl l3, .inl l4, .inl l5, .inr (.inr (.inl l6)), .inl l7, .inl l8, .inl l9, .inl l10, .inl l11, .inl l12, .inl l13, .inl (pm_rem (l10 + l13) (M l1.toNat 0))] [] (G, M, T) K else pm_Run d 114 122 [.inr (.inr (.inl l0)), .inr (.inr (.inl l1)), .inr (.inr (.inl l2)), .inl l3, .inl l4, .inl l5, .inr (.inr (.inl l6)), .inl l7, .inl l8, .inl l9, .inl l10, .inl l11, .inl l12, .inl l13, .inl (pm_rem (l10 + l13) (M l1.toNat 0))] [] (G, M, T) K := by
  refine (px_go (by decide +kernel : pm_fe 114 105 = some (.iload 10, 2)) rfl).trans ?_
  refine (px_go (by decide +kernel : pm_fe 114 107 = some (.iload 13, 2)) rfl).trans ?_
  refine (px_go (by decide +kernel : pm_fe 114 109 = some (.iadd, 1)) rfl).trans ?_
  refine (px_go (by decide +kernel : pm_fe 114 110 = some (.aload_n 1, 1)) rfl).trans ?_
  refine (px_get0 (idx := 58) (ci := 1) (k := 0) (by decide +kernel)).trans ((and_iff_right h1).trans ?_)
  refine (px_irem (by decide +kernel)).trans ((and_iff_right h2).trans ?_)
  refine (px_go (by decide +kernel : pm_fe 114 115 = some (.istore 14, 2)) rfl).trans ?_
  refine (px_go (by decide +kernel : pm_fe 114 117 = some (.iload 8, 2)) rfl).trans ?_
  refine (px_if_ne (off := 8) (tgt := 127) (by decide +kernel)).trans ?_
  exact Iff.rfl
theorem b114_122 {d : Nat} {G : PG} {M T : PH} {K : PV → PS → Prop} {l0 l1 l2 l3 l4 l5 l6 l7 l8 l9 l10 l11 l12 l13 l14 : Int} : pm_Run d 114 122 [.inr (.inr (.inl l0)), .inr (.inr (.inl l1)), .inr (.inr (.inl l2)), .inl l3, .inl l4, .inl l5, .inr (.inr (.inl l6)), .inl l7, .inl l8, .inl l9, .inl l10, .inl l11, .inl l12, .inl l13, .inl l14] [] (G, M, T) K ↔ if pm_sg l13 ≠ 0 then pm_Run d 114 172 [.inr (.inr (.inl l0)), .inr (.inr (.inl l1)), .inr (.inr (.inl l2)), .inl l3, .inl l4, .inl l5, .inr (.inr (.inl l6)), .inl l7, .inl l8, .inl l9, .inl l10, .inl l11, .inl l12, .inl l13, .inl l14] [] (G, M, T) K else pm_Run d 114 127 [.inr (.inr (.inl l0)), .inr (.inr (.inl l1)), .inr (.inr (.inl l2)), .inl l3, .inl l4, .inl l5, .inr (.inr (.inl l6)), .inl l7, .inl l8, .inl l9, .inl l10, .inl l11, .inl l12, .inl l13, .inl l14] [] (G, M, T) K := by
  refine (px_go (by decide +kernel : pm_fe 114 122 = some (.iload 13, 2)) rfl).trans ?_
  refine (px_if_ne (off := 48) (tgt := 172) (by decide +kernel)).trans ?_
  exact Iff.rfl
theorem b114_127 {d : Nat} {G : PG} {M T : PH} {K : PV → PS → Prop} {l0 l1 l2 l3 l4 l5 l6 l7 l8 l9 l10 l11 l12 l13 l14 : Int} (h1 : pm_ob G l6 3) (h2 : pm_ob G l1 1) (h3 : pm_ar G (T l6.toNat 4) 100 18) (h4 : pm_ar G (T l6.toNat 4) 100 22) : pm_Run d 114 127 [.inr (.inr (.inl l0)), .inr (.inr (.inl l1)), .inr (.inr (.inl l2)), .inl l3, .inl l4, .inl l5, .inr (.inr (.inl l6)), .inl l7, .inl l8, .inl l9, .inl l10, .inl l11, .inl l12, .inl l13, .inl l14] [] (G, M, T) K ↔ pm_Run d 114 157 [.inr (.inr (.inl l0)), .inr (.inr (.inl l1)), .inr (.inr (.inl l2)), .inl l3, .inl l4, .inl l5, .inr (.inr (.inl l6)), .inl l7, .inl l8, .inl l9, .inl l10, .inl l11, .inl l12, .inl l13, .inl l14] [] (G, pm_sa (pm_sa M (T l6.toNat 4).toNat (pm_up (M (T l6.toNat 4).toNat) (pm_sg 18).toNat (pm_mn l13 ((M l1.toNat 0) - l13)))) (T l6.toNat 4).toNat (pm_up ((pm_sa M (T l6.toNat 4).toNat (pm_up (M (T l6.toNat 4).toNat) (pm_sg 18).toNat (pm_mn l13 ((M l1.toNat 0) - l13)))) (T l6.toNat 4).toNat) (pm_sg 22).toNat l14), T) K := by
  refine (px_go (by decide +kernel : pm_fe 114 127 = some (.aload 6, 2)) rfl).trans ?_
  refine (px_get2 (idx := 61) (ci := 3) (k := 4) (by decide +kernel)).trans ((and_iff_right h1).trans ?_)
  refine (px_go (by decide +kernel : pm_fe 114 132 = some (.bipush 18, 2)) rfl).trans ?_
  refine (px_go (by decide +kernel : pm_fe 114 134 = some (.iload 13, 2)) rfl).trans ?_
  refine (px_go (by decide +kernel : pm_fe 114 136 = some (.aload_n 1, 1)) rfl).trans ?_
  refine (px_get0 (idx := 58) (ci := 1) (k := 0) (by decide +kernel)).trans ((and_iff_right h2).trans ?_)
  refine (px_go (by decide +kernel : pm_fe 114 140 = some (.iload 13, 2)) rfl).trans ?_
  refine (px_go (by decide +kernel : pm_fe 114 142 = some (.isub, 1)) rfl).trans ?_
  refine (px_m906 (idx := 64) (by decide +kernel)).trans ((and_iff_right (by simp [pm_wl_n, pm_wl_c, pm_w] : pm_wl [.inl 18, .inr (.inr (.inl (T l6.toNat 4)))] ≤ 8)).trans ?_)
  refine (px_iastore (by decide +kernel)).trans ((and_iff_right h3).trans ?_)
  refine (px_go (by decide +kernel : pm_fe 114 147 = some (.aload 6, 2)) rfl).trans ?_
  refine (px_get2 (idx := 61) (ci := 3) (k := 4) (by decide +kernel)).trans ((and_iff_right h1).trans ?_)
  refine (px_go (by decide +kernel : pm_fe 114 152 = some (.bipush 22, 2)) rfl).trans ?_
  refine (px_go (by decide +kernel : pm_fe 114 154 = some (.iload 14, 2)) rfl).trans ?_
  refine (px_iastore (by decide +kernel)).trans ((and_iff_right h4).trans ?_)
  exact Iff.rfl
theorem b114_157 {d : Nat} {G : PG} {M T : PH} {K : PV → PS → Prop} {l0 l1 l2 l3 l4 l5 l6 l7 l8 l9 l10 l11 l12 l13 l14 : Int} (h1 : pm_ob G l6 3) : pm_Run d 114 157 [.inr (.inr (.inl l0)), .inr (.inr (.inl l1)), .inr (.inr (.inl l2)), .inl l3, .inl l4, .inl l5, .inr (.inr (.inl l6)), .inl l7, .inl l8, .inl l9, .inl l10, .inl l11, .inl l12, .inl l13, .inl l14] [] (G, M, T) K ↔ pm_Call d 46 [.inr (.inr (.inl l6)), .inl 0] (G, M, T) (fun r S1 => pm_Run d 114 165 [.inr (.inr (.inl l0)), .inr (.inr (.inl l1)), .inr (.inr (.inl l2)), .inl l3, .inl l4, .inl l5, .inr (.inr (.inl l6)), .inl l7, .inl l8, .inl l9, .inl l10, .inl l11, .inl l12, .inl l13, .inl l14] (pm_push r [.inl (-99)]) S1 K) := by
  refine (px_go (by decide +kernel : pm_fe 114 157 = some (.bipush (-99), 2)) rfl).trans ?_
  refine (px_go (by decide +kernel : pm_fe 114 159 = some (.aload 6, 2)) rfl).trans ?_
  refine (px_go (by decide +kernel : pm_fe 114 161 = some (.iconst 0, 1)) rfl).trans ?_
  refine (px_v1 (idx := 70) (m' := 46) (ci := 3) (by decide +kernel)).trans ((and_iff_right ⟨h1, (by simp [pm_wl_n, pm_wl_c, pm_w] : pm_wl [.inl (-99)] ≤ 8)⟩).trans ?_)
  exact Iff.rfl
theorem b114_165 {d : Nat} {G : PG} {M T : PH} {K : PV → PS → Prop} {l0 l1 l2 l3 l4 l5 l6 l7 l8 l9 l10 l11 l12 l13 l14 s0 s1 : Int} : pm_Run d 114 165 [.inr (.inr (.inl l0)), .inr (.inr (.inl l1)), .inr (.inr (.inl l2)), .inl l3, .inl l4, .inl l5, .inr (.inr (.inl l6)), .inl l7, .inl l8, .inl l9, .inl l10, .inl l11, .inl l12, .inl l13, .inl l14] [.inl s0, .inl s1] (G, M, T) K ↔ pm_Call d 177 [.inl s1, .inl s0, .inl 99] (G, M, T) (fun r S1 => pm_Run d 114 170 [.inr (.inr (.inl l0)), .inr (.inr (.inl l1)), .inr (.inr (.inl l2)), .inl l3, .inl l4, .inl l5, .inr (.inr (.inl l6)), .inl l7, .inl l8, .inl l9, .inl l10, .inl l11, .inl l12, .inl l13, .inl l14] (pm_push r []) S1 K) := by
  refine (px_go (by decide +kernel : pm_fe 114 165 = some (.bipush 99, 2)) rfl).trans ?_
  refine (px_s3 (idx := 73) (m' := 177) (nest := 1) (by decide +kernel)).trans ((and_iff_right (by simp [pm_wl_n, pm_wl_c, pm_w] : pm_wl [] ≤ 8)).trans ?_)
  exact Iff.rfl
theorem b114_170 {d : Nat} {G : PG} {M T : PH} {K : PV → PS → Prop} {l0 l1 l2 l3 l4 l5 l6 l7 l8 l9 l10 l11 l12 l13 l14 s0 : Int} : pm_Run d 114 170 [.inr (.inr (.inl l0)), .inr (.inr (.inl l1)), .inr (.inr (.inl l2)), .inl l3, .inl l4, .inl l5, .inr (.inr (.inl l6)), .inl l7, .inl l8, .inl l9, .inl l10, .inl l11, .inl l12, .inl l13, .inl l14] [.inl s0] (G, M, T) K ↔ pm_Run d 114 172 [.inr (.inr (.inl l0)), .inr (.inr (.inl l1)), .inr (.inr (.inl l2)), .inl l3, .inl l4, .inl l5, .inr (.inr (.inl l6)), .inl l7, .inl l8, .inl l9, .inl l10, .inl s0, .inl l12, .inl l13, .inl l14] [] (G, M, T) K := by
  refine (px_go (by decide +kernel : pm_fe 114 170 = some (.istore 11, 2)) rfl).trans ?_
  exact Iff.rfl
theorem b114_172 {d : Nat} {G : PG} {M T : PH} {K : PV → PS → Prop} {l0 l1 l2 l3 l4 l5 l6 l7 l8 l9 l10 l11 l12 l13 l14 : Int} (h1 : pm_ob G l0 9) (h2 : pm_ar G (T l0.toNat 0) 100 (l9 + l14)) : pm_Run d 114 172 [.inr (.inr (.inl l0)), .inr (.inr (.inl l1)), .inr (.inr (.inl l2)), .inl l3, .inl l4, .inl l5, .inr (.inr (.inl l6)), .inl l7, .inl l8, .inl l9, .inl l10, .inl l11, .inl l12, .inl l13, .inl l14] [] (G, M, T) K ↔ if pm_sg l7 ≠ 0 then pm_Run d 114 214 [.inr (.inr (.inl l0)), .inr (.inr (.inl l1)), .inr (.inr (.inl l2)), .inl l3, .inl l4, .inl l5, .inr (.inr (.inl l6)), .inl l7, .inl l8, .inl l9, .inl l10, .inl l11, .inl l12, .inl l13, .inl l14] [] (G, pm_sa M (T l0.toNat 0).toNat (pm_up (M (T l0.toNat 0).toNat) (pm_sg (l9 + l14)).toNat l11), T) K else pm_Run d 114 189 [.inr (.inr (.inl l0)), .inr (.inr (.inl l1)), .inr (.inr (.inl l2)), .inl l3, .inl l4, .inl l5, .inr (.inr (.inl l6)), .inl l7, .inl l8, .inl l9, .inl l10, .inl l11, .inl l12, .inl l13, .inl l14] [] (G, pm_sa M (T l0.toNat 0).toNat (pm_up (M (T l0.toNat 0).toNat) (pm_sg (l9 + l14)).toNat l11), T) K := by
  refine (px_go (by decide +kernel : pm_fe 114 172 = some (.aload_n 0, 1)) rfl).trans ?_
  refine (px_get2 (idx := 9) (ci := 9) (k := 0) (by decide +kernel)).trans ((and_iff_right h1).trans ?_)
  refine (px_go (by decide +kernel : pm_fe 114 176 = some (.iload 9, 2)) rfl).trans ?_
  refine (px_go (by decide +kernel : pm_fe 114 178 = some (.iload 14, 2)) rfl).trans ?_
  refine (px_go (by decide +kernel : pm_fe 114 180 = some (.iadd, 1)) rfl).trans ?_
  refine (px_go (by decide +kernel : pm_fe 114 181 = some (.iload 11, 2)) rfl).trans ?_
  refine (px_iastore (by decide +kernel)).trans ((and_iff_right h2).trans ?_)
  refine (px_go (by decide +kernel : pm_fe 114 184 = some (.iload 7, 2)) rfl).trans ?_
  refine (px_if_ne (off := 28) (tgt := 214) (by decide +kernel)).trans ?_
  exact Iff.rfl
theorem b114_189 {d : Nat} {G : PG} {M T : PH} {K : PV → PS → Prop} {l0 l1 l2 l3 l4 l5 l6 l7 l8 l9 l10 l11 l12 l13 l14 : Int} (h1 : pm_ob G l0 9) (h2 : pm_ob G l1 1) (h3 : pm_sg (M l1.toNat 0) ≠ 0) (h4 : pm_ar G (T l0.toNat 0) 100 (l9 + (pm_rem ((l10 + (M l1.toNat 0)) - l13) (M l1.toNat 0)))) : pm_Run d 114 189 [.inr (.inr (.inl l0)), .inr (.inr (.inl l1)), .inr (.inr (.inl l2)), .inl l3, .inl l4, .inl l5, .inr (.inr (.inl l6)), .inl l7, .inl l8, .inl l9, .inl l10, .inl l11, .inl l12, .inl l13, .inl l14] [] (G, M, T) K ↔ pm_Run d 114 214 [.inr (.inr (.inl l0)), .inr (.inr (.inl l1)), .inr (.inr (.inl l2)), .inl l3, .inl l4, .inl l5, .inr (.inr (.inl l6)), .inl l7, .inl l8, .inl l9, .inl l10, .inl l11, .inl l12, .inl l13, .inl l14] [] (G, pm_sa M (T l0.toNat 0).toNat (pm_up (M (T l0.toNat 0).toNat) (pm_sg (l9 + (pm_rem ((l10 + (M l1.toNat 0)) - l13) (M l1.toNat 0)))).toNat l11), T) K := by
  refine (px_go (by decide +kernel : pm_fe 114 189 = some (.aload_n 0, 1)) rfl).trans ?_
  refine (px_get2 (idx := 9) (ci := 9) (k := 0) (by decide +kernel)).trans ((and_iff_right h1).trans ?_)
  refine (px_go (by decide +kernel : pm_fe 114 193 = some (.iload 9, 2)) rfl).trans ?_
  refine (px_go (by decide +kernel : pm_fe 114 195 = some (.iload 10, 2)) rfl).trans ?_
  refine (px_go (by decide +kernel : pm_fe 114 197 = some (.aload_n 1, 1)) rfl).trans ?_
  refine (px_get0 (idx := 58) (ci := 1) (k := 0) (by decide +kernel)).trans ((and_iff_right h2).trans ?_)
  refine (px_go (by decide +kernel : pm_fe 114 201 = some (.iadd, 1)) rfl).trans ?_
  refine (px_go (by decide +kernel : pm_fe 114 202 = some (.iload 13, 2)) rfl).trans ?_
  refine (px_go (by decide +kernel : pm_fe 114 204 = some (.isub, 1)) rfl).trans ?_
  refine (px_go (by decide +kernel : pm_fe 114 205 = some (.aload_n 1, 1)) rfl).trans ?_
  refine (px_get0 (idx := 58) (ci := 1) (k := 0) (by decide +kernel)).trans ((and_iff_right h2).trans ?_)
  refine (px_irem (by decide +kernel)).trans ((and_iff_right h3).trans ?_)
  refine (px_go (by decide +kernel : pm_fe 114 210 = some (.iadd, 1)) rfl).trans ?_
  refine (px_go (by decide +kernel : pm_fe 114 211 = some (.iload 11, 2)) rfl).trans ?_
  refine (px_iastore (by decide +kernel)).trans ((and_iff_right h4).trans ?_)
  exact Iff.rfl
theorem b114_214 {d : Nat} {G : PG} {M T : PH} {K : PV → PS → Prop} {l0 l1 l2 l3 l4 l5 l6 l7 l8 l9 l10 l11 l12 l13 l14 : Int} : pm_Run d 114 214 [.inr (.inr (.inl l0)), .inr (.inr (.inl l1)), .inr (.inr (.inl l2)), .inl l3, .inl l4, .inl l5, .inr (.inr (.inl l6)), .inl l7, .inl l8, .inl l9, .inl l10, .inl l11, .inl l12, .inl l13, .inl l14] [] (G, M, T) K ↔ pm_Run d 114 91 [.inr (.inr (.inl l0)), .inr (.inr (.inl l1)), .inr (.inr (.inl l2)), .inl l3, .inl l4, .inl l5, .inr (.inr (.inl l6)), .inl l7, .inl l8, .inl l9, .inl l10, .inl l11, .inl l12, .inl (l13 + 1), .inl l14] [] (G, M, T) K := by
  refine (px_go (by decide +kernel : pm_fe 114 214 = some (.iinc 13 1, 3)) rfl).trans ?_
  refine (px_goto (off := (-126)) (tgt := 91) (by decide +kernel)).trans ?_
  exact Iff.rfl
theorem b114_220 {d : Nat} {G : PG} {M T : PH} {K : PV → PS → Prop} {l0 l1 l2 l3 l4 l5 l6 l7 l8 l9 l10 l11 l12 l13 : Int} {l14 : PV} : pm_Run d 114 220 [.inr (.inr (.inl l0)), .inr (.inr (.inl l1)), .inr (.inr (.inl l2)), .inl l3, .inl l4, .inl l5, .inr (.inr (.inl l6)), .inl l7, .inl l8, .inl l9, .inl l10, .inl l11, .inl l12, .inl l13, l14] [] (G, M, T) K ↔ K PU (G, M, T) := by
  refine (px_rv (by decide +kernel)).trans ?_
  exact Iff.rfl
-- X9_totalOf totalOf(LMoonTender$Chart;I)I
theorem en115 {d : Nat} {a p0 p1 : Int} {S : PS} {K : PV → PS → Prop} : pm_Call (d + 1) 115 [.inr (.inr (.inl a)), .inr (.inr (.inl p0)), .inl p1] S K ↔ pm_Run d 115 0 [.inr (.inr (.inl a)), .inr (.inr (.inl p0)), .inl p1, PU, PU] [] S K := pm_Call_s.trans (and_iff_right (show 3 ≤ pm_ml 115 from by decide +kernel))
theorem b115_0 {d : Nat} {G : PG} {M T : PH} {K : PV → PS → Prop} {l0 l1 l2 : Int} : pm_Run d 115 0 [.inr (.inr (.inl l0)), .inr (.inr (.inl l1)), .inl l2, PU, PU] [] (G, M, T) K ↔ pm_Run d 115 5 [.inr (.inr (.inl l0)), .inr (.inr (.inl l1)), .inl l2, .inl 0, .inl 0] [] (G, M, T) K := by
  refine (px_go (by decide +kernel : pm_fe 115 0 = some (.iconst 0, 1)) rfl).trans ?_
  refine (px_go (by decide +kernel : pm_fe 115 1 = some (.istore_n 3, 1)) rfl).trans ?_
  refine (px_go (by decide +kernel : pm_fe 115 2 = some (.iconst 0, 1)) rfl).trans ?_
  refine (px_go (by decide +kernel : pm_fe 115 3 = some (.istore 4, 2)) rfl).trans ?_
  exact Iff.rfl
theorem b115_5 {d : Nat} {G : PG} {M T : PH} {K : PV → PS → Prop} {l0 l1 l2 l3 l4 : Int} (h1 : pm_ob G l1 1) : pm_Run d 115 5 [.inr (.inr (.inl l0)), .inr (.inr (.inl l1)), .inl l2, .inl l3, .inl l4] [] (G, M, T) K ↔ if pm_sg (M l1.toNat 0) ≤ pm_sg l4 then pm_Run d 115 35 [.inr (.inr (.inl l0)), .inr (.inr (.inl l1)), .inl l2, .inl l3, .inl l4] [] (G, M, T) K else pm_Run d 115 14 [.inr (.inr (.inl l0)), .inr (.inr (.inl l1)), .inl l2, .inl l3, .inl l4] [] (G, M, T) K := by
  refine (px_go (by decide +kernel : pm_fe 115 5 = some (.iload 4, 2)) rfl).trans ?_
  refine (px_go (by decide +kernel : pm_fe 115 7 = some (.aload_n 1, 1)) rfl).trans ?_
  refine (px_get0 (idx := 58) (ci := 1) (k := 0) (by decide +kernel)).trans ((and_iff_right h1).trans ?_)
  refine (px_ic_ge (off := 24) (tgt := 35) (by decide +kernel)).trans ?_
  exact Iff.rfl
theorem b115_14 {d : Nat} {G : PG} {M T : PH} {K : PV → PS → Prop} {l0 l1 l2 l3 l4 : Int} (h1 : pm_ob G l0 9) (h2 : pm_ar G (T l0.toNat 0) 100 ((l2 * 24) + l4)) : pm_Run d 115 14 [.inr (.inr (.inl l0)), .inr (.inr (.inl l1)), .inl l2, .inl l3, .inl l4] [] (G, M, T) K ↔ pm_Run d 115 5 [.inr (.inr (.inl l0)), .inr (.inr (.inl l1)), .inl l2, .inl (l3 + (M (T l0.toNat 0).toNat (pm_sg ((l2 * 24) + l4)).toNat)), .inl (l4 + 1)] [] (G, M, T) K := by
  refine (px_go (by decide +kernel : pm_fe 115 14 = some (.iload_n 3, 1)) rfl).trans ?_
  refine (px_go (by decide +kernel : pm_fe 115 15 = some (.aload_n 0, 1)) rfl).trans ?_
  refine (px_get2 (idx := 9) (ci := 9) (k := 0) (by decide +kernel)).trans ((and_iff_right h1).trans ?_)
  refine (px_go (by decide +kernel : pm_fe 115 19 = some (.iload_n 2, 1)) rfl).trans ?_
  refine (px_go (by decide +kernel : pm_fe 115 20 = some (.bipush 24, 2)) rfl).trans ?_
  refine (px_go (by decide +kernel : pm_fe 115 22 = some (.imul, 1)) rfl).trans ?_
  refine (px_go (by decide +kernel : pm_fe 115 23 = some (.iload 4, 2)) rfl).trans ?_
  refine (px_go (by decide +kernel : pm_fe 115 25 = some (.iadd, 1)) rfl).trans ?_
  refine (px_iaload (by decide +kernel) h2).trans ?_
  refine (px_go (by decide +kernel : pm_fe 115 27 = some (.iadd, 1)) rfl).trans ?_
  refine (px_go (by decide +kernel : pm_fe 115 28 = some (.istore_n 3, 1)) rfl).trans ?_
  refine (px_go (by decide +kernel : pm_fe 115 29 = some (.iinc 4 1, 3)) rfl).trans ?_
  refine (px_goto (off := (-27)) (tgt := 5) (by decide +kernel)).trans ?_
  exact Iff.rfl
theorem b115_35 {d : Nat} {G : PG} {M T : PH} {K : PV → PS → Prop} {l0 l1 l2 l3 l4 : Int} : pm_Run d 115 35 [.inr (.inr (.inl l0)), .inr (.inr (.inl l1)), .inl l2, .inl l3, .inl l4] [] (G, M, T) K ↔ K (.inl l3) (G, M, T) := by
  refine (px_go (by decide +kernel : pm_fe 115 35 = some (.iload_n 3, 1)) rfl).trans ?_
  refine (px_ri (by decide +kernel)).trans ?_
  exact Iff.rfl
-- X9_settle settle(LMoonTender$Chart;)V
theorem en116 {d : Nat} {a p0 : Int} {S : PS} {K : PV → PS → Prop} : pm_Call (d + 1) 116 [.inr (.inr (.inl a)), .inr (.inr (.inl p0))] S K ↔ pm_Run d 116 0 [.inr (.inr (.inl a)), .inr (.inr (.inl p0)), PU, PU, PU, PU] [] S K := pm_Call_s.trans (and_iff_right (show 2 ≤ pm_ml 116 from by decide +kernel))
theorem b116_0 {d : Nat} {G : PG} {M T : PH} {K : PV → PS → Prop} {l0 l1 : Int} : pm_Run d 116 0 [.inr (.inr (.inl l0)), .inr (.inr (.inl l1)), PU, PU, PU, PU] [] (G, M, T) K ↔ pm_Run d 116 4 [.inr (.inr (.inl l0)), .inr (.inr (.inl l1)), .inl 0, .inl 0, PU, PU] [] (G, M, T) K := by
  refine (px_go (by decide +kernel : pm_fe 116 0 = some (.iconst 0, 1)) rfl).trans ?_
  refine (px_go (by decide +kernel : pm_fe 116 1 = some (.istore_n 2, 1)) rfl).trans ?_
  refine (px_go (by decide +kernel : pm_fe 116 2 = some (.iconst 0, 1)) rfl).trans ?_
  refine (px_go (by decide +kernel : pm_fe 116 3 = some (.istore_n 3, 1)) rfl).trans ?_
  exact Iff.rfl
theorem b116_4 {d : Nat} {G : PG} {M T : PH} {K : PV → PS → Prop} {l0 l1 l2 l3 : Int} (h1 : pm_ob G l1 1) : pm_Run d 116 4 [.inr (.inr (.inl l0)), .inr (.inr (.inl l1)), .inl l2, .inl l3, PU, PU] [] (G, M, T) K ↔ if pm_sg (M l1.toNat 1) ≤ pm_sg l3 then pm_Run d 116 27 [.inr (.inr (.inl l0)), .inr (.inr (.inl l1)), .inl l2, .inl l3, PU, PU] [] (G, M, T) K else pm_Run d 116 12 [.inr (.inr (.inl l0)), .inr (.inr (.inl l1)), .inl l2, .inl l3, PU, PU] [] (G, M, T) K := by
  refine (px_go (by decide +kernel : pm_fe 116 4 = some (.iload_n 3, 1)) rfl).trans ?_
  refine (px_go (by decide +kernel : pm_fe 116 5 = some (.aload_n 1, 1)) rfl).trans ?_
  refine (px_get0 (idx := 24) (ci := 1) (k := 1) (by decide +kernel)).trans ((and_iff_right h1).trans ?_)
  refine (px_ic_ge (off := 18) (tgt := 27) (by decide +kernel)).trans ?_
  exact Iff.rfl
theorem b116_12 {d : Nat} {G : PG} {M T : PH} {K : PV → PS → Prop} {l0 l1 l2 l3 : Int} (h1 : pm_ob G l0 9) : pm_Run d 116 12 [.inr (.inr (.inl l0)), .inr (.inr (.inl l1)), .inl l2, .inl l3, PU, PU] [] (G, M, T) K ↔ pm_Call d 115 [.inr (.inr (.inl l0)), .inr (.inr (.inl l1)), .inl l3] (G, M, T) (fun r S1 => pm_Run d 116 19 [.inr (.inr (.inl l0)), .inr (.inr (.inl l1)), .inl l2, .inl l3, PU, PU] (pm_push r [.inl l2]) S1 K) := by
  refine (px_go (by decide +kernel : pm_fe 116 12 = some (.iload_n 2, 1)) rfl).trans ?_
  refine (px_go (by decide +kernel : pm_fe 116 13 = some (.aload_n 0, 1)) rfl).trans ?_
  refine (px_go (by decide +kernel : pm_fe 116 14 = some (.aload_n 1, 1)) rfl).trans ?_
  refine (px_go (by decide +kernel : pm_fe 116 15 = some (.iload_n 3, 1)) rfl).trans ?_
  refine (px_v2 (idx := 77) (m' := 115) (ci := 9) (by decide +kernel)).trans ((and_iff_right ⟨h1, (by simp [pm_wl_n, pm_wl_c, pm_w] : pm_wl [.inl l2] ≤ 8)⟩).trans ?_)
  exact Iff.rfl
theorem b116_19 {d : Nat} {G : PG} {M T : PH} {K : PV → PS → Prop} {l0 l1 l2 l3 s0 s1 : Int} : pm_Run d 116 19 [.inr (.inr (.inl l0)), .inr (.inr (.inl l1)), .inl l2, .inl l3, PU, PU] [.inl s0, .inl s1] (G, M, T) K ↔ pm_Run d 116 4 [.inr (.inr (.inl l0)), .inr (.inr (.inl l1)), .inl (s1 + s0), .inl (l3 + 1), PU, PU] [] (G, M, T) K := by
  refine (px_go (by decide +kernel : pm_fe 116 19 = some (.iadd, 1)) rfl).trans ?_
  refine (px_go (by decide +kernel : pm_fe 116 20 = some (.istore_n 2, 1)) rfl).trans ?_
  refine (px_go (by decide +kernel : pm_fe 116 21 = some (.iinc 3 1, 3)) rfl).trans ?_
  refine (px_goto (off := (-20)) (tgt := 4) (by decide +kernel)).trans ?_
  exact Iff.rfl
theorem b116_27 {d : Nat} {G : PG} {M T : PH} {K : PV → PS → Prop} {l0 l1 l2 l3 : Int} : pm_Run d 116 27 [.inr (.inr (.inl l0)), .inr (.inr (.inl l1)), .inl l2, .inl l3, PU, PU] [] (G, M, T) K ↔ pm_Run d 116 29 [.inr (.inr (.inl l0)), .inr (.inr (.inl l1)), .inl l2, .inl 0, PU, PU] [] (G, M, T) K := by
  refine (px_go (by decide +kernel : pm_fe 116 27 = some (.iconst 0, 1)) rfl).trans ?_
  refine (px_go (by decide +kernel : pm_fe 116 28 = some (.istore_n 3, 1)) rfl).trans ?_
  exact Iff.rfl
theorem b116_29 {d : Nat} {G : PG} {M T : PH} {K : PV → PS → Prop} {l0 l1 l2 l3 : Int} {l4 l5 : PV} (h1 : pm_ob G l1 1) : pm_Run d 116 29 [.inr (.inr (.inl l0)), .inr (.inr (.inl l1)), .inl l2, .inl l3, l4, l5] [] (G, M, T) K ↔ if pm_sg (M l1.toNat 0) ≤ pm_sg l3 then pm_Run d 116 95 [.inr (.inr (.inl l0)), .inr (.inr (.inl l1)), .inl l2, .inl l3, l4, l5] [] (G, M, T) K else pm_Run d 116 37 [.inr (.inr (.inl l0)), .inr (.inr (.inl l1)), .inl l2, .inl l3, l4, l5] [] (G, M, T) K := by
  refine (px_go (by decide +kernel : pm_fe 116 29 = some (.iload_n 3, 1)) rfl).trans ?_
  refine (px_go (by decide +kernel : pm_fe 116 30 = some (.aload_n 1, 1)) rfl).trans ?_
  refine (px_get0 (idx := 58) (ci := 1) (k := 0) (by decide +kernel)).trans ((and_iff_right h1).trans ?_)
  refine (px_ic_ge (off := 61) (tgt := 95) (by decide +kernel)).trans ?_
  exact Iff.rfl
theorem b116_37 {d : Nat} {G : PG} {M T : PH} {K : PV → PS → Prop} {l0 l1 l2 l3 : Int} {l4 l5 : PV} : pm_Run d 116 37 [.inr (.inr (.inl l0)), .inr (.inr (.inl l1)), .inl l2, .inl l3, l4, l5] [] (G, M, T) K ↔ pm_Run d 116 43 [.inr (.inr (.inl l0)), .inr (.inr (.inl l1)), .inl l2, .inl l3, .inl 0, .inl 0] [] (G, M, T) K := by
  refine (px_go (by decide +kernel : pm_fe 116 37 = some (.iconst 0, 1)) rfl).trans ?_
  refine (px_go (by decide +kernel : pm_fe 116 38 = some (.istore 4, 2)) rfl).trans ?_
  refine (px_go (by decide +kernel : pm_fe 116 40 = some (.iconst 0, 1)) rfl).trans ?_
  refine (px_go (by decide +kernel : pm_fe 116 41 = some (.istore 5, 2)) rfl).trans ?_
  exact Iff.rfl
theorem b116_43 {d : Nat} {G : PG} {M T : PH} {K : PV → PS → Prop} {l0 l1 l2 l3 l4 l5 : Int} (h1 : pm_ob G l1 1) : pm_Run d 116 43 [.inr (.inr (.inl l0)), .inr (.inr (.inl l1)), .inl l2, .inl l3, .inl l4, .inl l5] [] (G, M, T) K ↔ if pm_sg (M l1.toNat 1) ≤ pm_sg l5 then pm_Run d 116 75 [.inr (.inr (.inl l0)), .inr (.inr (.inl l1)), .inl l2, .inl l3, .inl l4, .inl l5] [] (G, M, T) K else pm_Run d 116 52 [.inr (.inr (.inl l0)), .inr (.inr (.inl l1)), .inl l2, .inl l3, .inl l4, .inl l5] [] (G, M, T) K := by
  refine (px_go (by decide +kernel : pm_fe 116 43 = some (.iload 5, 2)) rfl).trans ?_
  refine (px_go (by decide +kernel : pm_fe 116 45 = some (.aload_n 1, 1)) rfl).trans ?_
  refine (px_get0 (idx := 24) (ci := 1) (k := 1) (by decide +kernel)).trans ((and_iff_right h1).trans ?_)
  refine (px_ic_ge (off := 26) (tgt := 75) (by decide +kernel)).trans ?_
  exact Iff.rfl
theorem b116_52 {d : Nat} {G : PG} {M T : PH} {K : PV → PS → Prop} {l0 l1 l2 l3 l4 l5 : Int} (h1 : pm_ob G l0 9) (h2 : pm_ar G (T l0.toNat 0) 100 ((l5 * 24) + l3)) : pm_Run d 116 52 [.inr (.inr (.inl l0)), .inr (.inr (.inl l1)), .inl l2, .inl l3, .inl l4, .inl l5] [] (G, M, T) K ↔ pm_Run d 116 43 [.inr (.inr (.inl l0)), .inr (.inr (.inl l1)), .inl l2, .inl l3, .inl (l4 + (M (T l0.toNat 0).toNat (pm_sg ((l5 * 24) + l3)).toNat)), .inl (l5 + 1)] [] (G, M, T) K := by
  refine (px_go (by decide +kernel : pm_fe 116 52 = some (.iload 4, 2)) rfl).trans ?_
  refine (px_go (by decide +kernel : pm_fe 116 54 = some (.aload_n 0, 1)) rfl).trans ?_
  refine (px_get2 (idx := 9) (ci := 9) (k := 0) (by decide +kernel)).trans ((and_iff_right h1).trans ?_)
  refine (px_go (by decide +kernel : pm_fe 116 58 = some (.iload 5, 2)) rfl).trans ?_
  refine (px_go (by decide +kernel : pm_fe 116 60 = some (.bipush 24, 2)) rfl).trans ?_
  refine (px_go (by decide +kernel : pm_fe 116 62 = some (.imul, 1)) rfl).trans ?_
  refine (px_go (by decide +kernel : pm_fe 116 63 = some (.iload_n 3, 1)) rfl).trans ?_
  refine (px_go (by decide +kernel : pm_fe 116 64 = some (.iadd, 1)) rfl).trans ?_
  refine (px_iaload (by decide +kernel) h2).trans ?_
  refine (px_go (by decide +kernel : pm_fe 116 66 = some (.iadd, 1)) rfl).trans ?_
  refine (px_go (by decide +kernel : pm_fe 116 67 = some (.istore 4, 2)) rfl).trans ?_
  refine (px_go (by decide +kernel : pm_fe 116 69 = some (.iinc 5 1, 3)) rfl).trans ?_
  refine (px_goto (off := (-29)) (tgt := 43) (by decide +kernel)).trans ?_
  exact Iff.rfl
theorem b116_75 {d : Nat} {G : PG} {M T : PH} {K : PV → PS → Prop} {l0 l1 l2 l3 l4 l5 : Int} (h1 : pm_ob G l0 9) : pm_Run d 116 75 [.inr (.inr (.inl l0)), .inr (.inr (.inl l1)), .inl l2, .inl l3, .inl l4, .inl l5] [] (G, M, T) K ↔ pm_Call d 117 [.inr (.inr (.inl l1)), .inl l3, .inl l4, .inl l2] (G, M, T) (fun r S1 => pm_Run d 116 88 [.inr (.inr (.inl l0)), .inr (.inr (.inl l1)), .inl l2, .inl l3, .inl l4, .inl l5] (pm_push r [.inl l3, .inr (.inr (.inl (T l0.toNat 1)))]) S1 K) := by
  refine (px_go (by decide +kernel : pm_fe 116 75 = some (.aload_n 0, 1)) rfl).trans ?_
  refine (px_get2 (idx := 15) (ci := 9) (k := 1) (by decide +kernel)).trans ((and_iff_right h1).trans ?_)
  refine (px_go (by decide +kernel : pm_fe 116 79 = some (.iload_n 3, 1)) rfl).trans ?_
  refine (px_go (by decide +kernel : pm_fe 116 80 = some (.aload_n 1, 1)) rfl).trans ?_
  refine (px_go (by decide +kernel : pm_fe 116 81 = some (.iload_n 3, 1)) rfl).trans ?_
  refine (px_go (by decide +kernel : pm_fe 116 82 = some (.iload 4, 2)) rfl).trans ?_
  refine (px_go (by decide +kernel : pm_fe 116 84 = some (.iload_n 2, 1)) rfl).trans ?_
  refine (px_s4 (idx := 81) (m' := 117) (nest := 0) (by decide +kernel)).trans ((and_iff_right (by simp [pm_wl_n, pm_wl_c, pm_w] : pm_wl [.inl l3, .inr (.inr (.inl (T l0.toNat 1)))] ≤ 8)).trans ?_)
  exact Iff.rfl
theorem b116_88 {d : Nat} {G : PG} {M T : PH} {K : PV → PS → Prop} {l0 l1 l2 l3 l4 l5 s0 s1 s2 : Int} (h1 : pm_ar G s2 100 s1) : pm_Run d 116 88 [.inr (.inr (.inl l0)), .inr (.inr (.inl l1)), .inl l2, .inl l3, .inl l4, .inl l5] [.inl s0, .inl s1, .inr (.inr (.inl s2))] (G, M, T) K ↔ pm_Run d 116 29 [.inr (.inr (.inl l0)), .inr (.inr (.inl l1)), .inl l2, .inl (l3 + 1), .inl l4, .inl l5] [] (G, pm_sa M s2.toNat (pm_up (M s2.toNat) (pm_sg s1).toNat s0), T) K := by
  refine (px_iastore (by decide +kernel)).trans ((and_iff_right h1).trans ?_)
  refine (px_go (by decide +kernel : pm_fe 116 89 = some (.iinc 3 1, 3)) rfl).trans ?_
  refine (px_goto (off := (-63)) (tgt := 29) (by decide +kernel)).trans ?_
  exact Iff.rfl
theorem b116_95 {d : Nat} {G : PG} {M T : PH} {K : PV → PS → Prop} {l0 l1 l2 l3 : Int} {l4 l5 : PV} : pm_Run d 116 95 [.inr (.inr (.inl l0)), .inr (.inr (.inl l1)), .inl l2, .inl l3, l4, l5] [] (G, M, T) K ↔ K PU (G, M, T) := by
  refine (px_rv (by decide +kernel)).trans ?_
  exact Iff.rfl
-- X9_heightFrom heightFrom(LMoonTender$Chart;III)I
theorem en117 {d : Nat} {p0 p1 p2 p3 : Int} {S : PS} {K : PV → PS → Prop} : pm_Call (d + 1) 117 [.inr (.inr (.inl p0)), .inl p1, .inl p2, .inl p3] S K ↔ pm_Run d 117 0 [.inr (.inr (.inl p0)), .inl p1, .inl p2, .inl p3, PU, PU] [] S K := pm_Call_s.trans (and_iff_right (show 4 ≤ pm_ml 117 from by decide +kernel))
theorem b117_0 {d : Nat} {G : PG} {M T : PH} {K : PV → PS → Prop} {l0 l1 l2 l3 : Int} (h1 : pm_ob G l0 1) : pm_Run d 117 0 [.inr (.inr (.inl l0)), .inl l1, .inl l2, .inl l3, PU, PU] [] (G, M, T) K ↔ if 0 < pm_sg (M l0.toNat 0) then pm_Run d 117 12 [.inr (.inr (.inl l0)), .inl l1, .inl l2, .inl l3, PU, PU] [] (G, M, T) K else pm_Run d 117 7 [.inr (.inr (.inl l0)), .inl l1, .inl l2, .inl l3, PU, PU] [] (G, M, T) K := by
  refine (px_go (by decide +kernel : pm_fe 117 0 = some (.aload_n 0, 1)) rfl).trans ?_
  refine (px_get0 (idx := 58) (ci := 1) (k := 0) (by decide +kernel)).trans ((and_iff_right h1).trans ?_)
  refine (px_if_gt (off := 8) (tgt := 12) (by decide +kernel)).trans ?_
  exact Iff.rfl
theorem b117_7 {d : Nat} {G : PG} {M T : PH} {K : PV → PS → Prop} {l0 l1 l2 l3 : Int} (h1 : pm_ob G l0 1) : pm_Run d 117 7 [.inr (.inr (.inl l0)), .inl l1, .inl l2, .inl l3, PU, PU] [] (G, M, T) K ↔ K (.inl (M l0.toNat 5)) (G, M, T) := by
  refine (px_go (by decide +kernel : pm_fe 117 7 = some (.aload_n 0, 1)) rfl).trans ?_
  refine (px_get0 (idx := 85) (ci := 1) (k := 5) (by decide +kernel)).trans ((and_iff_right h1).trans ?_)
  refine (px_ri (by decide +kernel)).trans ?_
  exact Iff.rfl
theorem b117_12 {d : Nat} {G : PG} {M T : PH} {K : PV → PS → Prop} {l0 l1 l2 l3 : Int} (h1 : pm_ob G l0 1) (h2 : pm_sg (M l0.toNat 0) ≠ 0) : pm_Run d 117 12 [.inr (.inr (.inl l0)), .inl l1, .inl l2, .inl l3, PU, PU] [] (G, M, T) K ↔ if pm_sg (l3 - ((pm_fd l3 (M l0.toNat 0)) * (M l0.toNat 0))) ≤ pm_sg l1 then pm_Run d 117 52 [.inr (.inr (.inl l0)), .inl l1, .inl l2, .inl l3, .inl (pm_fd l3 (M l0.toNat 0)), .inl (l3 - ((pm_fd l3 (M l0.toNat 0)) * (M l0.toNat 0)))] [.inl (((M l0.toNat 5) + l2) - (pm_fd l3 (M l0.toNat 0)))] (G, M, T) K else pm_Run d 117 48 [.inr (.inr (.inl l0)), .inl l1, .inl l2, .inl l3, .inl (pm_fd l3 (M l0.toNat 0)), .inl (l3 - ((pm_fd l3 (M l0.toNat 0)) * (M l0.toNat 0)))] [.inl (((M l0.toNat 5) + l2) - (pm_fd l3 (M l0.toNat 0)))] (G, M, T) K := by
  refine (px_go (by decide +kernel : pm_fe 117 12 = some (.iload_n 3, 1)) rfl).trans ?_
  refine (px_go (by decide +kernel : pm_fe 117 13 = some (.aload_n 0, 1)) rfl).trans ?_
  refine (px_get0 (idx := 58) (ci := 1) (k := 0) (by decide +kernel)).trans ((and_iff_right h1).trans ?_)
  refine (px_m907 (idx := 88) (by decide +kernel)).trans ((and_iff_right ⟨(by simp [pm_wl_n, pm_wl_c, pm_w] : pm_wl [] ≤ 8), h2⟩).trans ?_)
  refine (px_go (by decide +kernel : pm_fe 117 20 = some (.istore 4, 2)) rfl).trans ?_
  refine (px_go (by decide +kernel : pm_fe 117 22 = some (.iload_n 3, 1)) rfl).trans ?_
  refine (px_go (by decide +kernel : pm_fe 117 23 = some (.iload 4, 2)) rfl).trans ?_
  refine (px_go (by decide +kernel : pm_fe 117 25 = some (.aload_n 0, 1)) rfl).trans ?_
  refine (px_get0 (idx := 58) (ci := 1) (k := 0) (by decide +kernel)).trans ((and_iff_right h1).trans ?_)
  refine (px_go (by decide +kernel : pm_fe 117 29 = some (.imul, 1)) rfl).trans ?_
  refine (px_go (by decide +kernel : pm_fe 117 30 = some (.isub, 1)) rfl).trans ?_
  refine (px_go (by decide +kernel : pm_fe 117 31 = some (.istore 5, 2)) rfl).trans ?_
  refine (px_go (by decide +kernel : pm_fe 117 33 = some (.aload_n 0, 1)) rfl).trans ?_
  refine (px_get0 (idx := 85) (ci := 1) (k := 5) (by decide +kernel)).trans ((and_iff_right h1).trans ?_)
  refine (px_go (by decide +kernel : pm_fe 117 37 = some (.iload_n 2, 1)) rfl).trans ?_
  refine (px_go (by decide +kernel : pm_fe 117 38 = some (.iadd, 1)) rfl).trans ?_
  refine (px_go (by decide +kernel : pm_fe 117 39 = some (.iload 4, 2)) rfl).trans ?_
  refine (px_go (by decide +kernel : pm_fe 117 41 = some (.isub, 1)) rfl).trans ?_
  refine (px_go (by decide +kernel : pm_fe 117 42 = some (.iload_n 1, 1)) rfl).trans ?_
  refine (px_go (by decide +kernel : pm_fe 117 43 = some (.iload 5, 2)) rfl).trans ?_
  refine (px_ic_ge (off := 7) (tgt := 52) (by decide +kernel)).trans ?_
  exact Iff.rfl
theorem b117_48 {d : Nat} {G : PG} {M T : PH} {K : PV → PS → Prop} {l0 l1 l2 l3 l4 l5 s0 : Int} : pm_Run d 117 48 [.inr (.inr (.inl l0)), .inl l1, .inl l2, .inl l3, .inl l4, .inl l5] [.inl s0] (G, M, T) K ↔ pm_Run d 117 53 [.inr (.inr (.inl l0)), .inl l1, .inl l2, .inl l3, .inl l4, .inl l5] [.inl 1, .inl s0] (G, M, T) K := by
  refine (px_go (by decide +kernel : pm_fe 117 48 = some (.iconst 1, 1)) rfl).trans ?_
  refine (px_goto (off := 4) (tgt := 53) (by decide +kernel)).trans ?_
  exact Iff.rfl
theorem b117_52 {d : Nat} {G : PG} {M T : PH} {K : PV → PS → Prop} {l0 l1 l2 l3 l4 l5 s0 : Int} : pm_Run d 117 52 [.inr (.inr (.inl l0)), .inl l1, .inl l2, .inl l3, .inl l4, .inl l5] [.inl s0] (G, M, T) K ↔ pm_Run d 117 53 [.inr (.inr (.inl l0)), .inl l1, .inl l2, .inl l3, .inl l4, .inl l5] [.inl 0, .inl s0] (G, M, T) K := by
  refine (px_go (by decide +kernel : pm_fe 117 52 = some (.iconst 0, 1)) rfl).trans ?_
  exact Iff.rfl
theorem b117_53 {d : Nat} {G : PG} {M T : PH} {K : PV → PS → Prop} {l0 l1 l2 l3 l4 l5 s0 s1 : Int} : pm_Run d 117 53 [.inr (.inr (.inl l0)), .inl l1, .inl l2, .inl l3, .inl l4, .inl l5] [.inl s0, .inl s1] (G, M, T) K ↔ K (.inl (s1 - s0)) (G, M, T) := by
  refine (px_go (by decide +kernel : pm_fe 117 53 = some (.isub, 1)) rfl).trans ?_
  refine (px_ri (by decide +kernel)).trans ?_
  exact Iff.rfl
-- X9_tellMoon tellMoon(LMoonTender$Chart;LMoonTender$Moment;III)V
theorem en118 {d : Nat} {p0 p1 p2 p3 p4 : Int} {S : PS} {K : PV → PS → Prop} : pm_Call (d + 1) 118 [.inr (.inr (.inl p0)), .inr (.inr (.inl p1)), .inl p2, .inl p3, .inl p4] S K ↔ pm_Run d 118 0 [.inr (.inr (.inl p0)), .inr (.inr (.inl p1)), .inl p2, .inl p3, .inl p4, PU, PU] [] S K := pm_Call_s.trans (and_iff_right (show 5 ≤ pm_ml 118 from by decide +kernel))
theorem b118_0 {d : Nat} {G : PG} {M T : PH} {K : PV → PS → Prop} {l0 l1 l2 l3 l4 : Int} (h1 : pm_ob G l0 1) (h2 : pm_ob G (T l0.toNat 17) 3) (h3 : pm_ob G l1 5) : pm_Run d 118 0 [.inr (.inr (.inl l0)), .inr (.inr (.inl l1)), .inl l2, .inl l3, .inl l4, PU, PU] [] (G, M, T) K ↔ pm_Call d 59 [.inr (.inr (.inl l1)), .inl l2] (G, M, T) (fun r S1 => pm_Run d 118 14 [.inr (.inr (.inl l0)), .inr (.inr (.inl l1)), .inl l2, .inl l3, .inl l4, .inr (.inr (.inl (T (T l0.toNat 17).toNat 4))), PU] (pm_push r []) S1 K) := by
  refine (px_go (by decide +kernel : pm_fe 118 0 = some (.aload_n 0, 1)) rfl).trans ?_
  refine (px_get2 (idx := 45) (ci := 1) (k := 17) (by decide +kernel)).trans ((and_iff_right h1).trans ?_)
  refine (px_get2 (idx := 61) (ci := 3) (k := 4) (by decide +kernel)).trans ((and_iff_right h2).trans ?_)
  refine (px_go (by decide +kernel : pm_fe 118 7 = some (.astore 5, 2)) rfl).trans ?_
  refine (px_go (by decide +kernel : pm_fe 118 9 = some (.aload_n 1, 1)) rfl).trans ?_
  refine (px_go (by decide +kernel : pm_fe 118 10 = some (.iload_n 2, 1)) rfl).trans ?_
  refine (px_v1 (idx := 91) (m' := 59) (ci := 5) (by decide +kernel)).trans ((and_iff_right ⟨h3, (by simp [pm_wl_n, pm_wl_c, pm_w] : pm_wl [] ≤ 8)⟩).trans ?_)
  exact Iff.rfl
theorem b118_14 {d : Nat} {G : PG} {M T : PH} {K : PV → PS → Prop} {l0 l1 l2 l3 l4 l5 s0 : Int} (h1 : pm_ar G l5 100 15) (h2 : pm_ar G l5 100 7) (h3 : pm_ar G l5 100 6) : pm_Run d 118 14 [.inr (.inr (.inl l0)), .inr (.inr (.inl l1)), .inl l2, .inl l3, .inl l4, .inr (.inr (.inl l5)), PU] [.inl s0] (G, M, T) K ↔ pm_Run d 118 34 [.inr (.inr (.inl l0)), .inr (.inr (.inl l1)), .inl l2, .inl l3, .inl l4, .inr (.inr (.inl l5)), .inl s0] [] (G, pm_sa (pm_sa (pm_sa M l5.toNat (pm_up (M l5.toNat) (pm_sg 15).toNat 0)) l5.toNat (pm_up ((pm_sa M l5.toNat (pm_up (M l5.toNat) (pm_sg 15).toNat 0)) l5.toNat) (pm_sg 7).toNat 0)) l5.toNat (pm_up ((pm_sa (pm_sa M l5.toNat (pm_up (M l5.toNat) (pm_sg 15).toNat 0)) l5.toNat (pm_up ((pm_sa M l5.toNat (pm_up (M l5.toNat) (pm_sg 15).toNat 0)) l5.toNat) (pm_sg 7).toNat 0)) l5.toNat) (pm_sg 6).toNat 0), T) K := by
  refine (px_go (by decide +kernel : pm_fe 118 14 = some (.istore 6, 2)) rfl).trans ?_
  refine (px_go (by decide +kernel : pm_fe 118 16 = some (.aload 5, 2)) rfl).trans ?_
  refine (px_go (by decide +kernel : pm_fe 118 18 = some (.bipush 15, 2)) rfl).trans ?_
  refine (px_go (by decide +kernel : pm_fe 118 20 = some (.iconst 0, 1)) rfl).trans ?_
  refine (px_iastore (by decide +kernel)).trans ((and_iff_right h1).trans ?_)
  refine (px_go (by decide +kernel : pm_fe 118 22 = some (.aload 5, 2)) rfl).trans ?_
  refine (px_go (by decide +kernel : pm_fe 118 24 = some (.bipush 7, 2)) rfl).trans ?_
  refine (px_go (by decide +kernel : pm_fe 118 26 = some (.iconst 0, 1)) rfl).trans ?_
  refine (px_iastore (by decide +kernel)).trans ((and_iff_right h2).trans ?_)
  refine (px_go (by decide +kernel : pm_fe 118 28 = some (.aload 5, 2)) rfl).trans ?_
  refine (px_go (by decide +kernel : pm_fe 118 30 = some (.bipush 6, 2)) rfl).trans ?_
  refine (px_go (by decide +kernel : pm_fe 118 32 = some (.iconst 0, 1)) rfl).trans ?_
  refine (px_iastore (by decide +kernel)).trans ((and_iff_right h3).trans ?_)
  exact Iff.rfl
theorem b118_34 {d : Nat} {G : PG} {M T : PH} {K : PV → PS → Prop} {l0 l1 l2 l3 l4 l5 l6 : Int} (h1 : pm_ar G l5 100 16) (h2 : pm_ar G l5 100 17) (h3 : pm_ob G l1 5) (h4 : pm_ar G (T l1.toNat 2) 100 l2) (h5 : pm_ar G l5 100 4) : pm_Run d 118 34 [.inr (.inr (.inl l0)), .inr (.inr (.inl l1)), .inl l2, .inl l3, .inl l4, .inr (.inr (.inl l5)), .inl l6] [] (G, M, T) K ↔ pm_Run d 118 57 [.inr (.inr (.inl l0)), .inr (.inr (.inl l1)), .inl l2, .inl l3, .inl l4, .inr (.inr (.inl l5)), .inl l6] [] (G, pm_sa (pm_sa (pm_sa M l5.toNat (pm_up (M l5.toNat) (pm_sg 16).toNat l3)) l5.toNat (pm_up ((pm_sa M l5.toNat (pm_up (M l5.toNat) (pm_sg 16).toNat l3)) l5.toNat) (pm_sg 17).toNat l6)) l5.toNat (pm_up ((pm_sa (pm_sa M l5.toNat (pm_up (M l5.toNat) (pm_sg 16).toNat l3)) l5.toNat (pm_up ((pm_sa M l5.toNat (pm_up (M l5.toNat) (pm_sg 16).toNat l3)) l5.toNat) (pm_sg 17).toNat l6)) l5.toNat) (pm_sg 4).toNat ((pm_sa (pm_sa M l5.toNat (pm_up (M l5.toNat) (pm_sg 16).toNat l3)) l5.toNat (pm_up ((pm_sa M l5.toNat (pm_up (M l5.toNat) (pm_sg 16).toNat l3)) l5.toNat) (pm_sg 17).toNat l6)) (T l1.toNat 2).toNat (pm_sg l2).toNat)), T) K := by
  refine (px_go (by decide +kernel : pm_fe 118 34 = some (.aload 5, 2)) rfl).trans ?_
  refine (px_go (by decide +kernel : pm_fe 118 36 = some (.bipush 16, 2)) rfl).trans ?_
  refine (px_go (by decide +kernel : pm_fe 118 38 = some (.iload_n 3, 1)) rfl).trans ?_
  refine (px_iastore (by decide +kernel)).trans ((and_iff_right h1).trans ?_)
  refine (px_go (by decide +kernel : pm_fe 118 40 = some (.aload 5, 2)) rfl).trans ?_
  refine (px_go (by decide +kernel : pm_fe 118 42 = some (.bipush 17, 2)) rfl).trans ?_
  refine (px_go (by decide +kernel : pm_fe 118 44 = some (.iload 6, 2)) rfl).trans ?_
  refine (px_iastore (by decide +kernel)).trans ((and_iff_right h2).trans ?_)
  refine (px_go (by decide +kernel : pm_fe 118 47 = some (.aload 5, 2)) rfl).trans ?_
  refine (px_go (by decide +kernel : pm_fe 118 49 = some (.iconst 4, 1)) rfl).trans ?_
  refine (px_go (by decide +kernel : pm_fe 118 50 = some (.aload_n 1, 1)) rfl).trans ?_
  refine (px_get2 (idx := 94) (ci := 5) (k := 2) (by decide +kernel)).trans ((and_iff_right h3).trans ?_)
  refine (px_go (by decide +kernel : pm_fe 118 54 = some (.iload_n 2, 1)) rfl).trans ?_
  refine (px_iaload (by decide +kernel) h4).trans ?_
  refine (px_iastore (by decide +kernel)).trans ((and_iff_right h5).trans ?_)
  exact Iff.rfl
theorem b118_57 {d : Nat} {G : PG} {M T : PH} {K : PV → PS → Prop} {l0 l1 l2 l3 l4 l5 l6 : Int} (h1 : pm_ob G l0 1) : pm_Run d 118 57 [.inr (.inr (.inl l0)), .inr (.inr (.inl l1)), .inl l2, .inl l3, .inl l4, .inr (.inr (.inl l5)), .inl l6] [] (G, M, T) K ↔ if pm_sg l6 < pm_sg (M l0.toNat 6) then pm_Run d 118 74 [.inr (.inr (.inl l0)), .inr (.inr (.inl l1)), .inl l2, .inl l3, .inl l4, .inr (.inr (.inl l5)), .inl l6] [.inl 19, .inr (.inr (.inl l5))] (G, M, T) K else pm_Run d 118 70 [.inr (.inr (.inl l0)), .inr (.inr (.inl l1)), .inl l2, .inl l3, .inl l4, .inr (.inr (.inl l5)), .inl l6] [.inl 19, .inr (.inr (.inl l5))] (G, M, T) K := by
  refine (px_go (by decide +kernel : pm_fe 118 57 = some (.aload 5, 2)) rfl).trans ?_
  refine (px_go (by decide +kernel : pm_fe 118 59 = some (.bipush 19, 2)) rfl).trans ?_
  refine (px_go (by decide +kernel : pm_fe 118 61 = some (.iload 6, 2)) rfl).trans ?_
  refine (px_go (by decide +kernel : pm_fe 118 63 = some (.aload_n 0, 1)) rfl).trans ?_
  refine (px_get0 (idx := 97) (ci := 1) (k := 6) (by decide +kernel)).trans ((and_iff_right h1).trans ?_)
  refine (px_ic_lt (off := 7) (tgt := 74) (by decide +kernel)).trans ?_
  exact Iff.rfl
theorem b118_70 {d : Nat} {G : PG} {M T : PH} {K : PV → PS → Prop} {l0 l1 l2 l3 l4 l5 l6 s0 s1 : Int} : pm_Run d 118 70 [.inr (.inr (.inl l0)), .inr (.inr (.inl l1)), .inl l2, .inl l3, .inl l4, .inr (.inr (.inl l5)), .inl l6] [.inl s0, .inr (.inr (.inl s1))] (G, M, T) K ↔ pm_Run d 118 75 [.inr (.inr (.inl l0)), .inr (.inr (.inl l1)), .inl l2, .inl l3, .inl l4, .inr (.inr (.inl l5)), .inl l6] [.inl 1, .inl s0, .inr (.inr (.inl s1))] (G, M, T) K := by
  refine (px_go (by decide +kernel : pm_fe 118 70 = some (.iconst 1, 1)) rfl).trans ?_
  refine (px_goto (off := 4) (tgt := 75) (by decide +kernel)).trans ?_
  exact Iff.rfl
theorem b118_74 {d : Nat} {G : PG} {M T : PH} {K : PV → PS → Prop} {l0 l1 l2 l3 l4 l5 l6 s0 s1 : Int} : pm_Run d 118 74 [.inr (.inr (.inl l0)), .inr (.inr (.inl l1)), .inl l2, .inl l3, .inl l4, .inr (.inr (.inl l5)), .inl l6] [.inl s0, .inr (.inr (.inl s1))] (G, M, T) K ↔ pm_Run d 118 75 [.inr (.inr (.inl l0)), .inr (.inr (.inl l1)), .inl l2, .inl l3, .inl l4, .inr (.inr (.inl l5)), .inl l6] [.inl 0, .inl s0, .inr (.inr (.inl s1))] (G, M, T) K := by
  refine (px_go (by decide +kernel : pm_fe 118 74 = some (.iconst 0, 1)) rfl).trans ?_
  exact Iff.rfl
theorem b118_75 {d : Nat} {G : PG} {M T : PH} {K : PV → PS → Prop} {l0 l1 l2 l3 l4 l5 l6 s0 s1 s2 : Int} (h1 : pm_ar G s2 100 s1) (h2 : pm_ar G l5 100 20) (h3 : pm_ob G l1 5) (h4 : pm_ar G l5 100 21) : pm_Run d 118 75 [.inr (.inr (.inl l0)), .inr (.inr (.inl l1)), .inl l2, .inl l3, .inl l4, .inr (.inr (.inl l5)), .inl l6] [.inl s0, .inl s1, .inr (.inr (.inl s2))] (G, M, T) K ↔ pm_Run d 118 92 [.inr (.inr (.inl l0)), .inr (.inr (.inl l1)), .inl l2, .inl l3, .inl l4, .inr (.inr (.inl l5)), .inl l6] [] (G, pm_sa (pm_sa (pm_sa M s2.toNat (pm_up (M s2.toNat) (pm_sg s1).toNat s0)) l5.toNat (pm_up ((pm_sa M s2.toNat (pm_up (M s2.toNat) (pm_sg s1).toNat s0)) l5.toNat) (pm_sg 20).toNat l4)) l5.toNat (pm_up ((pm_sa (pm_sa M s2.toNat (pm_up (M s2.toNat) (pm_sg s1).toNat s0)) l5.toNat (pm_up ((pm_sa M s2.toNat (pm_up (M s2.toNat) (pm_sg s1).toNat s0)) l5.toNat) (pm_sg 20).toNat l4)) l5.toNat) (pm_sg 21).toNat ((pm_sa (pm_sa M s2.toNat (pm_up (M s2.toNat) (pm_sg s1).toNat s0)) l5.toNat (pm_up ((pm_sa M s2.toNat (pm_up (M s2.toNat) (pm_sg s1).toNat s0)) l5.toNat) (pm_sg 20).toNat l4)) l1.toNat 0)), T) K := by
  refine (px_iastore (by decide +kernel)).trans ((and_iff_right h1).trans ?_)
  refine (px_go (by decide +kernel : pm_fe 118 76 = some (.aload 5, 2)) rfl).trans ?_
  refine (px_go (by decide +kernel : pm_fe 118 78 = some (.bipush 20, 2)) rfl).trans ?_
  refine (px_go (by decide +kernel : pm_fe 118 80 = some (.iload 4, 2)) rfl).trans ?_
  refine (px_iastore (by decide +kernel)).trans ((and_iff_right h2).trans ?_)
  refine (px_go (by decide +kernel : pm_fe 118 83 = some (.aload 5, 2)) rfl).trans ?_
  refine (px_go (by decide +kernel : pm_fe 118 85 = some (.bipush 21, 2)) rfl).trans ?_
  refine (px_go (by decide +kernel : pm_fe 118 87 = some (.aload_n 1, 1)) rfl).trans ?_
  refine (px_get0 (idx := 100) (ci := 5) (k := 0) (by decide +kernel)).trans ((and_iff_right h3).trans ?_)
  refine (px_iastore (by decide +kernel)).trans ((and_iff_right h4).trans ?_)
  exact Iff.rfl
theorem b118_92 {d : Nat} {G : PG} {M T : PH} {K : PV → PS → Prop} {l0 l1 l2 l3 l4 l5 l6 : Int} : pm_Run d 118 92 [.inr (.inr (.inl l0)), .inr (.inr (.inl l1)), .inl l2, .inl l3, .inl l4, .inr (.inr (.inl l5)), .inl l6] [] (G, M, T) K ↔ K PU (G, M, T) := by
  refine (px_rv (by decide +kernel)).trans ?_
  exact Iff.rfl
-- X9_tellHarbor tellHarbor(LMoonTender$Chart;LMoonTender$Moment;II)V
theorem en119 {d : Nat} {p0 p1 p2 p3 : Int} {S : PS} {K : PV → PS → Prop} : pm_Call (d + 1) 119 [.inr (.inr (.inl p0)), .inr (.inr (.inl p1)), .inl p2, .inl p3] S K ↔ pm_Run d 119 0 [.inr (.inr (.inl p0)), .inr (.inr (.inl p1)), .inl p2, .inl p3, PU] [] S K := pm_Call_s.trans (and_iff_right (show 4 ≤ pm_ml 119 from by decide +kernel))
theorem b119_0 {d : Nat} {G : PG} {M T : PH} {K : PV → PS → Prop} {l0 l1 l2 l3 : Int} (h1 : pm_ob G l0 1) (h2 : pm_ob G (T l0.toNat 17) 3) (h3 : pm_ar G (T (T l0.toNat 17).toNat 4) 100 15) (h4 : pm_ar G (T l0.toNat 12) 100 l2) (h5 : pm_ar G (T (T l0.toNat 17).toNat 4) 100 7) : pm_Run d 119 0 [.inr (.inr (.inl l0)), .inr (.inr (.inl l1)), .inl l2, .inl l3, PU] [] (G, M, T) K ↔ pm_Run d 119 26 [.inr (.inr (.inl l0)), .inr (.inr (.inl l1)), .inl l2, .inl l3, .inr (.inr (.inl (T (T l0.toNat 17).toNat 4)))] [] (G, pm_sa (pm_sa M (T (T l0.toNat 17).toNat 4).toNat (pm_up (M (T (T l0.toNat 17).toNat 4).toNat) (pm_sg 15).toNat l3)) (T (T l0.toNat 17).toNat 4).toNat (pm_up ((pm_sa M (T (T l0.toNat 17).toNat 4).toNat (pm_up (M (T (T l0.toNat 17).toNat 4).toNat) (pm_sg 15).toNat l3)) (T (T l0.toNat 17).toNat 4).toNat) (pm_sg 7).toNat ((pm_sa M (T (T l0.toNat 17).toNat 4).toNat (pm_up (M (T (T l0.toNat 17).toNat 4).toNat) (pm_sg 15).toNat l3)) (T l0.toNat 12).toNat (pm_sg l2).toNat)), T) K := by
  refine (px_go (by decide +kernel : pm_fe 119 0 = some (.aload_n 0, 1)) rfl).trans ?_
  refine (px_get2 (idx := 45) (ci := 1) (k := 17) (by decide +kernel)).trans ((and_iff_right h1).trans ?_)
  refine (px_get2 (idx := 61) (ci := 3) (k := 4) (by decide +kernel)).trans ((and_iff_right h2).trans ?_)
  refine (px_go (by decide +kernel : pm_fe 119 7 = some (.astore 4, 2)) rfl).trans ?_
  refine (px_go (by decide +kernel : pm_fe 119 9 = some (.aload 4, 2)) rfl).trans ?_
  refine (px_go (by decide +kernel : pm_fe 119 11 = some (.bipush 15, 2)) rfl).trans ?_
  refine (px_go (by decide +kernel : pm_fe 119 13 = some (.iload_n 3, 1)) rfl).trans ?_
  refine (px_iastore (by decide +kernel)).trans ((and_iff_right h3).trans ?_)
  refine (px_go (by decide +kernel : pm_fe 119 15 = some (.aload 4, 2)) rfl).trans ?_
  refine (px_go (by decide +kernel : pm_fe 119 17 = some (.bipush 7, 2)) rfl).trans ?_
  refine (px_go (by decide +kernel : pm_fe 119 19 = some (.aload_n 0, 1)) rfl).trans ?_
  refine (px_get2 (idx := 103) (ci := 1) (k := 12) (by decide +kernel)).trans ((and_iff_right h1).trans ?_)
  refine (px_go (by decide +kernel : pm_fe 119 23 = some (.iload_n 2, 1)) rfl).trans ?_
  refine (px_iaload (by decide +kernel) h4).trans ?_
  refine (px_iastore (by decide +kernel)).trans ((and_iff_right h5).trans ?_)
  exact Iff.rfl
theorem b119_26 {d : Nat} {G : PG} {M T : PH} {K : PV → PS → Prop} {l0 l1 l2 l3 l4 : Int} (h1 : pm_ob G l1 5) (h2 : pm_ar G (T l1.toNat 3) 100 l2) (h3 : pm_ar G l4 100 6) : pm_Run d 119 26 [.inr (.inr (.inl l0)), .inr (.inr (.inl l1)), .inl l2, .inl l3, .inr (.inr (.inl l4))] [] (G, M, T) K ↔ pm_Call d 60 [.inr (.inr (.inl l1)), .inl l2] (G, pm_sa M l4.toNat (pm_up (M l4.toNat) (pm_sg 6).toNat (M (T l1.toNat 3).toNat (pm_sg l2).toNat)), T) (fun r S1 => pm_Run d 119 46 [.inr (.inr (.inl l0)), .inr (.inr (.inl l1)), .inl l2, .inl l3, .inr (.inr (.inl l4))] (pm_push r [.inl 16, .inr (.inr (.inl l4))]) S1 K) := by
  refine (px_go (by decide +kernel : pm_fe 119 26 = some (.aload 4, 2)) rfl).trans ?_
  refine (px_go (by decide +kernel : pm_fe 119 28 = some (.bipush 6, 2)) rfl).trans ?_
  refine (px_go (by decide +kernel : pm_fe 119 30 = some (.aload_n 1, 1)) rfl).trans ?_
  refine (px_get2 (idx := 106) (ci := 5) (k := 3) (by decide +kernel)).trans ((and_iff_right h1).trans ?_)
  refine (px_go (by decide +kernel : pm_fe 119 34 = some (.iload_n 2, 1)) rfl).trans ?_
  refine (px_iaload (by decide +kernel) h2).trans ?_
  refine (px_iastore (by decide +kernel)).trans ((and_iff_right h3).trans ?_)
  refine (px_go (by decide +kernel : pm_fe 119 37 = some (.aload 4, 2)) rfl).trans ?_
  refine (px_go (by decide +kernel : pm_fe 119 39 = some (.bipush 16, 2)) rfl).trans ?_
  refine (px_go (by decide +kernel : pm_fe 119 41 = some (.aload_n 1, 1)) rfl).trans ?_
  refine (px_go (by decide +kernel : pm_fe 119 42 = some (.iload_n 2, 1)) rfl).trans ?_
  refine (px_v1 (idx := 109) (m' := 60) (ci := 5) (by decide +kernel)).trans ((and_iff_right ⟨h1, (by simp [pm_wl_n, pm_wl_c, pm_w] : pm_wl [.inl 16, .inr (.inr (.inl l4))] ≤ 8)⟩).trans ?_)
  exact Iff.rfl
theorem b119_46 {d : Nat} {G : PG} {M T : PH} {K : PV → PS → Prop} {l0 l1 l2 l3 l4 s0 s1 s2 : Int} (h1 : pm_ar G s2 100 s1) (h2 : pm_ob G l1 5) : pm_Run d 119 46 [.inr (.inr (.inl l0)), .inr (.inr (.inl l1)), .inl l2, .inl l3, .inr (.inr (.inl l4))] [.inl s0, .inl s1, .inr (.inr (.inl s2))] (G, M, T) K ↔ pm_Call d 61 [.inr (.inr (.inl l1)), .inl l2] (G, pm_sa M s2.toNat (pm_up (M s2.toNat) (pm_sg s1).toNat s0), T) (fun r S1 => pm_Run d 119 56 [.inr (.inr (.inl l0)), .inr (.inr (.inl l1)), .inl l2, .inl l3, .inr (.inr (.inl l4))] (pm_push r [.inl 17, .inr (.inr (.inl l4))]) S1 K) := by
  refine (px_iastore (by decide +kernel)).trans ((and_iff_right h1).trans ?_)
  refine (px_go (by decide +kernel : pm_fe 119 47 = some (.aload 4, 2)) rfl).trans ?_
  refine (px_go (by decide +kernel : pm_fe 119 49 = some (.bipush 17, 2)) rfl).trans ?_
  refine (px_go (by decide +kernel : pm_fe 119 51 = some (.aload_n 1, 1)) rfl).trans ?_
  refine (px_go (by decide +kernel : pm_fe 119 52 = some (.iload_n 2, 1)) rfl).trans ?_
  refine (px_v1 (idx := 112) (m' := 61) (ci := 5) (by decide +kernel)).trans ((and_iff_right ⟨h2, (by simp [pm_wl_n, pm_wl_c, pm_w] : pm_wl [.inl 17, .inr (.inr (.inl l4))] ≤ 8)⟩).trans ?_)
  exact Iff.rfl
theorem b119_56 {d : Nat} {G : PG} {M T : PH} {K : PV → PS → Prop} {l0 l1 l2 l3 l4 s0 s1 s2 : Int} (h1 : pm_ar G s2 100 s1) (h2 : pm_ar G l4 100 18) (h3 : pm_ar G l4 100 4) : pm_Run d 119 56 [.inr (.inr (.inl l0)), .inr (.inr (.inl l1)), .inl l2, .inl l3, .inr (.inr (.inl l4))] [.inl s0, .inl s1, .inr (.inr (.inl s2))] (G, M, T) K ↔ pm_Run d 119 68 [.inr (.inr (.inl l0)), .inr (.inr (.inl l1)), .inl l2, .inl l3, .inr (.inr (.inl l4))] [] (G, pm_sa (pm_sa (pm_sa M s2.toNat (pm_up (M s2.toNat) (pm_sg s1).toNat s0)) l4.toNat (pm_up ((pm_sa M s2.toNat (pm_up (M s2.toNat) (pm_sg s1).toNat s0)) l4.toNat) (pm_sg 18).toNat 0)) l4.toNat (pm_up ((pm_sa (pm_sa M s2.toNat (pm_up (M s2.toNat) (pm_sg s1).toNat s0)) l4.toNat (pm_up ((pm_sa M s2.toNat (pm_up (M s2.toNat) (pm_sg s1).toNat s0)) l4.toNat) (pm_sg 18).toNat 0)) l4.toNat) (pm_sg 4).toNat 0), T) K := by
  refine (px_iastore (by decide +kernel)).trans ((and_iff_right h1).trans ?_)
  refine (px_go (by decide +kernel : pm_fe 119 57 = some (.aload 4, 2)) rfl).trans ?_
  refine (px_go (by decide +kernel : pm_fe 119 59 = some (.bipush 18, 2)) rfl).trans ?_
  refine (px_go (by decide +kernel : pm_fe 119 61 = some (.iconst 0, 1)) rfl).trans ?_
  refine (px_iastore (by decide +kernel)).trans ((and_iff_right h2).trans ?_)
  refine (px_go (by decide +kernel : pm_fe 119 63 = some (.aload 4, 2)) rfl).trans ?_
  refine (px_go (by decide +kernel : pm_fe 119 65 = some (.iconst 4, 1)) rfl).trans ?_
  refine (px_go (by decide +kernel : pm_fe 119 66 = some (.iconst 0, 1)) rfl).trans ?_
  refine (px_iastore (by decide +kernel)).trans ((and_iff_right h3).trans ?_)
  exact Iff.rfl
theorem b119_68 {d : Nat} {G : PG} {M T : PH} {K : PV → PS → Prop} {l0 l1 l2 l3 l4 : Int} (h1 : pm_ar G l4 100 19) (h2 : pm_ar G l4 100 20) (h3 : pm_ob G l1 5) (h4 : pm_ar G l4 100 21) : pm_Run d 119 68 [.inr (.inr (.inl l0)), .inr (.inr (.inl l1)), .inl l2, .inl l3, .inr (.inr (.inl l4))] [] (G, M, T) K ↔ pm_Run d 119 89 [.inr (.inr (.inl l0)), .inr (.inr (.inl l1)), .inl l2, .inl l3, .inr (.inr (.inl l4))] [] (G, pm_sa (pm_sa (pm_sa M l4.toNat (pm_up (M l4.toNat) (pm_sg 19).toNat 0)) l4.toNat (pm_up ((pm_sa M l4.toNat (pm_up (M l4.toNat) (pm_sg 19).toNat 0)) l4.toNat) (pm_sg 20).toNat 0)) l4.toNat (pm_up ((pm_sa (pm_sa M l4.toNat (pm_up (M l4.toNat) (pm_sg 19).toNat 0)) l4.toNat (pm_up ((pm_sa M l4.toNat (pm_up (M l4.toNat) (pm_sg 19).toNat 0)) l4.toNat) (pm_sg 20).toNat 0)) l4.toNat) (pm_sg 21).toNat ((pm_sa (pm_sa M l4.toNat (pm_up (M l4.toNat) (pm_sg 19).toNat 0)) l4.toNat (pm_up ((pm_sa M l4.toNat (pm_up (M l4.toNat) (pm_sg 19).toNat 0)) l4.toNat) (pm_sg 20).toNat 0)) l1.toNat 0)), T) K := by
  refine (px_go (by decide +kernel : pm_fe 119 68 = some (.aload 4, 2)) rfl).trans ?_
  refine (px_go (by decide +kernel : pm_fe 119 70 = some (.bipush 19, 2)) rfl).trans ?_
  refine (px_go (by decide +kernel : pm_fe 119 72 = some (.iconst 0, 1)) rfl).trans ?_
  refine (px_iastore (by decide +kernel)).trans ((and_iff_right h1).trans ?_)
  refine (px_go (by decide +kernel : pm_fe 119 74 = some (.aload 4, 2)) rfl).trans ?_
  refine (px_go (by decide +kernel : pm_fe 119 76 = some (.bipush 20, 2)) rfl).trans ?_
  refine (px_go (by decide +kernel : pm_fe 119 78 = some (.iconst 0, 1)) rfl).trans ?_
  refine (px_iastore (by decide +kernel)).trans ((and_iff_right h2).trans ?_)
  refine (px_go (by decide +kernel : pm_fe 119 80 = some (.aload 4, 2)) rfl).trans ?_
  refine (px_go (by decide +kernel : pm_fe 119 82 = some (.bipush 21, 2)) rfl).trans ?_
  refine (px_go (by decide +kernel : pm_fe 119 84 = some (.aload_n 1, 1)) rfl).trans ?_
  refine (px_get0 (idx := 100) (ci := 5) (k := 0) (by decide +kernel)).trans ((and_iff_right h3).trans ?_)
  refine (px_iastore (by decide +kernel)).trans ((and_iff_right h4).trans ?_)
  exact Iff.rfl
theorem b119_89 {d : Nat} {G : PG} {M T : PH} {K : PV → PS → Prop} {l0 l1 l2 l3 l4 : Int} (h1 : pm_ob G l0 1) (h2 : pm_ar G (T l0.toNat 11) 100 l2) (h3 : pm_ar G l4 100 22) : pm_Run d 119 89 [.inr (.inr (.inl l0)), .inr (.inr (.inl l1)), .inl l2, .inl l3, .inr (.inr (.inl l4))] [] (G, M, T) K ↔ K PU (G, pm_sa M l4.toNat (pm_up (M l4.toNat) (pm_sg 22).toNat (M (T l0.toNat 11).toNat (pm_sg l2).toNat)), T) := by
  refine (px_go (by decide +kernel : pm_fe 119 89 = some (.aload 4, 2)) rfl).trans ?_
  refine (px_go (by decide +kernel : pm_fe 119 91 = some (.bipush 22, 2)) rfl).trans ?_
  refine (px_go (by decide +kernel : pm_fe 119 93 = some (.aload_n 0, 1)) rfl).trans ?_
  refine (px_get2 (idx := 115) (ci := 1) (k := 11) (by decide +kernel)).trans ((and_iff_right h1).trans ?_)
  refine (px_go (by decide +kernel : pm_fe 119 97 = some (.iload_n 2, 1)) rfl).trans ?_
  refine (px_iaload (by decide +kernel) h2).trans ?_
  refine (px_iastore (by decide +kernel)).trans ((and_iff_right h3).trans ?_)
  refine (px_rv (by decide +kernel)).trans ?_
  exact Iff.rfl
-- X9_brokenBy brokenBy(LMoonTender$Chart;LMoonTender$Moment;I)I
theorem en120 {d : Nat} {a p0 p1 p2 : Int} {S : PS} {K : PV → PS → Prop} : pm_Call (d + 1) 120 [.inr (.inr (.inl a)), .inr (.inr (.inl p0)), .inr (.inr (.inl p1)), .inl p2] S K ↔ pm_Run d 120 0 [.inr (.inr (.inl a)), .inr (.inr (.inl p0)), .inr (.inr (.inl p1)), .inl p2, PU] [] S K := pm_Call_s.trans (and_iff_right (show 4 ≤ pm_ml 120 from by decide +kernel))
theorem b120_0 {d : Nat} {G : PG} {M T : PH} {K : PV → PS → Prop} {l0 l1 l2 l3 : Int} (h1 : pm_ob G l1 1) : pm_Run d 120 0 [.inr (.inr (.inl l0)), .inr (.inr (.inl l1)), .inr (.inr (.inl l2)), .inl l3, PU] [] (G, M, T) K ↔ if pm_sg (M l1.toNat 4) ≠ 0 then pm_Run d 120 9 [.inr (.inr (.inl l0)), .inr (.inr (.inl l1)), .inr (.inr (.inl l2)), .inl l3, PU] [] (G, M, T) K else pm_Run d 120 7 [.inr (.inr (.inl l0)), .inr (.inr (.inl l1)), .inr (.inr (.inl l2)), .inl l3, PU] [] (G, M, T) K := by
  refine (px_go (by decide +kernel : pm_fe 120 0 = some (.aload_n 1, 1)) rfl).trans ?_
  refine (px_get0 (idx := 118) (ci := 1) (k := 4) (by decide +kernel)).trans ((and_iff_right h1).trans ?_)
  refine (px_if_ne (off := 5) (tgt := 9) (by decide +kernel)).trans ?_
  exact Iff.rfl
theorem b120_7 {d : Nat} {G : PG} {M T : PH} {K : PV → PS → Prop} {l0 l1 l2 l3 : Int} : pm_Run d 120 7 [.inr (.inr (.inl l0)), .inr (.inr (.inl l1)), .inr (.inr (.inl l2)), .inl l3, PU] [] (G, M, T) K ↔ K (.inl (-1)) (G, M, T) := by
  refine (px_go (by decide +kernel : pm_fe 120 7 = some (.iconst (-1), 1)) rfl).trans ?_
  refine (px_ri (by decide +kernel)).trans ?_
  exact Iff.rfl
theorem b120_9 {d : Nat} {G : PG} {M T : PH} {K : PV → PS → Prop} {l0 l1 l2 l3 : Int} (h1 : pm_ob G l0 9) (h2 : pm_ob G l1 1) (h3 : pm_ar G (T l1.toNat 11) 100 l3) (h4 : pm_ar G (T l0.toNat 1) 100 (M (T l1.toNat 11).toNat (pm_sg l3).toNat)) : pm_Run d 120 9 [.inr (.inr (.inl l0)), .inr (.inr (.inl l1)), .inr (.inr (.inl l2)), .inl l3, PU] [] (G, M, T) K ↔ pm_Call d 119 [.inr (.inr (.inl l1)), .inr (.inr (.inl l2)), .inl l3, .inl (M (T l0.toNat 1).toNat (pm_sg (M (T l1.toNat 11).toNat (pm_sg l3).toNat)).toNat)] (G, M, T) (fun r S1 => pm_Run d 120 26 [.inr (.inr (.inl l0)), .inr (.inr (.inl l1)), .inr (.inr (.inl l2)), .inl l3, PU] (pm_push r []) S1 K) := by
  refine (px_go (by decide +kernel : pm_fe 120 9 = some (.aload_n 1, 1)) rfl).trans ?_
  refine (px_go (by decide +kernel : pm_fe 120 10 = some (.aload_n 2, 1)) rfl).trans ?_
  refine (px_go (by decide +kernel : pm_fe 120 11 = some (.iload_n 3, 1)) rfl).trans ?_
  refine (px_go (by decide +kernel : pm_fe 120 12 = some (.aload_n 0, 1)) rfl).trans ?_
  refine (px_get2 (idx := 15) (ci := 9) (k := 1) (by decide +kernel)).trans ((and_iff_right h1).trans ?_)
  refine (px_go (by decide +kernel : pm_fe 120 16 = some (.aload_n 1, 1)) rfl).trans ?_
  refine (px_get2 (idx := 115) (ci := 1) (k := 11) (by decide +kernel)).trans ((and_iff_right h2).trans ?_)
  refine (px_go (by decide +kernel : pm_fe 120 20 = some (.iload_n 3, 1)) rfl).trans ?_
  refine (px_iaload (by decide +kernel) h3).trans ?_
  refine (px_iaload (by decide +kernel) h4).trans ?_
  refine (px_s4 (idx := 121) (m' := 119) (nest := 0) (by decide +kernel)).trans ((and_iff_right (by simp [pm_wl_n, pm_wl_c, pm_w] : pm_wl [] ≤ 8)).trans ?_)
  exact Iff.rfl
theorem b120_26 {d : Nat} {G : PG} {M T : PH} {K : PV → PS → Prop} {l0 l1 l2 l3 : Int} : pm_Run d 120 26 [.inr (.inr (.inl l0)), .inr (.inr (.inl l1)), .inr (.inr (.inl l2)), .inl l3, PU] [] (G, M, T) K ↔ pm_Run d 120 29 [.inr (.inr (.inl l0)), .inr (.inr (.inl l1)), .inr (.inr (.inl l2)), .inl l3, .inl 0] [] (G, M, T) K := by
  refine (px_go (by decide +kernel : pm_fe 120 26 = some (.iconst 0, 1)) rfl).trans ?_
  refine (px_go (by decide +kernel : pm_fe 120 27 = some (.istore 4, 2)) rfl).trans ?_
  exact Iff.rfl
theorem b120_29 {d : Nat} {G : PG} {M T : PH} {K : PV → PS → Prop} {l0 l1 l2 l3 l4 : Int} (h1 : pm_ob G l1 1) : pm_Run d 120 29 [.inr (.inr (.inl l0)), .inr (.inr (.inl l1)), .inr (.inr (.inl l2)), .inl l3, .inl l4] [] (G, M, T) K ↔ if pm_sg (M l1.toNat 4) ≤ pm_sg l4 then pm_Run d 120 61 [.inr (.inr (.inl l0)), .inr (.inr (.inl l1)), .inr (.inr (.inl l2)), .inl l3, .inl l4] [] (G, M, T) K else pm_Run d 120 38 [.inr (.inr (.inl l0)), .inr (.inr (.inl l1)), .inr (.inr (.inl l2)), .inl l3, .inl l4] [] (G, M, T) K := by
  refine (px_go (by decide +kernel : pm_fe 120 29 = some (.iload 4, 2)) rfl).trans ?_
  refine (px_go (by decide +kernel : pm_fe 120 31 = some (.aload_n 1, 1)) rfl).trans ?_
  refine (px_get0 (idx := 118) (ci := 1) (k := 4) (by decide +kernel)).trans ((and_iff_right h1).trans ?_)
  refine (px_ic_ge (off := 26) (tgt := 61) (by decide +kernel)).trans ?_
  exact Iff.rfl
theorem b120_38 {d : Nat} {G : PG} {M T : PH} {K : PV → PS → Prop} {l0 l1 l2 l3 l4 : Int} (h1 : pm_ob G l1 1) (h2 : pm_ob G (T l1.toNat 17) 3) : pm_Run d 120 38 [.inr (.inr (.inl l0)), .inr (.inr (.inl l1)), .inr (.inr (.inl l2)), .inl l3, .inl l4] [] (G, M, T) K ↔ pm_Call d 46 [.inr (.inr (.inl (T l1.toNat 17))), .inl (2 + l4)] (G, M, T) (fun r S1 => pm_Run d 120 49 [.inr (.inr (.inl l0)), .inr (.inr (.inl l1)), .inr (.inr (.inl l2)), .inl l3, .inl l4] (pm_push r []) S1 K) := by
  refine (px_go (by decide +kernel : pm_fe 120 38 = some (.aload_n 1, 1)) rfl).trans ?_
  refine (px_get2 (idx := 45) (ci := 1) (k := 17) (by decide +kernel)).trans ((and_iff_right h1).trans ?_)
  refine (px_go (by decide +kernel : pm_fe 120 42 = some (.iconst 2, 1)) rfl).trans ?_
  refine (px_go (by decide +kernel : pm_fe 120 43 = some (.iload 4, 2)) rfl).trans ?_
  refine (px_go (by decide +kernel : pm_fe 120 45 = some (.iadd, 1)) rfl).trans ?_
  refine (px_v1 (idx := 70) (m' := 46) (ci := 3) (by decide +kernel)).trans ((and_iff_right ⟨h2, (by simp [pm_wl_n, pm_wl_c, pm_w] : pm_wl [] ≤ 8)⟩).trans ?_)
  exact Iff.rfl
theorem b120_49 {d : Nat} {G : PG} {M T : PH} {K : PV → PS → Prop} {l0 l1 l2 l3 l4 s0 : Int} : pm_Run d 120 49 [.inr (.inr (.inl l0)), .inr (.inr (.inl l1)), .inr (.inr (.inl l2)), .inl l3, .inl l4] [.inl s0] (G, M, T) K ↔ if pm_sg s0 ≠ 0 then pm_Run d 120 55 [.inr (.inr (.inl l0)), .inr (.inr (.inl l1)), .inr (.inr (.inl l2)), .inl l3, .inl l4] [] (G, M, T) K else pm_Run d 120 52 [.inr (.inr (.inl l0)), .inr (.inr (.inl l1)), .inr (.inr (.inl l2)), .inl l3, .inl l4] [] (G, M, T) K := by
  refine (px_if_ne (off := 6) (tgt := 55) (by decide +kernel)).trans ?_
  exact Iff.rfl
theorem b120_52 {d : Nat} {G : PG} {M T : PH} {K : PV → PS → Prop} {l0 l1 l2 l3 l4 : Int} : pm_Run d 120 52 [.inr (.inr (.inl l0)), .inr (.inr (.inl l1)), .inr (.inr (.inl l2)), .inl l3, .inl l4] [] (G, M, T) K ↔ K (.inl l4) (G, M, T) := by
  refine (px_go (by decide +kernel : pm_fe 120 52 = some (.iload 4, 2)) rfl).trans ?_
  refine (px_ri (by decide +kernel)).trans ?_
  exact Iff.rfl
theorem b120_55 {d : Nat} {G : PG} {M T : PH} {K : PV → PS → Prop} {l0 l1 l2 l3 l4 : Int} : pm_Run d 120 55 [.inr (.inr (.inl l0)), .inr (.inr (.inl l1)), .inr (.inr (.inl l2)), .inl l3, .inl l4] [] (G, M, T) K ↔ pm_Run d 120 29 [.inr (.inr (.inl l0)), .inr (.inr (.inl l1)), .inr (.inr (.inl l2)), .inl l3, .inl (l4 + 1)] [] (G, M, T) K := by
  refine (px_go (by decide +kernel : pm_fe 120 55 = some (.iinc 4 1, 3)) rfl).trans ?_
  refine (px_goto (off := (-29)) (tgt := 29) (by decide +kernel)).trans ?_
  exact Iff.rfl
theorem b120_61 {d : Nat} {G : PG} {M T : PH} {K : PV → PS → Prop} {l0 l1 l2 l3 l4 : Int} : pm_Run d 120 61 [.inr (.inr (.inl l0)), .inr (.inr (.inl l1)), .inr (.inr (.inl l2)), .inl l3, .inl l4] [] (G, M, T) K ↔ K (.inl (-1)) (G, M, T) := by
  refine (px_go (by decide +kernel : pm_fe 120 61 = some (.iconst (-1), 1)) rfl).trans ?_
  refine (px_ri (by decide +kernel)).trans ?_
  exact Iff.rfl
-- X9_passHour passHour(LMoonTender$Chart;LMoonTender$Moment;)V
theorem en121 {d : Nat} {a p0 p1 : Int} {S : PS} {K : PV → PS → Prop} : pm_Call (d + 1) 121 [.inr (.inr (.inl a)), .inr (.inr (.inl p0)), .inr (.inr (.inl p1))] S K ↔ pm_Run d 121 0 [.inr (.inr (.inl a)), .inr (.inr (.inl p0)), .inr (.inr (.inl p1))] [] S K := pm_Call_s.trans (and_iff_right (show 3 ≤ pm_ml 121 from by decide +kernel))
theorem b121_0 {d : Nat} {G : PG} {M T : PH} {K : PV → PS → Prop} {l0 l1 l2 : Int} (h1 : pm_ob G l1 1) (h2 : pm_ob G (T l1.toNat 17) 3) : pm_Run d 121 0 [.inr (.inr (.inl l0)), .inr (.inr (.inl l1)), .inr (.inr (.inl l2))] [] (G, M, T) K ↔ pm_Call d 45 [.inr (.inr (.inl (T l1.toNat 17))), .inl 1, .inl 15] (G, M, T) (fun r S1 => pm_Run d 121 10 [.inr (.inr (.inl l0)), .inr (.inr (.inl l1)), .inr (.inr (.inl l2))] (pm_push r []) S1 K) := by
  refine (px_go (by decide +kernel : pm_fe 121 0 = some (.aload_n 1, 1)) rfl).trans ?_
  refine (px_get2 (idx := 45) (ci := 1) (k := 17) (by decide +kernel)).trans ((and_iff_right h1).trans ?_)
  refine (px_go (by decide +kernel : pm_fe 121 4 = some (.iconst 1, 1)) rfl).trans ?_
  refine (px_go (by decide +kernel : pm_fe 121 5 = some (.bipush 15, 2)) rfl).trans ?_
  refine (px_v2 (idx := 51) (m' := 45) (ci := 3) (by decide +kernel)).trans ((and_iff_right ⟨h2, (by simp [pm_wl_n, pm_wl_c, pm_w] : pm_wl [] ≤ 8)⟩).trans ?_)
  exact Iff.rfl
theorem b121_10 {d : Nat} {G : PG} {M T : PH} {K : PV → PS → Prop} {l0 l1 l2 s0 : Int} : pm_Run d 121 10 [.inr (.inr (.inl l0)), .inr (.inr (.inl l1)), .inr (.inr (.inl l2))] [.inl s0] (G, M, T) K ↔ if pm_sg s0 = 0 then pm_Run d 121 19 [.inr (.inr (.inl l0)), .inr (.inr (.inl l1)), .inr (.inr (.inl l2))] [] (G, M, T) K else pm_Run d 121 13 [.inr (.inr (.inl l0)), .inr (.inr (.inl l1)), .inr (.inr (.inl l2))] [] (G, M, T) K := by
  refine (px_if_eq (off := 9) (tgt := 19) (by decide +kernel)).trans ?_
  exact Iff.rfl
theorem b121_13 {d : Nat} {G : PG} {M T : PH} {K : PV → PS → Prop} {l0 l1 l2 : Int} (h1 : pm_ob G l0 9) : pm_Run d 121 13 [.inr (.inr (.inl l0)), .inr (.inr (.inl l1)), .inr (.inr (.inl l2))] [] (G, M, T) K ↔ pm_Call d 113 [.inr (.inr (.inl l0)), .inr (.inr (.inl l1)), .inr (.inr (.inl l2))] (G, M, T) (fun r S1 => pm_Run d 121 19 [.inr (.inr (.inl l0)), .inr (.inr (.inl l1)), .inr (.inr (.inl l2))] (pm_push r []) S1 K) := by
  refine (px_go (by decide +kernel : pm_fe 121 13 = some (.aload_n 0, 1)) rfl).trans ?_
  refine (px_go (by decide +kernel : pm_fe 121 14 = some (.aload_n 1, 1)) rfl).trans ?_
  refine (px_go (by decide +kernel : pm_fe 121 15 = some (.aload_n 2, 1)) rfl).trans ?_
  refine (px_v2 (idx := 125) (m' := 113) (ci := 9) (by decide +kernel)).trans ((and_iff_right ⟨h1, (by simp [pm_wl_n, pm_wl_c, pm_w] : pm_wl [] ≤ 8)⟩).trans ?_)
  exact Iff.rfl
theorem b121_19 {d : Nat} {G : PG} {M T : PH} {K : PV → PS → Prop} {l0 l1 l2 : Int} (h1 : pm_ob G l0 9) : pm_Run d 121 19 [.inr (.inr (.inl l0)), .inr (.inr (.inl l1)), .inr (.inr (.inl l2))] [] (G, M, T) K ↔ pm_Call d 122 [.inr (.inr (.inl l0)), .inr (.inr (.inl l1)), .inr (.inr (.inl l2))] (G, M, T) (fun r S1 => pm_Run d 121 25 [.inr (.inr (.inl l0)), .inr (.inr (.inl l1)), .inr (.inr (.inl l2))] (pm_push r []) S1 K) := by
  refine (px_go (by decide +kernel : pm_fe 121 19 = some (.aload_n 0, 1)) rfl).trans ?_
  refine (px_go (by decide +kernel : pm_fe 121 20 = some (.aload_n 1, 1)) rfl).trans ?_
  refine (px_go (by decide +kernel : pm_fe 121 21 = some (.aload_n 2, 1)) rfl).trans ?_
  refine (px_v2 (idx := 129) (m' := 122) (ci := 9) (by decide +kernel)).trans ((and_iff_right ⟨h1, (by simp [pm_wl_n, pm_wl_c, pm_w] : pm_wl [] ≤ 8)⟩).trans ?_)
  exact Iff.rfl
theorem b121_25 {d : Nat} {G : PG} {M T : PH} {K : PV → PS → Prop} {l0 l1 l2 : Int} : pm_Run d 121 25 [.inr (.inr (.inl l0)), .inr (.inr (.inl l1)), .inr (.inr (.inl l2))] [] (G, M, T) K ↔ K PU (G, M, T) := by
  refine (px_rv (by decide +kernel)).trans ?_
  exact Iff.rfl
-- X9_passRisenHour passRisenHour(LMoonTender$Chart;LMoonTender$Moment;)V
theorem en122 {d : Nat} {a p0 p1 : Int} {S : PS} {K : PV → PS → Prop} : pm_Call (d + 1) 122 [.inr (.inr (.inl a)), .inr (.inr (.inl p0)), .inr (.inr (.inl p1))] S K ↔ pm_Run d 122 0 [.inr (.inr (.inl a)), .inr (.inr (.inl p0)), .inr (.inr (.inl p1)), PU, PU] [] S K := pm_Call_s.trans (and_iff_right (show 3 ≤ pm_ml 122 from by decide +kernel))
theorem b122_0 {d : Nat} {G : PG} {M T : PH} {K : PV → PS → Prop} {l0 l1 l2 : Int} (h1 : pm_ob G l1 1) (h2 : pm_ob G (T l1.toNat 17) 3) : pm_Run d 122 0 [.inr (.inr (.inl l0)), .inr (.inr (.inl l1)), .inr (.inr (.inl l2)), PU, PU] [] (G, M, T) K ↔ pm_Call d 44 [.inr (.inr (.inl (T l1.toNat 17))), .inl 1] (G, M, T) (fun r S1 => pm_Run d 122 8 [.inr (.inr (.inl l0)), .inr (.inr (.inl l1)), .inr (.inr (.inl l2)), PU, PU] (pm_push r []) S1 K) := by
  refine (px_go (by decide +kernel : pm_fe 122 0 = some (.aload_n 1, 1)) rfl).trans ?_
  refine (px_get2 (idx := 45) (ci := 1) (k := 17) (by decide +kernel)).trans ((and_iff_right h1).trans ?_)
  refine (px_go (by decide +kernel : pm_fe 122 4 = some (.iconst 1, 1)) rfl).trans ?_
  refine (px_v1 (idx := 132) (m' := 44) (ci := 3) (by decide +kernel)).trans ((and_iff_right ⟨h2, (by simp [pm_wl_n, pm_wl_c, pm_w] : pm_wl [] ≤ 8)⟩).trans ?_)
  exact Iff.rfl
theorem b122_8 {d : Nat} {G : PG} {M T : PH} {K : PV → PS → Prop} {l0 l1 l2 s0 : Int} : pm_Run d 122 8 [.inr (.inr (.inl l0)), .inr (.inr (.inl l1)), .inr (.inr (.inl l2)), PU, PU] [.inl s0] (G, M, T) K ↔ if pm_sg s0 = 0 then pm_Run d 122 34 [.inr (.inr (.inl l0)), .inr (.inr (.inl l1)), .inr (.inr (.inl l2)), PU, PU] [] (G, M, T) K else pm_Run d 122 11 [.inr (.inr (.inl l0)), .inr (.inr (.inl l1)), .inr (.inr (.inl l2)), PU, PU] [] (G, M, T) K := by
  refine (px_if_eq (off := 26) (tgt := 34) (by decide +kernel)).trans ?_
  exact Iff.rfl
theorem b122_11 {d : Nat} {G : PG} {M T : PH} {K : PV → PS → Prop} {l0 l1 l2 : Int} : pm_Run d 122 11 [.inr (.inr (.inl l0)), .inr (.inr (.inl l1)), .inr (.inr (.inl l2)), PU, PU] [] (G, M, T) K ↔ pm_Run d 122 13 [.inr (.inr (.inl l0)), .inr (.inr (.inl l1)), .inr (.inr (.inl l2)), .inl 0, PU] [] (G, M, T) K := by
  refine (px_go (by decide +kernel : pm_fe 122 11 = some (.iconst 0, 1)) rfl).trans ?_
  refine (px_go (by decide +kernel : pm_fe 122 12 = some (.istore_n 3, 1)) rfl).trans ?_
  exact Iff.rfl
theorem b122_13 {d : Nat} {G : PG} {M T : PH} {K : PV → PS → Prop} {l0 l1 l2 l3 : Int} (h1 : pm_ob G l1 1) : pm_Run d 122 13 [.inr (.inr (.inl l0)), .inr (.inr (.inl l1)), .inr (.inr (.inl l2)), .inl l3, PU] [] (G, M, T) K ↔ if pm_sg (M l1.toNat 2) ≤ pm_sg l3 then pm_Run d 122 34 [.inr (.inr (.inl l0)), .inr (.inr (.inl l1)), .inr (.inr (.inl l2)), .inl l3, PU] [] (G, M, T) K else pm_Run d 122 21 [.inr (.inr (.inl l0)), .inr (.inr (.inl l1)), .inr (.inr (.inl l2)), .inl l3, PU] [] (G, M, T) K := by
  refine (px_go (by decide +kernel : pm_fe 122 13 = some (.iload_n 3, 1)) rfl).trans ?_
  refine (px_go (by decide +kernel : pm_fe 122 14 = some (.aload_n 1, 1)) rfl).trans ?_
  refine (px_get0 (idx := 136) (ci := 1) (k := 2) (by decide +kernel)).trans ((and_iff_right h1).trans ?_)
  refine (px_ic_ge (off := 16) (tgt := 34) (by decide +kernel)).trans ?_
  exact Iff.rfl
theorem b122_21 {d : Nat} {G : PG} {M T : PH} {K : PV → PS → Prop} {l0 l1 l2 l3 : Int} (h1 : pm_ob G l0 9) : pm_Run d 122 21 [.inr (.inr (.inl l0)), .inr (.inr (.inl l1)), .inr (.inr (.inl l2)), .inl l3, PU] [] (G, M, T) K ↔ pm_Call d 123 [.inr (.inr (.inl l0)), .inr (.inr (.inl l1)), .inr (.inr (.inl l2)), .inl l3] (G, M, T) (fun r S1 => pm_Run d 122 28 [.inr (.inr (.inl l0)), .inr (.inr (.inl l1)), .inr (.inr (.inl l2)), .inl l3, PU] (pm_push r []) S1 K) := by
  refine (px_go (by decide +kernel : pm_fe 122 21 = some (.aload_n 0, 1)) rfl).trans ?_
  refine (px_go (by decide +kernel : pm_fe 122 22 = some (.aload_n 1, 1)) rfl).trans ?_
  refine (px_go (by decide +kernel : pm_fe 122 23 = some (.aload_n 2, 1)) rfl).trans ?_
  refine (px_go (by decide +kernel : pm_fe 122 24 = some (.iload_n 3, 1)) rfl).trans ?_
  refine (px_v3 (idx := 139) (m' := 123) (ci := 9) (by decide +kernel)).trans ((and_iff_right ⟨h1, (by simp [pm_wl_n, pm_wl_c, pm_w] : pm_wl [] ≤ 8)⟩).trans ?_)
  exact Iff.rfl
theorem b122_28 {d : Nat} {G : PG} {M T : PH} {K : PV → PS → Prop} {l0 l1 l2 l3 : Int} : pm_Run d 122 28 [.inr (.inr (.inl l0)), .inr (.inr (.inl l1)), .inr (.inr (.inl l2)), .inl l3, PU] [] (G, M, T) K ↔ pm_Run d 122 13 [.inr (.inr (.inl l0)), .inr (.inr (.inl l1)), .inr (.inr (.inl l2)), .inl (l3 + 1), PU] [] (G, M, T) K := by
  refine (px_go (by decide +kernel : pm_fe 122 28 = some (.iinc 3 1, 3)) rfl).trans ?_
  refine (px_goto (off := (-18)) (tgt := 13) (by decide +kernel)).trans ?_
  exact Iff.rfl
theorem b122_34 {d : Nat} {G : PG} {M T : PH} {K : PV → PS → Prop} {l0 l1 l2 : Int} {l3 : PV} : pm_Run d 122 34 [.inr (.inr (.inl l0)), .inr (.inr (.inl l1)), .inr (.inr (.inl l2)), l3, PU] [] (G, M, T) K ↔ pm_Run d 122 36 [.inr (.inr (.inl l0)), .inr (.inr (.inl l1)), .inr (.inr (.inl l2)), .inl 0, PU] [] (G, M, T) K := by
  refine (px_go (by decide +kernel : pm_fe 122 34 = some (.iconst 0, 1)) rfl).trans ?_
  refine (px_go (by decide +kernel : pm_fe 122 35 = some (.istore_n 3, 1)) rfl).trans ?_
  exact Iff.rfl
theorem b122_36 {d : Nat} {G : PG} {M T : PH} {K : PV → PS → Prop} {l0 l1 l2 l3 : Int} {l4 : PV} (h1 : pm_ob G l1 1) : pm_Run d 122 36 [.inr (.inr (.inl l0)), .inr (.inr (.inl l1)), .inr (.inr (.inl l2)), .inl l3, l4] [] (G, M, T) K ↔ if pm_sg (M l1.toNat 2) ≤ pm_sg l3 then pm_Run d 122 79 [.inr (.inr (.inl l0)), .inr (.inr (.inl l1)), .inr (.inr (.inl l2)), .inl l3, l4] [] (G, M, T) K else pm_Run d 122 44 [.inr (.inr (.inl l0)), .inr (.inr (.inl l1)), .inr (.inr (.inl l2)), .inl l3, l4] [] (G, M, T) K := by
  refine (px_go (by decide +kernel : pm_fe 122 36 = some (.iload_n 3, 1)) rfl).trans ?_
  refine (px_go (by decide +kernel : pm_fe 122 37 = some (.aload_n 1, 1)) rfl).trans ?_
  refine (px_get0 (idx := 136) (ci := 1) (k := 2) (by decide +kernel)).trans ((and_iff_right h1).trans ?_)
  refine (px_ic_ge (off := 38) (tgt := 79) (by decide +kernel)).trans ?_
  exact Iff.rfl
theorem b122_44 {d : Nat} {G : PG} {M T : PH} {K : PV → PS → Prop} {l0 l1 l2 l3 : Int} {l4 : PV} : pm_Run d 122 44 [.inr (.inr (.inl l0)), .inr (.inr (.inl l1)), .inr (.inr (.inl l2)), .inl l3, l4] [] (G, M, T) K ↔ pm_Run d 122 47 [.inr (.inr (.inl l0)), .inr (.inr (.inl l1)), .inr (.inr (.inl l2)), .inl l3, .inl 0] [] (G, M, T) K := by
  refine (px_go (by decide +kernel : pm_fe 122 44 = some (.iconst 0, 1)) rfl).trans ?_
  refine (px_go (by decide +kernel : pm_fe 122 45 = some (.istore 4, 2)) rfl).trans ?_
  exact Iff.rfl
theorem b122_47 {d : Nat} {G : PG} {M T : PH} {K : PV → PS → Prop} {l0 l1 l2 l3 l4 : Int} (h1 : pm_ob G l1 1) : pm_Run d 122 47 [.inr (.inr (.inl l0)), .inr (.inr (.inl l1)), .inr (.inr (.inl l2)), .inl l3, .inl l4] [] (G, M, T) K ↔ if pm_sg (M l1.toNat 1) ≤ pm_sg l4 then pm_Run d 122 73 [.inr (.inr (.inl l0)), .inr (.inr (.inl l1)), .inr (.inr (.inl l2)), .inl l3, .inl l4] [] (G, M, T) K else pm_Run d 122 56 [.inr (.inr (.inl l0)), .inr (.inr (.inl l1)), .inr (.inr (.inl l2)), .inl l3, .inl l4] [] (G, M, T) K := by
  refine (px_go (by decide +kernel : pm_fe 122 47 = some (.iload 4, 2)) rfl).trans ?_
  refine (px_go (by decide +kernel : pm_fe 122 49 = some (.aload_n 1, 1)) rfl).trans ?_
  refine (px_get0 (idx := 24) (ci := 1) (k := 1) (by decide +kernel)).trans ((and_iff_right h1).trans ?_)
  refine (px_ic_ge (off := 20) (tgt := 73) (by decide +kernel)).trans ?_
  exact Iff.rfl
theorem b122_56 {d : Nat} {G : PG} {M T : PH} {K : PV → PS → Prop} {l0 l1 l2 l3 l4 : Int} : pm_Run d 122 56 [.inr (.inr (.inl l0)), .inr (.inr (.inl l1)), .inr (.inr (.inl l2)), .inl l3, .inl l4] [] (G, M, T) K ↔ pm_Call d 55 [.inl l3, .inl l4] (G, M, T) (fun r S1 => pm_Run d 122 64 [.inr (.inr (.inl l0)), .inr (.inr (.inl l1)), .inr (.inr (.inl l2)), .inl l3, .inl l4] (pm_push r [.inl l3, .inr (.inr (.inl l2))]) S1 K) := by
  refine (px_go (by decide +kernel : pm_fe 122 56 = some (.aload_n 2, 1)) rfl).trans ?_
  refine (px_go (by decide +kernel : pm_fe 122 57 = some (.iload_n 3, 1)) rfl).trans ?_
  refine (px_go (by decide +kernel : pm_fe 122 58 = some (.iload_n 3, 1)) rfl).trans ?_
  refine (px_go (by decide +kernel : pm_fe 122 59 = some (.iload 4, 2)) rfl).trans ?_
  refine (px_s2 (idx := 143) (m' := 55) (nest := 0) (by decide +kernel)).trans ((and_iff_right (by simp [pm_wl_n, pm_wl_c, pm_w] : pm_wl [.inl l3, .inr (.inr (.inl l2))] ≤ 8)).trans ?_)
  exact Iff.rfl
theorem b122_64 {d : Nat} {G : PG} {M T : PH} {K : PV → PS → Prop} {l0 l1 l2 l3 l4 s0 s1 s2 : Int} : pm_Run d 122 64 [.inr (.inr (.inl l0)), .inr (.inr (.inl l1)), .inr (.inr (.inl l2)), .inl l3, .inl l4] [.inl s0, .inl s1, .inr (.inr (.inl s2))] (G, M, T) K ↔ pm_Call d 124 [.inr (.inr (.inl s2)), .inl s1, .inl s0] (G, M, T) (fun r S1 => pm_Run d 122 67 [.inr (.inr (.inl l0)), .inr (.inr (.inl l1)), .inr (.inr (.inl l2)), .inl l3, .inl l4] (pm_push r []) S1 K) := by
  refine (px_s3 (idx := 146) (m' := 124) (nest := 0) (by decide +kernel)).trans ((and_iff_right (by simp [pm_wl_n, pm_wl_c, pm_w] : pm_wl [] ≤ 8)).trans ?_)
  exact Iff.rfl
theorem b122_67 {d : Nat} {G : PG} {M T : PH} {K : PV → PS → Prop} {l0 l1 l2 l3 l4 : Int} : pm_Run d 122 67 [.inr (.inr (.inl l0)), .inr (.inr (.inl l1)), .inr (.inr (.inl l2)), .inl l3, .inl l4] [] (G, M, T) K ↔ pm_Run d 122 47 [.inr (.inr (.inl l0)), .inr (.inr (.inl l1)), .inr (.inr (.inl l2)), .inl l3, .inl (l4 + 1)] [] (G, M, T) K := by
  refine (px_go (by decide +kernel : pm_fe 122 67 = some (.iinc 4 1, 3)) rfl).trans ?_
  refine (px_goto (off := (-23)) (tgt := 47) (by decide +kernel)).trans ?_
  exact Iff.rfl
theorem b122_73 {d : Nat} {G : PG} {M T : PH} {K : PV → PS → Prop} {l0 l1 l2 l3 l4 : Int} : pm_Run d 122 73 [.inr (.inr (.inl l0)), .inr (.inr (.inl l1)), .inr (.inr (.inl l2)), .inl l3, .inl l4] [] (G, M, T) K ↔ pm_Run d 122 36 [.inr (.inr (.inl l0)), .inr (.inr (.inl l1)), .inr (.inr (.inl l2)), .inl (l3 + 1), .inl l4] [] (G, M, T) K := by
  refine (px_go (by decide +kernel : pm_fe 122 73 = some (.iinc 3 1, 3)) rfl).trans ?_
  refine (px_goto (off := (-40)) (tgt := 36) (by decide +kernel)).trans ?_
  exact Iff.rfl
theorem b122_79 {d : Nat} {G : PG} {M T : PH} {K : PV → PS → Prop} {l0 l1 l2 l3 : Int} {l4 : PV} : pm_Run d 122 79 [.inr (.inr (.inl l0)), .inr (.inr (.inl l1)), .inr (.inr (.inl l2)), .inl l3, l4] [] (G, M, T) K ↔ pm_Run d 122 81 [.inr (.inr (.inl l0)), .inr (.inr (.inl l1)), .inr (.inr (.inl l2)), .inl 0, l4] [] (G, M, T) K := by
  refine (px_go (by decide +kernel : pm_fe 122 79 = some (.iconst 0, 1)) rfl).trans ?_
  refine (px_go (by decide +kernel : pm_fe 122 80 = some (.istore_n 3, 1)) rfl).trans ?_
  exact Iff.rfl
theorem b122_81 {d : Nat} {G : PG} {M T : PH} {K : PV → PS → Prop} {l0 l1 l2 l3 : Int} {l4 : PV} (h1 : pm_ob G l1 1) : pm_Run d 122 81 [.inr (.inr (.inl l0)), .inr (.inr (.inl l1)), .inr (.inr (.inl l2)), .inl l3, l4] [] (G, M, T) K ↔ if pm_sg (M l1.toNat 1) ≤ pm_sg l3 then pm_Run d 122 108 [.inr (.inr (.inl l0)), .inr (.inr (.inl l1)), .inr (.inr (.inl l2)), .inl l3, l4] [] (G, M, T) K else pm_Run d 122 89 [.inr (.inr (.inl l0)), .inr (.inr (.inl l1)), .inr (.inr (.inl l2)), .inl l3, l4] [] (G, M, T) K := by
  refine (px_go (by decide +kernel : pm_fe 122 81 = some (.iload_n 3, 1)) rfl).trans ?_
  refine (px_go (by decide +kernel : pm_fe 122 82 = some (.aload_n 1, 1)) rfl).trans ?_
  refine (px_get0 (idx := 24) (ci := 1) (k := 1) (by decide +kernel)).trans ((and_iff_right h1).trans ?_)
  refine (px_ic_ge (off := 22) (tgt := 108) (by decide +kernel)).trans ?_
  exact Iff.rfl
theorem b122_89 {d : Nat} {G : PG} {M T : PH} {K : PV → PS → Prop} {l0 l1 l2 l3 : Int} {l4 : PV} (h1 : pm_ob G l2 5) (h2 : pm_ob G l1 1) : pm_Run d 122 89 [.inr (.inr (.inl l0)), .inr (.inr (.inl l1)), .inr (.inr (.inl l2)), .inl l3, l4] [] (G, M, T) K ↔ pm_Call d 20 [.inr (.inr (.inl l1)), .inr (.inr (.inl l2)), .inl l3, .inl 1] (G, M, T) (fun r S1 => pm_Run d 122 101 [.inr (.inr (.inl l0)), .inr (.inr (.inl l1)), .inr (.inr (.inl l2)), .inl l3, l4] (pm_push r [.inl l3, .inr (.inr (.inl (T l2.toNat 1)))]) S1 K) := by
  refine (px_go (by decide +kernel : pm_fe 122 89 = some (.aload_n 2, 1)) rfl).trans ?_
  refine (px_get2 (idx := 55) (ci := 5) (k := 1) (by decide +kernel)).trans ((and_iff_right h1).trans ?_)
  refine (px_go (by decide +kernel : pm_fe 122 93 = some (.iload_n 3, 1)) rfl).trans ?_
  refine (px_go (by decide +kernel : pm_fe 122 94 = some (.aload_n 1, 1)) rfl).trans ?_
  refine (px_go (by decide +kernel : pm_fe 122 95 = some (.aload_n 2, 1)) rfl).trans ?_
  refine (px_go (by decide +kernel : pm_fe 122 96 = some (.iload_n 3, 1)) rfl).trans ?_
  refine (px_go (by decide +kernel : pm_fe 122 97 = some (.iconst 1, 1)) rfl).trans ?_
  refine (px_v3 (idx := 150) (m' := 20) (ci := 1) (by decide +kernel)).trans ((and_iff_right ⟨h2, (by simp [pm_wl_n, pm_wl_c, pm_w] : pm_wl [.inl l3, .inr (.inr (.inl (T l2.toNat 1)))] ≤ 8)⟩).trans ?_)
  exact Iff.rfl
theorem b122_101 {d : Nat} {G : PG} {M T : PH} {K : PV → PS → Prop} {l0 l1 l2 l3 s0 s1 s2 : Int} {l4 : PV} (h1 : pm_ar G s2 100 s1) : pm_Run d 122 101 [.inr (.inr (.inl l0)), .inr (.inr (.inl l1)), .inr (.inr (.inl l2)), .inl l3, l4] [.inl s0, .inl s1, .inr (.inr (.inl s2))] (G, M, T) K ↔ pm_Run d 122 81 [.inr (.inr (.inl l0)), .inr (.inr (.inl l1)), .inr (.inr (.inl l2)), .inl (l3 + 1), l4] [] (G, pm_sa M s2.toNat (pm_up (M s2.toNat) (pm_sg s1).toNat s0), T) K := by
  refine (px_iastore (by decide +kernel)).trans ((and_iff_right h1).trans ?_)
  refine (px_go (by decide +kernel : pm_fe 122 102 = some (.iinc 3 1, 3)) rfl).trans ?_
  refine (px_goto (off := (-24)) (tgt := 81) (by decide +kernel)).trans ?_
  exact Iff.rfl
theorem b122_108 {d : Nat} {G : PG} {M T : PH} {K : PV → PS → Prop} {l0 l1 l2 l3 : Int} {l4 : PV} (h1 : pm_ob G l2 5) : pm_Run d 122 108 [.inr (.inr (.inl l0)), .inr (.inr (.inl l1)), .inr (.inr (.inl l2)), .inl l3, l4] [] (G, M, T) K ↔ K PU (G, pm_sa M l2.toNat (pm_up (M l2.toNat) 0 (pm_mn 9999 ((M l2.toNat 0) + 1))), T) := by
  refine (px_go (by decide +kernel : pm_fe 122 108 = some (.aload_n 2, 1)) rfl).trans ?_
  refine (px_go (by decide +kernel : pm_fe 122 109 = some (.sipush 9999, 3)) rfl).trans ?_
  refine (px_go (by decide +kernel : pm_fe 122 112 = some (.aload_n 2, 1)) rfl).trans ?_
  refine (px_get0 (idx := 100) (ci := 5) (k := 0) (by decide +kernel)).trans ((and_iff_right h1).trans ?_)
  refine (px_go (by decide +kernel : pm_fe 122 116 = some (.iconst 1, 1)) rfl).trans ?_
  refine (px_go (by decide +kernel : pm_fe 122 117 = some (.iadd, 1)) rfl).trans ?_
  refine (px_m906 (idx := 64) (by decide +kernel)).trans ((and_iff_right (by simp [pm_wl_n, pm_wl_c, pm_w] : pm_wl [.inr (.inr (.inl l2))] ≤ 8)).trans ?_)
  refine (px_put0 (idx := 100) (ci := 5) (k := 0) (by decide +kernel)).trans ((and_iff_right h1).trans ?_)
  refine (px_rv (by decide +kernel)).trans ?_
  exact Iff.rfl
-- X9_earn earn(LMoonTender$Chart;LMoonTender$Moment;I)V
theorem en123 {d : Nat} {a p0 p1 p2 : Int} {S : PS} {K : PV → PS → Prop} : pm_Call (d + 1) 123 [.inr (.inr (.inl a)), .inr (.inr (.inl p0)), .inr (.inr (.inl p1)), .inl p2] S K ↔ pm_Run d 123 0 [.inr (.inr (.inl a)), .inr (.inr (.inl p0)), .inr (.inr (.inl p1)), .inl p2, PU] [] S K := pm_Call_s.trans (and_iff_right (show 4 ≤ pm_ml 123 from by decide +kernel))
theorem b123_0 {d : Nat} {G : PG} {M T : PH} {K : PV → PS → Prop} {l0 l1 l2 l3 : Int} (h1 : pm_ob G l0 9) (h2 : pm_ob G l1 1) (h3 : pm_ar G (T l1.toNat 11) 100 l3) (h4 : pm_ar G (T l0.toNat 1) 100 (M (T l1.toNat 11).toNat (pm_sg l3).toNat)) : pm_Run d 123 0 [.inr (.inr (.inl l0)), .inr (.inr (.inl l1)), .inr (.inr (.inl l2)), .inl l3, PU] [] (G, M, T) K ↔ pm_Call d 119 [.inr (.inr (.inl l1)), .inr (.inr (.inl l2)), .inl l3, .inl (M (T l0.toNat 1).toNat (pm_sg (M (T l1.toNat 11).toNat (pm_sg l3).toNat)).toNat)] (G, M, T) (fun r S1 => pm_Run d 123 17 [.inr (.inr (.inl l0)), .inr (.inr (.inl l1)), .inr (.inr (.inl l2)), .inl l3, PU] (pm_push r []) S1 K) := by
  refine (px_go (by decide +kernel : pm_fe 123 0 = some (.aload_n 1, 1)) rfl).trans ?_
  refine (px_go (by decide +kernel : pm_fe 123 1 = some (.aload_n 2, 1)) rfl).trans ?_
  refine (px_go (by decide +kernel : pm_fe 123 2 = some (.iload_n 3, 1)) rfl).trans ?_
  refine (px_go (by decide +kernel : pm_fe 123 3 = some (.aload_n 0, 1)) rfl).trans ?_
  refine (px_get2 (idx := 15) (ci := 9) (k := 1) (by decide +kernel)).trans ((and_iff_right h1).trans ?_)
  refine (px_go (by decide +kernel : pm_fe 123 7 = some (.aload_n 1, 1)) rfl).trans ?_
  refine (px_get2 (idx := 115) (ci := 1) (k := 11) (by decide +kernel)).trans ((and_iff_right h2).trans ?_)
  refine (px_go (by decide +kernel : pm_fe 123 11 = some (.iload_n 3, 1)) rfl).trans ?_
  refine (px_iaload (by decide +kernel) h3).trans ?_
  refine (px_iaload (by decide +kernel) h4).trans ?_
  refine (px_s4 (idx := 121) (m' := 119) (nest := 0) (by decide +kernel)).trans ((and_iff_right (by simp [pm_wl_n, pm_wl_c, pm_w] : pm_wl [] ≤ 8)).trans ?_)
  exact Iff.rfl
theorem b123_17 {d : Nat} {G : PG} {M T : PH} {K : PV → PS → Prop} {l0 l1 l2 l3 : Int} (h1 : pm_ob G l1 1) (h2 : pm_ob G (T l1.toNat 17) 3) : pm_Run d 123 17 [.inr (.inr (.inl l0)), .inr (.inr (.inl l1)), .inr (.inr (.inl l2)), .inl l3, PU] [] (G, M, T) K ↔ pm_Call d 46 [.inr (.inr (.inl (T l1.toNat 17))), .inl 1] (G, M, T) (fun r S1 => pm_Run d 123 26 [.inr (.inr (.inl l0)), .inr (.inr (.inl l1)), .inr (.inr (.inl l2)), .inl l3, PU] (pm_push r [.inl 0]) S1 K) := by
  refine (px_go (by decide +kernel : pm_fe 123 17 = some (.iconst 0, 1)) rfl).trans ?_
  refine (px_go (by decide +kernel : pm_fe 123 18 = some (.aload_n 1, 1)) rfl).trans ?_
  refine (px_get2 (idx := 45) (ci := 1) (k := 17) (by decide +kernel)).trans ((and_iff_right h1).trans ?_)
  refine (px_go (by decide +kernel : pm_fe 123 22 = some (.iconst 1, 1)) rfl).trans ?_
  refine (px_v1 (idx := 70) (m' := 46) (ci := 3) (by decide +kernel)).trans ((and_iff_right ⟨h2, (by simp [pm_wl_n, pm_wl_c, pm_w] : pm_wl [.inl 0] ≤ 8)⟩).trans ?_)
  exact Iff.rfl
theorem b123_26 {d : Nat} {G : PG} {M T : PH} {K : PV → PS → Prop} {l0 l1 l2 l3 s0 s1 : Int} : pm_Run d 123 26 [.inr (.inr (.inl l0)), .inr (.inr (.inl l1)), .inr (.inr (.inl l2)), .inl l3, PU] [.inl s0, .inl s1] (G, M, T) K ↔ pm_Call d 177 [.inl s1, .inl s0, .inl 99] (G, M, T) (fun r S1 => pm_Run d 123 31 [.inr (.inr (.inl l0)), .inr (.inr (.inl l1)), .inr (.inr (.inl l2)), .inl l3, PU] (pm_push r []) S1 K) := by
  refine (px_go (by decide +kernel : pm_fe 123 26 = some (.bipush 99, 2)) rfl).trans ?_
  refine (px_s3 (idx := 73) (m' := 177) (nest := 1) (by decide +kernel)).trans ((and_iff_right (by simp [pm_wl_n, pm_wl_c, pm_w] : pm_wl [] ≤ 8)).trans ?_)
  exact Iff.rfl
theorem b123_31 {d : Nat} {G : PG} {M T : PH} {K : PV → PS → Prop} {l0 l1 l2 l3 s0 : Int} (h1 : pm_ob G l2 5) (h2 : pm_ar G (T l2.toNat 3) 100 l3) : pm_Run d 123 31 [.inr (.inr (.inl l0)), .inr (.inr (.inl l1)), .inr (.inr (.inl l2)), .inl l3, PU] [.inl s0] (G, M, T) K ↔ K PU (G, pm_sa M (T l2.toNat 3).toNat (pm_up (M (T l2.toNat 3).toNat) (pm_sg l3).toNat (pm_mn 9999 ((M (T l2.toNat 3).toNat (pm_sg l3).toNat) + s0))), T) := by
  refine (px_go (by decide +kernel : pm_fe 123 31 = some (.istore 4, 2)) rfl).trans ?_
  refine (px_go (by decide +kernel : pm_fe 123 33 = some (.aload_n 2, 1)) rfl).trans ?_
  refine (px_get2 (idx := 106) (ci := 5) (k := 3) (by decide +kernel)).trans ((and_iff_right h1).trans ?_)
  refine (px_go (by decide +kernel : pm_fe 123 37 = some (.iload_n 3, 1)) rfl).trans ?_
  refine (px_go (by decide +kernel : pm_fe 123 38 = some (.sipush 9999, 3)) rfl).trans ?_
  refine (px_go (by decide +kernel : pm_fe 123 41 = some (.aload_n 2, 1)) rfl).trans ?_
  refine (px_get2 (idx := 106) (ci := 5) (k := 3) (by decide +kernel)).trans ((and_iff_right h1).trans ?_)
  refine (px_go (by decide +kernel : pm_fe 123 45 = some (.iload_n 3, 1)) rfl).trans ?_
  refine (px_iaload (by decide +kernel) h2).trans ?_
  refine (px_go (by decide +kernel : pm_fe 123 47 = some (.iload 4, 2)) rfl).trans ?_
  refine (px_go (by decide +kernel : pm_fe 123 49 = some (.iadd, 1)) rfl).trans ?_
  refine (px_m906 (idx := 64) (by decide +kernel)).trans ((and_iff_right (by simp [pm_wl_n, pm_wl_c, pm_w] : pm_wl [.inl l3, .inr (.inr (.inl (T l2.toNat 3)))] ≤ 8)).trans ?_)
  refine (px_iastore (by decide +kernel)).trans ((and_iff_right h2).trans ?_)
  refine (px_rv (by decide +kernel)).trans ?_
  exact Iff.rfl
-- X9_pay pay(LMoonTender$Moment;II)V
theorem en124 {d : Nat} {p0 p1 p2 : Int} {S : PS} {K : PV → PS → Prop} : pm_Call (d + 1) 124 [.inr (.inr (.inl p0)), .inl p1, .inl p2] S K ↔ pm_Run d 124 0 [.inr (.inr (.inl p0)), .inl p1, .inl p2] [] S K := pm_Call_s.trans (and_iff_right (show 3 ≤ pm_ml 124 from by decide +kernel))
theorem b124_0 {d : Nat} {G : PG} {M T : PH} {K : PV → PS → Prop} {l0 l1 l2 : Int} (h1 : pm_ob G l0 5) (h2 : pm_ar G (T l0.toNat 3) 100 l1) (h3 : pm_ar G (T l0.toNat 4) 100 l2) : pm_Run d 124 0 [.inr (.inr (.inl l0)), .inl l1, .inl l2] [] (G, M, T) K ↔ if pm_sg (M (T l0.toNat 3).toNat (pm_sg l1).toNat) < pm_sg (M (T l0.toNat 4).toNat (pm_sg l2).toNat) then pm_Run d 124 33 [.inr (.inr (.inl l0)), .inl l1, .inl l2] [] (G, M, T) K else pm_Run d 124 15 [.inr (.inr (.inl l0)), .inl l1, .inl l2] [] (G, M, T) K := by
  refine (px_go (by decide +kernel : pm_fe 124 0 = some (.aload_n 0, 1)) rfl).trans ?_
  refine (px_get2 (idx := 106) (ci := 5) (k := 3) (by decide +kernel)).trans ((and_iff_right h1).trans ?_)
  refine (px_go (by decide +kernel : pm_fe 124 4 = some (.iload_n 1, 1)) rfl).trans ?_
  refine (px_iaload (by decide +kernel) h2).trans ?_
  refine (px_go (by decide +kernel : pm_fe 124 6 = some (.aload_n 0, 1)) rfl).trans ?_
  refine (px_get2 (idx := 154) (ci := 5) (k := 4) (by decide +kernel)).trans ((and_iff_right h1).trans ?_)
  refine (px_go (by decide +kernel : pm_fe 124 10 = some (.iload_n 2, 1)) rfl).trans ?_
  refine (px_iaload (by decide +kernel) h3).trans ?_
  refine (px_ic_lt (off := 21) (tgt := 33) (by decide +kernel)).trans ?_
  exact Iff.rfl
theorem b124_15 {d : Nat} {G : PG} {M T : PH} {K : PV → PS → Prop} {l0 l1 l2 : Int} (h1 : pm_ob G l0 5) (h2 : pm_ar G (T l0.toNat 3) 100 l1) (h3 : pm_ar G (T l0.toNat 4) 100 l2) : pm_Run d 124 15 [.inr (.inr (.inl l0)), .inl l1, .inl l2] [] (G, M, T) K ↔ pm_Run d 124 58 [.inr (.inr (.inl l0)), .inl l1, .inl l2] [] (G, pm_sa M (T l0.toNat 3).toNat (pm_up (M (T l0.toNat 3).toNat) (pm_sg l1).toNat ((M (T l0.toNat 3).toNat (pm_sg l1).toNat) - (M (T l0.toNat 4).toNat (pm_sg l2).toNat))), T) K := by
  refine (px_go (by decide +kernel : pm_fe 124 15 = some (.aload_n 0, 1)) rfl).trans ?_
  refine (px_get2 (idx := 106) (ci := 5) (k := 3) (by decide +kernel)).trans ((and_iff_right h1).trans ?_)
  refine (px_go (by decide +kernel : pm_fe 124 19 = some (.iload_n 1, 1)) rfl).trans ?_
  refine (px_go (by decide +kernel : pm_fe 124 20 = some (.dup2, 1)) rfl).trans ?_
  refine (px_iaload (by decide +kernel) h2).trans ?_
  refine (px_go (by decide +kernel : pm_fe 124 22 = some (.aload_n 0, 1)) rfl).trans ?_
  refine (px_get2 (idx := 154) (ci := 5) (k := 4) (by decide +kernel)).trans ((and_iff_right h1).trans ?_)
  refine (px_go (by decide +kernel : pm_fe 124 26 = some (.iload_n 2, 1)) rfl).trans ?_
  refine (px_iaload (by decide +kernel) h3).trans ?_
  refine (px_go (by decide +kernel : pm_fe 124 28 = some (.isub, 1)) rfl).trans ?_
  refine (px_iastore (by decide +kernel)).trans ((and_iff_right h2).trans ?_)
  refine (px_goto (off := 28) (tgt := 58) (by decide +kernel)).trans ?_
  exact Iff.rfl
theorem b124_33 {d : Nat} {G : PG} {M T : PH} {K : PV → PS → Prop} {l0 l1 l2 : Int} (h1 : pm_ob G l0 5) (h2 : pm_ar G (T l0.toNat 5) 100 l2) (h3 : pm_ar G (T l0.toNat 4) 100 l2) : pm_Run d 124 33 [.inr (.inr (.inl l0)), .inl l1, .inl l2] [] (G, M, T) K ↔ pm_Run d 124 58 [.inr (.inr (.inl l0)), .inl l1, .inl l2] [] (G, pm_sa M (T l0.toNat 5).toNat (pm_up (M (T l0.toNat 5).toNat) (pm_sg l2).toNat (pm_mn 9999 ((M (T l0.toNat 5).toNat (pm_sg l2).toNat) + (M (T l0.toNat 4).toNat (pm_sg l2).toNat)))), T) K := by
  refine (px_go (by decide +kernel : pm_fe 124 33 = some (.aload_n 0, 1)) rfl).trans ?_
  refine (px_get2 (idx := 157) (ci := 5) (k := 5) (by decide +kernel)).trans ((and_iff_right h1).trans ?_)
  refine (px_go (by decide +kernel : pm_fe 124 37 = some (.iload_n 2, 1)) rfl).trans ?_
  refine (px_go (by decide +kernel : pm_fe 124 38 = some (.sipush 9999, 3)) rfl).trans ?_
  refine (px_go (by decide +kernel : pm_fe 124 41 = some (.aload_n 0, 1)) rfl).trans ?_
  refine (px_get2 (idx := 157) (ci := 5) (k := 5) (by decide +kernel)).trans ((and_iff_right h1).trans ?_)
  refine (px_go (by decide +kernel : pm_fe 124 45 = some (.iload_n 2, 1)) rfl).trans ?_
  refine (px_iaload (by decide +kernel) h2).trans ?_
  refine (px_go (by decide +kernel : pm_fe 124 47 = some (.aload_n 0, 1)) rfl).trans ?_
  refine (px_get2 (idx := 154) (ci := 5) (k := 4) (by decide +kernel)).trans ((and_iff_right h1).trans ?_)
  refine (px_go (by decide +kernel : pm_fe 124 51 = some (.iload_n 2, 1)) rfl).trans ?_
  refine (px_iaload (by decide +kernel) h3).trans ?_
  refine (px_go (by decide +kernel : pm_fe 124 53 = some (.iadd, 1)) rfl).trans ?_
  refine (px_m906 (idx := 64) (by decide +kernel)).trans ((and_iff_right (by simp [pm_wl_n, pm_wl_c, pm_w] : pm_wl [.inl l2, .inr (.inr (.inl (T l0.toNat 5)))] ≤ 8)).trans ?_)
  refine (px_iastore (by decide +kernel)).trans ((and_iff_right h2).trans ?_)
  exact Iff.rfl
theorem b124_58 {d : Nat} {G : PG} {M T : PH} {K : PV → PS → Prop} {l0 l1 l2 : Int} (h1 : pm_ob G l0 5) (h2 : pm_ar G (T l0.toNat 5) 100 l2) : pm_Run d 124 58 [.inr (.inr (.inl l0)), .inl l1, .inl l2] [] (G, M, T) K ↔ if pm_sg (M (T l0.toNat 5).toNat (pm_sg l2).toNat) ≤ 0 then pm_Run d 124 104 [.inr (.inr (.inl l0)), .inl l1, .inl l2] [] (G, M, T) K else pm_Run d 124 67 [.inr (.inr (.inl l0)), .inl l1, .inl l2] [] (G, M, T) K := by
  refine (px_go (by decide +kernel : pm_fe 124 58 = some (.aload_n 0, 1)) rfl).trans ?_
  refine (px_get2 (idx := 157) (ci := 5) (k := 5) (by decide +kernel)).trans ((and_iff_right h1).trans ?_)
  refine (px_go (by decide +kernel : pm_fe 124 62 = some (.iload_n 2, 1)) rfl).trans ?_
  refine (px_iaload (by decide +kernel) h2).trans ?_
  refine (px_if_le (off := 40) (tgt := 104) (by decide +kernel)).trans ?_
  exact Iff.rfl
theorem b124_67 {d : Nat} {G : PG} {M T : PH} {K : PV → PS → Prop} {l0 l1 l2 : Int} (h1 : pm_ob G l0 5) (h2 : pm_ar G (T l0.toNat 3) 100 l1) (h3 : pm_ar G (T l0.toNat 5) 100 l2) : pm_Run d 124 67 [.inr (.inr (.inl l0)), .inl l1, .inl l2] [] (G, M, T) K ↔ if pm_sg (M (T l0.toNat 3).toNat (pm_sg l1).toNat) < pm_sg (M (T l0.toNat 5).toNat (pm_sg l2).toNat) then pm_Run d 124 104 [.inr (.inr (.inl l0)), .inl l1, .inl l2] [] (G, M, T) K else pm_Run d 124 82 [.inr (.inr (.inl l0)), .inl l1, .inl l2] [] (G, M, T) K := by
  refine (px_go (by decide +kernel : pm_fe 124 67 = some (.aload_n 0, 1)) rfl).trans ?_
  refine (px_get2 (idx := 106) (ci := 5) (k := 3) (by decide +kernel)).trans ((and_iff_right h1).trans ?_)
  refine (px_go (by decide +kernel : pm_fe 124 71 = some (.iload_n 1, 1)) rfl).trans ?_
  refine (px_iaload (by decide +kernel) h2).trans ?_
  refine (px_go (by decide +kernel : pm_fe 124 73 = some (.aload_n 0, 1)) rfl).trans ?_
  refine (px_get2 (idx := 157) (ci := 5) (k := 5) (by decide +kernel)).trans ((and_iff_right h1).trans ?_)
  refine (px_go (by decide +kernel : pm_fe 124 77 = some (.iload_n 2, 1)) rfl).trans ?_
  refine (px_iaload (by decide +kernel) h3).trans ?_
  refine (px_ic_lt (off := 25) (tgt := 104) (by decide +kernel)).trans ?_
  exact Iff.rfl
theorem b124_82 {d : Nat} {G : PG} {M T : PH} {K : PV → PS → Prop} {l0 l1 l2 : Int} (h1 : pm_ob G l0 5) (h2 : pm_ar G (T l0.toNat 3) 100 l1) (h3 : pm_ar G (T l0.toNat 5) 100 l2) : pm_Run d 124 82 [.inr (.inr (.inl l0)), .inl l1, .inl l2] [] (G, M, T) K ↔ pm_Run d 124 104 [.inr (.inr (.inl l0)), .inl l1, .inl l2] [] (G, pm_sa (pm_sa M (T l0.toNat 3).toNat (pm_up (M (T l0.toNat 3).toNat) (pm_sg l1).toNat ((M (T l0.toNat 3).toNat (pm_sg l1).toNat) - (M (T l0.toNat 5).toNat (pm_sg l2).toNat)))) (T l0.toNat 5).toNat (pm_up ((pm_sa M (T l0.toNat 3).toNat (pm_up (M (T l0.toNat 3).toNat) (pm_sg l1).toNat ((M (T l0.toNat 3).toNat (pm_sg l1).toNat) - (M (T l0.toNat 5).toNat (pm_sg l2).toNat)))) (T l0.toNat 5).toNat) (pm_sg l2).toNat 0), T) K := by
  refine (px_go (by decide +kernel : pm_fe 124 82 = some (.aload_n 0, 1)) rfl).trans ?_
  refine (px_get2 (idx := 106) (ci := 5) (k := 3) (by decide +kernel)).trans ((and_iff_right h1).trans ?_)
  refine (px_go (by decide +kernel : pm_fe 124 86 = some (.iload_n 1, 1)) rfl).trans ?_
  refine (px_go (by decide +kernel : pm_fe 124 87 = some (.dup2, 1)) rfl).trans ?_
  refine (px_iaload (by decide +kernel) h2).trans ?_
  refine (px_go (by decide +kernel : pm_fe 124 89 = some (.aload_n 0, 1)) rfl).trans ?_
  refine (px_get2 (idx := 157) (ci := 5) (k := 5) (by decide +kernel)).trans ((and_iff_right h1).trans ?_)
  refine (px_go (by decide +kernel : pm_fe 124 93 = some (.iload_n 2, 1)) rfl).trans ?_
  refine (px_iaload (by decide +kernel) h3).trans ?_
  refine (px_go (by decide +kernel : pm_fe 124 95 = some (.isub, 1)) rfl).trans ?_
  refine (px_iastore (by decide +kernel)).trans ((and_iff_right h2).trans ?_)
  refine (px_go (by decide +kernel : pm_fe 124 97 = some (.aload_n 0, 1)) rfl).trans ?_
  refine (px_get2 (idx := 157) (ci := 5) (k := 5) (by decide +kernel)).trans ((and_iff_right h1).trans ?_)
  refine (px_go (by decide +kernel : pm_fe 124 101 = some (.iload_n 2, 1)) rfl).trans ?_
  refine (px_go (by decide +kernel : pm_fe 124 102 = some (.iconst 0, 1)) rfl).trans ?_
  refine (px_iastore (by decide +kernel)).trans ((and_iff_right h3).trans ?_)
  exact Iff.rfl
theorem b124_104 {d : Nat} {G : PG} {M T : PH} {K : PV → PS → Prop} {l0 l1 l2 : Int} : pm_Run d 124 104 [.inr (.inr (.inl l0)), .inl l1, .inl l2] [] (G, M, T) K ↔ K PU (G, M, T) := by
  refine (px_rv (by decide +kernel)).trans ?_
  exact Iff.rfl
