-- X2_init <init>(LMoonTender$Chart;LMoonTender$Moment;)V
theorem en22 {d : Nat} {a p0 p1 : Int} {S : PS} {K : PV → PS → Prop} : pm_Call (d + 1) 22 [.inr (.inr (.inl a)), .inr (.inr (.inl p0)), .inr (.inr (.inl p1))] S K ↔ pm_Run d 22 0 [.inr (.inr (.inl a)), .inr (.inr (.inl p0)), .inr (.inr (.inl p1))] [] S K := pm_Call_s.trans (and_iff_right (show 3 ≤ pm_ml 22 from by decide +kernel))
-- X2_begin begin(LMoonTender$Chart;)V
theorem en23 {d : Nat} {a p0 : Int} {S : PS} {K : PV → PS → Prop} : pm_Call (d + 1) 23 [.inr (.inr (.inl a)), .inr (.inr (.inl p0))] S K ↔ pm_Run d 23 0 [.inr (.inr (.inl a)), .inr (.inr (.inl p0))] [] S K := pm_Call_s.trans (and_iff_right (show 2 ≤ pm_ml 23 from by decide +kernel))
theorem b23_0 {d : Nat} {G : PG} {M T : PH} {K : PV → PS → Prop} {l0 l1 : Int} (h1 : pm_ob G l0 2) (h2 : 0 ≤ l1) (h3 : pm_ob G ((pm_sa T l0.toNat (pm_up (T l0.toNat) 7 l1)) l0.toNat 6) 5) : pm_Run d 23 0 [.inr (.inr (.inl l0)), .inr (.inr (.inl l1))] [] (G, M, T) K ↔ pm_Run d 23 30 [.inr (.inr (.inl l0)), .inr (.inr (.inl l1))] [] (G, pm_sa (pm_sa M l0.toNat (pm_up (M l0.toNat) 8 (pm_mn 48 (9999 - (M ((pm_sa T l0.toNat (pm_up (T l0.toNat) 7 l1)) l0.toNat 6).toNat 0))))) l0.toNat (pm_up ((pm_sa M l0.toNat (pm_up (M l0.toNat) 8 (pm_mn 48 (9999 - (M ((pm_sa T l0.toNat (pm_up (T l0.toNat) 7 l1)) l0.toNat 6).toNat 0))))) l0.toNat) 9 0), pm_sa T l0.toNat (pm_up (T l0.toNat) 7 l1)) K := by
  refine (px_go (by decide +kernel : pm_fe 23 0 = some (.aload_n 0, 1)) rfl).trans ?_
  refine (px_go (by decide +kernel : pm_fe 23 1 = some (.aload_n 1, 1)) rfl).trans ?_
  refine (px_put2 (idx := 51) (ci := 2) (k := 7) (by decide +kernel)).trans ((and_iff_right ⟨h1, h2⟩).trans ?_)
  refine (px_go (by decide +kernel : pm_fe 23 5 = some (.aload_n 0, 1)) rfl).trans ?_
  refine (px_go (by decide +kernel : pm_fe 23 6 = some (.bipush 48, 2)) rfl).trans ?_
  refine (px_go (by decide +kernel : pm_fe 23 8 = some (.sipush 9999, 3)) rfl).trans ?_
  refine (px_go (by decide +kernel : pm_fe 23 11 = some (.aload_n 0, 1)) rfl).trans ?_
  refine (px_get2 (idx := 55) (ci := 2) (k := 6) (by decide +kernel)).trans ((and_iff_right h1).trans ?_)
  refine (px_get0 (idx := 58) (ci := 5) (k := 0) (by decide +kernel)).trans ((and_iff_right h3).trans ?_)
  refine (px_go (by decide +kernel : pm_fe 23 18 = some (.isub, 1)) rfl).trans ?_
  refine (px_m906 (idx := 61) (by decide +kernel)).trans ((and_iff_right (by simp [pm_wl_n, pm_wl_c, pm_w] : pm_wl [.inr (.inr (.inl l0))] ≤ 8)).trans ?_)
  refine (px_put0 (idx := 38) (ci := 2) (k := 8) (by decide +kernel)).trans ((and_iff_right h1).trans ?_)
  refine (px_go (by decide +kernel : pm_fe 23 25 = some (.aload_n 0, 1)) rfl).trans ?_
  refine (px_go (by decide +kernel : pm_fe 23 26 = some (.iconst 0, 1)) rfl).trans ?_
  refine (px_put0 (idx := 67) (ci := 2) (k := 9) (by decide +kernel)).trans ((and_iff_right h1).trans ?_)
  exact Iff.rfl
theorem b23_30 {d : Nat} {G : PG} {M T : PH} {K : PV → PS → Prop} {l0 l1 : Int} (h1 : pm_ob G l0 2) : pm_Run d 23 30 [.inr (.inr (.inl l0)), .inr (.inr (.inl l1))] [] (G, M, T) K ↔ pm_Run d 23 45 [.inr (.inr (.inl l0)), .inr (.inr (.inl l1))] [] (G, pm_sa (pm_sa (pm_sa M l0.toNat (pm_up (M l0.toNat) 10 (-1))) l0.toNat (pm_up ((pm_sa M l0.toNat (pm_up (M l0.toNat) 10 (-1))) l0.toNat) 11 (-1))) l0.toNat (pm_up ((pm_sa (pm_sa M l0.toNat (pm_up (M l0.toNat) 10 (-1))) l0.toNat (pm_up ((pm_sa M l0.toNat (pm_up (M l0.toNat) 10 (-1))) l0.toNat) 11 (-1))) l0.toNat) 12 (-1)), T) K := by
  refine (px_go (by decide +kernel : pm_fe 23 30 = some (.aload_n 0, 1)) rfl).trans ?_
  refine (px_go (by decide +kernel : pm_fe 23 31 = some (.iconst (-1), 1)) rfl).trans ?_
  refine (px_put0 (idx := 42) (ci := 2) (k := 10) (by decide +kernel)).trans ((and_iff_right h1).trans ?_)
  refine (px_go (by decide +kernel : pm_fe 23 35 = some (.aload_n 0, 1)) rfl).trans ?_
  refine (px_go (by decide +kernel : pm_fe 23 36 = some (.iconst (-1), 1)) rfl).trans ?_
  refine (px_put0 (idx := 45) (ci := 2) (k := 11) (by decide +kernel)).trans ((and_iff_right h1).trans ?_)
  refine (px_go (by decide +kernel : pm_fe 23 40 = some (.aload_n 0, 1)) rfl).trans ?_
  refine (px_go (by decide +kernel : pm_fe 23 41 = some (.iconst (-1), 1)) rfl).trans ?_
  refine (px_put0 (idx := 48) (ci := 2) (k := 12) (by decide +kernel)).trans ((and_iff_right h1).trans ?_)
  exact Iff.rfl
theorem b23_45 {d : Nat} {G : PG} {M T : PH} {K : PV → PS → Prop} {l0 l1 : Int} : pm_Run d 23 45 [.inr (.inr (.inl l0)), .inr (.inr (.inl l1))] [] (G, M, T) K ↔ K PU (G, M, T) := by
  refine (px_rv (by decide +kernel)).trans ?_
  exact Iff.rfl
-- X2_reaches reaches(I)Z
theorem en24 {d : Nat} {a p0 : Int} {S : PS} {K : PV → PS → Prop} : pm_Call (d + 1) 24 [.inr (.inr (.inl a)), .inl p0] S K ↔ pm_Run d 24 0 [.inr (.inr (.inl a)), .inl p0] [] S K := pm_Call_s.trans (and_iff_right (show 2 ≤ pm_ml 24 from by decide +kernel))
theorem b24_0 {d : Nat} {G : PG} {M T : PH} {K : PV → PS → Prop} {l0 l1 : Int} (h1 : pm_ob G l0 2) (h2 : pm_ob G (T l0.toNat 7) 1) : pm_Run d 24 0 [.inr (.inr (.inl l0)), .inl l1] [] (G, M, T) K ↔ if pm_sg (M (T l0.toNat 7).toNat 0) ≤ 0 then pm_Run d 24 26 [.inr (.inr (.inl l0)), .inl l1] [] (G, M, T) K else pm_Run d 24 10 [.inr (.inr (.inl l0)), .inl l1] [] (G, M, T) K := by
  refine (px_go (by decide +kernel : pm_fe 24 0 = some (.aload_n 0, 1)) rfl).trans ?_
  refine (px_get2 (idx := 51) (ci := 2) (k := 7) (by decide +kernel)).trans ((and_iff_right h1).trans ?_)
  refine (px_get0 (idx := 70) (ci := 1) (k := 0) (by decide +kernel)).trans ((and_iff_right h2).trans ?_)
  refine (px_if_le (off := 19) (tgt := 26) (by decide +kernel)).trans ?_
  exact Iff.rfl
theorem b24_10 {d : Nat} {G : PG} {M T : PH} {K : PV → PS → Prop} {l0 l1 : Int} : pm_Run d 24 10 [.inr (.inr (.inl l0)), .inl l1] [] (G, M, T) K ↔ if pm_sg l1 < 0 then pm_Run d 24 26 [.inr (.inr (.inl l0)), .inl l1] [] (G, M, T) K else pm_Run d 24 14 [.inr (.inr (.inl l0)), .inl l1] [] (G, M, T) K := by
  refine (px_go (by decide +kernel : pm_fe 24 10 = some (.iload_n 1, 1)) rfl).trans ?_
  refine (px_if_lt (off := 15) (tgt := 26) (by decide +kernel)).trans ?_
  exact Iff.rfl
theorem b24_14 {d : Nat} {G : PG} {M T : PH} {K : PV → PS → Prop} {l0 l1 : Int} (h1 : pm_ob G l0 2) : pm_Run d 24 14 [.inr (.inr (.inl l0)), .inl l1] [] (G, M, T) K ↔ if pm_sg (M l0.toNat 8) < pm_sg l1 then pm_Run d 24 26 [.inr (.inr (.inl l0)), .inl l1] [] (G, M, T) K else pm_Run d 24 22 [.inr (.inr (.inl l0)), .inl l1] [] (G, M, T) K := by
  refine (px_go (by decide +kernel : pm_fe 24 14 = some (.iload_n 1, 1)) rfl).trans ?_
  refine (px_go (by decide +kernel : pm_fe 24 15 = some (.aload_n 0, 1)) rfl).trans ?_
  refine (px_get0 (idx := 38) (ci := 2) (k := 8) (by decide +kernel)).trans ((and_iff_right h1).trans ?_)
  refine (px_ic_gt (off := 7) (tgt := 26) (by decide +kernel)).trans ?_
  exact Iff.rfl
theorem b24_22 {d : Nat} {G : PG} {M T : PH} {K : PV → PS → Prop} {l0 l1 : Int} : pm_Run d 24 22 [.inr (.inr (.inl l0)), .inl l1] [] (G, M, T) K ↔ pm_Run d 24 27 [.inr (.inr (.inl l0)), .inl l1] [.inl 1] (G, M, T) K := by
  refine (px_go (by decide +kernel : pm_fe 24 22 = some (.iconst 1, 1)) rfl).trans ?_
  refine (px_goto (off := 4) (tgt := 27) (by decide +kernel)).trans ?_
  exact Iff.rfl
theorem b24_26 {d : Nat} {G : PG} {M T : PH} {K : PV → PS → Prop} {l0 l1 : Int} : pm_Run d 24 26 [.inr (.inr (.inl l0)), .inl l1] [] (G, M, T) K ↔ pm_Run d 24 27 [.inr (.inr (.inl l0)), .inl l1] [.inl 0] (G, M, T) K := by
  refine (px_go (by decide +kernel : pm_fe 24 26 = some (.iconst 0, 1)) rfl).trans ?_
  exact Iff.rfl
theorem b24_27 {d : Nat} {G : PG} {M T : PH} {K : PV → PS → Prop} {l0 l1 s0 : Int} (h1 : s0 = 0 ∨ s0 = 1) : pm_Run d 24 27 [.inr (.inr (.inl l0)), .inl l1] [.inl s0] (G, M, T) K ↔ K (.inl s0) (G, M, T) := by
  refine (px_rz (by decide +kernel)).trans ((and_iff_right h1).trans ?_)
  exact Iff.rfl
-- X2_learn learn(I)V
theorem en25 {d : Nat} {a p0 : Int} {S : PS} {K : PV → PS → Prop} : pm_Call (d + 1) 25 [.inr (.inr (.inl a)), .inl p0] S K ↔ pm_Run d 25 0 [.inr (.inr (.inl a)), .inl p0, PU, PU] [] S K := pm_Call_s.trans (and_iff_right (show 2 ≤ pm_ml 25 from by decide +kernel))
theorem b25_0 {d : Nat} {G : PG} {M T : PH} {K : PV → PS → Prop} {l0 l1 : Int} (h1 : pm_ob G l0 2) : pm_Run d 25 0 [.inr (.inr (.inl l0)), .inl l1, PU, PU] [] (G, M, T) K ↔ pm_Run d 25 14 [.inr (.inr (.inl l0)), .inl l1, .inl (pm_mn l1 (M l0.toNat 8)), .inl (M l0.toNat 9)] [] (G, M, T) K := by
  refine (px_go (by decide +kernel : pm_fe 25 0 = some (.iload_n 1, 1)) rfl).trans ?_
  refine (px_go (by decide +kernel : pm_fe 25 1 = some (.aload_n 0, 1)) rfl).trans ?_
  refine (px_get0 (idx := 38) (ci := 2) (k := 8) (by decide +kernel)).trans ((and_iff_right h1).trans ?_)
  refine (px_m906 (idx := 61) (by decide +kernel)).trans ((and_iff_right (by simp [pm_wl_n, pm_wl_c, pm_w] : pm_wl [] ≤ 8)).trans ?_)
  refine (px_go (by decide +kernel : pm_fe 25 8 = some (.istore_n 2, 1)) rfl).trans ?_
  refine (px_go (by decide +kernel : pm_fe 25 9 = some (.aload_n 0, 1)) rfl).trans ?_
  refine (px_get0 (idx := 67) (ci := 2) (k := 9) (by decide +kernel)).trans ((and_iff_right h1).trans ?_)
  refine (px_go (by decide +kernel : pm_fe 25 13 = some (.istore_n 3, 1)) rfl).trans ?_
  exact Iff.rfl
theorem b25_14 {d : Nat} {G : PG} {M T : PH} {K : PV → PS → Prop} {l0 l1 l2 l3 : Int} : pm_Run d 25 14 [.inr (.inr (.inl l0)), .inl l1, .inl l2, .inl l3] [] (G, M, T) K ↔ if pm_sg l2 < pm_sg l3 then pm_Run d 25 85 [.inr (.inr (.inl l0)), .inl l1, .inl l2, .inl l3] [] (G, M, T) K else pm_Run d 25 19 [.inr (.inr (.inl l0)), .inl l1, .inl l2, .inl l3] [] (G, M, T) K := by
  refine (px_go (by decide +kernel : pm_fe 25 14 = some (.iload_n 3, 1)) rfl).trans ?_
  refine (px_go (by decide +kernel : pm_fe 25 15 = some (.iload_n 2, 1)) rfl).trans ?_
  refine (px_ic_gt (off := 69) (tgt := 85) (by decide +kernel)).trans ?_
  exact Iff.rfl
theorem b25_19 {d : Nat} {G : PG} {M T : PH} {K : PV → PS → Prop} {l0 l1 l2 l3 : Int} : pm_Run d 25 19 [.inr (.inr (.inl l0)), .inl l1, .inl l2, .inl l3] [] (G, M, T) K ↔ if pm_sg l3 ≠ 0 then pm_Run d 25 37 [.inr (.inr (.inl l0)), .inl l1, .inl l2, .inl l3] [] (G, M, T) K else pm_Run d 25 23 [.inr (.inr (.inl l0)), .inl l1, .inl l2, .inl l3] [] (G, M, T) K := by
  refine (px_go (by decide +kernel : pm_fe 25 19 = some (.iload_n 3, 1)) rfl).trans ?_
  refine (px_if_ne (off := 17) (tgt := 37) (by decide +kernel)).trans ?_
  exact Iff.rfl
theorem b25_23 {d : Nat} {G : PG} {M T : PH} {K : PV → PS → Prop} {l0 l1 l2 l3 : Int} (h1 : pm_ob G l0 2) (h2 : pm_ob G (T l0.toNat 1) 5) : pm_Run d 25 23 [.inr (.inr (.inl l0)), .inl l1, .inl l2, .inl l3] [] (G, M, T) K ↔ pm_Call d 56 [.inr (.inr (.inl (T l0.toNat 1))), .inr (.inr (.inl (T l0.toNat 6)))] (G, M, T) (fun r S1 => pm_Run d 25 34 [.inr (.inr (.inl l0)), .inl l1, .inl l2, .inl l3] (pm_push r []) S1 K) := by
  refine (px_go (by decide +kernel : pm_fe 25 23 = some (.aload_n 0, 1)) rfl).trans ?_
  refine (px_get2 (idx := 21) (ci := 2) (k := 1) (by decide +kernel)).trans ((and_iff_right h1).trans ?_)
  refine (px_go (by decide +kernel : pm_fe 25 27 = some (.aload_n 0, 1)) rfl).trans ?_
  refine (px_get2 (idx := 55) (ci := 2) (k := 6) (by decide +kernel)).trans ((and_iff_right h1).trans ?_)
  refine (px_v1 (idx := 75) (m' := 56) (ci := 5) (by decide +kernel)).trans ((and_iff_right ⟨h2, (by simp [pm_wl_n, pm_wl_c, pm_w] : pm_wl [] ≤ 8)⟩).trans ?_)
  exact Iff.rfl
theorem b25_34 {d : Nat} {G : PG} {M T : PH} {K : PV → PS → Prop} {l0 l1 l2 l3 : Int} : pm_Run d 25 34 [.inr (.inr (.inl l0)), .inl l1, .inl l2, .inl l3] [] (G, M, T) K ↔ pm_Run d 25 52 [.inr (.inr (.inl l0)), .inl l1, .inl l2, .inl l3] [] (G, M, T) K := by
  refine (px_goto (off := 18) (tgt := 52) (by decide +kernel)).trans ?_
  exact Iff.rfl
theorem b25_37 {d : Nat} {G : PG} {M T : PH} {K : PV → PS → Prop} {l0 l1 l2 l3 : Int} (h1 : pm_ob G l0 2) (h2 : pm_ob G (T l0.toNat 0) 9) : pm_Run d 25 37 [.inr (.inr (.inl l0)), .inl l1, .inl l2, .inl l3] [] (G, M, T) K ↔ pm_Call d 122 [.inr (.inr (.inl (T l0.toNat 0))), .inr (.inr (.inl (T l0.toNat 7))), .inr (.inr (.inl (T l0.toNat 1)))] (G, M, T) (fun r S1 => pm_Run d 25 52 [.inr (.inr (.inl l0)), .inl l1, .inl l2, .inl l3] (pm_push r []) S1 K) := by
  refine (px_go (by decide +kernel : pm_fe 25 37 = some (.aload_n 0, 1)) rfl).trans ?_
  refine (px_get2 (idx := 12) (ci := 2) (k := 0) (by decide +kernel)).trans ((and_iff_right h1).trans ?_)
  refine (px_go (by decide +kernel : pm_fe 25 41 = some (.aload_n 0, 1)) rfl).trans ?_
  refine (px_get2 (idx := 51) (ci := 2) (k := 7) (by decide +kernel)).trans ((and_iff_right h1).trans ?_)
  refine (px_go (by decide +kernel : pm_fe 25 45 = some (.aload_n 0, 1)) rfl).trans ?_
  refine (px_get2 (idx := 21) (ci := 2) (k := 1) (by decide +kernel)).trans ((and_iff_right h1).trans ?_)
  refine (px_v2 (idx := 79) (m' := 122) (ci := 9) (by decide +kernel)).trans ((and_iff_right ⟨h2, (by simp [pm_wl_n, pm_wl_c, pm_w] : pm_wl [] ≤ 8)⟩).trans ?_)
  exact Iff.rfl
theorem b25_52 {d : Nat} {G : PG} {M T : PH} {K : PV → PS → Prop} {l0 l1 l2 l3 : Int} (h1 : pm_ob G l0 2) (h2 : pm_ob G (T l0.toNat 0) 9) : pm_Run d 25 52 [.inr (.inr (.inl l0)), .inl l1, .inl l2, .inl l3] [] (G, M, T) K ↔ pm_Call d 113 [.inr (.inr (.inl (T l0.toNat 0))), .inr (.inr (.inl (T l0.toNat 7))), .inr (.inr (.inl (T l0.toNat 1)))] (G, M, T) (fun r S1 => pm_Run d 25 67 [.inr (.inr (.inl l0)), .inl l1, .inl l2, .inl l3] (pm_push r []) S1 K) := by
  refine (px_go (by decide +kernel : pm_fe 25 52 = some (.aload_n 0, 1)) rfl).trans ?_
  refine (px_get2 (idx := 12) (ci := 2) (k := 0) (by decide +kernel)).trans ((and_iff_right h1).trans ?_)
  refine (px_go (by decide +kernel : pm_fe 25 56 = some (.aload_n 0, 1)) rfl).trans ?_
  refine (px_get2 (idx := 51) (ci := 2) (k := 7) (by decide +kernel)).trans ((and_iff_right h1).trans ?_)
  refine (px_go (by decide +kernel : pm_fe 25 60 = some (.aload_n 0, 1)) rfl).trans ?_
  refine (px_get2 (idx := 21) (ci := 2) (k := 1) (by decide +kernel)).trans ((and_iff_right h1).trans ?_)
  refine (px_v2 (idx := 83) (m' := 113) (ci := 9) (by decide +kernel)).trans ((and_iff_right ⟨h2, (by simp [pm_wl_n, pm_wl_c, pm_w] : pm_wl [] ≤ 8)⟩).trans ?_)
  exact Iff.rfl
theorem b25_67 {d : Nat} {G : PG} {M T : PH} {K : PV → PS → Prop} {l0 l1 l2 l3 : Int} (h1 : pm_ob G l0 2) : pm_Run d 25 67 [.inr (.inr (.inl l0)), .inl l1, .inl l2, .inl l3] [] (G, M, T) K ↔ pm_Call d 38 [.inr (.inr (.inl l0)), .inl l3] (G, M, T) (fun r S1 => pm_Run d 25 72 [.inr (.inr (.inl l0)), .inl l1, .inl l2, .inl l3] (pm_push r []) S1 K) := by
  refine (px_go (by decide +kernel : pm_fe 25 67 = some (.aload_n 0, 1)) rfl).trans ?_
  refine (px_go (by decide +kernel : pm_fe 25 68 = some (.iload_n 3, 1)) rfl).trans ?_
  refine (px_v1 (idx := 86) (m' := 38) (ci := 2) (by decide +kernel)).trans ((and_iff_right ⟨h1, (by simp [pm_wl_n, pm_wl_c, pm_w] : pm_wl [] ≤ 8)⟩).trans ?_)
  exact Iff.rfl
theorem b25_72 {d : Nat} {G : PG} {M T : PH} {K : PV → PS → Prop} {l0 l1 l2 l3 : Int} (h1 : pm_ob G l0 2) : pm_Run d 25 72 [.inr (.inr (.inl l0)), .inl l1, .inl l2, .inl l3] [] (G, M, T) K ↔ pm_Run d 25 14 [.inr (.inr (.inl l0)), .inl l1, .inl l2, .inl (l3 + 1)] [] (G, pm_sa M l0.toNat (pm_up (M l0.toNat) 9 (l3 + 1)), T) K := by
  refine (px_go (by decide +kernel : pm_fe 25 72 = some (.aload_n 0, 1)) rfl).trans ?_
  refine (px_go (by decide +kernel : pm_fe 25 73 = some (.iload_n 3, 1)) rfl).trans ?_
  refine (px_go (by decide +kernel : pm_fe 25 74 = some (.iconst 1, 1)) rfl).trans ?_
  refine (px_go (by decide +kernel : pm_fe 25 75 = some (.iadd, 1)) rfl).trans ?_
  refine (px_put0 (idx := 67) (ci := 2) (k := 9) (by decide +kernel)).trans ((and_iff_right h1).trans ?_)
  refine (px_go (by decide +kernel : pm_fe 25 79 = some (.iinc 3 1, 3)) rfl).trans ?_
  refine (px_goto (off := (-68)) (tgt := 14) (by decide +kernel)).trans ?_
  exact Iff.rfl
theorem b25_85 {d : Nat} {G : PG} {M T : PH} {K : PV → PS → Prop} {l0 l1 l2 l3 : Int} : pm_Run d 25 85 [.inr (.inr (.inl l0)), .inl l1, .inl l2, .inl l3] [] (G, M, T) K ↔ K PU (G, M, T) := by
  refine (px_rv (by decide +kernel)).trans ?_
  exact Iff.rfl
-- X2_pullNow pullNow(II)I
theorem en26 {d : Nat} {a p0 p1 : Int} {S : PS} {K : PV → PS → Prop} : pm_Call (d + 1) 26 [.inr (.inr (.inl a)), .inl p0, .inl p1] S K ↔ pm_Run d 26 0 [.inr (.inr (.inl a)), .inl p0, .inl p1] [] S K := pm_Call_s.trans (and_iff_right (show 3 ≤ pm_ml 26 from by decide +kernel))
theorem b26_0 {d : Nat} {G : PG} {M T : PH} {K : PV → PS → Prop} {l0 l1 l2 : Int} (h1 : pm_ob G l0 2) (h2 : pm_ar G (T l0.toNat 2) 100 ((l1 * 24) + l2)) : pm_Run d 26 0 [.inr (.inr (.inl l0)), .inl l1, .inl l2] [] (G, M, T) K ↔ K (.inl (M (T l0.toNat 2).toNat (pm_sg ((l1 * 24) + l2)).toNat)) (G, M, T) := by
  refine (px_go (by decide +kernel : pm_fe 26 0 = some (.aload_n 0, 1)) rfl).trans ?_
  refine (px_get2 (idx := 25) (ci := 2) (k := 2) (by decide +kernel)).trans ((and_iff_right h1).trans ?_)
  refine (px_go (by decide +kernel : pm_fe 26 4 = some (.iload_n 1, 1)) rfl).trans ?_
  refine (px_go (by decide +kernel : pm_fe 26 5 = some (.bipush 24, 2)) rfl).trans ?_
  refine (px_go (by decide +kernel : pm_fe 26 7 = some (.imul, 1)) rfl).trans ?_
  refine (px_go (by decide +kernel : pm_fe 26 8 = some (.iload_n 2, 1)) rfl).trans ?_
  refine (px_go (by decide +kernel : pm_fe 26 9 = some (.iadd, 1)) rfl).trans ?_
  refine (px_iaload (by decide +kernel) h2).trans ?_
  refine (px_ri (by decide +kernel)).trans ?_
  exact Iff.rfl
-- X2_heightOf heightOf(II)I
theorem en27 {d : Nat} {a p0 p1 : Int} {S : PS} {K : PV → PS → Prop} : pm_Call (d + 1) 27 [.inr (.inr (.inl a)), .inl p0, .inl p1] S K ↔ pm_Run d 27 0 [.inr (.inr (.inl a)), .inl p0, .inl p1] [] S K := pm_Call_s.trans (and_iff_right (show 3 ≤ pm_ml 27 from by decide +kernel))
theorem b27_0 {d : Nat} {G : PG} {M T : PH} {K : PV → PS → Prop} {l0 l1 l2 : Int} (h1 : pm_ob G l0 2) (h2 : pm_ar G (T l0.toNat 3) 100 ((l2 * 24) + l1)) : pm_Run d 27 0 [.inr (.inr (.inl l0)), .inl l1, .inl l2] [] (G, M, T) K ↔ K (.inl (M (T l0.toNat 3).toNat (pm_sg ((l2 * 24) + l1)).toNat)) (G, M, T) := by
  refine (px_go (by decide +kernel : pm_fe 27 0 = some (.aload_n 0, 1)) rfl).trans ?_
  refine (px_get2 (idx := 29) (ci := 2) (k := 3) (by decide +kernel)).trans ((and_iff_right h1).trans ?_)
  refine (px_go (by decide +kernel : pm_fe 27 4 = some (.iload_n 2, 1)) rfl).trans ?_
  refine (px_go (by decide +kernel : pm_fe 27 5 = some (.bipush 24, 2)) rfl).trans ?_
  refine (px_go (by decide +kernel : pm_fe 27 7 = some (.imul, 1)) rfl).trans ?_
  refine (px_go (by decide +kernel : pm_fe 27 8 = some (.iload_n 1, 1)) rfl).trans ?_
  refine (px_go (by decide +kernel : pm_fe 27 9 = some (.iadd, 1)) rfl).trans ?_
  refine (px_iaload (by decide +kernel) h2).trans ?_
  refine (px_ri (by decide +kernel)).trans ?_
  exact Iff.rfl
-- X2_purseOf purseOf(II)I
theorem en28 {d : Nat} {a p0 p1 : Int} {S : PS} {K : PV → PS → Prop} : pm_Call (d + 1) 28 [.inr (.inr (.inl a)), .inl p0, .inl p1] S K ↔ pm_Run d 28 0 [.inr (.inr (.inl a)), .inl p0, .inl p1] [] S K := pm_Call_s.trans (and_iff_right (show 3 ≤ pm_ml 28 from by decide +kernel))
theorem b28_0 {d : Nat} {G : PG} {M T : PH} {K : PV → PS → Prop} {l0 l1 l2 : Int} (h1 : pm_ob G l0 2) (h2 : pm_ar G (T l0.toNat 4) 100 ((l2 * 8) + l1)) : pm_Run d 28 0 [.inr (.inr (.inl l0)), .inl l1, .inl l2] [] (G, M, T) K ↔ K (.inl (M (T l0.toNat 4).toNat (pm_sg ((l2 * 8) + l1)).toNat)) (G, M, T) := by
  refine (px_go (by decide +kernel : pm_fe 28 0 = some (.aload_n 0, 1)) rfl).trans ?_
  refine (px_get2 (idx := 32) (ci := 2) (k := 4) (by decide +kernel)).trans ((and_iff_right h1).trans ?_)
  refine (px_go (by decide +kernel : pm_fe 28 4 = some (.iload_n 2, 1)) rfl).trans ?_
  refine (px_go (by decide +kernel : pm_fe 28 5 = some (.bipush 8, 2)) rfl).trans ?_
  refine (px_go (by decide +kernel : pm_fe 28 7 = some (.imul, 1)) rfl).trans ?_
  refine (px_go (by decide +kernel : pm_fe 28 8 = some (.iload_n 1, 1)) rfl).trans ?_
  refine (px_go (by decide +kernel : pm_fe 28 9 = some (.iadd, 1)) rfl).trans ?_
  refine (px_iaload (by decide +kernel) h2).trans ?_
  refine (px_ri (by decide +kernel)).trans ?_
  exact Iff.rfl
-- X2_dueFrom dueFrom(II)I
theorem en29 {d : Nat} {a p0 p1 : Int} {S : PS} {K : PV → PS → Prop} : pm_Call (d + 1) 29 [.inr (.inr (.inl a)), .inl p0, .inl p1] S K ↔ pm_Run d 29 0 [.inr (.inr (.inl a)), .inl p0, .inl p1] [] S K := pm_Call_s.trans (and_iff_right (show 3 ≤ pm_ml 29 from by decide +kernel))
theorem b29_0 {d : Nat} {G : PG} {M T : PH} {K : PV → PS → Prop} {l0 l1 l2 : Int} (h1 : pm_ob G l0 2) (h2 : pm_ar G (T l0.toNat 5) 100 ((l2 * 8) + l1)) : pm_Run d 29 0 [.inr (.inr (.inl l0)), .inl l1, .inl l2] [] (G, M, T) K ↔ K (.inl (M (T l0.toNat 5).toNat (pm_sg ((l2 * 8) + l1)).toNat)) (G, M, T) := by
  refine (px_go (by decide +kernel : pm_fe 29 0 = some (.aload_n 0, 1)) rfl).trans ?_
  refine (px_get2 (idx := 35) (ci := 2) (k := 5) (by decide +kernel)).trans ((and_iff_right h1).trans ?_)
  refine (px_go (by decide +kernel : pm_fe 29 4 = some (.iload_n 2, 1)) rfl).trans ?_
  refine (px_go (by decide +kernel : pm_fe 29 5 = some (.bipush 8, 2)) rfl).trans ?_
  refine (px_go (by decide +kernel : pm_fe 29 7 = some (.imul, 1)) rfl).trans ?_
  refine (px_go (by decide +kernel : pm_fe 29 8 = some (.iload_n 1, 1)) rfl).trans ?_
  refine (px_go (by decide +kernel : pm_fe 29 9 = some (.iadd, 1)) rfl).trans ?_
  refine (px_iaload (by decide +kernel) h2).trans ?_
  refine (px_ri (by decide +kernel)).trans ?_
  exact Iff.rfl
-- X2_strands strands(II)Z
theorem en30 {d : Nat} {a p0 p1 : Int} {S : PS} {K : PV → PS → Prop} : pm_Call (d + 1) 30 [.inr (.inr (.inl a)), .inl p0, .inl p1] S K ↔ pm_Run d 30 0 [.inr (.inr (.inl a)), .inl p0, .inl p1] [] S K := pm_Call_s.trans (and_iff_right (show 3 ≤ pm_ml 30 from by decide +kernel))
theorem b30_0 {d : Nat} {G : PG} {M T : PH} {K : PV → PS → Prop} {l0 l1 l2 : Int} (h1 : pm_ob G l0 2) (h2 : pm_ob G (T l0.toNat 7) 1) (h3 : pm_ar G (T (T l0.toNat 7).toNat 11) 100 l1) : pm_Run d 30 0 [.inr (.inr (.inl l0)), .inl l1, .inl l2] [] (G, M, T) K ↔ pm_Call d 27 [.inr (.inr (.inl l0)), .inl (M (T (T l0.toNat 7).toNat 11).toNat (pm_sg l1).toNat), .inl l2] (G, M, T) (fun r S1 => pm_Run d 30 14 [.inr (.inr (.inl l0)), .inl l1, .inl l2] (pm_push r []) S1 K) := by
  refine (px_go (by decide +kernel : pm_fe 30 0 = some (.aload_n 0, 1)) rfl).trans ?_
  refine (px_go (by decide +kernel : pm_fe 30 1 = some (.aload_n 0, 1)) rfl).trans ?_
  refine (px_get2 (idx := 51) (ci := 2) (k := 7) (by decide +kernel)).trans ((and_iff_right h1).trans ?_)
  refine (px_get2 (idx := 90) (ci := 1) (k := 11) (by decide +kernel)).trans ((and_iff_right h2).trans ?_)
  refine (px_go (by decide +kernel : pm_fe 30 8 = some (.iload_n 1, 1)) rfl).trans ?_
  refine (px_iaload (by decide +kernel) h3).trans ?_
  refine (px_go (by decide +kernel : pm_fe 30 10 = some (.iload_n 2, 1)) rfl).trans ?_
  refine (px_v2 (idx := 93) (m' := 27) (ci := 2) (by decide +kernel)).trans ((and_iff_right ⟨h1, (by simp [pm_wl_n, pm_wl_c, pm_w] : pm_wl [] ≤ 8)⟩).trans ?_)
  exact Iff.rfl
theorem b30_14 {d : Nat} {G : PG} {M T : PH} {K : PV → PS → Prop} {l0 l1 l2 s0 : Int} (h1 : pm_ob G l0 2) (h2 : pm_ob G (T l0.toNat 7) 1) (h3 : pm_ar G (T (T l0.toNat 7).toNat 12) 100 l1) : pm_Run d 30 14 [.inr (.inr (.inl l0)), .inl l1, .inl l2] [.inl s0] (G, M, T) K ↔ if pm_sg (M (T (T l0.toNat 7).toNat 12).toNat (pm_sg l1).toNat) ≤ pm_sg s0 then pm_Run d 30 30 [.inr (.inr (.inl l0)), .inl l1, .inl l2] [] (G, M, T) K else pm_Run d 30 26 [.inr (.inr (.inl l0)), .inl l1, .inl l2] [] (G, M, T) K := by
  refine (px_go (by decide +kernel : pm_fe 30 14 = some (.aload_n 0, 1)) rfl).trans ?_
  refine (px_get2 (idx := 51) (ci := 2) (k := 7) (by decide +kernel)).trans ((and_iff_right h1).trans ?_)
  refine (px_get2 (idx := 96) (ci := 1) (k := 12) (by decide +kernel)).trans ((and_iff_right h2).trans ?_)
  refine (px_go (by decide +kernel : pm_fe 30 21 = some (.iload_n 1, 1)) rfl).trans ?_
  refine (px_iaload (by decide +kernel) h3).trans ?_
  refine (px_ic_ge (off := 7) (tgt := 30) (by decide +kernel)).trans ?_
  exact Iff.rfl
theorem b30_26 {d : Nat} {G : PG} {M T : PH} {K : PV → PS → Prop} {l0 l1 l2 : Int} : pm_Run d 30 26 [.inr (.inr (.inl l0)), .inl l1, .inl l2] [] (G, M, T) K ↔ pm_Run d 30 31 [.inr (.inr (.inl l0)), .inl l1, .inl l2] [.inl 1] (G, M, T) K := by
  refine (px_go (by decide +kernel : pm_fe 30 26 = some (.iconst 1, 1)) rfl).trans ?_
  refine (px_goto (off := 4) (tgt := 31) (by decide +kernel)).trans ?_
  exact Iff.rfl
theorem b30_30 {d : Nat} {G : PG} {M T : PH} {K : PV → PS → Prop} {l0 l1 l2 : Int} : pm_Run d 30 30 [.inr (.inr (.inl l0)), .inl l1, .inl l2] [] (G, M, T) K ↔ pm_Run d 30 31 [.inr (.inr (.inl l0)), .inl l1, .inl l2] [.inl 0] (G, M, T) K := by
  refine (px_go (by decide +kernel : pm_fe 30 30 = some (.iconst 0, 1)) rfl).trans ?_
  exact Iff.rfl
theorem b30_31 {d : Nat} {G : PG} {M T : PH} {K : PV → PS → Prop} {l0 l1 l2 s0 : Int} (h1 : s0 = 0 ∨ s0 = 1) : pm_Run d 30 31 [.inr (.inr (.inl l0)), .inl l1, .inl l2] [.inl s0] (G, M, T) K ↔ K (.inl s0) (G, M, T) := by
  refine (px_rz (by decide +kernel)).trans ((and_iff_right h1).trans ?_)
  exact Iff.rfl
-- X2_countStranded countStranded(I)I
theorem en31 {d : Nat} {a p0 : Int} {S : PS} {K : PV → PS → Prop} : pm_Call (d + 1) 31 [.inr (.inr (.inl a)), .inl p0] S K ↔ pm_Run d 31 0 [.inr (.inr (.inl a)), .inl p0, PU, PU] [] S K := pm_Call_s.trans (and_iff_right (show 2 ≤ pm_ml 31 from by decide +kernel))
theorem b31_0 {d : Nat} {G : PG} {M T : PH} {K : PV → PS → Prop} {l0 l1 : Int} : pm_Run d 31 0 [.inr (.inr (.inl l0)), .inl l1, PU, PU] [] (G, M, T) K ↔ pm_Run d 31 4 [.inr (.inr (.inl l0)), .inl l1, .inl 0, .inl 0] [] (G, M, T) K := by
  refine (px_go (by decide +kernel : pm_fe 31 0 = some (.iconst 0, 1)) rfl).trans ?_
  refine (px_go (by decide +kernel : pm_fe 31 1 = some (.istore_n 2, 1)) rfl).trans ?_
  refine (px_go (by decide +kernel : pm_fe 31 2 = some (.iconst 0, 1)) rfl).trans ?_
  refine (px_go (by decide +kernel : pm_fe 31 3 = some (.istore_n 3, 1)) rfl).trans ?_
  exact Iff.rfl
theorem b31_4 {d : Nat} {G : PG} {M T : PH} {K : PV → PS → Prop} {l0 l1 l2 l3 : Int} (h1 : pm_ob G l0 2) (h2 : pm_ob G (T l0.toNat 7) 1) : pm_Run d 31 4 [.inr (.inr (.inl l0)), .inl l1, .inl l2, .inl l3] [] (G, M, T) K ↔ if pm_sg (M (T l0.toNat 7).toNat 2) ≤ pm_sg l3 then pm_Run d 31 33 [.inr (.inr (.inl l0)), .inl l1, .inl l2, .inl l3] [] (G, M, T) K else pm_Run d 31 15 [.inr (.inr (.inl l0)), .inl l1, .inl l2, .inl l3] [] (G, M, T) K := by
  refine (px_go (by decide +kernel : pm_fe 31 4 = some (.iload_n 3, 1)) rfl).trans ?_
  refine (px_go (by decide +kernel : pm_fe 31 5 = some (.aload_n 0, 1)) rfl).trans ?_
  refine (px_get2 (idx := 51) (ci := 2) (k := 7) (by decide +kernel)).trans ((and_iff_right h1).trans ?_)
  refine (px_get0 (idx := 99) (ci := 1) (k := 2) (by decide +kernel)).trans ((and_iff_right h2).trans ?_)
  refine (px_ic_ge (off := 21) (tgt := 33) (by decide +kernel)).trans ?_
  exact Iff.rfl
theorem b31_15 {d : Nat} {G : PG} {M T : PH} {K : PV → PS → Prop} {l0 l1 l2 l3 : Int} (h1 : pm_ob G l0 2) : pm_Run d 31 15 [.inr (.inr (.inl l0)), .inl l1, .inl l2, .inl l3] [] (G, M, T) K ↔ pm_Call d 30 [.inr (.inr (.inl l0)), .inl l3, .inl l1] (G, M, T) (fun r S1 => pm_Run d 31 21 [.inr (.inr (.inl l0)), .inl l1, .inl l2, .inl l3] (pm_push r []) S1 K) := by
  refine (px_go (by decide +kernel : pm_fe 31 15 = some (.aload_n 0, 1)) rfl).trans ?_
  refine (px_go (by decide +kernel : pm_fe 31 16 = some (.iload_n 3, 1)) rfl).trans ?_
  refine (px_go (by decide +kernel : pm_fe 31 17 = some (.iload_n 1, 1)) rfl).trans ?_
  refine (px_v2 (idx := 102) (m' := 30) (ci := 2) (by decide +kernel)).trans ((and_iff_right ⟨h1, (by simp [pm_wl_n, pm_wl_c, pm_w] : pm_wl [] ≤ 8)⟩).trans ?_)
  exact Iff.rfl
theorem b31_21 {d : Nat} {G : PG} {M T : PH} {K : PV → PS → Prop} {l0 l1 l2 l3 s0 : Int} : pm_Run d 31 21 [.inr (.inr (.inl l0)), .inl l1, .inl l2, .inl l3] [.inl s0] (G, M, T) K ↔ if pm_sg s0 = 0 then pm_Run d 31 27 [.inr (.inr (.inl l0)), .inl l1, .inl l2, .inl l3] [] (G, M, T) K else pm_Run d 31 24 [.inr (.inr (.inl l0)), .inl l1, .inl l2, .inl l3] [] (G, M, T) K := by
  refine (px_if_eq (off := 6) (tgt := 27) (by decide +kernel)).trans ?_
  exact Iff.rfl
theorem b31_24 {d : Nat} {G : PG} {M T : PH} {K : PV → PS → Prop} {l0 l1 l2 l3 : Int} : pm_Run d 31 24 [.inr (.inr (.inl l0)), .inl l1, .inl l2, .inl l3] [] (G, M, T) K ↔ pm_Run d 31 27 [.inr (.inr (.inl l0)), .inl l1, .inl (l2 + 1), .inl l3] [] (G, M, T) K := by
  refine (px_go (by decide +kernel : pm_fe 31 24 = some (.iinc 2 1, 3)) rfl).trans ?_
  exact Iff.rfl
theorem b31_27 {d : Nat} {G : PG} {M T : PH} {K : PV → PS → Prop} {l0 l1 l2 l3 : Int} : pm_Run d 31 27 [.inr (.inr (.inl l0)), .inl l1, .inl l2, .inl l3] [] (G, M, T) K ↔ pm_Run d 31 4 [.inr (.inr (.inl l0)), .inl l1, .inl l2, .inl (l3 + 1)] [] (G, M, T) K := by
  refine (px_go (by decide +kernel : pm_fe 31 27 = some (.iinc 3 1, 3)) rfl).trans ?_
  refine (px_goto (off := (-26)) (tgt := 4) (by decide +kernel)).trans ?_
  exact Iff.rfl
theorem b31_33 {d : Nat} {G : PG} {M T : PH} {K : PV → PS → Prop} {l0 l1 l2 l3 : Int} : pm_Run d 31 33 [.inr (.inr (.inl l0)), .inl l1, .inl l2, .inl l3] [] (G, M, T) K ↔ K (.inl l2) (G, M, T) := by
  refine (px_go (by decide +kernel : pm_fe 31 33 = some (.iload_n 2, 1)) rfl).trans ?_
  refine (px_ri (by decide +kernel)).trans ?_
  exact Iff.rfl
-- X2_firstStrandedFrom firstStrandedFrom(I)I
theorem en32 {d : Nat} {a p0 : Int} {S : PS} {K : PV → PS → Prop} : pm_Call (d + 1) 32 [.inr (.inr (.inl a)), .inl p0] S K ↔ pm_Run d 32 0 [.inr (.inr (.inl a)), .inl p0, PU] [] S K := pm_Call_s.trans (and_iff_right (show 2 ≤ pm_ml 32 from by decide +kernel))
theorem b32_0 {d : Nat} {G : PG} {M T : PH} {K : PV → PS → Prop} {l0 l1 : Int} : pm_Run d 32 0 [.inr (.inr (.inl l0)), .inl l1, PU] [] (G, M, T) K ↔ pm_Run d 32 2 [.inr (.inr (.inl l0)), .inl l1, .inl l1] [] (G, M, T) K := by
  refine (px_go (by decide +kernel : pm_fe 32 0 = some (.iload_n 1, 1)) rfl).trans ?_
  refine (px_go (by decide +kernel : pm_fe 32 1 = some (.istore_n 2, 1)) rfl).trans ?_
  exact Iff.rfl
theorem b32_2 {d : Nat} {G : PG} {M T : PH} {K : PV → PS → Prop} {l0 l1 l2 : Int} (h1 : pm_ob G l0 2) : pm_Run d 32 2 [.inr (.inr (.inl l0)), .inl l1, .inl l2] [] (G, M, T) K ↔ if pm_sg (M l0.toNat 8) < pm_sg l2 then pm_Run d 32 31 [.inr (.inr (.inl l0)), .inl l1, .inl l2] [] (G, M, T) K else pm_Run d 32 10 [.inr (.inr (.inl l0)), .inl l1, .inl l2] [] (G, M, T) K := by
  refine (px_go (by decide +kernel : pm_fe 32 2 = some (.iload_n 2, 1)) rfl).trans ?_
  refine (px_go (by decide +kernel : pm_fe 32 3 = some (.aload_n 0, 1)) rfl).trans ?_
  refine (px_get0 (idx := 38) (ci := 2) (k := 8) (by decide +kernel)).trans ((and_iff_right h1).trans ?_)
  refine (px_ic_gt (off := 24) (tgt := 31) (by decide +kernel)).trans ?_
  exact Iff.rfl
theorem b32_10 {d : Nat} {G : PG} {M T : PH} {K : PV → PS → Prop} {l0 l1 l2 : Int} (h1 : pm_ob G l0 2) : pm_Run d 32 10 [.inr (.inr (.inl l0)), .inl l1, .inl l2] [] (G, M, T) K ↔ pm_Call d 25 [.inr (.inr (.inl l0)), .inl l2] (G, M, T) (fun r S1 => pm_Run d 32 15 [.inr (.inr (.inl l0)), .inl l1, .inl l2] (pm_push r []) S1 K) := by
  refine (px_go (by decide +kernel : pm_fe 32 10 = some (.aload_n 0, 1)) rfl).trans ?_
  refine (px_go (by decide +kernel : pm_fe 32 11 = some (.iload_n 2, 1)) rfl).trans ?_
  refine (px_v1 (idx := 106) (m' := 25) (ci := 2) (by decide +kernel)).trans ((and_iff_right ⟨h1, (by simp [pm_wl_n, pm_wl_c, pm_w] : pm_wl [] ≤ 8)⟩).trans ?_)
  exact Iff.rfl
theorem b32_15 {d : Nat} {G : PG} {M T : PH} {K : PV → PS → Prop} {l0 l1 l2 : Int} (h1 : pm_ob G l0 2) : pm_Run d 32 15 [.inr (.inr (.inl l0)), .inl l1, .inl l2] [] (G, M, T) K ↔ pm_Call d 31 [.inr (.inr (.inl l0)), .inl l2] (G, M, T) (fun r S1 => pm_Run d 32 20 [.inr (.inr (.inl l0)), .inl l1, .inl l2] (pm_push r []) S1 K) := by
  refine (px_go (by decide +kernel : pm_fe 32 15 = some (.aload_n 0, 1)) rfl).trans ?_
  refine (px_go (by decide +kernel : pm_fe 32 16 = some (.iload_n 2, 1)) rfl).trans ?_
  refine (px_v1 (idx := 109) (m' := 31) (ci := 2) (by decide +kernel)).trans ((and_iff_right ⟨h1, (by simp [pm_wl_n, pm_wl_c, pm_w] : pm_wl [] ≤ 8)⟩).trans ?_)
  exact Iff.rfl
theorem b32_20 {d : Nat} {G : PG} {M T : PH} {K : PV → PS → Prop} {l0 l1 l2 s0 : Int} : pm_Run d 32 20 [.inr (.inr (.inl l0)), .inl l1, .inl l2] [.inl s0] (G, M, T) K ↔ if pm_sg s0 ≤ 0 then pm_Run d 32 25 [.inr (.inr (.inl l0)), .inl l1, .inl l2] [] (G, M, T) K else pm_Run d 32 23 [.inr (.inr (.inl l0)), .inl l1, .inl l2] [] (G, M, T) K := by
  refine (px_if_le (off := 5) (tgt := 25) (by decide +kernel)).trans ?_
  exact Iff.rfl
theorem b32_23 {d : Nat} {G : PG} {M T : PH} {K : PV → PS → Prop} {l0 l1 l2 : Int} : pm_Run d 32 23 [.inr (.inr (.inl l0)), .inl l1, .inl l2] [] (G, M, T) K ↔ K (.inl l2) (G, M, T) := by
  refine (px_go (by decide +kernel : pm_fe 32 23 = some (.iload_n 2, 1)) rfl).trans ?_
  refine (px_ri (by decide +kernel)).trans ?_
  exact Iff.rfl
theorem b32_25 {d : Nat} {G : PG} {M T : PH} {K : PV → PS → Prop} {l0 l1 l2 : Int} : pm_Run d 32 25 [.inr (.inr (.inl l0)), .inl l1, .inl l2] [] (G, M, T) K ↔ pm_Run d 32 2 [.inr (.inr (.inl l0)), .inl l1, .inl (l2 + 1)] [] (G, M, T) K := by
  refine (px_go (by decide +kernel : pm_fe 32 25 = some (.iinc 2 1, 3)) rfl).trans ?_
  refine (px_goto (off := (-26)) (tgt := 2) (by decide +kernel)).trans ?_
  exact Iff.rfl
theorem b32_31 {d : Nat} {G : PG} {M T : PH} {K : PV → PS → Prop} {l0 l1 l2 : Int} : pm_Run d 32 31 [.inr (.inr (.inl l0)), .inl l1, .inl l2] [] (G, M, T) K ↔ K (.inl (-1)) (G, M, T) := by
  refine (px_go (by decide +kernel : pm_fe 32 31 = some (.iconst (-1), 1)) rfl).trans ?_
  refine (px_ri (by decide +kernel)).trans ?_
  exact Iff.rfl
-- X2_findBroken findBroken()Z
theorem en33 {d : Nat} {a : Int} {S : PS} {K : PV → PS → Prop} : pm_Call (d + 1) 33 [.inr (.inr (.inl a))] S K ↔ pm_Run d 33 0 [.inr (.inr (.inl a)), PU] [] S K := pm_Call_s.trans (and_iff_right (show 1 ≤ pm_ml 33 from by decide +kernel))
theorem b33_0 {d : Nat} {G : PG} {M T : PH} {K : PV → PS → Prop} {l0 : Int} : pm_Run d 33 0 [.inr (.inr (.inl l0)), PU] [] (G, M, T) K ↔ pm_Run d 33 2 [.inr (.inr (.inl l0)), .inl 0] [] (G, M, T) K := by
  refine (px_go (by decide +kernel : pm_fe 33 0 = some (.iconst 0, 1)) rfl).trans ?_
  refine (px_go (by decide +kernel : pm_fe 33 1 = some (.istore_n 1, 1)) rfl).trans ?_
  exact Iff.rfl
theorem b33_2 {d : Nat} {G : PG} {M T : PH} {K : PV → PS → Prop} {l0 l1 : Int} (h1 : pm_ob G l0 2) : pm_Run d 33 2 [.inr (.inr (.inl l0)), .inl l1] [] (G, M, T) K ↔ if pm_sg (M l0.toNat 8) < pm_sg l1 then pm_Run d 33 29 [.inr (.inr (.inl l0)), .inl l1] [] (G, M, T) K else pm_Run d 33 10 [.inr (.inr (.inl l0)), .inl l1] [] (G, M, T) K := by
  refine (px_go (by decide +kernel : pm_fe 33 2 = some (.iload_n 1, 1)) rfl).trans ?_
  refine (px_go (by decide +kernel : pm_fe 33 3 = some (.aload_n 0, 1)) rfl).trans ?_
  refine (px_get0 (idx := 38) (ci := 2) (k := 8) (by decide +kernel)).trans ((and_iff_right h1).trans ?_)
  refine (px_ic_gt (off := 22) (tgt := 29) (by decide +kernel)).trans ?_
  exact Iff.rfl
theorem b33_10 {d : Nat} {G : PG} {M T : PH} {K : PV → PS → Prop} {l0 l1 : Int} (h1 : pm_ob G l0 2) : pm_Run d 33 10 [.inr (.inr (.inl l0)), .inl l1] [] (G, M, T) K ↔ if pm_sg (M l0.toNat 10) ≠ pm_sg (-1) then pm_Run d 33 29 [.inr (.inr (.inl l0)), .inl l1] [] (G, M, T) K else pm_Run d 33 18 [.inr (.inr (.inl l0)), .inl l1] [] (G, M, T) K := by
  refine (px_go (by decide +kernel : pm_fe 33 10 = some (.aload_n 0, 1)) rfl).trans ?_
  refine (px_get0 (idx := 42) (ci := 2) (k := 10) (by decide +kernel)).trans ((and_iff_right h1).trans ?_)
  refine (px_go (by decide +kernel : pm_fe 33 14 = some (.iconst (-1), 1)) rfl).trans ?_
  refine (px_ic_ne (off := 14) (tgt := 29) (by decide +kernel)).trans ?_
  exact Iff.rfl
theorem b33_18 {d : Nat} {G : PG} {M T : PH} {K : PV → PS → Prop} {l0 l1 : Int} (h1 : pm_ob G l0 2) : pm_Run d 33 18 [.inr (.inr (.inl l0)), .inl l1] [] (G, M, T) K ↔ pm_Call d 25 [.inr (.inr (.inl l0)), .inl l1] (G, M, T) (fun r S1 => pm_Run d 33 23 [.inr (.inr (.inl l0)), .inl l1] (pm_push r []) S1 K) := by
  refine (px_go (by decide +kernel : pm_fe 33 18 = some (.aload_n 0, 1)) rfl).trans ?_
  refine (px_go (by decide +kernel : pm_fe 33 19 = some (.iload_n 1, 1)) rfl).trans ?_
  refine (px_v1 (idx := 106) (m' := 25) (ci := 2) (by decide +kernel)).trans ((and_iff_right ⟨h1, (by simp [pm_wl_n, pm_wl_c, pm_w] : pm_wl [] ≤ 8)⟩).trans ?_)
  exact Iff.rfl
theorem b33_23 {d : Nat} {G : PG} {M T : PH} {K : PV → PS → Prop} {l0 l1 : Int} : pm_Run d 33 23 [.inr (.inr (.inl l0)), .inl l1] [] (G, M, T) K ↔ pm_Run d 33 2 [.inr (.inr (.inl l0)), .inl (l1 + 1)] [] (G, M, T) K := by
  refine (px_go (by decide +kernel : pm_fe 33 23 = some (.iinc 1 1, 3)) rfl).trans ?_
  refine (px_goto (off := (-24)) (tgt := 2) (by decide +kernel)).trans ?_
  exact Iff.rfl
theorem b33_29 {d : Nat} {G : PG} {M T : PH} {K : PV → PS → Prop} {l0 l1 : Int} (h1 : pm_ob G l0 2) : pm_Run d 33 29 [.inr (.inr (.inl l0)), .inl l1] [] (G, M, T) K ↔ if pm_sg (M l0.toNat 10) = pm_sg (-1) then pm_Run d 33 41 [.inr (.inr (.inl l0)), .inl l1] [] (G, M, T) K else pm_Run d 33 37 [.inr (.inr (.inl l0)), .inl l1] [] (G, M, T) K := by
  refine (px_go (by decide +kernel : pm_fe 33 29 = some (.aload_n 0, 1)) rfl).trans ?_
  refine (px_get0 (idx := 42) (ci := 2) (k := 10) (by decide +kernel)).trans ((and_iff_right h1).trans ?_)
  refine (px_go (by decide +kernel : pm_fe 33 33 = some (.iconst (-1), 1)) rfl).trans ?_
  refine (px_ic_eq (off := 7) (tgt := 41) (by decide +kernel)).trans ?_
  exact Iff.rfl
theorem b33_37 {d : Nat} {G : PG} {M T : PH} {K : PV → PS → Prop} {l0 l1 : Int} : pm_Run d 33 37 [.inr (.inr (.inl l0)), .inl l1] [] (G, M, T) K ↔ pm_Run d 33 42 [.inr (.inr (.inl l0)), .inl l1] [.inl 1] (G, M, T) K := by
  refine (px_go (by decide +kernel : pm_fe 33 37 = some (.iconst 1, 1)) rfl).trans ?_
  refine (px_goto (off := 4) (tgt := 42) (by decide +kernel)).trans ?_
  exact Iff.rfl
theorem b33_41 {d : Nat} {G : PG} {M T : PH} {K : PV → PS → Prop} {l0 l1 : Int} : pm_Run d 33 41 [.inr (.inr (.inl l0)), .inl l1] [] (G, M, T) K ↔ pm_Run d 33 42 [.inr (.inr (.inl l0)), .inl l1] [.inl 0] (G, M, T) K := by
  refine (px_go (by decide +kernel : pm_fe 33 41 = some (.iconst 0, 1)) rfl).trans ?_
  exact Iff.rfl
theorem b33_42 {d : Nat} {G : PG} {M T : PH} {K : PV → PS → Prop} {l0 l1 s0 : Int} (h1 : s0 = 0 ∨ s0 = 1) : pm_Run d 33 42 [.inr (.inr (.inl l0)), .inl l1] [.inl s0] (G, M, T) K ↔ K (.inl s0) (G, M, T) := by
  refine (px_rz (by decide +kernel)).trans ((and_iff_right h1).trans ?_)
  exact Iff.rfl
-- X2_crossing crossing(III)I
theorem en34 {d : Nat} {a p0 p1 p2 : Int} {S : PS} {K : PV → PS → Prop} : pm_Call (d + 1) 34 [.inr (.inr (.inl a)), .inl p0, .inl p1, .inl p2] S K ↔ pm_Run d 34 0 [.inr (.inr (.inl a)), .inl p0, .inl p1, .inl p2, PU, PU] [] S K := pm_Call_s.trans (and_iff_right (show 4 ≤ pm_ml 34 from by decide +kernel))
theorem b34_0 {d : Nat} {G : PG} {M T : PH} {K : PV → PS → Prop} {l0 l1 l2 l3 : Int} : pm_Run d 34 0 [.inr (.inr (.inl l0)), .inl l1, .inl l2, .inl l3, PU, PU] [] (G, M, T) K ↔ pm_Run d 34 8 [.inr (.inr (.inl l0)), .inl l1, .inl l2, .inl l3, .inl (pm_shl 1 l1), .inl 0] [] (G, M, T) K := by
  refine (px_go (by decide +kernel : pm_fe 34 0 = some (.iconst 1, 1)) rfl).trans ?_
  refine (px_go (by decide +kernel : pm_fe 34 1 = some (.iload_n 1, 1)) rfl).trans ?_
  refine (px_go (by decide +kernel : pm_fe 34 2 = some (.ishl, 1)) rfl).trans ?_
  refine (px_go (by decide +kernel : pm_fe 34 3 = some (.istore 4, 2)) rfl).trans ?_
  refine (px_go (by decide +kernel : pm_fe 34 5 = some (.iconst 0, 1)) rfl).trans ?_
  refine (px_go (by decide +kernel : pm_fe 34 6 = some (.istore 5, 2)) rfl).trans ?_
  exact Iff.rfl
theorem b34_8 {d : Nat} {G : PG} {M T : PH} {K : PV → PS → Prop} {l0 l1 l2 l3 l4 l5 : Int} (h1 : pm_ob G l0 2) : pm_Run d 34 8 [.inr (.inr (.inl l0)), .inl l1, .inl l2, .inl l3, .inl l4, .inl l5] [] (G, M, T) K ↔ if pm_sg (M l0.toNat 8) < pm_sg l5 then pm_Run d 34 73 [.inr (.inr (.inl l0)), .inl l1, .inl l2, .inl l3, .inl l4, .inl l5] [] (G, M, T) K else pm_Run d 34 17 [.inr (.inr (.inl l0)), .inl l1, .inl l2, .inl l3, .inl l4, .inl l5] [] (G, M, T) K := by
  refine (px_go (by decide +kernel : pm_fe 34 8 = some (.iload 5, 2)) rfl).trans ?_
  refine (px_go (by decide +kernel : pm_fe 34 10 = some (.aload_n 0, 1)) rfl).trans ?_
  refine (px_get0 (idx := 38) (ci := 2) (k := 8) (by decide +kernel)).trans ((and_iff_right h1).trans ?_)
  refine (px_ic_gt (off := 59) (tgt := 73) (by decide +kernel)).trans ?_
  exact Iff.rfl
theorem b34_17 {d : Nat} {G : PG} {M T : PH} {K : PV → PS → Prop} {l0 l1 l2 l3 l4 l5 : Int} : pm_Run d 34 17 [.inr (.inr (.inl l0)), .inl l1, .inl l2, .inl l3, .inl l4, .inl l5] [] (G, M, T) K ↔ if pm_sg l4 = 0 then pm_Run d 34 73 [.inr (.inr (.inl l0)), .inl l1, .inl l2, .inl l3, .inl l4, .inl l5] [] (G, M, T) K else pm_Run d 34 22 [.inr (.inr (.inl l0)), .inl l1, .inl l2, .inl l3, .inl l4, .inl l5] [] (G, M, T) K := by
  refine (px_go (by decide +kernel : pm_fe 34 17 = some (.iload 4, 2)) rfl).trans ?_
  refine (px_if_eq (off := 54) (tgt := 73) (by decide +kernel)).trans ?_
  exact Iff.rfl
theorem b34_22 {d : Nat} {G : PG} {M T : PH} {K : PV → PS → Prop} {l0 l1 l2 l3 l4 l5 : Int} (h1 : pm_ob G l0 2) : pm_Run d 34 22 [.inr (.inr (.inl l0)), .inl l1, .inl l2, .inl l3, .inl l4, .inl l5] [] (G, M, T) K ↔ pm_Call d 25 [.inr (.inr (.inl l0)), .inl l5] (G, M, T) (fun r S1 => pm_Run d 34 28 [.inr (.inr (.inl l0)), .inl l1, .inl l2, .inl l3, .inl l4, .inl l5] (pm_push r []) S1 K) := by
  refine (px_go (by decide +kernel : pm_fe 34 22 = some (.aload_n 0, 1)) rfl).trans ?_
  refine (px_go (by decide +kernel : pm_fe 34 23 = some (.iload 5, 2)) rfl).trans ?_
  refine (px_v1 (idx := 106) (m' := 25) (ci := 2) (by decide +kernel)).trans ((and_iff_right ⟨h1, (by simp [pm_wl_n, pm_wl_c, pm_w] : pm_wl [] ≤ 8)⟩).trans ?_)
  exact Iff.rfl
theorem b34_28 {d : Nat} {G : PG} {M T : PH} {K : PV → PS → Prop} {l0 l1 l2 l3 l4 l5 : Int} : pm_Run d 34 28 [.inr (.inr (.inl l0)), .inl l1, .inl l2, .inl l3, .inl l4, .inl l5] [] (G, M, T) K ↔ if pm_sg l5 ≠ 0 then pm_Run d 34 38 [.inr (.inr (.inl l0)), .inl l1, .inl l2, .inl l3, .inl l4, .inl l5] [] (G, M, T) K else pm_Run d 34 33 [.inr (.inr (.inl l0)), .inl l1, .inl l2, .inl l3, .inl l4, .inl l5] [] (G, M, T) K := by
  refine (px_go (by decide +kernel : pm_fe 34 28 = some (.iload 5, 2)) rfl).trans ?_
  refine (px_if_ne (off := 8) (tgt := 38) (by decide +kernel)).trans ?_
  exact Iff.rfl
theorem b34_33 {d : Nat} {G : PG} {M T : PH} {K : PV → PS → Prop} {l0 l1 l2 l3 l4 l5 : Int} : pm_Run d 34 33 [.inr (.inr (.inl l0)), .inl l1, .inl l2, .inl l3, .inl l4, .inl l5] [] (G, M, T) K ↔ pm_Run d 34 44 [.inr (.inr (.inl l0)), .inl l1, .inl l2, .inl l3, .inl l4, .inl l5] [.inl l4] (G, M, T) K := by
  refine (px_go (by decide +kernel : pm_fe 34 33 = some (.iload 4, 2)) rfl).trans ?_
  refine (px_goto (off := 9) (tgt := 44) (by decide +kernel)).trans ?_
  exact Iff.rfl
theorem b34_38 {d : Nat} {G : PG} {M T : PH} {K : PV → PS → Prop} {l0 l1 l2 l3 l4 l5 : Int} (h1 : pm_ob G l0 2) : pm_Run d 34 38 [.inr (.inr (.inl l0)), .inl l1, .inl l2, .inl l3, .inl l4, .inl l5] [] (G, M, T) K ↔ pm_Call d 37 [.inr (.inr (.inl l0)), .inl l4] (G, M, T) (fun r S1 => pm_Run d 34 44 [.inr (.inr (.inl l0)), .inl l1, .inl l2, .inl l3, .inl l4, .inl l5] (pm_push r []) S1 K) := by
  refine (px_go (by decide +kernel : pm_fe 34 38 = some (.aload_n 0, 1)) rfl).trans ?_
  refine (px_go (by decide +kernel : pm_fe 34 39 = some (.iload 4, 2)) rfl).trans ?_
  refine (px_v1 (idx := 113) (m' := 37) (ci := 2) (by decide +kernel)).trans ((and_iff_right ⟨h1, (by simp [pm_wl_n, pm_wl_c, pm_w] : pm_wl [] ≤ 8)⟩).trans ?_)
  exact Iff.rfl
theorem b34_44 {d : Nat} {G : PG} {M T : PH} {K : PV → PS → Prop} {l0 l1 l2 l3 l4 l5 s0 : Int} (h1 : pm_ob G l0 2) : pm_Run d 34 44 [.inr (.inr (.inl l0)), .inl l1, .inl l2, .inl l3, .inl l4, .inl l5] [.inl s0] (G, M, T) K ↔ pm_Call d 36 [.inr (.inr (.inl l0)), .inl l5, .inl l3] (G, M, T) (fun r S1 => pm_Run d 34 51 [.inr (.inr (.inl l0)), .inl l1, .inl l2, .inl l3, .inl l4, .inl l5] (pm_push r [.inl s0]) S1 K) := by
  refine (px_go (by decide +kernel : pm_fe 34 44 = some (.aload_n 0, 1)) rfl).trans ?_
  refine (px_go (by decide +kernel : pm_fe 34 45 = some (.iload 5, 2)) rfl).trans ?_
  refine (px_go (by decide +kernel : pm_fe 34 47 = some (.iload_n 3, 1)) rfl).trans ?_
  refine (px_v2 (idx := 116) (m' := 36) (ci := 2) (by decide +kernel)).trans ((and_iff_right ⟨h1, (by simp [pm_wl_n, pm_wl_c, pm_w] : pm_wl [.inl s0] ≤ 8)⟩).trans ?_)
  exact Iff.rfl
theorem b34_51 {d : Nat} {G : PG} {M T : PH} {K : PV → PS → Prop} {l0 l1 l2 l3 l4 l5 s0 s1 : Int} : pm_Run d 34 51 [.inr (.inr (.inl l0)), .inl l1, .inl l2, .inl l3, .inl l4, .inl l5] [.inl s0, .inl s1] (G, M, T) K ↔ if pm_sg (pm_and (pm_shr (pm_and s1 s0) l2) 1) ≠ pm_sg 1 then pm_Run d 34 67 [.inr (.inr (.inl l0)), .inl l1, .inl l2, .inl l3, .inl (pm_and s1 s0), .inl l5] [] (G, M, T) K else pm_Run d 34 64 [.inr (.inr (.inl l0)), .inl l1, .inl l2, .inl l3, .inl (pm_and s1 s0), .inl l5] [] (G, M, T) K := by
  refine (px_go (by decide +kernel : pm_fe 34 51 = some (.iand, 1)) rfl).trans ?_
  refine (px_go (by decide +kernel : pm_fe 34 52 = some (.istore 4, 2)) rfl).trans ?_
  refine (px_go (by decide +kernel : pm_fe 34 54 = some (.iload 4, 2)) rfl).trans ?_
  refine (px_go (by decide +kernel : pm_fe 34 56 = some (.iload_n 2, 1)) rfl).trans ?_
  refine (px_go (by decide +kernel : pm_fe 34 57 = some (.ishr, 1)) rfl).trans ?_
  refine (px_go (by decide +kernel : pm_fe 34 58 = some (.iconst 1, 1)) rfl).trans ?_
  refine (px_go (by decide +kernel : pm_fe 34 59 = some (.iand, 1)) rfl).trans ?_
  refine (px_go (by decide +kernel : pm_fe 34 60 = some (.iconst 1, 1)) rfl).trans ?_
  refine (px_ic_ne (off := 6) (tgt := 67) (by decide +kernel)).trans ?_
  exact Iff.rfl
theorem b34_64 {d : Nat} {G : PG} {M T : PH} {K : PV → PS → Prop} {l0 l1 l2 l3 l4 l5 : Int} : pm_Run d 34 64 [.inr (.inr (.inl l0)), .inl l1, .inl l2, .inl l3, .inl l4, .inl l5] [] (G, M, T) K ↔ K (.inl l5) (G, M, T) := by
  refine (px_go (by decide +kernel : pm_fe 34 64 = some (.iload 5, 2)) rfl).trans ?_
  refine (px_ri (by decide +kernel)).trans ?_
  exact Iff.rfl
theorem b34_67 {d : Nat} {G : PG} {M T : PH} {K : PV → PS → Prop} {l0 l1 l2 l3 l4 l5 : Int} : pm_Run d 34 67 [.inr (.inr (.inl l0)), .inl l1, .inl l2, .inl l3, .inl l4, .inl l5] [] (G, M, T) K ↔ pm_Run d 34 8 [.inr (.inr (.inl l0)), .inl l1, .inl l2, .inl l3, .inl l4, .inl (l5 + 1)] [] (G, M, T) K := by
  refine (px_go (by decide +kernel : pm_fe 34 67 = some (.iinc 5 1, 3)) rfl).trans ?_
  refine (px_goto (off := (-62)) (tgt := 8) (by decide +kernel)).trans ?_
  exact Iff.rfl
theorem b34_73 {d : Nat} {G : PG} {M T : PH} {K : PV → PS → Prop} {l0 l1 l2 l3 l4 l5 : Int} : pm_Run d 34 73 [.inr (.inr (.inl l0)), .inl l1, .inl l2, .inl l3, .inl l4, .inl l5] [] (G, M, T) K ↔ K (.inl (-1)) (G, M, T) := by
  refine (px_go (by decide +kernel : pm_fe 34 73 = some (.iconst (-1), 1)) rfl).trans ?_
  refine (px_ri (by decide +kernel)).trans ?_
  exact Iff.rfl
-- X2_lastStart lastStart(III)I
theorem en35 {d : Nat} {a p0 p1 p2 : Int} {S : PS} {K : PV → PS → Prop} : pm_Call (d + 1) 35 [.inr (.inr (.inl a)), .inl p0, .inl p1, .inl p2] S K ↔ pm_Run d 35 0 [.inr (.inr (.inl a)), .inl p0, .inl p1, .inl p2, PU, PU] [] S K := pm_Call_s.trans (and_iff_right (show 4 ≤ pm_ml 35 from by decide +kernel))
theorem b35_0 {d : Nat} {G : PG} {M T : PH} {K : PV → PS → Prop} {l0 l1 l2 l3 : Int} (h1 : pm_ob G l0 2) : pm_Run d 35 0 [.inr (.inr (.inl l0)), .inl l1, .inl l2, .inl l3, PU, PU] [] (G, M, T) K ↔ pm_Call d 25 [.inr (.inr (.inl l0)), .inl (M l0.toNat 8)] (G, M, T) (fun r S1 => pm_Run d 35 11 [.inr (.inr (.inl l0)), .inl l1, .inl l2, .inl l3, .inl 0, PU] (pm_push r []) S1 K) := by
  refine (px_go (by decide +kernel : pm_fe 35 0 = some (.iconst 0, 1)) rfl).trans ?_
  refine (px_go (by decide +kernel : pm_fe 35 1 = some (.istore 4, 2)) rfl).trans ?_
  refine (px_go (by decide +kernel : pm_fe 35 3 = some (.aload_n 0, 1)) rfl).trans ?_
  refine (px_go (by decide +kernel : pm_fe 35 4 = some (.aload_n 0, 1)) rfl).trans ?_
  refine (px_get0 (idx := 38) (ci := 2) (k := 8) (by decide +kernel)).trans ((and_iff_right h1).trans ?_)
  refine (px_v1 (idx := 106) (m' := 25) (ci := 2) (by decide +kernel)).trans ((and_iff_right ⟨h1, (by simp [pm_wl_n, pm_wl_c, pm_w] : pm_wl [] ≤ 8)⟩).trans ?_)
  exact Iff.rfl
theorem b35_11 {d : Nat} {G : PG} {M T : PH} {K : PV → PS → Prop} {l0 l1 l2 l3 l4 : Int} (h1 : pm_ob G l0 2) : pm_Run d 35 11 [.inr (.inr (.inl l0)), .inl l1, .inl l2, .inl l3, .inl l4, PU] [] (G, M, T) K ↔ pm_Run d 35 17 [.inr (.inr (.inl l0)), .inl l1, .inl l2, .inl l3, .inl l4, .inl (M l0.toNat 8)] [] (G, M, T) K := by
  refine (px_go (by decide +kernel : pm_fe 35 11 = some (.aload_n 0, 1)) rfl).trans ?_
  refine (px_get0 (idx := 38) (ci := 2) (k := 8) (by decide +kernel)).trans ((and_iff_right h1).trans ?_)
  refine (px_go (by decide +kernel : pm_fe 35 15 = some (.istore 5, 2)) rfl).trans ?_
  exact Iff.rfl
theorem b35_17 {d : Nat} {G : PG} {M T : PH} {K : PV → PS → Prop} {l0 l1 l2 l3 l4 l5 : Int} : pm_Run d 35 17 [.inr (.inr (.inl l0)), .inl l1, .inl l2, .inl l3, .inl l4, .inl l5] [] (G, M, T) K ↔ if pm_sg l5 < 0 then pm_Run d 35 61 [.inr (.inr (.inl l0)), .inl l1, .inl l2, .inl l3, .inl l4, .inl l5] [] (G, M, T) K else pm_Run d 35 22 [.inr (.inr (.inl l0)), .inl l1, .inl l2, .inl l3, .inl l4, .inl l5] [] (G, M, T) K := by
  refine (px_go (by decide +kernel : pm_fe 35 17 = some (.iload 5, 2)) rfl).trans ?_
  refine (px_if_lt (off := 42) (tgt := 61) (by decide +kernel)).trans ?_
  exact Iff.rfl
theorem b35_22 {d : Nat} {G : PG} {M T : PH} {K : PV → PS → Prop} {l0 l1 l2 l3 l4 l5 : Int} (h1 : pm_ob G l0 2) : pm_Run d 35 22 [.inr (.inr (.inl l0)), .inl l1, .inl l2, .inl l3, .inl l4, .inl l5] [] (G, M, T) K ↔ pm_Call d 37 [.inr (.inr (.inl l0)), .inl l4] (G, M, T) (fun r S1 => pm_Run d 35 31 [.inr (.inr (.inl l0)), .inl l1, .inl l2, .inl l3, .inl l4, .inl l5] (pm_push r [.inl (pm_shl 1 l2)]) S1 K) := by
  refine (px_go (by decide +kernel : pm_fe 35 22 = some (.iconst 1, 1)) rfl).trans ?_
  refine (px_go (by decide +kernel : pm_fe 35 23 = some (.iload_n 2, 1)) rfl).trans ?_
  refine (px_go (by decide +kernel : pm_fe 35 24 = some (.ishl, 1)) rfl).trans ?_
  refine (px_go (by decide +kernel : pm_fe 35 25 = some (.aload_n 0, 1)) rfl).trans ?_
  refine (px_go (by decide +kernel : pm_fe 35 26 = some (.iload 4, 2)) rfl).trans ?_
  refine (px_v1 (idx := 113) (m' := 37) (ci := 2) (by decide +kernel)).trans ((and_iff_right ⟨h1, (by simp [pm_wl_n, pm_wl_c, pm_w] : pm_wl [.inl (pm_shl 1 l2)] ≤ 8)⟩).trans ?_)
  exact Iff.rfl
theorem b35_31 {d : Nat} {G : PG} {M T : PH} {K : PV → PS → Prop} {l0 l1 l2 l3 l4 l5 s0 s1 : Int} (h1 : pm_ob G l0 2) : pm_Run d 35 31 [.inr (.inr (.inl l0)), .inl l1, .inl l2, .inl l3, .inl l4, .inl l5] [.inl s0, .inl s1] (G, M, T) K ↔ pm_Call d 36 [.inr (.inr (.inl l0)), .inl l5, .inl l3] (G, M, T) (fun r S1 => pm_Run d 35 39 [.inr (.inr (.inl l0)), .inl l1, .inl l2, .inl l3, .inl l4, .inl l5] (pm_push r [.inl (pm_or s1 s0)]) S1 K) := by
  refine (px_go (by decide +kernel : pm_fe 35 31 = some (.ior, 1)) rfl).trans ?_
  refine (px_go (by decide +kernel : pm_fe 35 32 = some (.aload_n 0, 1)) rfl).trans ?_
  refine (px_go (by decide +kernel : pm_fe 35 33 = some (.iload 5, 2)) rfl).trans ?_
  refine (px_go (by decide +kernel : pm_fe 35 35 = some (.iload_n 3, 1)) rfl).trans ?_
  refine (px_v2 (idx := 116) (m' := 36) (ci := 2) (by decide +kernel)).trans ((and_iff_right ⟨h1, (by simp [pm_wl_n, pm_wl_c, pm_w] : pm_wl [.inl (pm_or s1 s0)] ≤ 8)⟩).trans ?_)
  exact Iff.rfl
theorem b35_39 {d : Nat} {G : PG} {M T : PH} {K : PV → PS → Prop} {l0 l1 l2 l3 l4 l5 s0 s1 : Int} : pm_Run d 35 39 [.inr (.inr (.inl l0)), .inl l1, .inl l2, .inl l3, .inl l4, .inl l5] [.inl s0, .inl s1] (G, M, T) K ↔ if pm_sg (pm_and (pm_shr (pm_and s1 s0) l1) 1) ≠ pm_sg 1 then pm_Run d 35 55 [.inr (.inr (.inl l0)), .inl l1, .inl l2, .inl l3, .inl (pm_and s1 s0), .inl l5] [] (G, M, T) K else pm_Run d 35 52 [.inr (.inr (.inl l0)), .inl l1, .inl l2, .inl l3, .inl (pm_and s1 s0), .inl l5] [] (G, M, T) K := by
  refine (px_go (by decide +kernel : pm_fe 35 39 = some (.iand, 1)) rfl).trans ?_
  refine (px_go (by decide +kernel : pm_fe 35 40 = some (.istore 4, 2)) rfl).trans ?_
  refine (px_go (by decide +kernel : pm_fe 35 42 = some (.iload 4, 2)) rfl).trans ?_
  refine (px_go (by decide +kernel : pm_fe 35 44 = some (.iload_n 1, 1)) rfl).trans ?_
  refine (px_go (by decide +kernel : pm_fe 35 45 = some (.ishr, 1)) rfl).trans ?_
  refine (px_go (by decide +kernel : pm_fe 35 46 = some (.iconst 1, 1)) rfl).trans ?_
  refine (px_go (by decide +kernel : pm_fe 35 47 = some (.iand, 1)) rfl).trans ?_
  refine (px_go (by decide +kernel : pm_fe 35 48 = some (.iconst 1, 1)) rfl).trans ?_
  refine (px_ic_ne (off := 6) (tgt := 55) (by decide +kernel)).trans ?_
  exact Iff.rfl
theorem b35_52 {d : Nat} {G : PG} {M T : PH} {K : PV → PS → Prop} {l0 l1 l2 l3 l4 l5 : Int} : pm_Run d 35 52 [.inr (.inr (.inl l0)), .inl l1, .inl l2, .inl l3, .inl l4, .inl l5] [] (G, M, T) K ↔ K (.inl l5) (G, M, T) := by
  refine (px_go (by decide +kernel : pm_fe 35 52 = some (.iload 5, 2)) rfl).trans ?_
  refine (px_ri (by decide +kernel)).trans ?_
  exact Iff.rfl
theorem b35_55 {d : Nat} {G : PG} {M T : PH} {K : PV → PS → Prop} {l0 l1 l2 l3 l4 l5 : Int} : pm_Run d 35 55 [.inr (.inr (.inl l0)), .inl l1, .inl l2, .inl l3, .inl l4, .inl l5] [] (G, M, T) K ↔ pm_Run d 35 17 [.inr (.inr (.inl l0)), .inl l1, .inl l2, .inl l3, .inl l4, .inl (l5 + (-1))] [] (G, M, T) K := by
  refine (px_go (by decide +kernel : pm_fe 35 55 = some (.iinc 5 (-1), 3)) rfl).trans ?_
  refine (px_goto (off := (-41)) (tgt := 17) (by decide +kernel)).trans ?_
  exact Iff.rfl
theorem b35_61 {d : Nat} {G : PG} {M T : PH} {K : PV → PS → Prop} {l0 l1 l2 l3 l4 l5 : Int} : pm_Run d 35 61 [.inr (.inr (.inl l0)), .inl l1, .inl l2, .inl l3, .inl l4, .inl l5] [] (G, M, T) K ↔ K (.inl (-1)) (G, M, T) := by
  refine (px_go (by decide +kernel : pm_fe 35 61 = some (.iconst (-1), 1)) rfl).trans ?_
  refine (px_ri (by decide +kernel)).trans ?_
  exact Iff.rfl
-- X2_floating floating(II)I
theorem en36 {d : Nat} {a p0 p1 : Int} {S : PS} {K : PV → PS → Prop} : pm_Call (d + 1) 36 [.inr (.inr (.inl a)), .inl p0, .inl p1] S K ↔ pm_Run d 36 0 [.inr (.inr (.inl a)), .inl p0, .inl p1, PU, PU] [] S K := pm_Call_s.trans (and_iff_right (show 3 ≤ pm_ml 36 from by decide +kernel))
theorem b36_0 {d : Nat} {G : PG} {M T : PH} {K : PV → PS → Prop} {l0 l1 l2 : Int} : pm_Run d 36 0 [.inr (.inr (.inl l0)), .inl l1, .inl l2, PU, PU] [] (G, M, T) K ↔ pm_Run d 36 5 [.inr (.inr (.inl l0)), .inl l1, .inl l2, .inl 0, .inl 0] [] (G, M, T) K := by
  refine (px_go (by decide +kernel : pm_fe 36 0 = some (.iconst 0, 1)) rfl).trans ?_
  refine (px_go (by decide +kernel : pm_fe 36 1 = some (.istore_n 3, 1)) rfl).trans ?_
  refine (px_go (by decide +kernel : pm_fe 36 2 = some (.iconst 0, 1)) rfl).trans ?_
  refine (px_go (by decide +kernel : pm_fe 36 3 = some (.istore 4, 2)) rfl).trans ?_
  exact Iff.rfl
theorem b36_5 {d : Nat} {G : PG} {M T : PH} {K : PV → PS → Prop} {l0 l1 l2 l3 l4 : Int} (h1 : pm_ob G l0 2) (h2 : pm_ob G (T l0.toNat 7) 1) : pm_Run d 36 5 [.inr (.inr (.inl l0)), .inl l1, .inl l2, .inl l3, .inl l4] [] (G, M, T) K ↔ if pm_sg (M (T l0.toNat 7).toNat 0) ≤ pm_sg l4 then pm_Run d 36 41 [.inr (.inr (.inl l0)), .inl l1, .inl l2, .inl l3, .inl l4] [] (G, M, T) K else pm_Run d 36 17 [.inr (.inr (.inl l0)), .inl l1, .inl l2, .inl l3, .inl l4] [] (G, M, T) K := by
  refine (px_go (by decide +kernel : pm_fe 36 5 = some (.iload 4, 2)) rfl).trans ?_
  refine (px_go (by decide +kernel : pm_fe 36 7 = some (.aload_n 0, 1)) rfl).trans ?_
  refine (px_get2 (idx := 51) (ci := 2) (k := 7) (by decide +kernel)).trans ((and_iff_right h1).trans ?_)
  refine (px_get0 (idx := 70) (ci := 1) (k := 0) (by decide +kernel)).trans ((and_iff_right h2).trans ?_)
  refine (px_ic_ge (off := 27) (tgt := 41) (by decide +kernel)).trans ?_
  exact Iff.rfl
theorem b36_17 {d : Nat} {G : PG} {M T : PH} {K : PV → PS → Prop} {l0 l1 l2 l3 l4 : Int} (h1 : pm_ob G l0 2) : pm_Run d 36 17 [.inr (.inr (.inl l0)), .inl l1, .inl l2, .inl l3, .inl l4] [] (G, M, T) K ↔ pm_Call d 27 [.inr (.inr (.inl l0)), .inl l4, .inl l1] (G, M, T) (fun r S1 => pm_Run d 36 24 [.inr (.inr (.inl l0)), .inl l1, .inl l2, .inl l3, .inl l4] (pm_push r []) S1 K) := by
  refine (px_go (by decide +kernel : pm_fe 36 17 = some (.aload_n 0, 1)) rfl).trans ?_
  refine (px_go (by decide +kernel : pm_fe 36 18 = some (.iload 4, 2)) rfl).trans ?_
  refine (px_go (by decide +kernel : pm_fe 36 20 = some (.iload_n 1, 1)) rfl).trans ?_
  refine (px_v2 (idx := 93) (m' := 27) (ci := 2) (by decide +kernel)).trans ((and_iff_right ⟨h1, (by simp [pm_wl_n, pm_wl_c, pm_w] : pm_wl [] ≤ 8)⟩).trans ?_)
  exact Iff.rfl
theorem b36_24 {d : Nat} {G : PG} {M T : PH} {K : PV → PS → Prop} {l0 l1 l2 l3 l4 s0 : Int} : pm_Run d 36 24 [.inr (.inr (.inl l0)), .inl l1, .inl l2, .inl l3, .inl l4] [.inl s0] (G, M, T) K ↔ if pm_sg s0 < pm_sg l2 then pm_Run d 36 35 [.inr (.inr (.inl l0)), .inl l1, .inl l2, .inl l3, .inl l4] [] (G, M, T) K else pm_Run d 36 28 [.inr (.inr (.inl l0)), .inl l1, .inl l2, .inl l3, .inl l4] [] (G, M, T) K := by
  refine (px_go (by decide +kernel : pm_fe 36 24 = some (.iload_n 2, 1)) rfl).trans ?_
  refine (px_ic_lt (off := 10) (tgt := 35) (by decide +kernel)).trans ?_
  exact Iff.rfl
theorem b36_28 {d : Nat} {G : PG} {M T : PH} {K : PV → PS → Prop} {l0 l1 l2 l3 l4 : Int} : pm_Run d 36 28 [.inr (.inr (.inl l0)), .inl l1, .inl l2, .inl l3, .inl l4] [] (G, M, T) K ↔ pm_Run d 36 35 [.inr (.inr (.inl l0)), .inl l1, .inl l2, .inl (pm_or l3 (pm_shl 1 l4)), .inl l4] [] (G, M, T) K := by
  refine (px_go (by decide +kernel : pm_fe 36 28 = some (.iload_n 3, 1)) rfl).trans ?_
  refine (px_go (by decide +kernel : pm_fe 36 29 = some (.iconst 1, 1)) rfl).trans ?_
  refine (px_go (by decide +kernel : pm_fe 36 30 = some (.iload 4, 2)) rfl).trans ?_
  refine (px_go (by decide +kernel : pm_fe 36 32 = some (.ishl, 1)) rfl).trans ?_
  refine (px_go (by decide +kernel : pm_fe 36 33 = some (.ior, 1)) rfl).trans ?_
  refine (px_go (by decide +kernel : pm_fe 36 34 = some (.istore_n 3, 1)) rfl).trans ?_
  exact Iff.rfl
theorem b36_35 {d : Nat} {G : PG} {M T : PH} {K : PV → PS → Prop} {l0 l1 l2 l3 l4 : Int} : pm_Run d 36 35 [.inr (.inr (.inl l0)), .inl l1, .inl l2, .inl l3, .inl l4] [] (G, M, T) K ↔ pm_Run d 36 5 [.inr (.inr (.inl l0)), .inl l1, .inl l2, .inl l3, .inl (l4 + 1)] [] (G, M, T) K := by
  refine (px_go (by decide +kernel : pm_fe 36 35 = some (.iinc 4 1, 3)) rfl).trans ?_
  refine (px_goto (off := (-33)) (tgt := 5) (by decide +kernel)).trans ?_
  exact Iff.rfl
theorem b36_41 {d : Nat} {G : PG} {M T : PH} {K : PV → PS → Prop} {l0 l1 l2 l3 l4 : Int} : pm_Run d 36 41 [.inr (.inr (.inl l0)), .inl l1, .inl l2, .inl l3, .inl l4] [] (G, M, T) K ↔ K (.inl l3) (G, M, T) := by
  refine (px_go (by decide +kernel : pm_fe 36 41 = some (.iload_n 3, 1)) rfl).trans ?_
  refine (px_ri (by decide +kernel)).trans ?_
  exact Iff.rfl
-- X2_spread spread(I)I
theorem en37 {d : Nat} {a p0 : Int} {S : PS} {K : PV → PS → Prop} : pm_Call (d + 1) 37 [.inr (.inr (.inl a)), .inl p0] S K ↔ pm_Run d 37 0 [.inr (.inr (.inl a)), .inl p0, PU] [] S K := pm_Call_s.trans (and_iff_right (show 2 ≤ pm_ml 37 from by decide +kernel))
theorem b37_0 {d : Nat} {G : PG} {M T : PH} {K : PV → PS → Prop} {l0 l1 : Int} (h1 : pm_ob G l0 2) (h2 : pm_ob G (T l0.toNat 7) 1) : pm_Run d 37 0 [.inr (.inr (.inl l0)), .inl l1, PU] [] (G, M, T) K ↔ if 0 < pm_sg (M (T l0.toNat 7).toNat 0) then pm_Run d 37 12 [.inr (.inr (.inl l0)), .inl l1, PU] [] (G, M, T) K else pm_Run d 37 10 [.inr (.inr (.inl l0)), .inl l1, PU] [] (G, M, T) K := by
  refine (px_go (by decide +kernel : pm_fe 37 0 = some (.aload_n 0, 1)) rfl).trans ?_
  refine (px_get2 (idx := 51) (ci := 2) (k := 7) (by decide +kernel)).trans ((and_iff_right h1).trans ?_)
  refine (px_get0 (idx := 70) (ci := 1) (k := 0) (by decide +kernel)).trans ((and_iff_right h2).trans ?_)
  refine (px_if_gt (off := 5) (tgt := 12) (by decide +kernel)).trans ?_
  exact Iff.rfl
theorem b37_10 {d : Nat} {G : PG} {M T : PH} {K : PV → PS → Prop} {l0 l1 : Int} : pm_Run d 37 10 [.inr (.inr (.inl l0)), .inl l1, PU] [] (G, M, T) K ↔ K (.inl 0) (G, M, T) := by
  refine (px_go (by decide +kernel : pm_fe 37 10 = some (.iconst 0, 1)) rfl).trans ?_
  refine (px_ri (by decide +kernel)).trans ?_
  exact Iff.rfl
theorem b37_12 {d : Nat} {G : PG} {M T : PH} {K : PV → PS → Prop} {l0 l1 : Int} (h1 : pm_ob G l0 2) (h2 : pm_ob G (T l0.toNat 7) 1) : pm_Run d 37 12 [.inr (.inr (.inl l0)), .inl l1, PU] [] (G, M, T) K ↔ K (.inl (pm_and (pm_or (pm_or (pm_or (pm_or (pm_shl l1 1) l1) (pm_shr l1 1)) (pm_and (pm_shr l1 ((M (T l0.toNat 7).toNat 0) - 1)) 1)) (pm_shl (pm_and l1 1) ((M (T l0.toNat 7).toNat 0) - 1))) ((pm_shl 1 (M (T l0.toNat 7).toNat 0)) - 1))) (G, M, T) := by
  refine (px_go (by decide +kernel : pm_fe 37 12 = some (.iload_n 1, 1)) rfl).trans ?_
  refine (px_go (by decide +kernel : pm_fe 37 13 = some (.iconst 1, 1)) rfl).trans ?_
  refine (px_go (by decide +kernel : pm_fe 37 14 = some (.ishl, 1)) rfl).trans ?_
  refine (px_go (by decide +kernel : pm_fe 37 15 = some (.iload_n 1, 1)) rfl).trans ?_
  refine (px_go (by decide +kernel : pm_fe 37 16 = some (.ior, 1)) rfl).trans ?_
  refine (px_go (by decide +kernel : pm_fe 37 17 = some (.iload_n 1, 1)) rfl).trans ?_
  refine (px_go (by decide +kernel : pm_fe 37 18 = some (.iconst 1, 1)) rfl).trans ?_
  refine (px_go (by decide +kernel : pm_fe 37 19 = some (.ishr, 1)) rfl).trans ?_
  refine (px_go (by decide +kernel : pm_fe 37 20 = some (.ior, 1)) rfl).trans ?_
  refine (px_go (by decide +kernel : pm_fe 37 21 = some (.istore_n 2, 1)) rfl).trans ?_
  refine (px_go (by decide +kernel : pm_fe 37 22 = some (.iload_n 2, 1)) rfl).trans ?_
  refine (px_go (by decide +kernel : pm_fe 37 23 = some (.iload_n 1, 1)) rfl).trans ?_
  refine (px_go (by decide +kernel : pm_fe 37 24 = some (.aload_n 0, 1)) rfl).trans ?_
  refine (px_get2 (idx := 51) (ci := 2) (k := 7) (by decide +kernel)).trans ((and_iff_right h1).trans ?_)
  refine (px_get0 (idx := 70) (ci := 1) (k := 0) (by decide +kernel)).trans ((and_iff_right h2).trans ?_)
  refine (px_go (by decide +kernel : pm_fe 37 31 = some (.iconst 1, 1)) rfl).trans ?_
  refine (px_go (by decide +kernel : pm_fe 37 32 = some (.isub, 1)) rfl).trans ?_
  refine (px_go (by decide +kernel : pm_fe 37 33 = some (.ishr, 1)) rfl).trans ?_
  refine (px_go (by decide +kernel : pm_fe 37 34 = some (.iconst 1, 1)) rfl).trans ?_
  refine (px_go (by decide +kernel : pm_fe 37 35 = some (.iand, 1)) rfl).trans ?_
  refine (px_go (by decide +kernel : pm_fe 37 36 = some (.ior, 1)) rfl).trans ?_
  refine (px_go (by decide +kernel : pm_fe 37 37 = some (.istore_n 2, 1)) rfl).trans ?_
  refine (px_go (by decide +kernel : pm_fe 37 38 = some (.iload_n 2, 1)) rfl).trans ?_
  refine (px_go (by decide +kernel : pm_fe 37 39 = some (.iload_n 1, 1)) rfl).trans ?_
  refine (px_go (by decide +kernel : pm_fe 37 40 = some (.iconst 1, 1)) rfl).trans ?_
  refine (px_go (by decide +kernel : pm_fe 37 41 = some (.iand, 1)) rfl).trans ?_
  refine (px_go (by decide +kernel : pm_fe 37 42 = some (.aload_n 0, 1)) rfl).trans ?_
  refine (px_get2 (idx := 51) (ci := 2) (k := 7) (by decide +kernel)).trans ((and_iff_right h1).trans ?_)
  refine (px_get0 (idx := 70) (ci := 1) (k := 0) (by decide +kernel)).trans ((and_iff_right h2).trans ?_)
  refine (px_go (by decide +kernel : pm_fe 37 49 = some (.iconst 1, 1)) rfl).trans ?_
  refine (px_go (by decide +kernel : pm_fe 37 50 = some (.isub, 1)) rfl).trans ?_
  refine (px_go (by decide +kernel : pm_fe 37 51 = some (.ishl, 1)) rfl).trans ?_
  refine (px_go (by decide +kernel : pm_fe 37 52 = some (.ior, 1)) rfl).trans ?_
  refine (px_go (by decide +kernel : pm_fe 37 53 = some (.istore_n 2, 1)) rfl).trans ?_
  refine (px_go (by decide +kernel : pm_fe 37 54 = some (.iload_n 2, 1)) rfl).trans ?_
  refine (px_go (by decide +kernel : pm_fe 37 55 = some (.iconst 1, 1)) rfl).trans ?_
  refine (px_go (by decide +kernel : pm_fe 37 56 = some (.aload_n 0, 1)) rfl).trans ?_
  refine (px_get2 (idx := 51) (ci := 2) (k := 7) (by decide +kernel)).trans ((and_iff_right h1).trans ?_)
  refine (px_get0 (idx := 70) (ci := 1) (k := 0) (by decide +kernel)).trans ((and_iff_right h2).trans ?_)
  refine (px_go (by decide +kernel : pm_fe 37 63 = some (.ishl, 1)) rfl).trans ?_
  refine (px_go (by decide +kernel : pm_fe 37 64 = some (.iconst 1, 1)) rfl).trans ?_
  refine (px_go (by decide +kernel : pm_fe 37 65 = some (.isub, 1)) rfl).trans ?_
  refine (px_go (by decide +kernel : pm_fe 37 66 = some (.iand, 1)) rfl).trans ?_
  refine (px_ri (by decide +kernel)).trans ?_
  exact Iff.rfl
-- X2_write write(I)V
theorem en38 {d : Nat} {a p0 : Int} {S : PS} {K : PV → PS → Prop} : pm_Call (d + 1) 38 [.inr (.inr (.inl a)), .inl p0] S K ↔ pm_Run d 38 0 [.inr (.inr (.inl a)), .inl p0, PU, PU] [] S K := pm_Call_s.trans (and_iff_right (show 2 ≤ pm_ml 38 from by decide +kernel))
theorem b38_0 {d : Nat} {G : PG} {M T : PH} {K : PV → PS → Prop} {l0 l1 : Int} : pm_Run d 38 0 [.inr (.inr (.inl l0)), .inl l1, PU, PU] [] (G, M, T) K ↔ if pm_sg l1 ≠ 0 then pm_Run d 38 25 [.inr (.inr (.inl l0)), .inl l1, PU, PU] [] (G, M, T) K else pm_Run d 38 4 [.inr (.inr (.inl l0)), .inl l1, PU, PU] [] (G, M, T) K := by
  refine (px_go (by decide +kernel : pm_fe 38 0 = some (.iload_n 1, 1)) rfl).trans ?_
  refine (px_if_ne (off := 24) (tgt := 25) (by decide +kernel)).trans ?_
  exact Iff.rfl
theorem b38_4 {d : Nat} {G : PG} {M T : PH} {K : PV → PS → Prop} {l0 l1 : Int} (h1 : pm_ob G l0 2) (h2 : pm_ob G (T l0.toNat 0) 9) (h3 : 0 ≤ T l0.toNat 2 ∧ (T l0.toNat 2).toNat < G.1 ∧ 100 ≤ (G.2.2.1 (T l0.toNat 2).toNat).1 ∧ (G.2.2.1 (T l0.toNat 2).toNat).1 ≤ 104) (h4 : pm_ob G (T (T l0.toNat 0).toNat 0) 100) (h5 : pm_ob G (T l0.toNat 2) 100) (h6 : 0 ≤ pm_sg ((G.2.2.1 (T l0.toNat 2).toNat).2 : Int)) (h7 : pm_sg 0 + pm_sg ((G.2.2.1 (T l0.toNat 2).toNat).2 : Int) ≤ (G.2.2.1 (T (T l0.toNat 0).toNat 0).toNat).2) (h8 : pm_sg 0 + pm_sg ((G.2.2.1 (T l0.toNat 2).toNat).2 : Int) ≤ (G.2.2.1 (T l0.toNat 2).toNat).2) (h9 : (T (T l0.toNat 0).toNat 0) ≠ (T l0.toNat 2)) : pm_Run d 38 4 [.inr (.inr (.inl l0)), .inl l1, PU, PU] [] (G, M, T) K ↔ pm_Run d 38 25 [.inr (.inr (.inl l0)), .inl l1, PU, PU] [] (G, pm_sa M (T l0.toNat 2).toNat (pm_cp (M (T (T l0.toNat 0).toNat 0).toNat) (M (T l0.toNat 2).toNat) (pm_sg 0).toNat (pm_sg 0).toNat (pm_sg ((G.2.2.1 (T l0.toNat 2).toNat).2 : Int)).toNat), T) K := by
  refine (px_go (by decide +kernel : pm_fe 38 4 = some (.aload_n 0, 1)) rfl).trans ?_
  refine (px_get2 (idx := 12) (ci := 2) (k := 0) (by decide +kernel)).trans ((and_iff_right h1).trans ?_)
  refine (px_get2 (idx := 119) (ci := 9) (k := 0) (by decide +kernel)).trans ((and_iff_right h2).trans ?_)
  refine (px_go (by decide +kernel : pm_fe 38 11 = some (.iconst 0, 1)) rfl).trans ?_
  refine (px_go (by decide +kernel : pm_fe 38 12 = some (.aload_n 0, 1)) rfl).trans ?_
  refine (px_get2 (idx := 25) (ci := 2) (k := 2) (by decide +kernel)).trans ((and_iff_right h1).trans ?_)
  refine (px_go (by decide +kernel : pm_fe 38 16 = some (.iconst 0, 1)) rfl).trans ?_
  refine (px_go (by decide +kernel : pm_fe 38 17 = some (.aload_n 0, 1)) rfl).trans ?_
  refine (px_get2 (idx := 25) (ci := 2) (k := 2) (by decide +kernel)).trans ((and_iff_right h1).trans ?_)
  refine (px_alen (by decide +kernel) h3).trans ?_
  refine (px_acpy (idx := 120) (by decide +kernel)).trans ((and_iff_right ⟨h4, h5, (by decide : (0 : Int) ≤ pm_sg (0 : Int)), (by decide : (0 : Int) ≤ pm_sg (0 : Int)), h6, h7, h8, h9, (by simp [pm_wl_n, pm_wl_c, pm_w] : pm_wl [] ≤ 8)⟩).trans ?_)
  exact Iff.rfl
theorem b38_25 {d : Nat} {G : PG} {M T : PH} {K : PV → PS → Prop} {l0 l1 : Int} (h1 : pm_ob G l0 2) (h2 : pm_ob G (T l0.toNat 0) 9) (h3 : pm_ob G (T (T l0.toNat 0).toNat 1) 100) (h4 : pm_ob G (T l0.toNat 3) 100) (h5 : 0 ≤ pm_sg (l1 * 24)) (h6 : pm_sg 0 + pm_sg 24 ≤ (G.2.2.1 (T (T l0.toNat 0).toNat 1).toNat).2) (h7 : pm_sg (l1 * 24) + pm_sg 24 ≤ (G.2.2.1 (T l0.toNat 3).toNat).2) (h8 : (T (T l0.toNat 0).toNat 1) ≠ (T l0.toNat 3)) : pm_Run d 38 25 [.inr (.inr (.inl l0)), .inl l1, PU, PU] [] (G, M, T) K ↔ pm_Run d 38 48 [.inr (.inr (.inl l0)), .inl l1, .inl 0, PU] [] (G, pm_sa M (T l0.toNat 3).toNat (pm_cp (M (T (T l0.toNat 0).toNat 1).toNat) (M (T l0.toNat 3).toNat) (pm_sg 0).toNat (pm_sg (l1 * 24)).toNat (pm_sg 24).toNat), T) K := by
  refine (px_go (by decide +kernel : pm_fe 38 25 = some (.aload_n 0, 1)) rfl).trans ?_
  refine (px_get2 (idx := 12) (ci := 2) (k := 0) (by decide +kernel)).trans ((and_iff_right h1).trans ?_)
  refine (px_get2 (idx := 126) (ci := 9) (k := 1) (by decide +kernel)).trans ((and_iff_right h2).trans ?_)
  refine (px_go (by decide +kernel : pm_fe 38 32 = some (.iconst 0, 1)) rfl).trans ?_
  refine (px_go (by decide +kernel : pm_fe 38 33 = some (.aload_n 0, 1)) rfl).trans ?_
  refine (px_get2 (idx := 29) (ci := 2) (k := 3) (by decide +kernel)).trans ((and_iff_right h1).trans ?_)
  refine (px_go (by decide +kernel : pm_fe 38 37 = some (.iload_n 1, 1)) rfl).trans ?_
  refine (px_go (by decide +kernel : pm_fe 38 38 = some (.bipush 24, 2)) rfl).trans ?_
  refine (px_go (by decide +kernel : pm_fe 38 40 = some (.imul, 1)) rfl).trans ?_
  refine (px_go (by decide +kernel : pm_fe 38 41 = some (.bipush 24, 2)) rfl).trans ?_
  refine (px_acpy (idx := 120) (by decide +kernel)).trans ((and_iff_right ⟨h3, h4, (by decide : (0 : Int) ≤ pm_sg (0 : Int)), h5, (by decide : (0 : Int) ≤ pm_sg (24 : Int)), h6, h7, h8, (by simp [pm_wl_n, pm_wl_c, pm_w] : pm_wl [] ≤ 8)⟩).trans ?_)
  refine (px_go (by decide +kernel : pm_fe 38 46 = some (.iconst 0, 1)) rfl).trans ?_
  refine (px_go (by decide +kernel : pm_fe 38 47 = some (.istore_n 2, 1)) rfl).trans ?_
  exact Iff.rfl
theorem b38_48 {d : Nat} {G : PG} {M T : PH} {K : PV → PS → Prop} {l0 l1 l2 : Int} {l3 : PV} (h1 : pm_ob G l0 2) (h2 : pm_ob G (T l0.toNat 7) 1) : pm_Run d 38 48 [.inr (.inr (.inl l0)), .inl l1, .inl l2, l3] [] (G, M, T) K ↔ if pm_sg (M (T l0.toNat 7).toNat 2) ≤ pm_sg l2 then pm_Run d 38 153 [.inr (.inr (.inl l0)), .inl l1, .inl l2, l3] [] (G, M, T) K else pm_Run d 38 59 [.inr (.inr (.inl l0)), .inl l1, .inl l2, l3] [] (G, M, T) K := by
  refine (px_go (by decide +kernel : pm_fe 38 48 = some (.iload_n 2, 1)) rfl).trans ?_
  refine (px_go (by decide +kernel : pm_fe 38 49 = some (.aload_n 0, 1)) rfl).trans ?_
  refine (px_get2 (idx := 51) (ci := 2) (k := 7) (by decide +kernel)).trans ((and_iff_right h1).trans ?_)
  refine (px_get0 (idx := 99) (ci := 1) (k := 2) (by decide +kernel)).trans ((and_iff_right h2).trans ?_)
  refine (px_ic_ge (off := 97) (tgt := 153) (by decide +kernel)).trans ?_
  exact Iff.rfl
theorem b38_59 {d : Nat} {G : PG} {M T : PH} {K : PV → PS → Prop} {l0 l1 l2 : Int} {l3 : PV} (h1 : pm_ob G l0 2) (h2 : pm_ob G (T l0.toNat 1) 5) (h3 : pm_ar G (T (T l0.toNat 1).toNat 3) 100 l2) (h4 : pm_ar G (T l0.toNat 4) 100 ((l1 * 8) + l2)) : pm_Run d 38 59 [.inr (.inr (.inl l0)), .inl l1, .inl l2, l3] [] (G, M, T) K ↔ pm_Call d 61 [.inr (.inr (.inl (T l0.toNat 1))), .inl l2] (G, pm_sa M (T l0.toNat 4).toNat (pm_up (M (T l0.toNat 4).toNat) (pm_sg ((l1 * 8) + l2)).toNat (M (T (T l0.toNat 1).toNat 3).toNat (pm_sg l2).toNat)), T) (fun r S1 => pm_Run d 38 97 [.inr (.inr (.inl l0)), .inl l1, .inl l2, l3] (pm_push r [.inl ((l1 * 8) + l2), .inr (.inr (.inl (T l0.toNat 5)))]) S1 K) := by
  refine (px_go (by decide +kernel : pm_fe 38 59 = some (.aload_n 0, 1)) rfl).trans ?_
  refine (px_get2 (idx := 32) (ci := 2) (k := 4) (by decide +kernel)).trans ((and_iff_right h1).trans ?_)
  refine (px_go (by decide +kernel : pm_fe 38 63 = some (.iload_n 1, 1)) rfl).trans ?_
  refine (px_go (by decide +kernel : pm_fe 38 64 = some (.bipush 8, 2)) rfl).trans ?_
  refine (px_go (by decide +kernel : pm_fe 38 66 = some (.imul, 1)) rfl).trans ?_
  refine (px_go (by decide +kernel : pm_fe 38 67 = some (.iload_n 2, 1)) rfl).trans ?_
  refine (px_go (by decide +kernel : pm_fe 38 68 = some (.iadd, 1)) rfl).trans ?_
  refine (px_go (by decide +kernel : pm_fe 38 69 = some (.aload_n 0, 1)) rfl).trans ?_
  refine (px_get2 (idx := 21) (ci := 2) (k := 1) (by decide +kernel)).trans ((and_iff_right h1).trans ?_)
  refine (px_get2 (idx := 127) (ci := 5) (k := 3) (by decide +kernel)).trans ((and_iff_right h2).trans ?_)
  refine (px_go (by decide +kernel : pm_fe 38 76 = some (.iload_n 2, 1)) rfl).trans ?_
  refine (px_iaload (by decide +kernel) h3).trans ?_
  refine (px_iastore (by decide +kernel)).trans ((and_iff_right h4).trans ?_)
  refine (px_go (by decide +kernel : pm_fe 38 79 = some (.aload_n 0, 1)) rfl).trans ?_
  refine (px_get2 (idx := 35) (ci := 2) (k := 5) (by decide +kernel)).trans ((and_iff_right h1).trans ?_)
  refine (px_go (by decide +kernel : pm_fe 38 83 = some (.iload_n 1, 1)) rfl).trans ?_
  refine (px_go (by decide +kernel : pm_fe 38 84 = some (.bipush 8, 2)) rfl).trans ?_
  refine (px_go (by decide +kernel : pm_fe 38 86 = some (.imul, 1)) rfl).trans ?_
  refine (px_go (by decide +kernel : pm_fe 38 87 = some (.iload_n 2, 1)) rfl).trans ?_
  refine (px_go (by decide +kernel : pm_fe 38 88 = some (.iadd, 1)) rfl).trans ?_
  refine (px_go (by decide +kernel : pm_fe 38 89 = some (.aload_n 0, 1)) rfl).trans ?_
  refine (px_get2 (idx := 21) (ci := 2) (k := 1) (by decide +kernel)).trans ((and_iff_right h1).trans ?_)
  refine (px_go (by decide +kernel : pm_fe 38 93 = some (.iload_n 2, 1)) rfl).trans ?_
  refine (px_v1 (idx := 130) (m' := 61) (ci := 5) (by decide +kernel)).trans ((and_iff_right ⟨h2, (by simp [pm_wl_n, pm_wl_c, pm_w] : pm_wl [.inl ((l1 * 8) + l2), .inr (.inr (.inl (T l0.toNat 5)))] ≤ 8)⟩).trans ?_)
  exact Iff.rfl
theorem b38_97 {d : Nat} {G : PG} {M T : PH} {K : PV → PS → Prop} {l0 l1 l2 s0 s1 s2 : Int} {l3 : PV} (h1 : pm_ar G s2 100 s1) (h2 : pm_ob G l0 2) : pm_Run d 38 97 [.inr (.inr (.inl l0)), .inl l1, .inl l2, l3] [.inl s0, .inl s1, .inr (.inr (.inl s2))] (G, M, T) K ↔ if pm_sg ((pm_sa M s2.toNat (pm_up (M s2.toNat) (pm_sg s1).toNat s0)) l0.toNat 10) ≠ pm_sg (-1) then pm_Run d 38 125 [.inr (.inr (.inl l0)), .inl l1, .inl l2, l3] [] (G, pm_sa M s2.toNat (pm_up (M s2.toNat) (pm_sg s1).toNat s0), T) K else pm_Run d 38 106 [.inr (.inr (.inl l0)), .inl l1, .inl l2, l3] [] (G, pm_sa M s2.toNat (pm_up (M s2.toNat) (pm_sg s1).toNat s0), T) K := by
  refine (px_iastore (by decide +kernel)).trans ((and_iff_right h1).trans ?_)
  refine (px_go (by decide +kernel : pm_fe 38 98 = some (.aload_n 0, 1)) rfl).trans ?_
  refine (px_get0 (idx := 42) (ci := 2) (k := 10) (by decide +kernel)).trans ((and_iff_right h2).trans ?_)
  refine (px_go (by decide +kernel : pm_fe 38 102 = some (.iconst (-1), 1)) rfl).trans ?_
  refine (px_ic_ne (off := 22) (tgt := 125) (by decide +kernel)).trans ?_
  exact Iff.rfl
theorem b38_106 {d : Nat} {G : PG} {M T : PH} {K : PV → PS → Prop} {l0 l1 l2 : Int} {l3 : PV} (h1 : pm_ob G l0 2) (h2 : pm_ob G (T l0.toNat 0) 9) : pm_Run d 38 106 [.inr (.inr (.inl l0)), .inl l1, .inl l2, l3] [] (G, M, T) K ↔ pm_Call d 120 [.inr (.inr (.inl (T l0.toNat 0))), .inr (.inr (.inl (T l0.toNat 7))), .inr (.inr (.inl (T l0.toNat 1))), .inl l2] (G, M, T) (fun r S1 => pm_Run d 38 122 [.inr (.inr (.inl l0)), .inl l1, .inl l2, l3] (pm_push r []) S1 K) := by
  refine (px_go (by decide +kernel : pm_fe 38 106 = some (.aload_n 0, 1)) rfl).trans ?_
  refine (px_get2 (idx := 12) (ci := 2) (k := 0) (by decide +kernel)).trans ((and_iff_right h1).trans ?_)
  refine (px_go (by decide +kernel : pm_fe 38 110 = some (.aload_n 0, 1)) rfl).trans ?_
  refine (px_get2 (idx := 51) (ci := 2) (k := 7) (by decide +kernel)).trans ((and_iff_right h1).trans ?_)
  refine (px_go (by decide +kernel : pm_fe 38 114 = some (.aload_n 0, 1)) rfl).trans ?_
  refine (px_get2 (idx := 21) (ci := 2) (k := 1) (by decide +kernel)).trans ((and_iff_right h1).trans ?_)
  refine (px_go (by decide +kernel : pm_fe 38 118 = some (.iload_n 2, 1)) rfl).trans ?_
  refine (px_v3 (idx := 133) (m' := 120) (ci := 9) (by decide +kernel)).trans ((and_iff_right ⟨h2, (by simp [pm_wl_n, pm_wl_c, pm_w] : pm_wl [] ≤ 8)⟩).trans ?_)
  exact Iff.rfl
theorem b38_122 {d : Nat} {G : PG} {M T : PH} {K : PV → PS → Prop} {l0 l1 l2 s0 : Int} {l3 : PV} : pm_Run d 38 122 [.inr (.inr (.inl l0)), .inl l1, .inl l2, l3] [.inl s0] (G, M, T) K ↔ pm_Run d 38 126 [.inr (.inr (.inl l0)), .inl l1, .inl l2, l3] [.inl s0] (G, M, T) K := by
  refine (px_goto (off := 4) (tgt := 126) (by decide +kernel)).trans ?_
  exact Iff.rfl
theorem b38_125 {d : Nat} {G : PG} {M T : PH} {K : PV → PS → Prop} {l0 l1 l2 : Int} {l3 : PV} : pm_Run d 38 125 [.inr (.inr (.inl l0)), .inl l1, .inl l2, l3] [] (G, M, T) K ↔ pm_Run d 38 126 [.inr (.inr (.inl l0)), .inl l1, .inl l2, l3] [.inl (-1)] (G, M, T) K := by
  refine (px_go (by decide +kernel : pm_fe 38 125 = some (.iconst (-1), 1)) rfl).trans ?_
  exact Iff.rfl
theorem b38_126 {d : Nat} {G : PG} {M T : PH} {K : PV → PS → Prop} {l0 l1 l2 s0 : Int} {l3 : PV} : pm_Run d 38 126 [.inr (.inr (.inl l0)), .inl l1, .inl l2, l3] [.inl s0] (G, M, T) K ↔ if pm_sg s0 = pm_sg (-1) then pm_Run d 38 147 [.inr (.inr (.inl l0)), .inl l1, .inl l2, .inl s0] [] (G, M, T) K else pm_Run d 38 132 [.inr (.inr (.inl l0)), .inl l1, .inl l2, .inl s0] [] (G, M, T) K := by
  refine (px_go (by decide +kernel : pm_fe 38 126 = some (.istore_n 3, 1)) rfl).trans ?_
  refine (px_go (by decide +kernel : pm_fe 38 127 = some (.iload_n 3, 1)) rfl).trans ?_
  refine (px_go (by decide +kernel : pm_fe 38 128 = some (.iconst (-1), 1)) rfl).trans ?_
  refine (px_ic_eq (off := 18) (tgt := 147) (by decide +kernel)).trans ?_
  exact Iff.rfl
theorem b38_132 {d : Nat} {G : PG} {M T : PH} {K : PV → PS → Prop} {l0 l1 l2 l3 : Int} (h1 : pm_ob G l0 2) : pm_Run d 38 132 [.inr (.inr (.inl l0)), .inl l1, .inl l2, .inl l3] [] (G, M, T) K ↔ pm_Run d 38 147 [.inr (.inr (.inl l0)), .inl l1, .inl l2, .inl l3] [] (G, pm_sa (pm_sa (pm_sa M l0.toNat (pm_up (M l0.toNat) 10 l1)) l0.toNat (pm_up ((pm_sa M l0.toNat (pm_up (M l0.toNat) 10 l1)) l0.toNat) 11 l2)) l0.toNat (pm_up ((pm_sa (pm_sa M l0.toNat (pm_up (M l0.toNat) 10 l1)) l0.toNat (pm_up ((pm_sa M l0.toNat (pm_up (M l0.toNat) 10 l1)) l0.toNat) 11 l2)) l0.toNat) 12 l3), T) K := by
  refine (px_go (by decide +kernel : pm_fe 38 132 = some (.aload_n 0, 1)) rfl).trans ?_
  refine (px_go (by decide +kernel : pm_fe 38 133 = some (.iload_n 1, 1)) rfl).trans ?_
  refine (px_put0 (idx := 42) (ci := 2) (k := 10) (by decide +kernel)).trans ((and_iff_right h1).trans ?_)
  refine (px_go (by decide +kernel : pm_fe 38 137 = some (.aload_n 0, 1)) rfl).trans ?_
  refine (px_go (by decide +kernel : pm_fe 38 138 = some (.iload_n 2, 1)) rfl).trans ?_
  refine (px_put0 (idx := 45) (ci := 2) (k := 11) (by decide +kernel)).trans ((and_iff_right h1).trans ?_)
  refine (px_go (by decide +kernel : pm_fe 38 142 = some (.aload_n 0, 1)) rfl).trans ?_
  refine (px_go (by decide +kernel : pm_fe 38 143 = some (.iload_n 3, 1)) rfl).trans ?_
  refine (px_put0 (idx := 48) (ci := 2) (k := 12) (by decide +kernel)).trans ((and_iff_right h1).trans ?_)
  exact Iff.rfl
theorem b38_147 {d : Nat} {G : PG} {M T : PH} {K : PV → PS → Prop} {l0 l1 l2 l3 : Int} : pm_Run d 38 147 [.inr (.inr (.inl l0)), .inl l1, .inl l2, .inl l3] [] (G, M, T) K ↔ pm_Run d 38 48 [.inr (.inr (.inl l0)), .inl l1, .inl (l2 + 1), .inl l3] [] (G, M, T) K := by
  refine (px_go (by decide +kernel : pm_fe 38 147 = some (.iinc 2 1, 3)) rfl).trans ?_
  refine (px_goto (off := (-102)) (tgt := 48) (by decide +kernel)).trans ?_
  exact Iff.rfl
theorem b38_153 {d : Nat} {G : PG} {M T : PH} {K : PV → PS → Prop} {l0 l1 l2 : Int} {l3 : PV} : pm_Run d 38 153 [.inr (.inr (.inl l0)), .inl l1, .inl l2, l3] [] (G, M, T) K ↔ K PU (G, M, T) := by
  refine (px_rv (by decide +kernel)).trans ?_
  exact Iff.rfl
