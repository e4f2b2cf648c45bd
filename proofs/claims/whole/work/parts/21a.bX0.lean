-- X0_init <init>(LMoonTender$Chart;LMoonTender$Moment;)V
theorem en0 {d : Nat} {a p0 p1 : Int} {S : PS} {K : PV → PS → Prop} : pm_Call (d + 1) 0 [.inr (.inr (.inl a)), .inr (.inr (.inl p0)), .inr (.inr (.inl p1))] S K ↔ pm_Run d 0 0 [.inr (.inr (.inl a)), .inr (.inr (.inl p0)), .inr (.inr (.inl p1))] [] S K := pm_Call_s.trans (and_iff_right (show 3 ≤ pm_ml 0 from by decide +kernel))
theorem b0_88 {d : Nat} {G : PG} {M T : PH} {K : PV → PS → Prop} {l0 l1 l2 s0 s1 : Int} (h1 : pm_ob G s1 0) (h2 : 0 ≤ s0) (h3 : pm_ob G l0 0) (h4 : 0 ≤ l1) (h5 : 0 ≤ l2) : pm_Run d 0 88 [.inr (.inr (.inl l0)), .inr (.inr (.inl l1)), .inr (.inr (.inl l2))] [.inr (.inr (.inl s0)), .inr (.inr (.inl s1))] (G, M, T) K ↔ pm_Run d 0 101 [.inr (.inr (.inl l0)), .inr (.inr (.inl l1)), .inr (.inr (.inl l2))] [] (G, M, pm_sa (pm_sa (pm_sa T s1.toNat (pm_up (T s1.toNat) 15 s0)) l0.toNat (pm_up ((pm_sa T s1.toNat (pm_up (T s1.toNat) 15 s0)) l0.toNat) 8 l1)) l0.toNat (pm_up ((pm_sa (pm_sa T s1.toNat (pm_up (T s1.toNat) 15 s0)) l0.toNat (pm_up ((pm_sa T s1.toNat (pm_up (T s1.toNat) 15 s0)) l0.toNat) 8 l1)) l0.toNat) 7 l2)) K := by
  refine (px_put2 (idx := 50) (ci := 0) (k := 15) (by decide +kernel)).trans ((and_iff_right ⟨h1, h2⟩).trans ?_)
  refine (px_go (by decide +kernel : pm_fe 0 91 = some (.aload_n 0, 1)) rfl).trans ?_
  refine (px_go (by decide +kernel : pm_fe 0 92 = some (.aload_n 1, 1)) rfl).trans ?_
  refine (px_put2 (idx := 54) (ci := 0) (k := 8) (by decide +kernel)).trans ((and_iff_right ⟨h3, h4⟩).trans ?_)
  refine (px_go (by decide +kernel : pm_fe 0 96 = some (.aload_n 0, 1)) rfl).trans ?_
  refine (px_go (by decide +kernel : pm_fe 0 97 = some (.aload_n 2, 1)) rfl).trans ?_
  refine (px_put2 (idx := 58) (ci := 0) (k := 7) (by decide +kernel)).trans ((and_iff_right ⟨h3, h5⟩).trans ?_)
  exact Iff.rfl
theorem b0_101 {d : Nat} {G : PG} {M T : PH} {K : PV → PS → Prop} {l0 l1 l2 : Int} : pm_Run d 0 101 [.inr (.inr (.inl l0)), .inr (.inr (.inl l1)), .inr (.inr (.inl l2))] [] (G, M, T) K ↔ K PU (G, M, T) := by
  refine (px_rv (by decide +kernel)).trans ?_
  exact Iff.rfl
-- X0_begin begin(LMoonTender$Chart;)V
theorem en1 {d : Nat} {a p0 : Int} {S : PS} {K : PV → PS → Prop} : pm_Call (d + 1) 1 [.inr (.inr (.inl a)), .inr (.inr (.inl p0))] S K ↔ pm_Run d 1 0 [.inr (.inr (.inl a)), .inr (.inr (.inl p0))] [] S K := pm_Call_s.trans (and_iff_right (show 2 ≤ pm_ml 1 from by decide +kernel))
theorem b1_0 {d : Nat} {G : PG} {M T : PH} {K : PV → PS → Prop} {l0 l1 : Int} (h1 : pm_ob G l0 0) (h2 : 0 ≤ l1) : pm_Run d 1 0 [.inr (.inr (.inl l0)), .inr (.inr (.inl l1))] [] (G, M, T) K ↔ K PU (G, pm_sa (pm_sa M l0.toNat (pm_up (M l0.toNat) 11 (-1))) l0.toNat (pm_up ((pm_sa M l0.toNat (pm_up (M l0.toNat) 11 (-1))) l0.toNat) 16 0), pm_sa T l0.toNat (pm_up (T l0.toNat) 8 l1)) := by
  refine (px_go (by decide +kernel : pm_fe 1 0 = some (.aload_n 0, 1)) rfl).trans ?_
  refine (px_go (by decide +kernel : pm_fe 1 1 = some (.aload_n 1, 1)) rfl).trans ?_
  refine (px_put2 (idx := 54) (ci := 0) (k := 8) (by decide +kernel)).trans ((and_iff_right ⟨h1, h2⟩).trans ?_)
  refine (px_go (by decide +kernel : pm_fe 1 5 = some (.aload_n 0, 1)) rfl).trans ?_
  refine (px_go (by decide +kernel : pm_fe 1 6 = some (.iconst (-1), 1)) rfl).trans ?_
  refine (px_put0 (idx := 37) (ci := 0) (k := 11) (by decide +kernel)).trans ((and_iff_right h1).trans ?_)
  refine (px_go (by decide +kernel : pm_fe 1 10 = some (.aload_n 0, 1)) rfl).trans ?_
  refine (px_go (by decide +kernel : pm_fe 1 11 = some (.iconst 0, 1)) rfl).trans ?_
  refine (px_put0 (idx := 61) (ci := 0) (k := 16) (by decide +kernel)).trans ((and_iff_right h1).trans ?_)
  refine (px_rv (by decide +kernel)).trans ?_
  exact Iff.rfl
-- X0_findWished findWished(II)Z
theorem en2 {d : Nat} {a p0 p1 : Int} {S : PS} {K : PV → PS → Prop} : pm_Call (d + 1) 2 [.inr (.inr (.inl a)), .inl p0, .inl p1] S K ↔ pm_Run d 2 0 [.inr (.inr (.inl a)), .inl p0, .inl p1] [] S K := pm_Call_s.trans (and_iff_right (show 3 ≤ pm_ml 2 from by decide +kernel))
theorem b2_0 {d : Nat} {G : PG} {M T : PH} {K : PV → PS → Prop} {l0 l1 l2 : Int} (h1 : pm_ob G l0 0) : pm_Run d 2 0 [.inr (.inr (.inl l0)), .inl l1, .inl l2] [] (G, M, T) K ↔ if pm_sg l1 ≠ pm_sg (M l0.toNat 11) then pm_Run d 2 16 [.inr (.inr (.inl l0)), .inl l1, .inl l2] [] (G, M, T) K else pm_Run d 2 8 [.inr (.inr (.inl l0)), .inl l1, .inl l2] [] (G, M, T) K := by
  refine (px_go (by decide +kernel : pm_fe 2 0 = some (.iload_n 1, 1)) rfl).trans ?_
  refine (px_go (by decide +kernel : pm_fe 2 1 = some (.aload_n 0, 1)) rfl).trans ?_
  refine (px_get0 (idx := 37) (ci := 0) (k := 11) (by decide +kernel)).trans ((and_iff_right h1).trans ?_)
  refine (px_ic_ne (off := 11) (tgt := 16) (by decide +kernel)).trans ?_
  exact Iff.rfl
theorem b2_8 {d : Nat} {G : PG} {M T : PH} {K : PV → PS → Prop} {l0 l1 l2 : Int} (h1 : pm_ob G l0 0) : pm_Run d 2 8 [.inr (.inr (.inl l0)), .inl l1, .inl l2] [] (G, M, T) K ↔ if pm_sg l2 = pm_sg (M l0.toNat 12) then pm_Run d 2 45 [.inr (.inr (.inl l0)), .inl l1, .inl l2] [] (G, M, T) K else pm_Run d 2 16 [.inr (.inr (.inl l0)), .inl l1, .inl l2] [] (G, M, T) K := by
  refine (px_go (by decide +kernel : pm_fe 2 8 = some (.iload_n 2, 1)) rfl).trans ?_
  refine (px_go (by decide +kernel : pm_fe 2 9 = some (.aload_n 0, 1)) rfl).trans ?_
  refine (px_get0 (idx := 64) (ci := 0) (k := 12) (by decide +kernel)).trans ((and_iff_right h1).trans ?_)
  refine (px_ic_eq (off := 32) (tgt := 45) (by decide +kernel)).trans ?_
  exact Iff.rfl
theorem b2_16 {d : Nat} {G : PG} {M T : PH} {K : PV → PS → Prop} {l0 l1 l2 : Int} (h1 : pm_ob G l0 0) : pm_Run d 2 16 [.inr (.inr (.inl l0)), .inl l1, .inl l2] [] (G, M, T) K ↔ pm_Run d 2 31 [.inr (.inr (.inl l0)), .inl l1, .inl l2] [] (G, pm_sa (pm_sa (pm_sa M l0.toNat (pm_up (M l0.toNat) 11 l1)) l0.toNat (pm_up ((pm_sa M l0.toNat (pm_up (M l0.toNat) 11 l1)) l0.toNat) 12 l2)) l0.toNat (pm_up ((pm_sa (pm_sa M l0.toNat (pm_up (M l0.toNat) 11 l1)) l0.toNat (pm_up ((pm_sa M l0.toNat (pm_up (M l0.toNat) 11 l1)) l0.toNat) 12 l2)) l0.toNat) 13 (-1)), T) K := by
  refine (px_go (by decide +kernel : pm_fe 2 16 = some (.aload_n 0, 1)) rfl).trans ?_
  refine (px_go (by decide +kernel : pm_fe 2 17 = some (.iload_n 1, 1)) rfl).trans ?_
  refine (px_put0 (idx := 37) (ci := 0) (k := 11) (by decide +kernel)).trans ((and_iff_right h1).trans ?_)
  refine (px_go (by decide +kernel : pm_fe 2 21 = some (.aload_n 0, 1)) rfl).trans ?_
  refine (px_go (by decide +kernel : pm_fe 2 22 = some (.iload_n 2, 1)) rfl).trans ?_
  refine (px_put0 (idx := 64) (ci := 0) (k := 12) (by decide +kernel)).trans ((and_iff_right h1).trans ?_)
  refine (px_go (by decide +kernel : pm_fe 2 26 = some (.aload_n 0, 1)) rfl).trans ?_
  refine (px_go (by decide +kernel : pm_fe 2 27 = some (.iconst (-1), 1)) rfl).trans ?_
  refine (px_put0 (idx := 41) (ci := 0) (k := 13) (by decide +kernel)).trans ((and_iff_right h1).trans ?_)
  exact Iff.rfl
theorem b2_31 {d : Nat} {G : PG} {M T : PH} {K : PV → PS → Prop} {l0 l1 l2 : Int} (h1 : pm_ob G l0 0) : pm_Run d 2 31 [.inr (.inr (.inl l0)), .inl l1, .inl l2] [] (G, M, T) K ↔ pm_Call d 7 [.inr (.inr (.inl l0)), .inl l1, .inr (.inr (.inl (T l0.toNat 7)))] (G, M, T) (fun r S1 => pm_Run d 2 40 [.inr (.inr (.inl l0)), .inl l1, .inl l2] (pm_push r []) S1 K) := by
  refine (px_go (by decide +kernel : pm_fe 2 31 = some (.aload_n 0, 1)) rfl).trans ?_
  refine (px_go (by decide +kernel : pm_fe 2 32 = some (.iload_n 1, 1)) rfl).trans ?_
  refine (px_go (by decide +kernel : pm_fe 2 33 = some (.aload_n 0, 1)) rfl).trans ?_
  refine (px_get2 (idx := 58) (ci := 0) (k := 7) (by decide +kernel)).trans ((and_iff_right h1).trans ?_)
  refine (px_v2 (idx := 67) (m' := 7) (ci := 0) (by decide +kernel)).trans ((and_iff_right ⟨h1, (by simp [pm_wl_n, pm_wl_c, pm_w] : pm_wl [] ≤ 8)⟩).trans ?_)
  exact Iff.rfl
theorem b2_40 {d : Nat} {G : PG} {M T : PH} {K : PV → PS → Prop} {l0 l1 l2 : Int} (h1 : pm_ob G l0 0) : pm_Run d 2 40 [.inr (.inr (.inl l0)), .inl l1, .inl l2] [] (G, M, T) K ↔ pm_Call d 3 [.inr (.inr (.inl l0)), .inl l2] (G, M, T) (fun r S1 => pm_Run d 2 45 [.inr (.inr (.inl l0)), .inl l1, .inl l2] (pm_push r []) S1 K) := by
  refine (px_go (by decide +kernel : pm_fe 2 40 = some (.aload_n 0, 1)) rfl).trans ?_
  refine (px_go (by decide +kernel : pm_fe 2 41 = some (.iload_n 2, 1)) rfl).trans ?_
  refine (px_v1 (idx := 71) (m' := 3) (ci := 0) (by decide +kernel)).trans ((and_iff_right ⟨h1, (by simp [pm_wl_n, pm_wl_c, pm_w] : pm_wl [] ≤ 8)⟩).trans ?_)
  exact Iff.rfl
theorem b2_45 {d : Nat} {G : PG} {M T : PH} {K : PV → PS → Prop} {l0 l1 l2 : Int} (h1 : pm_ob G l0 0) : pm_Run d 2 45 [.inr (.inr (.inl l0)), .inl l1, .inl l2] [] (G, M, T) K ↔ if pm_sg (M l0.toNat 13) = pm_sg (-1) then pm_Run d 2 57 [.inr (.inr (.inl l0)), .inl l1, .inl l2] [] (G, M, T) K else pm_Run d 2 53 [.inr (.inr (.inl l0)), .inl l1, .inl l2] [] (G, M, T) K := by
  refine (px_go (by decide +kernel : pm_fe 2 45 = some (.aload_n 0, 1)) rfl).trans ?_
  refine (px_get0 (idx := 41) (ci := 0) (k := 13) (by decide +kernel)).trans ((and_iff_right h1).trans ?_)
  refine (px_go (by decide +kernel : pm_fe 2 49 = some (.iconst (-1), 1)) rfl).trans ?_
  refine (px_ic_eq (off := 7) (tgt := 57) (by decide +kernel)).trans ?_
  exact Iff.rfl
theorem b2_53 {d : Nat} {G : PG} {M T : PH} {K : PV → PS → Prop} {l0 l1 l2 : Int} : pm_Run d 2 53 [.inr (.inr (.inl l0)), .inl l1, .inl l2] [] (G, M, T) K ↔ pm_Run d 2 58 [.inr (.inr (.inl l0)), .inl l1, .inl l2] [.inl 1] (G, M, T) K := by
  refine (px_go (by decide +kernel : pm_fe 2 53 = some (.iconst 1, 1)) rfl).trans ?_
  refine (px_goto (off := 4) (tgt := 58) (by decide +kernel)).trans ?_
  exact Iff.rfl
theorem b2_57 {d : Nat} {G : PG} {M T : PH} {K : PV → PS → Prop} {l0 l1 l2 : Int} : pm_Run d 2 57 [.inr (.inr (.inl l0)), .inl l1, .inl l2] [] (G, M, T) K ↔ pm_Run d 2 58 [.inr (.inr (.inl l0)), .inl l1, .inl l2] [.inl 0] (G, M, T) K := by
  refine (px_go (by decide +kernel : pm_fe 2 57 = some (.iconst 0, 1)) rfl).trans ?_
  exact Iff.rfl
theorem b2_58 {d : Nat} {G : PG} {M T : PH} {K : PV → PS → Prop} {l0 l1 l2 s0 : Int} (h1 : s0 = 0 ∨ s0 = 1) : pm_Run d 2 58 [.inr (.inr (.inl l0)), .inl l1, .inl l2] [.inl s0] (G, M, T) K ↔ K (.inl s0) (G, M, T) := by
  refine (px_rz (by decide +kernel)).trans ((and_iff_right h1).trans ?_)
  exact Iff.rfl
-- X0_searchWished searchWished(I)V
theorem en3 {d : Nat} {a p0 : Int} {S : PS} {K : PV → PS → Prop} : pm_Call (d + 1) 3 [.inr (.inr (.inl a)), .inl p0] S K ↔ pm_Run d 3 0 [.inr (.inr (.inl a)), .inl p0, PU, PU, PU, PU, PU] [] S K := pm_Call_s.trans (and_iff_right (show 2 ≤ pm_ml 3 from by decide +kernel))
theorem b3_0 {d : Nat} {G : PG} {M T : PH} {K : PV → PS → Prop} {l0 l1 : Int} (h1 : pm_ob G l0 0) : pm_Run d 3 0 [.inr (.inr (.inl l0)), .inl l1, PU, PU, PU, PU, PU] [] (G, M, T) K ↔ pm_Call d 8 [.inr (.inr (.inl l0)), .inl 10] (G, M, T) (fun r S1 => pm_Run d 3 11 [.inr (.inr (.inl l0)), .inl l1, .inl 31, .inl 31, PU, PU, PU] (pm_push r []) S1 K) := by
  refine (px_go (by decide +kernel : pm_fe 3 0 = some (.bipush 31, 2)) rfl).trans ?_
  refine (px_go (by decide +kernel : pm_fe 3 2 = some (.istore_n 2, 1)) rfl).trans ?_
  refine (px_go (by decide +kernel : pm_fe 3 3 = some (.iload_n 2, 1)) rfl).trans ?_
  refine (px_go (by decide +kernel : pm_fe 3 4 = some (.istore_n 3, 1)) rfl).trans ?_
  refine (px_go (by decide +kernel : pm_fe 3 5 = some (.aload_n 0, 1)) rfl).trans ?_
  refine (px_go (by decide +kernel : pm_fe 3 6 = some (.bipush 10, 2)) rfl).trans ?_
  refine (px_v1 (idx := 75) (m' := 8) (ci := 0) (by decide +kernel)).trans ((and_iff_right ⟨h1, (by simp [pm_wl_n, pm_wl_c, pm_w] : pm_wl [] ≤ 8)⟩).trans ?_)
  exact Iff.rfl
theorem b3_11 {d : Nat} {G : PG} {M T : PH} {K : PV → PS → Prop} {l0 l1 l2 l3 s0 : Int} : pm_Run d 3 11 [.inr (.inr (.inl l0)), .inl l1, .inl l2, .inl l3, PU, PU, PU] [.inl s0] (G, M, T) K ↔ pm_Run d 3 16 [.inr (.inr (.inl l0)), .inl l1, .inl l2, .inl l3, .inl s0, .inl 0, PU] [] (G, M, T) K := by
  refine (px_go (by decide +kernel : pm_fe 3 11 = some (.istore 4, 2)) rfl).trans ?_
  refine (px_go (by decide +kernel : pm_fe 3 13 = some (.iconst 0, 1)) rfl).trans ?_
  refine (px_go (by decide +kernel : pm_fe 3 14 = some (.istore 5, 2)) rfl).trans ?_
  exact Iff.rfl
theorem b3_16 {d : Nat} {G : PG} {M T : PH} {K : PV → PS → Prop} {l0 l1 l2 l3 l4 l5 : Int} {l6 : PV} : pm_Run d 3 16 [.inr (.inr (.inl l0)), .inl l1, .inl l2, .inl l3, .inl l4, .inl l5, l6] [] (G, M, T) K ↔ if pm_sg l4 ≤ pm_sg l5 then pm_Run d 3 76 [.inr (.inr (.inl l0)), .inl l1, .inl l2, .inl l3, .inl l4, .inl l5, l6] [] (G, M, T) K else pm_Run d 3 23 [.inr (.inr (.inl l0)), .inl l1, .inl l2, .inl l3, .inl l4, .inl l5, l6] [] (G, M, T) K := by
  refine (px_go (by decide +kernel : pm_fe 3 16 = some (.iload 5, 2)) rfl).trans ?_
  refine (px_go (by decide +kernel : pm_fe 3 18 = some (.iload 4, 2)) rfl).trans ?_
  refine (px_ic_ge (off := 56) (tgt := 76) (by decide +kernel)).trans ?_
  exact Iff.rfl
theorem b3_23 {d : Nat} {G : PG} {M T : PH} {K : PV → PS → Prop} {l0 l1 l2 l3 l4 l5 : Int} {l6 : PV} (h1 : pm_ob G l0 0) : pm_Run d 3 23 [.inr (.inr (.inl l0)), .inl l1, .inl l2, .inl l3, .inl l4, .inl l5, l6] [] (G, M, T) K ↔ pm_Call d 10 [.inr (.inr (.inl l0))] (G, M, T) (fun r S1 => pm_Run d 3 27 [.inr (.inr (.inl l0)), .inl l1, .inl l2, .inl l3, .inl l4, .inl l5, l6] (pm_push r []) S1 K) := by
  refine (px_go (by decide +kernel : pm_fe 3 23 = some (.aload_n 0, 1)) rfl).trans ?_
  refine (px_v0 (idx := 79) (m' := 10) (ci := 0) (by decide +kernel)).trans ((and_iff_right ⟨h1, (by simp [pm_wl_n, pm_wl_c, pm_w] : pm_wl [] ≤ 8)⟩).trans ?_)
  exact Iff.rfl
theorem b3_27 {d : Nat} {G : PG} {M T : PH} {K : PV → PS → Prop} {l0 l1 l2 l3 l4 l5 s0 : Int} {l6 : PV} : pm_Run d 3 27 [.inr (.inr (.inl l0)), .inl l1, .inl l2, .inl l3, .inl l4, .inl l5, l6] [.inl s0] (G, M, T) K ↔ if pm_sg l3 ≤ pm_sg s0 then pm_Run d 3 64 [.inr (.inr (.inl l0)), .inl l1, .inl l2, .inl l3, .inl l4, .inl l5, .inl s0] [] (G, M, T) K else pm_Run d 3 35 [.inr (.inr (.inl l0)), .inl l1, .inl l2, .inl l3, .inl l4, .inl l5, .inl s0] [] (G, M, T) K := by
  refine (px_go (by decide +kernel : pm_fe 3 27 = some (.istore 6, 2)) rfl).trans ?_
  refine (px_go (by decide +kernel : pm_fe 3 29 = some (.iload 6, 2)) rfl).trans ?_
  refine (px_go (by decide +kernel : pm_fe 3 31 = some (.iload_n 3, 1)) rfl).trans ?_
  refine (px_ic_ge (off := 32) (tgt := 64) (by decide +kernel)).trans ?_
  exact Iff.rfl
theorem b3_35 {d : Nat} {G : PG} {M T : PH} {K : PV → PS → Prop} {l0 l1 l2 l3 l4 l5 l6 : Int} (h1 : pm_ob G l0 0) : pm_Run d 3 35 [.inr (.inr (.inl l0)), .inl l1, .inl l2, .inl l3, .inl l4, .inl l5, .inl l6] [] (G, M, T) K ↔ pm_Call d 11 [.inr (.inr (.inl l0)), .inr (.inr (.inl (T l0.toNat 7)))] (G, M, T) (fun r S1 => pm_Run d 3 43 [.inr (.inr (.inl l0)), .inl l1, .inl l2, .inl l3, .inl l4, .inl l5, .inl l6] (pm_push r []) S1 K) := by
  refine (px_go (by decide +kernel : pm_fe 3 35 = some (.aload_n 0, 1)) rfl).trans ?_
  refine (px_go (by decide +kernel : pm_fe 3 36 = some (.aload_n 0, 1)) rfl).trans ?_
  refine (px_get2 (idx := 58) (ci := 0) (k := 7) (by decide +kernel)).trans ((and_iff_right h1).trans ?_)
  refine (px_v1 (idx := 83) (m' := 11) (ci := 0) (by decide +kernel)).trans ((and_iff_right ⟨h1, (by simp [pm_wl_n, pm_wl_c, pm_w] : pm_wl [] ≤ 8)⟩).trans ?_)
  exact Iff.rfl
theorem b3_43 {d : Nat} {G : PG} {M T : PH} {K : PV → PS → Prop} {l0 l1 l2 l3 l4 l5 l6 s0 : Int} : pm_Run d 3 43 [.inr (.inr (.inl l0)), .inl l1, .inl l2, .inl l3, .inl l4, .inl l5, .inl l6] [.inl s0] (G, M, T) K ↔ if pm_sg s0 < pm_sg l1 then pm_Run d 3 64 [.inr (.inr (.inl l0)), .inl l1, .inl l2, .inl l3, .inl l4, .inl l5, .inl l6] [] (G, M, T) K else pm_Run d 3 47 [.inr (.inr (.inl l0)), .inl l1, .inl l2, .inl l3, .inl l4, .inl l5, .inl l6] [] (G, M, T) K := by
  refine (px_go (by decide +kernel : pm_fe 3 43 = some (.iload_n 1, 1)) rfl).trans ?_
  refine (px_ic_lt (off := 20) (tgt := 64) (by decide +kernel)).trans ?_
  exact Iff.rfl
theorem b3_47 {d : Nat} {G : PG} {M T : PH} {K : PV → PS → Prop} {l0 l1 l2 l3 l4 l5 l6 : Int} (h1 : pm_ob G l0 0) (h2 : pm_ob G (T l0.toNat 5) 100) (h3 : pm_ob G (T l0.toNat 14) 100) (h4 : pm_sg 0 + pm_sg 3 ≤ (G.2.2.1 (T l0.toNat 5).toNat).2) (h5 : pm_sg 0 + pm_sg 3 ≤ (G.2.2.1 (T l0.toNat 14).toNat).2) (h6 : (T l0.toNat 5) ≠ (T l0.toNat 14)) : pm_Run d 3 47 [.inr (.inr (.inl l0)), .inl l1, .inl l2, .inl l3, .inl l4, .inl l5, .inl l6] [] (G, M, T) K ↔ pm_Run d 3 64 [.inr (.inr (.inl l0)), .inl l1, .inl l2, .inl l6, .inl l4, .inl l5, .inl l6] [] (G, pm_sa M (T l0.toNat 14).toNat (pm_cp (M (T l0.toNat 5).toNat) (M (T l0.toNat 14).toNat) (pm_sg 0).toNat (pm_sg 0).toNat (pm_sg 3).toNat), T) K := by
  refine (px_go (by decide +kernel : pm_fe 3 47 = some (.iload 6, 2)) rfl).trans ?_
  refine (px_go (by decide +kernel : pm_fe 3 49 = some (.istore_n 3, 1)) rfl).trans ?_
  refine (px_go (by decide +kernel : pm_fe 3 50 = some (.aload_n 0, 1)) rfl).trans ?_
  refine (px_get2 (idx := 31) (ci := 0) (k := 5) (by decide +kernel)).trans ((and_iff_right h1).trans ?_)
  refine (px_go (by decide +kernel : pm_fe 3 54 = some (.iconst 0, 1)) rfl).trans ?_
  refine (px_go (by decide +kernel : pm_fe 3 55 = some (.aload_n 0, 1)) rfl).trans ?_
  refine (px_get2 (idx := 44) (ci := 0) (k := 14) (by decide +kernel)).trans ((and_iff_right h1).trans ?_)
  refine (px_go (by decide +kernel : pm_fe 3 59 = some (.iconst 0, 1)) rfl).trans ?_
  refine (px_go (by decide +kernel : pm_fe 3 60 = some (.iconst 3, 1)) rfl).trans ?_
  refine (px_acpy (idx := 87) (by decide +kernel)).trans ((and_iff_right ⟨h2, h3, (by decide : (0 : Int) ≤ pm_sg (0 : Int)), (by decide : (0 : Int) ≤ pm_sg (0 : Int)), (by decide : (0 : Int) ≤ pm_sg (3 : Int)), h4, h5, h6, (by simp [pm_wl_n, pm_wl_c, pm_w] : pm_wl [] ≤ 8)⟩).trans ?_)
  exact Iff.rfl
theorem b3_64 {d : Nat} {G : PG} {M T : PH} {K : PV → PS → Prop} {l0 l1 l2 l3 l4 l5 l6 : Int} (h1 : pm_ob G l0 0) : pm_Run d 3 64 [.inr (.inr (.inl l0)), .inl l1, .inl l2, .inl l3, .inl l4, .inl l5, .inl l6] [] (G, M, T) K ↔ pm_Call d 9 [.inr (.inr (.inl l0)), .inl 10] (G, M, T) (fun r S1 => pm_Run d 3 70 [.inr (.inr (.inl l0)), .inl l1, .inl l2, .inl l3, .inl l4, .inl l5, .inl l6] (pm_push r []) S1 K) := by
  refine (px_go (by decide +kernel : pm_fe 3 64 = some (.aload_n 0, 1)) rfl).trans ?_
  refine (px_go (by decide +kernel : pm_fe 3 65 = some (.bipush 10, 2)) rfl).trans ?_
  refine (px_v1 (idx := 93) (m' := 9) (ci := 0) (by decide +kernel)).trans ((and_iff_right ⟨h1, (by simp [pm_wl_n, pm_wl_c, pm_w] : pm_wl [] ≤ 8)⟩).trans ?_)
  exact Iff.rfl
theorem b3_70 {d : Nat} {G : PG} {M T : PH} {K : PV → PS → Prop} {l0 l1 l2 l3 l4 l5 l6 : Int} : pm_Run d 3 70 [.inr (.inr (.inl l0)), .inl l1, .inl l2, .inl l3, .inl l4, .inl l5, .inl l6] [] (G, M, T) K ↔ pm_Run d 3 16 [.inr (.inr (.inl l0)), .inl l1, .inl l2, .inl l3, .inl l4, .inl (l5 + 1), .inl l6] [] (G, M, T) K := by
  refine (px_go (by decide +kernel : pm_fe 3 70 = some (.iinc 5 1, 3)) rfl).trans ?_
  refine (px_goto (off := (-57)) (tgt := 16) (by decide +kernel)).trans ?_
  exact Iff.rfl
theorem b3_76 {d : Nat} {G : PG} {M T : PH} {K : PV → PS → Prop} {l0 l1 l2 l3 l4 l5 : Int} {l6 : PV} : pm_Run d 3 76 [.inr (.inr (.inl l0)), .inl l1, .inl l2, .inl l3, .inl l4, .inl l5, l6] [] (G, M, T) K ↔ if pm_sg l2 ≤ pm_sg l3 then pm_Run d 3 86 [.inr (.inr (.inl l0)), .inl l1, .inl l2, .inl l3, .inl l4, .inl l5, l6] [] (G, M, T) K else pm_Run d 3 81 [.inr (.inr (.inl l0)), .inl l1, .inl l2, .inl l3, .inl l4, .inl l5, l6] [] (G, M, T) K := by
  refine (px_go (by decide +kernel : pm_fe 3 76 = some (.iload_n 3, 1)) rfl).trans ?_
  refine (px_go (by decide +kernel : pm_fe 3 77 = some (.iload_n 2, 1)) rfl).trans ?_
  refine (px_ic_ge (off := 8) (tgt := 86) (by decide +kernel)).trans ?_
  exact Iff.rfl
theorem b3_81 {d : Nat} {G : PG} {M T : PH} {K : PV → PS → Prop} {l0 l1 l2 l3 l4 l5 : Int} {l6 : PV} (h1 : pm_ob G l0 0) : pm_Run d 3 81 [.inr (.inr (.inl l0)), .inl l1, .inl l2, .inl l3, .inl l4, .inl l5, l6] [] (G, M, T) K ↔ pm_Run d 3 86 [.inr (.inr (.inl l0)), .inl l1, .inl l2, .inl l3, .inl l4, .inl l5, l6] [] (G, pm_sa M l0.toNat (pm_up (M l0.toNat) 13 l3), T) K := by
  refine (px_go (by decide +kernel : pm_fe 3 81 = some (.aload_n 0, 1)) rfl).trans ?_
  refine (px_go (by decide +kernel : pm_fe 3 82 = some (.iload_n 3, 1)) rfl).trans ?_
  refine (px_put0 (idx := 41) (ci := 0) (k := 13) (by decide +kernel)).trans ((and_iff_right h1).trans ?_)
  exact Iff.rfl
theorem b3_86 {d : Nat} {G : PG} {M T : PH} {K : PV → PS → Prop} {l0 l1 l2 l3 l4 l5 : Int} {l6 : PV} : pm_Run d 3 86 [.inr (.inr (.inl l0)), .inl l1, .inl l2, .inl l3, .inl l4, .inl l5, l6] [] (G, M, T) K ↔ K PU (G, M, T) := by
  refine (px_rv (by decide +kernel)).trans ?_
  exact Iff.rfl
-- X0_findRest findRest()V
theorem en4 {d : Nat} {a : Int} {S : PS} {K : PV → PS → Prop} : pm_Call (d + 1) 4 [.inr (.inr (.inl a))] S K ↔ pm_Run d 4 0 [.inr (.inr (.inl a)), PU, PU, PU] [] S K := pm_Call_s.trans (and_iff_right (show 1 ≤ pm_ml 4 from by decide +kernel))
theorem b4_0 {d : Nat} {G : PG} {M T : PH} {K : PV → PS → Prop} {l0 : Int} (h1 : pm_ob G l0 0) : pm_Run d 4 0 [.inr (.inr (.inl l0)), PU, PU, PU] [] (G, M, T) K ↔ if pm_sg (M l0.toNat 16) ≤ 0 then pm_Run d 4 8 [.inr (.inr (.inl l0)), PU, PU, PU] [] (G, M, T) K else pm_Run d 4 7 [.inr (.inr (.inl l0)), PU, PU, PU] [] (G, M, T) K := by
  refine (px_go (by decide +kernel : pm_fe 4 0 = some (.aload_n 0, 1)) rfl).trans ?_
  refine (px_get0 (idx := 61) (ci := 0) (k := 16) (by decide +kernel)).trans ((and_iff_right h1).trans ?_)
  refine (px_if_le (off := 4) (tgt := 8) (by decide +kernel)).trans ?_
  exact Iff.rfl
theorem b4_7 {d : Nat} {G : PG} {M T : PH} {K : PV → PS → Prop} {l0 : Int} : pm_Run d 4 7 [.inr (.inr (.inl l0)), PU, PU, PU] [] (G, M, T) K ↔ K PU (G, M, T) := by
  refine (px_rv (by decide +kernel)).trans ?_
  exact Iff.rfl
theorem b4_8 {d : Nat} {G : PG} {M T : PH} {K : PV → PS → Prop} {l0 : Int} (h1 : pm_ob G l0 0) (h2 : pm_ob G (T l0.toNat 15) 5) : pm_Run d 4 8 [.inr (.inr (.inl l0)), PU, PU, PU] [] (G, M, T) K ↔ pm_Call d 56 [.inr (.inr (.inl (T l0.toNat 15))), .inr (.inr (.inl (T l0.toNat 7)))] (G, M, T) (fun r S1 => pm_Run d 4 19 [.inr (.inr (.inl l0)), PU, PU, PU] (pm_push r []) S1 K) := by
  refine (px_go (by decide +kernel : pm_fe 4 8 = some (.aload_n 0, 1)) rfl).trans ?_
  refine (px_get2 (idx := 50) (ci := 0) (k := 15) (by decide +kernel)).trans ((and_iff_right h1).trans ?_)
  refine (px_go (by decide +kernel : pm_fe 4 12 = some (.aload_n 0, 1)) rfl).trans ?_
  refine (px_get2 (idx := 58) (ci := 0) (k := 7) (by decide +kernel)).trans ((and_iff_right h1).trans ?_)
  refine (px_v1 (idx := 96) (m' := 56) (ci := 5) (by decide +kernel)).trans ((and_iff_right ⟨h2, (by simp [pm_wl_n, pm_wl_c, pm_w] : pm_wl [] ≤ 8)⟩).trans ?_)
  exact Iff.rfl
theorem b4_19 {d : Nat} {G : PG} {M T : PH} {K : PV → PS → Prop} {l0 : Int} (h1 : pm_ob G l0 0) : pm_Run d 4 19 [.inr (.inr (.inl l0)), PU, PU, PU] [] (G, M, T) K ↔ pm_Run d 4 27 [.inr (.inr (.inl l0)), .inl 1, PU, PU] [] (G, pm_sa M l0.toNat (pm_up (M l0.toNat) 16 13), T) K := by
  refine (px_go (by decide +kernel : pm_fe 4 19 = some (.aload_n 0, 1)) rfl).trans ?_
  refine (px_go (by decide +kernel : pm_fe 4 20 = some (.bipush 13, 2)) rfl).trans ?_
  refine (px_put0 (idx := 61) (ci := 0) (k := 16) (by decide +kernel)).trans ((and_iff_right h1).trans ?_)
  refine (px_go (by decide +kernel : pm_fe 4 25 = some (.iconst 1, 1)) rfl).trans ?_
  refine (px_go (by decide +kernel : pm_fe 4 26 = some (.istore_n 1, 1)) rfl).trans ?_
  exact Iff.rfl
theorem b4_27 {d : Nat} {G : PG} {M T : PH} {K : PV → PS → Prop} {l0 l1 : Int} {l2 l3 : PV} : pm_Run d 4 27 [.inr (.inr (.inl l0)), .inl l1, l2, l3] [] (G, M, T) K ↔ if pm_sg 12 < pm_sg l1 then pm_Run d 4 86 [.inr (.inr (.inl l0)), .inl l1, l2, l3] [] (G, M, T) K else pm_Run d 4 33 [.inr (.inr (.inl l0)), .inl l1, l2, l3] [] (G, M, T) K := by
  refine (px_go (by decide +kernel : pm_fe 4 27 = some (.iload_n 1, 1)) rfl).trans ?_
  refine (px_go (by decide +kernel : pm_fe 4 28 = some (.bipush 12, 2)) rfl).trans ?_
  refine (px_ic_gt (off := 56) (tgt := 86) (by decide +kernel)).trans ?_
  exact Iff.rfl
theorem b4_33 {d : Nat} {G : PG} {M T : PH} {K : PV → PS → Prop} {l0 l1 : Int} {l2 l3 : PV} (h1 : pm_ob G l0 0) : pm_Run d 4 33 [.inr (.inr (.inl l0)), .inl l1, l2, l3] [] (G, M, T) K ↔ if pm_sg (M l0.toNat 16) ≤ pm_sg 12 then pm_Run d 4 86 [.inr (.inr (.inl l0)), .inl l1, l2, l3] [] (G, M, T) K else pm_Run d 4 42 [.inr (.inr (.inl l0)), .inl l1, l2, l3] [] (G, M, T) K := by
  refine (px_go (by decide +kernel : pm_fe 4 33 = some (.aload_n 0, 1)) rfl).trans ?_
  refine (px_get0 (idx := 61) (ci := 0) (k := 16) (by decide +kernel)).trans ((and_iff_right h1).trans ?_)
  refine (px_go (by decide +kernel : pm_fe 4 37 = some (.bipush 12, 2)) rfl).trans ?_
  refine (px_ic_le (off := 47) (tgt := 86) (by decide +kernel)).trans ?_
  exact Iff.rfl
theorem b4_42 {d : Nat} {G : PG} {M T : PH} {K : PV → PS → Prop} {l0 l1 : Int} {l2 l3 : PV} : pm_Run d 4 42 [.inr (.inr (.inl l0)), .inl l1, l2, l3] [] (G, M, T) K ↔ pm_Run d 4 46 [.inr (.inr (.inl l0)), .inl l1, .inl 0, .inl 0] [] (G, M, T) K := by
  refine (px_go (by decide +kernel : pm_fe 4 42 = some (.iconst 0, 1)) rfl).trans ?_
  refine (px_go (by decide +kernel : pm_fe 4 43 = some (.istore_n 2, 1)) rfl).trans ?_
  refine (px_go (by decide +kernel : pm_fe 4 44 = some (.iconst 0, 1)) rfl).trans ?_
  refine (px_go (by decide +kernel : pm_fe 4 45 = some (.istore_n 3, 1)) rfl).trans ?_
  exact Iff.rfl
theorem b4_46 {d : Nat} {G : PG} {M T : PH} {K : PV → PS → Prop} {l0 l1 l2 l3 : Int} (h1 : pm_ob G l0 0) (h2 : pm_ob G (T l0.toNat 8) 1) : pm_Run d 4 46 [.inr (.inr (.inl l0)), .inl l1, .inl l2, .inl l3] [] (G, M, T) K ↔ if pm_sg (M (T l0.toNat 8).toNat 2) ≤ pm_sg l3 then pm_Run d 4 71 [.inr (.inr (.inl l0)), .inl l1, .inl l2, .inl l3] [] (G, M, T) K else pm_Run d 4 57 [.inr (.inr (.inl l0)), .inl l1, .inl l2, .inl l3] [] (G, M, T) K := by
  refine (px_go (by decide +kernel : pm_fe 4 46 = some (.iload_n 3, 1)) rfl).trans ?_
  refine (px_go (by decide +kernel : pm_fe 4 47 = some (.aload_n 0, 1)) rfl).trans ?_
  refine (px_get2 (idx := 54) (ci := 0) (k := 8) (by decide +kernel)).trans ((and_iff_right h1).trans ?_)
  refine (px_get0 (idx := 100) (ci := 1) (k := 2) (by decide +kernel)).trans ((and_iff_right h2).trans ?_)
  refine (px_ic_ge (off := 17) (tgt := 71) (by decide +kernel)).trans ?_
  exact Iff.rfl
theorem b4_57 {d : Nat} {G : PG} {M T : PH} {K : PV → PS → Prop} {l0 l1 l2 l3 : Int} (h1 : pm_ob G l0 0) : pm_Run d 4 57 [.inr (.inr (.inl l0)), .inl l1, .inl l2, .inl l3] [] (G, M, T) K ↔ pm_Call d 5 [.inr (.inr (.inl l0)), .inl l3] (G, M, T) (fun r S1 => pm_Run d 4 63 [.inr (.inr (.inl l0)), .inl l1, .inl l2, .inl l3] (pm_push r [.inl l2]) S1 K) := by
  refine (px_go (by decide +kernel : pm_fe 4 57 = some (.iload_n 2, 1)) rfl).trans ?_
  refine (px_go (by decide +kernel : pm_fe 4 58 = some (.aload_n 0, 1)) rfl).trans ?_
  refine (px_go (by decide +kernel : pm_fe 4 59 = some (.iload_n 3, 1)) rfl).trans ?_
  refine (px_v1 (idx := 105) (m' := 5) (ci := 0) (by decide +kernel)).trans ((and_iff_right ⟨h1, (by simp [pm_wl_n, pm_wl_c, pm_w] : pm_wl [.inl l2] ≤ 8)⟩).trans ?_)
  exact Iff.rfl
theorem b4_63 {d : Nat} {G : PG} {M T : PH} {K : PV → PS → Prop} {l0 l1 l2 l3 s0 s1 : Int} : pm_Run d 4 63 [.inr (.inr (.inl l0)), .inl l1, .inl l2, .inl l3] [.inl s0, .inl s1] (G, M, T) K ↔ pm_Run d 4 46 [.inr (.inr (.inl l0)), .inl l1, .inl (pm_or s1 s0), .inl (l3 + 1)] [] (G, M, T) K := by
  refine (px_go (by decide +kernel : pm_fe 4 63 = some (.ior, 1)) rfl).trans ?_
  refine (px_go (by decide +kernel : pm_fe 4 64 = some (.istore_n 2, 1)) rfl).trans ?_
  refine (px_go (by decide +kernel : pm_fe 4 65 = some (.iinc 3 1, 3)) rfl).trans ?_
  refine (px_goto (off := (-22)) (tgt := 46) (by decide +kernel)).trans ?_
  exact Iff.rfl
theorem b4_71 {d : Nat} {G : PG} {M T : PH} {K : PV → PS → Prop} {l0 l1 l2 l3 : Int} : pm_Run d 4 71 [.inr (.inr (.inl l0)), .inl l1, .inl l2, .inl l3] [] (G, M, T) K ↔ if pm_sg l2 ≠ 0 then pm_Run d 4 80 [.inr (.inr (.inl l0)), .inl l1, .inl l2, .inl l3] [] (G, M, T) K else pm_Run d 4 75 [.inr (.inr (.inl l0)), .inl l1, .inl l2, .inl l3] [] (G, M, T) K := by
  refine (px_go (by decide +kernel : pm_fe 4 71 = some (.iload_n 2, 1)) rfl).trans ?_
  refine (px_if_ne (off := 8) (tgt := 80) (by decide +kernel)).trans ?_
  exact Iff.rfl
theorem b4_75 {d : Nat} {G : PG} {M T : PH} {K : PV → PS → Prop} {l0 l1 l2 l3 : Int} (h1 : pm_ob G l0 0) : pm_Run d 4 75 [.inr (.inr (.inl l0)), .inl l1, .inl l2, .inl l3] [] (G, M, T) K ↔ pm_Run d 4 80 [.inr (.inr (.inl l0)), .inl l1, .inl l2, .inl l3] [] (G, pm_sa M l0.toNat (pm_up (M l0.toNat) 16 l1), T) K := by
  refine (px_go (by decide +kernel : pm_fe 4 75 = some (.aload_n 0, 1)) rfl).trans ?_
  refine (px_go (by decide +kernel : pm_fe 4 76 = some (.iload_n 1, 1)) rfl).trans ?_
  refine (px_put0 (idx := 61) (ci := 0) (k := 16) (by decide +kernel)).trans ((and_iff_right h1).trans ?_)
  exact Iff.rfl
theorem b4_80 {d : Nat} {G : PG} {M T : PH} {K : PV → PS → Prop} {l0 l1 l2 l3 : Int} : pm_Run d 4 80 [.inr (.inr (.inl l0)), .inl l1, .inl l2, .inl l3] [] (G, M, T) K ↔ pm_Run d 4 27 [.inr (.inr (.inl l0)), .inl (l1 + 1), .inl l2, .inl l3] [] (G, M, T) K := by
  refine (px_go (by decide +kernel : pm_fe 4 80 = some (.iinc 1 1, 3)) rfl).trans ?_
  refine (px_goto (off := (-56)) (tgt := 27) (by decide +kernel)).trans ?_
  exact Iff.rfl
theorem b4_86 {d : Nat} {G : PG} {M T : PH} {K : PV → PS → Prop} {l0 l1 : Int} {l2 l3 : PV} : pm_Run d 4 86 [.inr (.inr (.inl l0)), .inl l1, l2, l3] [] (G, M, T) K ↔ K PU (G, M, T) := by
  refine (px_rv (by decide +kernel)).trans ?_
  exact Iff.rfl
-- X0_takesOthers takesOthers(I)Z
theorem en5 {d : Nat} {a p0 : Int} {S : PS} {K : PV → PS → Prop} : pm_Call (d + 1) 5 [.inr (.inr (.inl a)), .inl p0] S K ↔ pm_Run d 5 0 [.inr (.inr (.inl a)), .inl p0, PU, PU, PU, PU, PU] [] S K := pm_Call_s.trans (and_iff_right (show 2 ≤ pm_ml 5 from by decide +kernel))
theorem b5_0 {d : Nat} {G : PG} {M T : PH} {K : PV → PS → Prop} {l0 l1 : Int} (h1 : pm_ob G l0 0) : pm_Run d 5 0 [.inr (.inr (.inl l0)), .inl l1, PU, PU, PU, PU, PU] [] (G, M, T) K ↔ pm_Call d 7 [.inr (.inr (.inl l0)), .inl l1, .inr (.inr (.inl (T l0.toNat 15)))] (G, M, T) (fun r S1 => pm_Run d 5 9 [.inr (.inr (.inl l0)), .inl l1, PU, PU, PU, PU, PU] (pm_push r []) S1 K) := by
  refine (px_go (by decide +kernel : pm_fe 5 0 = some (.aload_n 0, 1)) rfl).trans ?_
  refine (px_go (by decide +kernel : pm_fe 5 1 = some (.iload_n 1, 1)) rfl).trans ?_
  refine (px_go (by decide +kernel : pm_fe 5 2 = some (.aload_n 0, 1)) rfl).trans ?_
  refine (px_get2 (idx := 50) (ci := 0) (k := 15) (by decide +kernel)).trans ((and_iff_right h1).trans ?_)
  refine (px_v2 (idx := 67) (m' := 7) (ci := 0) (by decide +kernel)).trans ((and_iff_right ⟨h1, (by simp [pm_wl_n, pm_wl_c, pm_w] : pm_wl [] ≤ 8)⟩).trans ?_)
  exact Iff.rfl
theorem b5_9 {d : Nat} {G : PG} {M T : PH} {K : PV → PS → Prop} {l0 l1 : Int} (h1 : pm_ob G l0 0) : pm_Run d 5 9 [.inr (.inr (.inl l0)), .inl l1, PU, PU, PU, PU, PU] [] (G, M, T) K ↔ pm_Call d 8 [.inr (.inr (.inl l0)), .inl 4] (G, M, T) (fun r S1 => pm_Run d 5 20 [.inr (.inr (.inl l0)), .inl l1, .inl (-1000000000), .inl (-1000000000), PU, PU, PU] (pm_push r []) S1 K) := by
  refine (px_ldcI (idx := 109) (n := 2) (x := (-1000000000)) (by decide +kernel)).trans ?_
  refine (px_go (by decide +kernel : pm_fe 5 11 = some (.istore_n 2, 1)) rfl).trans ?_
  refine (px_ldcI (idx := 109) (n := 2) (x := (-1000000000)) (by decide +kernel)).trans ?_
  refine (px_go (by decide +kernel : pm_fe 5 14 = some (.istore_n 3, 1)) rfl).trans ?_
  refine (px_go (by decide +kernel : pm_fe 5 15 = some (.aload_n 0, 1)) rfl).trans ?_
  refine (px_go (by decide +kernel : pm_fe 5 16 = some (.iconst 4, 1)) rfl).trans ?_
  refine (px_v1 (idx := 75) (m' := 8) (ci := 0) (by decide +kernel)).trans ((and_iff_right ⟨h1, (by simp [pm_wl_n, pm_wl_c, pm_w] : pm_wl [] ≤ 8)⟩).trans ?_)
  exact Iff.rfl
theorem b5_20 {d : Nat} {G : PG} {M T : PH} {K : PV → PS → Prop} {l0 l1 l2 l3 s0 : Int} : pm_Run d 5 20 [.inr (.inr (.inl l0)), .inl l1, .inl l2, .inl l3, PU, PU, PU] [.inl s0] (G, M, T) K ↔ pm_Run d 5 25 [.inr (.inr (.inl l0)), .inl l1, .inl l2, .inl l3, .inl s0, .inl 0, PU] [] (G, M, T) K := by
  refine (px_go (by decide +kernel : pm_fe 5 20 = some (.istore 4, 2)) rfl).trans ?_
  refine (px_go (by decide +kernel : pm_fe 5 22 = some (.iconst 0, 1)) rfl).trans ?_
  refine (px_go (by decide +kernel : pm_fe 5 23 = some (.istore 5, 2)) rfl).trans ?_
  exact Iff.rfl
theorem b5_25 {d : Nat} {G : PG} {M T : PH} {K : PV → PS → Prop} {l0 l1 l2 l3 l4 l5 : Int} {l6 : PV} : pm_Run d 5 25 [.inr (.inr (.inl l0)), .inl l1, .inl l2, .inl l3, .inl l4, .inl l5, l6] [] (G, M, T) K ↔ if pm_sg l4 ≤ pm_sg l5 then pm_Run d 5 92 [.inr (.inr (.inl l0)), .inl l1, .inl l2, .inl l3, .inl l4, .inl l5, l6] [] (G, M, T) K else pm_Run d 5 32 [.inr (.inr (.inl l0)), .inl l1, .inl l2, .inl l3, .inl l4, .inl l5, l6] [] (G, M, T) K := by
  refine (px_go (by decide +kernel : pm_fe 5 25 = some (.iload 5, 2)) rfl).trans ?_
  refine (px_go (by decide +kernel : pm_fe 5 27 = some (.iload 4, 2)) rfl).trans ?_
  refine (px_ic_ge (off := 63) (tgt := 92) (by decide +kernel)).trans ?_
  exact Iff.rfl
theorem b5_32 {d : Nat} {G : PG} {M T : PH} {K : PV → PS → Prop} {l0 l1 l2 l3 l4 l5 : Int} {l6 : PV} (h1 : pm_ob G l0 0) : pm_Run d 5 32 [.inr (.inr (.inl l0)), .inl l1, .inl l2, .inl l3, .inl l4, .inl l5, l6] [] (G, M, T) K ↔ pm_Call d 11 [.inr (.inr (.inl l0)), .inr (.inr (.inl (T l0.toNat 15)))] (G, M, T) (fun r S1 => pm_Run d 5 40 [.inr (.inr (.inl l0)), .inl l1, .inl l2, .inl l3, .inl l4, .inl l5, l6] (pm_push r []) S1 K) := by
  refine (px_go (by decide +kernel : pm_fe 5 32 = some (.aload_n 0, 1)) rfl).trans ?_
  refine (px_go (by decide +kernel : pm_fe 5 33 = some (.aload_n 0, 1)) rfl).trans ?_
  refine (px_get2 (idx := 50) (ci := 0) (k := 15) (by decide +kernel)).trans ((and_iff_right h1).trans ?_)
  refine (px_v1 (idx := 83) (m' := 11) (ci := 0) (by decide +kernel)).trans ((and_iff_right ⟨h1, (by simp [pm_wl_n, pm_wl_c, pm_w] : pm_wl [] ≤ 8)⟩).trans ?_)
  exact Iff.rfl
theorem b5_40 {d : Nat} {G : PG} {M T : PH} {K : PV → PS → Prop} {l0 l1 l2 l3 l4 l5 s0 : Int} {l6 : PV} (h1 : pm_ob G l0 0) : pm_Run d 5 40 [.inr (.inr (.inl l0)), .inl l1, .inl l2, .inl l3, .inl l4, .inl l5, l6] [.inl s0] (G, M, T) K ↔ pm_Call d 10 [.inr (.inr (.inl l0))] (G, M, T) (fun r S1 => pm_Run d 5 44 [.inr (.inr (.inl l0)), .inl l1, .inl l2, .inl l3, .inl l4, .inl l5, l6] (pm_push r [.inl s0]) S1 K) := by
  refine (px_go (by decide +kernel : pm_fe 5 40 = some (.aload_n 0, 1)) rfl).trans ?_
  refine (px_v0 (idx := 79) (m' := 10) (ci := 0) (by decide +kernel)).trans ((and_iff_right ⟨h1, (by simp [pm_wl_n, pm_wl_c, pm_w] : pm_wl [.inl s0] ≤ 8)⟩).trans ?_)
  exact Iff.rfl
theorem b5_44 {d : Nat} {G : PG} {M T : PH} {K : PV → PS → Prop} {l0 l1 l2 l3 l4 l5 s0 s1 : Int} {l6 : PV} : pm_Run d 5 44 [.inr (.inr (.inl l0)), .inl l1, .inl l2, .inl l3, .inl l4, .inl l5, l6] [.inl s0, .inl s1] (G, M, T) K ↔ if pm_sg (s1 - s0) ≤ pm_sg l2 then pm_Run d 5 70 [.inr (.inr (.inl l0)), .inl l1, .inl l2, .inl l3, .inl l4, .inl l5, .inl (s1 - s0)] [] (G, M, T) K else pm_Run d 5 53 [.inr (.inr (.inl l0)), .inl l1, .inl l2, .inl l3, .inl l4, .inl l5, .inl (s1 - s0)] [] (G, M, T) K := by
  refine (px_go (by decide +kernel : pm_fe 5 44 = some (.isub, 1)) rfl).trans ?_
  refine (px_go (by decide +kernel : pm_fe 5 45 = some (.istore 6, 2)) rfl).trans ?_
  refine (px_go (by decide +kernel : pm_fe 5 47 = some (.iload 6, 2)) rfl).trans ?_
  refine (px_go (by decide +kernel : pm_fe 5 49 = some (.iload_n 2, 1)) rfl).trans ?_
  refine (px_ic_le (off := 20) (tgt := 70) (by decide +kernel)).trans ?_
  exact Iff.rfl
theorem b5_53 {d : Nat} {G : PG} {M T : PH} {K : PV → PS → Prop} {l0 l1 l2 l3 l4 l5 l6 : Int} (h1 : pm_ob G l0 0) (h2 : pm_ob G (T l0.toNat 5) 100) (h3 : pm_ob G (T l0.toNat 6) 100) (h4 : pm_sg 0 + pm_sg 3 ≤ (G.2.2.1 (T l0.toNat 5).toNat).2) (h5 : pm_sg 0 + pm_sg 3 ≤ (G.2.2.1 (T l0.toNat 6).toNat).2) (h6 : (T l0.toNat 5) ≠ (T l0.toNat 6)) : pm_Run d 5 53 [.inr (.inr (.inl l0)), .inl l1, .inl l2, .inl l3, .inl l4, .inl l5, .inl l6] [] (G, M, T) K ↔ pm_Run d 5 70 [.inr (.inr (.inl l0)), .inl l1, .inl l6, .inl l3, .inl l4, .inl l5, .inl l6] [] (G, pm_sa M (T l0.toNat 6).toNat (pm_cp (M (T l0.toNat 5).toNat) (M (T l0.toNat 6).toNat) (pm_sg 0).toNat (pm_sg 0).toNat (pm_sg 3).toNat), T) K := by
  refine (px_go (by decide +kernel : pm_fe 5 53 = some (.iload 6, 2)) rfl).trans ?_
  refine (px_go (by decide +kernel : pm_fe 5 55 = some (.istore_n 2, 1)) rfl).trans ?_
  refine (px_go (by decide +kernel : pm_fe 5 56 = some (.aload_n 0, 1)) rfl).trans ?_
  refine (px_get2 (idx := 31) (ci := 0) (k := 5) (by decide +kernel)).trans ((and_iff_right h1).trans ?_)
  refine (px_go (by decide +kernel : pm_fe 5 60 = some (.iconst 0, 1)) rfl).trans ?_
  refine (px_go (by decide +kernel : pm_fe 5 61 = some (.aload_n 0, 1)) rfl).trans ?_
  refine (px_get2 (idx := 34) (ci := 0) (k := 6) (by decide +kernel)).trans ((and_iff_right h1).trans ?_)
  refine (px_go (by decide +kernel : pm_fe 5 65 = some (.iconst 0, 1)) rfl).trans ?_
  refine (px_go (by decide +kernel : pm_fe 5 66 = some (.iconst 3, 1)) rfl).trans ?_
  refine (px_acpy (idx := 87) (by decide +kernel)).trans ((and_iff_right ⟨h2, h3, (by decide : (0 : Int) ≤ pm_sg (0 : Int)), (by decide : (0 : Int) ≤ pm_sg (0 : Int)), (by decide : (0 : Int) ≤ pm_sg (3 : Int)), h4, h5, h6, (by simp [pm_wl_n, pm_wl_c, pm_w] : pm_wl [] ≤ 8)⟩).trans ?_)
  exact Iff.rfl
theorem b5_70 {d : Nat} {G : PG} {M T : PH} {K : PV → PS → Prop} {l0 l1 l2 l3 l4 l5 l6 : Int} (h1 : pm_ob G l0 0) : pm_Run d 5 70 [.inr (.inr (.inl l0)), .inl l1, .inl l2, .inl l3, .inl l4, .inl l5, .inl l6] [] (G, M, T) K ↔ pm_Call d 6 [.inr (.inr (.inl l0)), .inl l1] (G, M, T) (fun r S1 => pm_Run d 5 75 [.inr (.inr (.inl l0)), .inl l1, .inl l2, .inl l3, .inl l4, .inl l5, .inl l6] (pm_push r []) S1 K) := by
  refine (px_go (by decide +kernel : pm_fe 5 70 = some (.aload_n 0, 1)) rfl).trans ?_
  refine (px_go (by decide +kernel : pm_fe 5 71 = some (.iload_n 1, 1)) rfl).trans ?_
  refine (px_v1 (idx := 110) (m' := 6) (ci := 0) (by decide +kernel)).trans ((and_iff_right ⟨h1, (by simp [pm_wl_n, pm_wl_c, pm_w] : pm_wl [] ≤ 8)⟩).trans ?_)
  exact Iff.rfl
theorem b5_75 {d : Nat} {G : PG} {M T : PH} {K : PV → PS → Prop} {l0 l1 l2 l3 l4 l5 l6 s0 : Int} : pm_Run d 5 75 [.inr (.inr (.inl l0)), .inl l1, .inl l2, .inl l3, .inl l4, .inl l5, .inl l6] [.inl s0] (G, M, T) K ↔ if pm_sg s0 = 0 then pm_Run d 5 81 [.inr (.inr (.inl l0)), .inl l1, .inl l2, .inl l3, .inl l4, .inl l5, .inl l6] [] (G, M, T) K else pm_Run d 5 78 [.inr (.inr (.inl l0)), .inl l1, .inl l2, .inl l3, .inl l4, .inl l5, .inl l6] [] (G, M, T) K := by
  refine (px_if_eq (off := 6) (tgt := 81) (by decide +kernel)).trans ?_
  exact Iff.rfl
theorem b5_78 {d : Nat} {G : PG} {M T : PH} {K : PV → PS → Prop} {l0 l1 l2 l3 l4 l5 l6 : Int} : pm_Run d 5 78 [.inr (.inr (.inl l0)), .inl l1, .inl l2, .inl l3, .inl l4, .inl l5, .inl l6] [] (G, M, T) K ↔ pm_Run d 5 81 [.inr (.inr (.inl l0)), .inl l1, .inl l2, .inl l6, .inl l4, .inl l5, .inl l6] [] (G, M, T) K := by
  refine (px_go (by decide +kernel : pm_fe 5 78 = some (.iload 6, 2)) rfl).trans ?_
  refine (px_go (by decide +kernel : pm_fe 5 80 = some (.istore_n 3, 1)) rfl).trans ?_
  exact Iff.rfl
theorem b5_81 {d : Nat} {G : PG} {M T : PH} {K : PV → PS → Prop} {l0 l1 l2 l3 l4 l5 l6 : Int} (h1 : pm_ob G l0 0) : pm_Run d 5 81 [.inr (.inr (.inl l0)), .inl l1, .inl l2, .inl l3, .inl l4, .inl l5, .inl l6] [] (G, M, T) K ↔ pm_Call d 9 [.inr (.inr (.inl l0)), .inl 4] (G, M, T) (fun r S1 => pm_Run d 5 86 [.inr (.inr (.inl l0)), .inl l1, .inl l2, .inl l3, .inl l4, .inl l5, .inl l6] (pm_push r []) S1 K) := by
  refine (px_go (by decide +kernel : pm_fe 5 81 = some (.aload_n 0, 1)) rfl).trans ?_
  refine (px_go (by decide +kernel : pm_fe 5 82 = some (.iconst 4, 1)) rfl).trans ?_
  refine (px_v1 (idx := 93) (m' := 9) (ci := 0) (by decide +kernel)).trans ((and_iff_right ⟨h1, (by simp [pm_wl_n, pm_wl_c, pm_w] : pm_wl [] ≤ 8)⟩).trans ?_)
  exact Iff.rfl
theorem b5_86 {d : Nat} {G : PG} {M T : PH} {K : PV → PS → Prop} {l0 l1 l2 l3 l4 l5 l6 : Int} : pm_Run d 5 86 [.inr (.inr (.inl l0)), .inl l1, .inl l2, .inl l3, .inl l4, .inl l5, .inl l6] [] (G, M, T) K ↔ pm_Run d 5 25 [.inr (.inr (.inl l0)), .inl l1, .inl l2, .inl l3, .inl l4, .inl (l5 + 1), .inl l6] [] (G, M, T) K := by
  refine (px_go (by decide +kernel : pm_fe 5 86 = some (.iinc 5 1, 3)) rfl).trans ?_
  refine (px_goto (off := (-64)) (tgt := 25) (by decide +kernel)).trans ?_
  exact Iff.rfl
theorem b5_92 {d : Nat} {G : PG} {M T : PH} {K : PV → PS → Prop} {l0 l1 l2 l3 l4 l5 : Int} {l6 : PV} : pm_Run d 5 92 [.inr (.inr (.inl l0)), .inl l1, .inl l2, .inl l3, .inl l4, .inl l5, l6] [] (G, M, T) K ↔ if pm_sg l3 ≠ pm_sg l2 then pm_Run d 5 99 [.inr (.inr (.inl l0)), .inl l1, .inl l2, .inl l3, .inl l4, .inl l5, l6] [] (G, M, T) K else pm_Run d 5 97 [.inr (.inr (.inl l0)), .inl l1, .inl l2, .inl l3, .inl l4, .inl l5, l6] [] (G, M, T) K := by
  refine (px_go (by decide +kernel : pm_fe 5 92 = some (.iload_n 3, 1)) rfl).trans ?_
  refine (px_go (by decide +kernel : pm_fe 5 93 = some (.iload_n 2, 1)) rfl).trans ?_
  refine (px_ic_ne (off := 5) (tgt := 99) (by decide +kernel)).trans ?_
  exact Iff.rfl
theorem b5_97 {d : Nat} {G : PG} {M T : PH} {K : PV → PS → Prop} {l0 l1 l2 l3 l4 l5 : Int} {l6 : PV} : pm_Run d 5 97 [.inr (.inr (.inl l0)), .inl l1, .inl l2, .inl l3, .inl l4, .inl l5, l6] [] (G, M, T) K ↔ K (.inl 0) (G, M, T) := by
  refine (px_go (by decide +kernel : pm_fe 5 97 = some (.iconst 0, 1)) rfl).trans ?_
  refine (px_rz (by decide +kernel)).trans ((and_iff_right (by decide : (0 : Int) = (0 : Int) ∨ (0 : Int) = (1 : Int))).trans ?_)
  exact Iff.rfl
theorem b5_99 {d : Nat} {G : PG} {M T : PH} {K : PV → PS → Prop} {l0 l1 l2 l3 l4 l5 : Int} {l6 : PV} (h1 : pm_ob G l0 0) (h2 : pm_ob G (T l0.toNat 15) 5) : pm_Run d 5 99 [.inr (.inr (.inl l0)), .inl l1, .inl l2, .inl l3, .inl l4, .inl l5, l6] [] (G, M, T) K ↔ pm_Call d 55 [.inl l1, .inl 0] (G, M, T) (fun r S1 => pm_Run d 5 116 [.inr (.inr (.inl l0)), .inl l1, .inl l2, .inl l3, .inl l4, .inl l5, l6] (pm_push r [.inr (.inr (.inl (T (T l0.toNat 15).toNat 4))), .inl 0, .inr (.inr (.inl (T l0.toNat 6)))]) S1 K) := by
  refine (px_go (by decide +kernel : pm_fe 5 99 = some (.aload_n 0, 1)) rfl).trans ?_
  refine (px_get2 (idx := 34) (ci := 0) (k := 6) (by decide +kernel)).trans ((and_iff_right h1).trans ?_)
  refine (px_go (by decide +kernel : pm_fe 5 103 = some (.iconst 0, 1)) rfl).trans ?_
  refine (px_go (by decide +kernel : pm_fe 5 104 = some (.aload_n 0, 1)) rfl).trans ?_
  refine (px_get2 (idx := 50) (ci := 0) (k := 15) (by decide +kernel)).trans ((and_iff_right h1).trans ?_)
  refine (px_get2 (idx := 113) (ci := 5) (k := 4) (by decide +kernel)).trans ((and_iff_right h2).trans ?_)
  refine (px_go (by decide +kernel : pm_fe 5 111 = some (.iload_n 1, 1)) rfl).trans ?_
  refine (px_go (by decide +kernel : pm_fe 5 112 = some (.iconst 0, 1)) rfl).trans ?_
  refine (px_s2 (idx := 116) (m' := 55) (nest := 0) (by decide +kernel)).trans ((and_iff_right (by simp [pm_wl_n, pm_wl_c, pm_w] : pm_wl [.inr (.inr (.inl (T (T l0.toNat 15).toNat 4))), .inl 0, .inr (.inr (.inl (T l0.toNat 6)))] ≤ 8)).trans ?_)
  exact Iff.rfl
theorem b5_116 {d : Nat} {G : PG} {M T : PH} {K : PV → PS → Prop} {l0 l1 l2 l3 l4 l5 s0 s1 s2 s3 : Int} {l6 : PV} (h1 : pm_ob G s3 100) (h2 : pm_ob G s1 100) (h3 : 0 ≤ pm_sg s2) (h4 : 0 ≤ pm_sg s0) (h5 : pm_sg s2 + pm_sg 3 ≤ (G.2.2.1 s3.toNat).2) (h6 : pm_sg s0 + pm_sg 3 ≤ (G.2.2.1 s1.toNat).2) (h7 : s3 ≠ s1) : pm_Run d 5 116 [.inr (.inr (.inl l0)), .inl l1, .inl l2, .inl l3, .inl l4, .inl l5, l6] [.inl s0, .inr (.inr (.inl s1)), .inl s2, .inr (.inr (.inl s3))] (G, M, T) K ↔ K (.inl 1) (G, pm_sa M s1.toNat (pm_cp (M s3.toNat) (M s1.toNat) (pm_sg s2).toNat (pm_sg s0).toNat (pm_sg 3).toNat), T) := by
  refine (px_go (by decide +kernel : pm_fe 5 116 = some (.iconst 3, 1)) rfl).trans ?_
  refine (px_acpy (idx := 87) (by decide +kernel)).trans ((and_iff_right ⟨h1, h2, h3, h4, (by decide : (0 : Int) ≤ pm_sg (3 : Int)), h5, h6, h7, (by simp [pm_wl_n, pm_wl_c, pm_w] : pm_wl [] ≤ 8)⟩).trans ?_)
  refine (px_go (by decide +kernel : pm_fe 5 120 = some (.iconst 1, 1)) rfl).trans ?_
  refine (px_rz (by decide +kernel)).trans ((and_iff_right (by decide : (1 : Int) = (0 : Int) ∨ (1 : Int) = (1 : Int))).trans ?_)
  exact Iff.rfl
-- X0_isOwn isOwn(I)Z
theorem en6 {d : Nat} {a p0 : Int} {S : PS} {K : PV → PS → Prop} : pm_Call (d + 1) 6 [.inr (.inr (.inl a)), .inl p0] S K ↔ pm_Run d 6 0 [.inr (.inr (.inl a)), .inl p0, PU, PU] [] S K := pm_Call_s.trans (and_iff_right (show 2 ≤ pm_ml 6 from by decide +kernel))
theorem b6_0 {d : Nat} {G : PG} {M T : PH} {K : PV → PS → Prop} {l0 l1 : Int} : pm_Run d 6 0 [.inr (.inr (.inl l0)), .inl l1, PU, PU] [] (G, M, T) K ↔ pm_Run d 6 4 [.inr (.inr (.inl l0)), .inl l1, .inl 1, .inl 0] [] (G, M, T) K := by
  refine (px_go (by decide +kernel : pm_fe 6 0 = some (.iconst 1, 1)) rfl).trans ?_
  refine (px_go (by decide +kernel : pm_fe 6 1 = some (.istore_n 2, 1)) rfl).trans ?_
  refine (px_go (by decide +kernel : pm_fe 6 2 = some (.iconst 0, 1)) rfl).trans ?_
  refine (px_go (by decide +kernel : pm_fe 6 3 = some (.istore_n 3, 1)) rfl).trans ?_
  exact Iff.rfl
theorem b6_4 {d : Nat} {G : PG} {M T : PH} {K : PV → PS → Prop} {l0 l1 l2 l3 : Int} (h1 : pm_ob G l0 0) (h2 : pm_ob G (T l0.toNat 8) 1) : pm_Run d 6 4 [.inr (.inr (.inl l0)), .inl l1, .inl l2, .inl l3] [] (G, M, T) K ↔ if pm_sg (M (T l0.toNat 8).toNat 1) ≤ pm_sg l3 then pm_Run d 6 51 [.inr (.inr (.inl l0)), .inl l1, .inl l2, .inl l3] [] (G, M, T) K else pm_Run d 6 15 [.inr (.inr (.inl l0)), .inl l1, .inl l2, .inl l3] [] (G, M, T) K := by
  refine (px_go (by decide +kernel : pm_fe 6 4 = some (.iload_n 3, 1)) rfl).trans ?_
  refine (px_go (by decide +kernel : pm_fe 6 5 = some (.aload_n 0, 1)) rfl).trans ?_
  refine (px_get2 (idx := 54) (ci := 0) (k := 8) (by decide +kernel)).trans ((and_iff_right h1).trans ?_)
  refine (px_get0 (idx := 120) (ci := 1) (k := 1) (by decide +kernel)).trans ((and_iff_right h2).trans ?_)
  refine (px_ic_ge (off := 39) (tgt := 51) (by decide +kernel)).trans ?_
  exact Iff.rfl
theorem b6_15 {d : Nat} {G : PG} {M T : PH} {K : PV → PS → Prop} {l0 l1 l2 l3 : Int} (h1 : pm_ob G l0 0) (h2 : pm_ar G (T l0.toNat 5) 100 l3) (h3 : pm_ob G (T l0.toNat 15) 5) : pm_Run d 6 15 [.inr (.inr (.inl l0)), .inl l1, .inl l2, .inl l3] [] (G, M, T) K ↔ pm_Call d 55 [.inl l1, .inl l3] (G, M, T) (fun r S1 => pm_Run d 6 34 [.inr (.inr (.inl l0)), .inl l1, .inl l2, .inl l3] (pm_push r [.inr (.inr (.inl (T (T l0.toNat 15).toNat 4))), .inl (M (T l0.toNat 5).toNat (pm_sg l3).toNat), .inl l2]) S1 K) := by
  refine (px_go (by decide +kernel : pm_fe 6 15 = some (.iload_n 2, 1)) rfl).trans ?_
  refine (px_go (by decide +kernel : pm_fe 6 16 = some (.aload_n 0, 1)) rfl).trans ?_
  refine (px_get2 (idx := 31) (ci := 0) (k := 5) (by decide +kernel)).trans ((and_iff_right h1).trans ?_)
  refine (px_go (by decide +kernel : pm_fe 6 20 = some (.iload_n 3, 1)) rfl).trans ?_
  refine (px_iaload (by decide +kernel) h2).trans ?_
  refine (px_go (by decide +kernel : pm_fe 6 22 = some (.aload_n 0, 1)) rfl).trans ?_
  refine (px_get2 (idx := 50) (ci := 0) (k := 15) (by decide +kernel)).trans ((and_iff_right h1).trans ?_)
  refine (px_get2 (idx := 113) (ci := 5) (k := 4) (by decide +kernel)).trans ((and_iff_right h3).trans ?_)
  refine (px_go (by decide +kernel : pm_fe 6 29 = some (.iload_n 1, 1)) rfl).trans ?_
  refine (px_go (by decide +kernel : pm_fe 6 30 = some (.iload_n 3, 1)) rfl).trans ?_
  refine (px_s2 (idx := 116) (m' := 55) (nest := 0) (by decide +kernel)).trans ((and_iff_right (by simp [pm_wl_n, pm_wl_c, pm_w] : pm_wl [.inr (.inr (.inl (T (T l0.toNat 15).toNat 4))), .inl (M (T l0.toNat 5).toNat (pm_sg l3).toNat), .inl l2] ≤ 8)).trans ?_)
  exact Iff.rfl
theorem b6_34 {d : Nat} {G : PG} {M T : PH} {K : PV → PS → Prop} {l0 l1 l2 l3 s0 s1 s2 s3 : Int} (h1 : pm_ar G s1 100 s0) : pm_Run d 6 34 [.inr (.inr (.inl l0)), .inl l1, .inl l2, .inl l3] [.inl s0, .inr (.inr (.inl s1)), .inl s2, .inl s3] (G, M, T) K ↔ if pm_sg s2 ≠ pm_sg (M s1.toNat (pm_sg s0).toNat) then pm_Run d 6 42 [.inr (.inr (.inl l0)), .inl l1, .inl l2, .inl l3] [.inl s3] (G, M, T) K else pm_Run d 6 38 [.inr (.inr (.inl l0)), .inl l1, .inl l2, .inl l3] [.inl s3] (G, M, T) K := by
  refine (px_iaload (by decide +kernel) h1).trans ?_
  refine (px_ic_ne (off := 7) (tgt := 42) (by decide +kernel)).trans ?_
  exact Iff.rfl
theorem b6_38 {d : Nat} {G : PG} {M T : PH} {K : PV → PS → Prop} {l0 l1 l2 l3 s0 : Int} : pm_Run d 6 38 [.inr (.inr (.inl l0)), .inl l1, .inl l2, .inl l3] [.inl s0] (G, M, T) K ↔ pm_Run d 6 43 [.inr (.inr (.inl l0)), .inl l1, .inl l2, .inl l3] [.inl 1, .inl s0] (G, M, T) K := by
  refine (px_go (by decide +kernel : pm_fe 6 38 = some (.iconst 1, 1)) rfl).trans ?_
  refine (px_goto (off := 4) (tgt := 43) (by decide +kernel)).trans ?_
  exact Iff.rfl
theorem b6_42 {d : Nat} {G : PG} {M T : PH} {K : PV → PS → Prop} {l0 l1 l2 l3 s0 : Int} : pm_Run d 6 42 [.inr (.inr (.inl l0)), .inl l1, .inl l2, .inl l3] [.inl s0] (G, M, T) K ↔ pm_Run d 6 43 [.inr (.inr (.inl l0)), .inl l1, .inl l2, .inl l3] [.inl 0, .inl s0] (G, M, T) K := by
  refine (px_go (by decide +kernel : pm_fe 6 42 = some (.iconst 0, 1)) rfl).trans ?_
  exact Iff.rfl
theorem b6_43 {d : Nat} {G : PG} {M T : PH} {K : PV → PS → Prop} {l0 l1 l2 l3 s0 s1 : Int} : pm_Run d 6 43 [.inr (.inr (.inl l0)), .inl l1, .inl l2, .inl l3] [.inl s0, .inl s1] (G, M, T) K ↔ pm_Run d 6 4 [.inr (.inr (.inl l0)), .inl l1, .inl (pm_and s1 s0), .inl (l3 + 1)] [] (G, M, T) K := by
  refine (px_go (by decide +kernel : pm_fe 6 43 = some (.iand, 1)) rfl).trans ?_
  refine (px_go (by decide +kernel : pm_fe 6 44 = some (.istore_n 2, 1)) rfl).trans ?_
  refine (px_go (by decide +kernel : pm_fe 6 45 = some (.iinc 3 1, 3)) rfl).trans ?_
  refine (px_goto (off := (-44)) (tgt := 4) (by decide +kernel)).trans ?_
  exact Iff.rfl
theorem b6_51 {d : Nat} {G : PG} {M T : PH} {K : PV → PS → Prop} {l0 l1 l2 l3 : Int} (h1 : l2 = 0 ∨ l2 = 1) : pm_Run d 6 51 [.inr (.inr (.inl l0)), .inl l1, .inl l2, .inl l3] [] (G, M, T) K ↔ K (.inl l2) (G, M, T) := by
  refine (px_go (by decide +kernel : pm_fe 6 51 = some (.iload_n 2, 1)) rfl).trans ?_
  refine (px_rz (by decide +kernel)).trans ((and_iff_right h1).trans ?_)
  exact Iff.rfl
-- X0_takeUp takeUp(ILMoonTender$Moment;)V
theorem en7 {d : Nat} {a p0 p1 : Int} {S : PS} {K : PV → PS → Prop} : pm_Call (d + 1) 7 [.inr (.inr (.inl a)), .inl p0, .inr (.inr (.inl p1))] S K ↔ pm_Run d 7 0 [.inr (.inr (.inl a)), .inl p0, .inr (.inr (.inl p1)), PU] [] S K := pm_Call_s.trans (and_iff_right (show 3 ≤ pm_ml 7 from by decide +kernel))
theorem b7_0 {d : Nat} {G : PG} {M T : PH} {K : PV → PS → Prop} {l0 l1 l2 : Int} (h1 : pm_ob G l0 0) : pm_Run d 7 0 [.inr (.inr (.inl l0)), .inl l1, .inr (.inr (.inl l2)), PU] [] (G, M, T) K ↔ pm_Call d 307 [.inr (.inr (.inl (T l0.toNat 5))), .inl 0] (G, pm_sa (pm_sa M l0.toNat (pm_up (M l0.toNat) 9 l1)) l0.toNat (pm_up ((pm_sa M l0.toNat (pm_up (M l0.toNat) 9 l1)) l0.toNat) 10 (((pm_sa M l0.toNat (pm_up (M l0.toNat) 9 l1)) l0.toNat 10) + 1)), T) (fun r S1 => pm_Run d 7 23 [.inr (.inr (.inl l0)), .inl l1, .inr (.inr (.inl l2)), PU] (pm_push r []) S1 K) := by
  refine (px_go (by decide +kernel : pm_fe 7 0 = some (.aload_n 0, 1)) rfl).trans ?_
  refine (px_go (by decide +kernel : pm_fe 7 1 = some (.iload_n 1, 1)) rfl).trans ?_
  refine (px_put0 (idx := 123) (ci := 0) (k := 9) (by decide +kernel)).trans ((and_iff_right h1).trans ?_)
  refine (px_go (by decide +kernel : pm_fe 7 5 = some (.aload_n 0, 1)) rfl).trans ?_
  refine (px_go (by decide +kernel : pm_fe 7 6 = some (.dup, 1)) rfl).trans ?_
  refine (px_get0 (idx := 126) (ci := 0) (k := 10) (by decide +kernel)).trans ((and_iff_right h1).trans ?_)
  refine (px_go (by decide +kernel : pm_fe 7 10 = some (.iconst 1, 1)) rfl).trans ?_
  refine (px_go (by decide +kernel : pm_fe 7 11 = some (.iadd, 1)) rfl).trans ?_
  refine (px_put0 (idx := 126) (ci := 0) (k := 10) (by decide +kernel)).trans ((and_iff_right h1).trans ?_)
  refine (px_go (by decide +kernel : pm_fe 7 15 = some (.aload_n 0, 1)) rfl).trans ?_
  refine (px_get2 (idx := 31) (ci := 0) (k := 5) (by decide +kernel)).trans ((and_iff_right h1).trans ?_)
  refine (px_go (by decide +kernel : pm_fe 7 19 = some (.iconst 0, 1)) rfl).trans ?_
  refine (px_s2 (idx := 129) (m' := 307) (nest := 0) (by decide +kernel)).trans ((and_iff_right (by simp [pm_wl_n, pm_wl_c, pm_w] : pm_wl [] ≤ 8)).trans ?_)
  exact Iff.rfl
theorem b7_23 {d : Nat} {G : PG} {M T : PH} {K : PV → PS → Prop} {l0 l1 l2 : Int} : pm_Run d 7 23 [.inr (.inr (.inl l0)), .inl l1, .inr (.inr (.inl l2)), PU] [] (G, M, T) K ↔ pm_Run d 7 25 [.inr (.inr (.inl l0)), .inl l1, .inr (.inr (.inl l2)), .inl 0] [] (G, M, T) K := by
  refine (px_go (by decide +kernel : pm_fe 7 23 = some (.iconst 0, 1)) rfl).trans ?_
  refine (px_go (by decide +kernel : pm_fe 7 24 = some (.istore_n 3, 1)) rfl).trans ?_
  exact Iff.rfl
theorem b7_25 {d : Nat} {G : PG} {M T : PH} {K : PV → PS → Prop} {l0 l1 l2 l3 : Int} : pm_Run d 7 25 [.inr (.inr (.inl l0)), .inl l1, .inr (.inr (.inl l2)), .inl l3] [] (G, M, T) K ↔ if pm_sg 3 ≤ pm_sg l3 then pm_Run d 7 58 [.inr (.inr (.inl l0)), .inl l1, .inr (.inr (.inl l2)), .inl l3] [] (G, M, T) K else pm_Run d 7 30 [.inr (.inr (.inl l0)), .inl l1, .inr (.inr (.inl l2)), .inl l3] [] (G, M, T) K := by
  refine (px_go (by decide +kernel : pm_fe 7 25 = some (.iload_n 3, 1)) rfl).trans ?_
  refine (px_go (by decide +kernel : pm_fe 7 26 = some (.iconst 3, 1)) rfl).trans ?_
  refine (px_ic_ge (off := 31) (tgt := 58) (by decide +kernel)).trans ?_
  exact Iff.rfl
theorem b7_30 {d : Nat} {G : PG} {M T : PH} {K : PV → PS → Prop} {l0 l1 l2 l3 : Int} (h1 : pm_ob G l0 0) (h2 : pm_ob G l2 5) : pm_Run d 7 30 [.inr (.inr (.inl l0)), .inl l1, .inr (.inr (.inl l2)), .inl l3] [] (G, M, T) K ↔ pm_Call d 58 [.inr (.inr (.inl l2)), .inl l3] (G, M, T) (fun r S1 => pm_Run d 7 40 [.inr (.inr (.inl l0)), .inl l1, .inr (.inr (.inl l2)), .inl l3] (pm_push r [.inl l3, .inr (.inr (.inl (T l0.toNat 4)))]) S1 K) := by
  refine (px_go (by decide +kernel : pm_fe 7 30 = some (.aload_n 0, 1)) rfl).trans ?_
  refine (px_get2 (idx := 28) (ci := 0) (k := 4) (by decide +kernel)).trans ((and_iff_right h1).trans ?_)
  refine (px_go (by decide +kernel : pm_fe 7 34 = some (.iload_n 3, 1)) rfl).trans ?_
  refine (px_go (by decide +kernel : pm_fe 7 35 = some (.aload_n 2, 1)) rfl).trans ?_
  refine (px_go (by decide +kernel : pm_fe 7 36 = some (.iload_n 3, 1)) rfl).trans ?_
  refine (px_v1 (idx := 135) (m' := 58) (ci := 5) (by decide +kernel)).trans ((and_iff_right ⟨h2, (by simp [pm_wl_n, pm_wl_c, pm_w] : pm_wl [.inl l3, .inr (.inr (.inl (T l0.toNat 4)))] ≤ 8)⟩).trans ?_)
  exact Iff.rfl
theorem b7_40 {d : Nat} {G : PG} {M T : PH} {K : PV → PS → Prop} {l0 l1 l2 l3 s0 s1 s2 : Int} (h1 : pm_ob G l2 5) : pm_Run d 7 40 [.inr (.inr (.inl l0)), .inl l1, .inr (.inr (.inl l2)), .inl l3] [.inl s0, .inl s1, .inr (.inr (.inl s2))] (G, M, T) K ↔ pm_Call d 55 [.inl l1, .inl l3] (G, M, T) (fun r S1 => pm_Run d 7 49 [.inr (.inr (.inl l0)), .inl l1, .inr (.inr (.inl l2)), .inl l3] (pm_push r [.inr (.inr (.inl (T l2.toNat 4))), .inl s0, .inl s1, .inr (.inr (.inl s2))]) S1 K) := by
  refine (px_go (by decide +kernel : pm_fe 7 40 = some (.aload_n 2, 1)) rfl).trans ?_
  refine (px_get2 (idx := 113) (ci := 5) (k := 4) (by decide +kernel)).trans ((and_iff_right h1).trans ?_)
  refine (px_go (by decide +kernel : pm_fe 7 44 = some (.iload_n 1, 1)) rfl).trans ?_
  refine (px_go (by decide +kernel : pm_fe 7 45 = some (.iload_n 3, 1)) rfl).trans ?_
  refine (px_s2 (idx := 116) (m' := 55) (nest := 0) (by decide +kernel)).trans ((and_iff_right (by simp [pm_wl_n, pm_wl_c, pm_w] : pm_wl [.inr (.inr (.inl (T l2.toNat 4))), .inl s0, .inl s1, .inr (.inr (.inl s2))] ≤ 8)).trans ?_)
  exact Iff.rfl
theorem b7_49 {d : Nat} {G : PG} {M T : PH} {K : PV → PS → Prop} {l0 l1 l2 l3 s0 s1 s2 s3 s4 : Int} (h1 : pm_ar G s1 100 s0) (h2 : pm_ar G s4 100 s3) : pm_Run d 7 49 [.inr (.inr (.inl l0)), .inl l1, .inr (.inr (.inl l2)), .inl l3] [.inl s0, .inr (.inr (.inl s1)), .inl s2, .inl s3, .inr (.inr (.inl s4))] (G, M, T) K ↔ pm_Run d 7 25 [.inr (.inr (.inl l0)), .inl l1, .inr (.inr (.inl l2)), .inl (l3 + 1)] [] (G, pm_sa M s4.toNat (pm_up (M s4.toNat) (pm_sg s3).toNat (s2 - (M s1.toNat (pm_sg s0).toNat))), T) K := by
  refine (px_iaload (by decide +kernel) h1).trans ?_
  refine (px_go (by decide +kernel : pm_fe 7 50 = some (.isub, 1)) rfl).trans ?_
  refine (px_iastore (by decide +kernel)).trans ((and_iff_right h2).trans ?_)
  refine (px_go (by decide +kernel : pm_fe 7 52 = some (.iinc 3 1, 3)) rfl).trans ?_
  refine (px_goto (off := (-30)) (tgt := 25) (by decide +kernel)).trans ?_
  exact Iff.rfl
theorem b7_58 {d : Nat} {G : PG} {M T : PH} {K : PV → PS → Prop} {l0 l1 l2 l3 : Int} : pm_Run d 7 58 [.inr (.inr (.inl l0)), .inl l1, .inr (.inr (.inl l2)), .inl l3] [] (G, M, T) K ↔ K PU (G, M, T) := by
  refine (px_rv (by decide +kernel)).trans ?_
  exact Iff.rfl
-- X0_triesUpTo triesUpTo(I)I
theorem en8 {d : Nat} {a p0 : Int} {S : PS} {K : PV → PS → Prop} : pm_Call (d + 1) 8 [.inr (.inr (.inl a)), .inl p0] S K ↔ pm_Run d 8 0 [.inr (.inr (.inl a)), .inl p0, PU, PU] [] S K := pm_Call_s.trans (and_iff_right (show 2 ≤ pm_ml 8 from by decide +kernel))
theorem b8_0 {d : Nat} {G : PG} {M T : PH} {K : PV → PS → Prop} {l0 l1 : Int} : pm_Run d 8 0 [.inr (.inr (.inl l0)), .inl l1, PU, PU] [] (G, M, T) K ↔ pm_Run d 8 4 [.inr (.inr (.inl l0)), .inl l1, .inl 1, .inl 0] [] (G, M, T) K := by
  refine (px_go (by decide +kernel : pm_fe 8 0 = some (.iconst 1, 1)) rfl).trans ?_
  refine (px_go (by decide +kernel : pm_fe 8 1 = some (.istore_n 2, 1)) rfl).trans ?_
  refine (px_go (by decide +kernel : pm_fe 8 2 = some (.iconst 0, 1)) rfl).trans ?_
  refine (px_go (by decide +kernel : pm_fe 8 3 = some (.istore_n 3, 1)) rfl).trans ?_
  exact Iff.rfl
theorem b8_4 {d : Nat} {G : PG} {M T : PH} {K : PV → PS → Prop} {l0 l1 l2 l3 : Int} (h1 : pm_ob G l0 0) (h2 : pm_ob G (T l0.toNat 8) 1) : pm_Run d 8 4 [.inr (.inr (.inl l0)), .inl l1, .inl l2, .inl l3] [] (G, M, T) K ↔ if pm_sg (M (T l0.toNat 8).toNat 1) ≤ pm_sg l3 then pm_Run d 8 27 [.inr (.inr (.inl l0)), .inl l1, .inl l2, .inl l3] [] (G, M, T) K else pm_Run d 8 15 [.inr (.inr (.inl l0)), .inl l1, .inl l2, .inl l3] [] (G, M, T) K := by
  refine (px_go (by decide +kernel : pm_fe 8 4 = some (.iload_n 3, 1)) rfl).trans ?_
  refine (px_go (by decide +kernel : pm_fe 8 5 = some (.aload_n 0, 1)) rfl).trans ?_
  refine (px_get2 (idx := 54) (ci := 0) (k := 8) (by decide +kernel)).trans ((and_iff_right h1).trans ?_)
  refine (px_get0 (idx := 120) (ci := 1) (k := 1) (by decide +kernel)).trans ((and_iff_right h2).trans ?_)
  refine (px_ic_ge (off := 15) (tgt := 27) (by decide +kernel)).trans ?_
  exact Iff.rfl
theorem b8_15 {d : Nat} {G : PG} {M T : PH} {K : PV → PS → Prop} {l0 l1 l2 l3 : Int} : pm_Run d 8 15 [.inr (.inr (.inl l0)), .inl l1, .inl l2, .inl l3] [] (G, M, T) K ↔ pm_Run d 8 4 [.inr (.inr (.inl l0)), .inl l1, .inl (l2 * (l1 + 1)), .inl (l3 + 1)] [] (G, M, T) K := by
  refine (px_go (by decide +kernel : pm_fe 8 15 = some (.iload_n 2, 1)) rfl).trans ?_
  refine (px_go (by decide +kernel : pm_fe 8 16 = some (.iload_n 1, 1)) rfl).trans ?_
  refine (px_go (by decide +kernel : pm_fe 8 17 = some (.iconst 1, 1)) rfl).trans ?_
  refine (px_go (by decide +kernel : pm_fe 8 18 = some (.iadd, 1)) rfl).trans ?_
  refine (px_go (by decide +kernel : pm_fe 8 19 = some (.imul, 1)) rfl).trans ?_
  refine (px_go (by decide +kernel : pm_fe 8 20 = some (.istore_n 2, 1)) rfl).trans ?_
  refine (px_go (by decide +kernel : pm_fe 8 21 = some (.iinc 3 1, 3)) rfl).trans ?_
  refine (px_goto (off := (-20)) (tgt := 4) (by decide +kernel)).trans ?_
  exact Iff.rfl
theorem b8_27 {d : Nat} {G : PG} {M T : PH} {K : PV → PS → Prop} {l0 l1 l2 l3 : Int} : pm_Run d 8 27 [.inr (.inr (.inl l0)), .inl l1, .inl l2, .inl l3] [] (G, M, T) K ↔ K (.inl l2) (G, M, T) := by
  refine (px_go (by decide +kernel : pm_fe 8 27 = some (.iload_n 2, 1)) rfl).trans ?_
  refine (px_ri (by decide +kernel)).trans ?_
  exact Iff.rfl
-- X0_nextTrial nextTrial(I)V
theorem en9 {d : Nat} {a p0 : Int} {S : PS} {K : PV → PS → Prop} : pm_Call (d + 1) 9 [.inr (.inr (.inl a)), .inl p0] S K ↔ pm_Run d 9 0 [.inr (.inr (.inl a)), .inl p0, PU] [] S K := pm_Call_s.trans (and_iff_right (show 2 ≤ pm_ml 9 from by decide +kernel))
theorem b9_0 {d : Nat} {G : PG} {M T : PH} {K : PV → PS → Prop} {l0 l1 : Int} (h1 : pm_ob G l0 0) (h2 : pm_ob G (T l0.toNat 8) 1) : pm_Run d 9 0 [.inr (.inr (.inl l0)), .inl l1, PU] [] (G, M, T) K ↔ pm_Run d 9 10 [.inr (.inr (.inl l0)), .inl l1, .inl ((M (T l0.toNat 8).toNat 1) - 1)] [] (G, M, T) K := by
  refine (px_go (by decide +kernel : pm_fe 9 0 = some (.aload_n 0, 1)) rfl).trans ?_
  refine (px_get2 (idx := 54) (ci := 0) (k := 8) (by decide +kernel)).trans ((and_iff_right h1).trans ?_)
  refine (px_get0 (idx := 120) (ci := 1) (k := 1) (by decide +kernel)).trans ((and_iff_right h2).trans ?_)
  refine (px_go (by decide +kernel : pm_fe 9 7 = some (.iconst 1, 1)) rfl).trans ?_
  refine (px_go (by decide +kernel : pm_fe 9 8 = some (.isub, 1)) rfl).trans ?_
  refine (px_go (by decide +kernel : pm_fe 9 9 = some (.istore_n 2, 1)) rfl).trans ?_
  exact Iff.rfl
theorem b9_10 {d : Nat} {G : PG} {M T : PH} {K : PV → PS → Prop} {l0 l1 l2 : Int} : pm_Run d 9 10 [.inr (.inr (.inl l0)), .inl l1, .inl l2] [] (G, M, T) K ↔ if pm_sg l2 < 0 then pm_Run d 9 48 [.inr (.inr (.inl l0)), .inl l1, .inl l2] [] (G, M, T) K else pm_Run d 9 14 [.inr (.inr (.inl l0)), .inl l1, .inl l2] [] (G, M, T) K := by
  refine (px_go (by decide +kernel : pm_fe 9 10 = some (.iload_n 2, 1)) rfl).trans ?_
  refine (px_if_lt (off := 37) (tgt := 48) (by decide +kernel)).trans ?_
  exact Iff.rfl
theorem b9_14 {d : Nat} {G : PG} {M T : PH} {K : PV → PS → Prop} {l0 l1 l2 : Int} (h1 : pm_ob G l0 0) (h2 : pm_ar G (T l0.toNat 5) 100 l2) : pm_Run d 9 14 [.inr (.inr (.inl l0)), .inl l1, .inl l2] [] (G, M, T) K ↔ if pm_sg l1 ≤ pm_sg (M (T l0.toNat 5).toNat (pm_sg l2).toNat) then pm_Run d 9 35 [.inr (.inr (.inl l0)), .inl l1, .inl l2] [] (G, M, T) K else pm_Run d 9 24 [.inr (.inr (.inl l0)), .inl l1, .inl l2] [] (G, M, T) K := by
  refine (px_go (by decide +kernel : pm_fe 9 14 = some (.aload_n 0, 1)) rfl).trans ?_
  refine (px_get2 (idx := 31) (ci := 0) (k := 5) (by decide +kernel)).trans ((and_iff_right h1).trans ?_)
  refine (px_go (by decide +kernel : pm_fe 9 18 = some (.iload_n 2, 1)) rfl).trans ?_
  refine (px_iaload (by decide +kernel) h2).trans ?_
  refine (px_go (by decide +kernel : pm_fe 9 20 = some (.iload_n 1, 1)) rfl).trans ?_
  refine (px_ic_ge (off := 14) (tgt := 35) (by decide +kernel)).trans ?_
  exact Iff.rfl
theorem b9_24 {d : Nat} {G : PG} {M T : PH} {K : PV → PS → Prop} {l0 l1 l2 : Int} (h1 : pm_ob G l0 0) (h2 : pm_ar G (T l0.toNat 5) 100 l2) : pm_Run d 9 24 [.inr (.inr (.inl l0)), .inl l1, .inl l2] [] (G, M, T) K ↔ K PU (G, pm_sa M (T l0.toNat 5).toNat (pm_up (M (T l0.toNat 5).toNat) (pm_sg l2).toNat ((M (T l0.toNat 5).toNat (pm_sg l2).toNat) + 1)), T) := by
  refine (px_go (by decide +kernel : pm_fe 9 24 = some (.aload_n 0, 1)) rfl).trans ?_
  refine (px_get2 (idx := 31) (ci := 0) (k := 5) (by decide +kernel)).trans ((and_iff_right h1).trans ?_)
  refine (px_go (by decide +kernel : pm_fe 9 28 = some (.iload_n 2, 1)) rfl).trans ?_
  refine (px_go (by decide +kernel : pm_fe 9 29 = some (.dup2, 1)) rfl).trans ?_
  refine (px_iaload (by decide +kernel) h2).trans ?_
  refine (px_go (by decide +kernel : pm_fe 9 31 = some (.iconst 1, 1)) rfl).trans ?_
  refine (px_go (by decide +kernel : pm_fe 9 32 = some (.iadd, 1)) rfl).trans ?_
  refine (px_iastore (by decide +kernel)).trans ((and_iff_right h2).trans ?_)
  refine (px_rv (by decide +kernel)).trans ?_
  exact Iff.rfl
theorem b9_35 {d : Nat} {G : PG} {M T : PH} {K : PV → PS → Prop} {l0 l1 l2 : Int} (h1 : pm_ob G l0 0) (h2 : pm_ar G (T l0.toNat 5) 100 l2) : pm_Run d 9 35 [.inr (.inr (.inl l0)), .inl l1, .inl l2] [] (G, M, T) K ↔ pm_Run d 9 10 [.inr (.inr (.inl l0)), .inl l1, .inl (l2 + (-1))] [] (G, pm_sa M (T l0.toNat 5).toNat (pm_up (M (T l0.toNat 5).toNat) (pm_sg l2).toNat 0), T) K := by
  refine (px_go (by decide +kernel : pm_fe 9 35 = some (.aload_n 0, 1)) rfl).trans ?_
  refine (px_get2 (idx := 31) (ci := 0) (k := 5) (by decide +kernel)).trans ((and_iff_right h1).trans ?_)
  refine (px_go (by decide +kernel : pm_fe 9 39 = some (.iload_n 2, 1)) rfl).trans ?_
  refine (px_go (by decide +kernel : pm_fe 9 40 = some (.iconst 0, 1)) rfl).trans ?_
  refine (px_iastore (by decide +kernel)).trans ((and_iff_right h2).trans ?_)
  refine (px_go (by decide +kernel : pm_fe 9 42 = some (.iinc 2 (-1), 3)) rfl).trans ?_
  refine (px_goto (off := (-35)) (tgt := 10) (by decide +kernel)).trans ?_
  exact Iff.rfl
theorem b9_48 {d : Nat} {G : PG} {M T : PH} {K : PV → PS → Prop} {l0 l1 l2 : Int} : pm_Run d 9 48 [.inr (.inr (.inl l0)), .inl l1, .inl l2] [] (G, M, T) K ↔ K PU (G, M, T) := by
  refine (px_rv (by decide +kernel)).trans ?_
  exact Iff.rfl
-- X0_trialSum trialSum()I
theorem en10 {d : Nat} {a : Int} {S : PS} {K : PV → PS → Prop} : pm_Call (d + 1) 10 [.inr (.inr (.inl a))] S K ↔ pm_Run d 10 0 [.inr (.inr (.inl a))] [] S K := pm_Call_s.trans (and_iff_right (show 1 ≤ pm_ml 10 from by decide +kernel))
theorem b10_0 {d : Nat} {G : PG} {M T : PH} {K : PV → PS → Prop} {l0 : Int} (h1 : pm_ob G l0 0) (h2 : pm_ar G (T l0.toNat 5) 100 0) (h3 : pm_ar G (T l0.toNat 5) 100 1) (h4 : pm_ar G (T l0.toNat 5) 100 2) : pm_Run d 10 0 [.inr (.inr (.inl l0))] [] (G, M, T) K ↔ K (.inl (((M (T l0.toNat 5).toNat (pm_sg 0).toNat) + (M (T l0.toNat 5).toNat (pm_sg 1).toNat)) + (M (T l0.toNat 5).toNat (pm_sg 2).toNat))) (G, M, T) := by
  refine (px_go (by decide +kernel : pm_fe 10 0 = some (.aload_n 0, 1)) rfl).trans ?_
  refine (px_get2 (idx := 31) (ci := 0) (k := 5) (by decide +kernel)).trans ((and_iff_right h1).trans ?_)
  refine (px_go (by decide +kernel : pm_fe 10 4 = some (.iconst 0, 1)) rfl).trans ?_
  refine (px_iaload (by decide +kernel) h2).trans ?_
  refine (px_go (by decide +kernel : pm_fe 10 6 = some (.aload_n 0, 1)) rfl).trans ?_
  refine (px_get2 (idx := 31) (ci := 0) (k := 5) (by decide +kernel)).trans ((and_iff_right h1).trans ?_)
  refine (px_go (by decide +kernel : pm_fe 10 10 = some (.iconst 1, 1)) rfl).trans ?_
  refine (px_iaload (by decide +kernel) h3).trans ?_
  refine (px_go (by decide +kernel : pm_fe 10 12 = some (.iadd, 1)) rfl).trans ?_
  refine (px_go (by decide +kernel : pm_fe 10 13 = some (.aload_n 0, 1)) rfl).trans ?_
  refine (px_get2 (idx := 31) (ci := 0) (k := 5) (by decide +kernel)).trans ((and_iff_right h1).trans ?_)
  refine (px_go (by decide +kernel : pm_fe 10 17 = some (.iconst 2, 1)) rfl).trans ?_
  refine (px_iaload (by decide +kernel) h4).trans ?_
  refine (px_go (by decide +kernel : pm_fe 10 19 = some (.iadd, 1)) rfl).trans ?_
  refine (px_ri (by decide +kernel)).trans ?_
  exact Iff.rfl
-- X0_trialHeight trialHeight(LMoonTender$Moment;)I
theorem en11 {d : Nat} {a p0 : Int} {S : PS} {K : PV → PS → Prop} : pm_Call (d + 1) 11 [.inr (.inr (.inl a)), .inr (.inr (.inl p0))] S K ↔ pm_Run d 11 0 [.inr (.inr (.inl a)), .inr (.inr (.inl p0)), PU, PU, PU, PU, PU, PU, PU, PU, PU] [] S K := pm_Call_s.trans (and_iff_right (show 2 ≤ pm_ml 11 from by decide +kernel))
theorem b11_0 {d : Nat} {G : PG} {M T : PH} {K : PV → PS → Prop} {l0 l1 : Int} (h1 : pm_ob G l0 0) : pm_Run d 11 0 [.inr (.inr (.inl l0)), .inr (.inr (.inl l1)), PU, PU, PU, PU, PU, PU, PU, PU, PU] [] (G, M, T) K ↔ pm_Call d 10 [.inr (.inr (.inl l0))] (G, M, T) (fun r S1 => pm_Run d 11 4 [.inr (.inr (.inl l0)), .inr (.inr (.inl l1)), PU, PU, PU, PU, PU, PU, PU, PU, PU] (pm_push r []) S1 K) := by
  refine (px_go (by decide +kernel : pm_fe 11 0 = some (.aload_n 0, 1)) rfl).trans ?_
  refine (px_v0 (idx := 79) (m' := 10) (ci := 0) (by decide +kernel)).trans ((and_iff_right ⟨h1, (by simp [pm_wl_n, pm_wl_c, pm_w] : pm_wl [] ≤ 8)⟩).trans ?_)
  exact Iff.rfl
theorem b11_4 {d : Nat} {G : PG} {M T : PH} {K : PV → PS → Prop} {l0 l1 s0 : Int} (h1 : pm_ob G l0 0) (h2 : pm_ob G (T l0.toNat 8) 1) (h3 : pm_ar G (T (T l0.toNat 8).toNat 11) 100 (M l0.toNat 9)) (h4 : pm_ob G (T (T l0.toNat 8).toNat 17) 3) : pm_Run d 11 4 [.inr (.inr (.inl l0)), .inr (.inr (.inl l1)), PU, PU, PU, PU, PU, PU, PU, PU, PU] [.inl s0] (G, M, T) K ↔ pm_Call d 45 [.inr (.inr (.inl (T (T l0.toNat 8).toNat 17))), .inl 0, .inl 20] (G, M, T) (fun r S1 => pm_Run d 11 37 [.inr (.inr (.inl l0)), .inr (.inr (.inl l1)), .inl s0, .inl (M (T (T l0.toNat 8).toNat 11).toNat (pm_sg (M l0.toNat 9)).toNat), .inl 0, .inl 0, PU, PU, PU, PU, PU] (pm_push r []) S1 K) := by
  refine (px_go (by decide +kernel : pm_fe 11 4 = some (.istore_n 2, 1)) rfl).trans ?_
  refine (px_go (by decide +kernel : pm_fe 11 5 = some (.aload_n 0, 1)) rfl).trans ?_
  refine (px_get2 (idx := 54) (ci := 0) (k := 8) (by decide +kernel)).trans ((and_iff_right h1).trans ?_)
  refine (px_get2 (idx := 138) (ci := 1) (k := 11) (by decide +kernel)).trans ((and_iff_right h2).trans ?_)
  refine (px_go (by decide +kernel : pm_fe 11 12 = some (.aload_n 0, 1)) rfl).trans ?_
  refine (px_get0 (idx := 123) (ci := 0) (k := 9) (by decide +kernel)).trans ((and_iff_right h1).trans ?_)
  refine (px_iaload (by decide +kernel) h3).trans ?_
  refine (px_go (by decide +kernel : pm_fe 11 17 = some (.istore_n 3, 1)) rfl).trans ?_
  refine (px_go (by decide +kernel : pm_fe 11 18 = some (.iconst 0, 1)) rfl).trans ?_
  refine (px_go (by decide +kernel : pm_fe 11 19 = some (.istore 4, 2)) rfl).trans ?_
  refine (px_go (by decide +kernel : pm_fe 11 21 = some (.iconst 0, 1)) rfl).trans ?_
  refine (px_go (by decide +kernel : pm_fe 11 22 = some (.istore 5, 2)) rfl).trans ?_
  refine (px_go (by decide +kernel : pm_fe 11 24 = some (.aload_n 0, 1)) rfl).trans ?_
  refine (px_get2 (idx := 54) (ci := 0) (k := 8) (by decide +kernel)).trans ((and_iff_right h1).trans ?_)
  refine (px_get2 (idx := 141) (ci := 1) (k := 17) (by decide +kernel)).trans ((and_iff_right h2).trans ?_)
  refine (px_go (by decide +kernel : pm_fe 11 31 = some (.iconst 0, 1)) rfl).trans ?_
  refine (px_go (by decide +kernel : pm_fe 11 32 = some (.bipush 20, 2)) rfl).trans ?_
  refine (px_v2 (idx := 147) (m' := 45) (ci := 3) (by decide +kernel)).trans ((and_iff_right ⟨h4, (by simp [pm_wl_n, pm_wl_c, pm_w] : pm_wl [] ≤ 8)⟩).trans ?_)
  exact Iff.rfl
theorem b11_37 {d : Nat} {G : PG} {M T : PH} {K : PV → PS → Prop} {l0 l1 l2 l3 l4 l5 s0 : Int} : pm_Run d 11 37 [.inr (.inr (.inl l0)), .inr (.inr (.inl l1)), .inl l2, .inl l3, .inl l4, .inl l5, PU, PU, PU, PU, PU] [.inl s0] (G, M, T) K ↔ pm_Run d 11 42 [.inr (.inr (.inl l0)), .inr (.inr (.inl l1)), .inl l2, .inl l3, .inl l4, .inl l5, .inl s0, .inl 0, PU, PU, PU] [] (G, M, T) K := by
  refine (px_go (by decide +kernel : pm_fe 11 37 = some (.istore 6, 2)) rfl).trans ?_
  refine (px_go (by decide +kernel : pm_fe 11 39 = some (.iconst 0, 1)) rfl).trans ?_
  refine (px_go (by decide +kernel : pm_fe 11 40 = some (.istore 7, 2)) rfl).trans ?_
  exact Iff.rfl
theorem b11_42 {d : Nat} {G : PG} {M T : PH} {K : PV → PS → Prop} {l0 l1 l2 l3 l4 l5 l6 l7 : Int} {l8 l9 l10 : PV} (h1 : pm_ob G l0 0) (h2 : pm_ob G (T l0.toNat 8) 1) : pm_Run d 11 42 [.inr (.inr (.inl l0)), .inr (.inr (.inl l1)), .inl l2, .inl l3, .inl l4, .inl l5, .inl l6, .inl l7, l8, l9, l10] [] (G, M, T) K ↔ if pm_sg (M (T l0.toNat 8).toNat 1) ≤ pm_sg l7 then pm_Run d 11 256 [.inr (.inr (.inl l0)), .inr (.inr (.inl l1)), .inl l2, .inl l3, .inl l4, .inl l5, .inl l6, .inl l7, l8, l9, l10] [] (G, M, T) K else pm_Run d 11 54 [.inr (.inr (.inl l0)), .inr (.inr (.inl l1)), .inl l2, .inl l3, .inl l4, .inl l5, .inl l6, .inl l7, l8, l9, l10] [] (G, M, T) K := by
  refine (px_go (by decide +kernel : pm_fe 11 42 = some (.iload 7, 2)) rfl).trans ?_
  refine (px_go (by decide +kernel : pm_fe 11 44 = some (.aload_n 0, 1)) rfl).trans ?_
  refine (px_get2 (idx := 54) (ci := 0) (k := 8) (by decide +kernel)).trans ((and_iff_right h1).trans ?_)
  refine (px_get0 (idx := 120) (ci := 1) (k := 1) (by decide +kernel)).trans ((and_iff_right h2).trans ?_)
  refine (px_ic_ge (off := 205) (tgt := 256) (by decide +kernel)).trans ?_
  exact Iff.rfl
theorem b11_54 {d : Nat} {G : PG} {M T : PH} {K : PV → PS → Prop} {l0 l1 l2 l3 l4 l5 l6 l7 : Int} {l8 l9 l10 : PV} : pm_Run d 11 54 [.inr (.inr (.inl l0)), .inr (.inr (.inl l1)), .inl l2, .inl l3, .inl l4, .inl l5, .inl l6, .inl l7, l8, l9, l10] [] (G, M, T) K ↔ if pm_sg l6 = 0 then pm_Run d 11 71 [.inr (.inr (.inl l0)), .inr (.inr (.inl l1)), .inl l2, .inl l3, .inl l4, .inl l5, .inl l6, .inl l7, l8, l9, l10] [] (G, M, T) K else pm_Run d 11 59 [.inr (.inr (.inl l0)), .inr (.inr (.inl l1)), .inl l2, .inl l3, .inl l4, .inl l5, .inl l6, .inl l7, l8, l9, l10] [] (G, M, T) K := by
  refine (px_go (by decide +kernel : pm_fe 11 54 = some (.iload 6, 2)) rfl).trans ?_
  refine (px_if_eq (off := 15) (tgt := 71) (by decide +kernel)).trans ?_
  exact Iff.rfl
theorem b11_59 {d : Nat} {G : PG} {M T : PH} {K : PV → PS → Prop} {l0 l1 l2 l3 l4 l5 l6 l7 : Int} {l8 l9 l10 : PV} (h1 : pm_ob G l0 0) (h2 : pm_ar G (T l0.toNat 5) 100 l7) : pm_Run d 11 59 [.inr (.inr (.inl l0)), .inr (.inr (.inl l1)), .inl l2, .inl l3, .inl l4, .inl l5, .inl l6, .inl l7, l8, l9, l10] [] (G, M, T) K ↔ pm_Run d 11 72 [.inr (.inr (.inl l0)), .inr (.inr (.inl l1)), .inl l2, .inl l3, .inl l4, .inl l5, .inl l6, .inl l7, l8, l9, l10] [.inl (l2 - (M (T l0.toNat 5).toNat (pm_sg l7).toNat))] (G, M, T) K := by
  refine (px_go (by decide +kernel : pm_fe 11 59 = some (.iload_n 2, 1)) rfl).trans ?_
  refine (px_go (by decide +kernel : pm_fe 11 60 = some (.aload_n 0, 1)) rfl).trans ?_
  refine (px_get2 (idx := 31) (ci := 0) (k := 5) (by decide +kernel)).trans ((and_iff_right h1).trans ?_)
  refine (px_go (by decide +kernel : pm_fe 11 64 = some (.iload 7, 2)) rfl).trans ?_
  refine (px_iaload (by decide +kernel) h2).trans ?_
  refine (px_go (by decide +kernel : pm_fe 11 67 = some (.isub, 1)) rfl).trans ?_
  refine (px_goto (off := 4) (tgt := 72) (by decide +kernel)).trans ?_
  exact Iff.rfl
theorem b11_71 {d : Nat} {G : PG} {M T : PH} {K : PV → PS → Prop} {l0 l1 l2 l3 l4 l5 l6 l7 : Int} {l8 l9 l10 : PV} : pm_Run d 11 71 [.inr (.inr (.inl l0)), .inr (.inr (.inl l1)), .inl l2, .inl l3, .inl l4, .inl l5, .inl l6, .inl l7, l8, l9, l10] [] (G, M, T) K ↔ pm_Run d 11 72 [.inr (.inr (.inl l0)), .inr (.inr (.inl l1)), .inl l2, .inl l3, .inl l4, .inl l5, .inl l6, .inl l7, l8, l9, l10] [.inl 0] (G, M, T) K := by
  refine (px_go (by decide +kernel : pm_fe 11 71 = some (.iconst 0, 1)) rfl).trans ?_
  exact Iff.rfl
theorem b11_72 {d : Nat} {G : PG} {M T : PH} {K : PV → PS → Prop} {l0 l1 l2 l3 l4 l5 l6 l7 s0 : Int} {l8 l9 l10 : PV} (h1 : pm_ob G l0 0) (h2 : pm_ar G (T l0.toNat 5) 100 l7) (h3 : pm_ar G (T l0.toNat 3) 100 ((((l7 * 11) + (M (T l0.toNat 5).toNat (pm_sg l7).toNat)) * 21) + s0)) : pm_Run d 11 72 [.inr (.inr (.inl l0)), .inr (.inr (.inl l1)), .inl l2, .inl l3, .inl l4, .inl l5, .inl l6, .inl l7, l8, l9, l10] [.inl s0] (G, M, T) K ↔ if pm_sg (M (T l0.toNat 3).toNat (pm_sg ((((l7 * 11) + (M (T l0.toNat 5).toNat (pm_sg l7).toNat)) * 21) + s0)).toNat) = pm_sg (M l0.toNat 10) then pm_Run d 11 226 [.inr (.inr (.inl l0)), .inr (.inr (.inl l1)), .inl l2, .inl l3, .inl l4, .inl l5, .inl l6, .inl l7, .inl s0, .inl ((((l7 * 11) + (M (T l0.toNat 5).toNat (pm_sg l7).toNat)) * 21) + s0), l10] [] (G, M, T) K else pm_Run d 11 109 [.inr (.inr (.inl l0)), .inr (.inr (.inl l1)), .inl l2, .inl l3, .inl l4, .inl l5, .inl l6, .inl l7, .inl s0, .inl ((((l7 * 11) + (M (T l0.toNat 5).toNat (pm_sg l7).toNat)) * 21) + s0), l10] [] (G, M, T) K := by
  refine (px_go (by decide +kernel : pm_fe 11 72 = some (.istore 8, 2)) rfl).trans ?_
  refine (px_go (by decide +kernel : pm_fe 11 74 = some (.iload 7, 2)) rfl).trans ?_
  refine (px_go (by decide +kernel : pm_fe 11 76 = some (.bipush 11, 2)) rfl).trans ?_
  refine (px_go (by decide +kernel : pm_fe 11 78 = some (.imul, 1)) rfl).trans ?_
  refine (px_go (by decide +kernel : pm_fe 11 79 = some (.aload_n 0, 1)) rfl).trans ?_
  refine (px_get2 (idx := 31) (ci := 0) (k := 5) (by decide +kernel)).trans ((and_iff_right h1).trans ?_)
  refine (px_go (by decide +kernel : pm_fe 11 83 = some (.iload 7, 2)) rfl).trans ?_
  refine (px_iaload (by decide +kernel) h2).trans ?_
  refine (px_go (by decide +kernel : pm_fe 11 86 = some (.iadd, 1)) rfl).trans ?_
  refine (px_go (by decide +kernel : pm_fe 11 87 = some (.bipush 21, 2)) rfl).trans ?_
  refine (px_go (by decide +kernel : pm_fe 11 89 = some (.imul, 1)) rfl).trans ?_
  refine (px_go (by decide +kernel : pm_fe 11 90 = some (.iload 8, 2)) rfl).trans ?_
  refine (px_go (by decide +kernel : pm_fe 11 92 = some (.iadd, 1)) rfl).trans ?_
  refine (px_go (by decide +kernel : pm_fe 11 93 = some (.istore 9, 2)) rfl).trans ?_
  refine (px_go (by decide +kernel : pm_fe 11 95 = some (.aload_n 0, 1)) rfl).trans ?_
  refine (px_get2 (idx := 25) (ci := 0) (k := 3) (by decide +kernel)).trans ((and_iff_right h1).trans ?_)
  refine (px_go (by decide +kernel : pm_fe 11 99 = some (.iload 9, 2)) rfl).trans ?_
  refine (px_iaload (by decide +kernel) h3).trans ?_
  refine (px_go (by decide +kernel : pm_fe 11 102 = some (.aload_n 0, 1)) rfl).trans ?_
  refine (px_get0 (idx := 126) (ci := 0) (k := 10) (by decide +kernel)).trans ((and_iff_right h1).trans ?_)
  refine (px_ic_eq (off := 120) (tgt := 226) (by decide +kernel)).trans ?_
  exact Iff.rfl
theorem b11_109 {d : Nat} {G : PG} {M T : PH} {K : PV → PS → Prop} {l0 l1 l2 l3 l4 l5 l6 l7 l8 l9 : Int} {l10 : PV} (h1 : pm_ob G l0 0) (h2 : pm_ar G (T l0.toNat 4) 100 0) (h3 : pm_ar G (T l0.toNat 4) 100 1) (h4 : pm_ar G (T l0.toNat 4) 100 2) (h5 : pm_ar G (T l0.toNat 4) 100 l7) (h6 : pm_ar G (T l0.toNat 5) 100 l7) (h7 : pm_ob G (T l0.toNat 0) 9) : pm_Run d 11 109 [.inr (.inr (.inl l0)), .inr (.inr (.inl l1)), .inl l2, .inl l3, .inl l4, .inl l5, .inl l6, .inl l7, .inl l8, .inl l9, l10] [] (G, M, T) K ↔ pm_Call d 114 [.inr (.inr (.inl (T l0.toNat 0))), .inr (.inr (.inl (T l0.toNat 8))), .inr (.inr (.inl l1)), .inl l7, .inl ((M (T l0.toNat 4).toNat (pm_sg l7).toNat) + (M (T l0.toNat 5).toNat (pm_sg l7).toNat)), .inl (((((M (T l0.toNat 4).toNat (pm_sg 0).toNat) + (M (T l0.toNat 4).toNat (pm_sg 1).toNat)) + (M (T l0.toNat 4).toNat (pm_sg 2).toNat)) - (M (T l0.toNat 4).toNat (pm_sg l7).toNat)) + l8)] (G, M, T) (fun r S1 => pm_Run d 11 173 [.inr (.inr (.inl l0)), .inr (.inr (.inl l1)), .inl l2, .inl l3, .inl l4, .inl l5, .inl l6, .inl l7, .inl l8, .inl l9, .inl (((((M (T l0.toNat 4).toNat (pm_sg 0).toNat) + (M (T l0.toNat 4).toNat (pm_sg 1).toNat)) + (M (T l0.toNat 4).toNat (pm_sg 2).toNat)) - (M (T l0.toNat 4).toNat (pm_sg l7).toNat)) + l8)] (pm_push r []) S1 K) := by
  refine (px_go (by decide +kernel : pm_fe 11 109 = some (.aload_n 0, 1)) rfl).trans ?_
  refine (px_get2 (idx := 28) (ci := 0) (k := 4) (by decide +kernel)).trans ((and_iff_right h1).trans ?_)
  refine (px_go (by decide +kernel : pm_fe 11 113 = some (.iconst 0, 1)) rfl).trans ?_
  refine (px_iaload (by decide +kernel) h2).trans ?_
  refine (px_go (by decide +kernel : pm_fe 11 115 = some (.aload_n 0, 1)) rfl).trans ?_
  refine (px_get2 (idx := 28) (ci := 0) (k := 4) (by decide +kernel)).trans ((and_iff_right h1).trans ?_)
  refine (px_go (by decide +kernel : pm_fe 11 119 = some (.iconst 1, 1)) rfl).trans ?_
  refine (px_iaload (by decide +kernel) h3).trans ?_
  refine (px_go (by decide +kernel : pm_fe 11 121 = some (.iadd, 1)) rfl).trans ?_
  refine (px_go (by decide +kernel : pm_fe 11 122 = some (.aload_n 0, 1)) rfl).trans ?_
  refine (px_get2 (idx := 28) (ci := 0) (k := 4) (by decide +kernel)).trans ((and_iff_right h1).trans ?_)
  refine (px_go (by decide +kernel : pm_fe 11 126 = some (.iconst 2, 1)) rfl).trans ?_
  refine (px_iaload (by decide +kernel) h4).trans ?_
  refine (px_go (by decide +kernel : pm_fe 11 128 = some (.iadd, 1)) rfl).trans ?_
  refine (px_go (by decide +kernel : pm_fe 11 129 = some (.aload_n 0, 1)) rfl).trans ?_
  refine (px_get2 (idx := 28) (ci := 0) (k := 4) (by decide +kernel)).trans ((and_iff_right h1).trans ?_)
  refine (px_go (by decide +kernel : pm_fe 11 133 = some (.iload 7, 2)) rfl).trans ?_
  refine (px_iaload (by decide +kernel) h5).trans ?_
  refine (px_go (by decide +kernel : pm_fe 11 136 = some (.isub, 1)) rfl).trans ?_
  refine (px_go (by decide +kernel : pm_fe 11 137 = some (.iload 8, 2)) rfl).trans ?_
  refine (px_go (by decide +kernel : pm_fe 11 139 = some (.iadd, 1)) rfl).trans ?_
  refine (px_go (by decide +kernel : pm_fe 11 140 = some (.istore 10, 2)) rfl).trans ?_
  refine (px_go (by decide +kernel : pm_fe 11 142 = some (.aload_n 0, 1)) rfl).trans ?_
  refine (px_get2 (idx := 14) (ci := 0) (k := 0) (by decide +kernel)).trans ((and_iff_right h1).trans ?_)
  refine (px_go (by decide +kernel : pm_fe 11 146 = some (.aload_n 0, 1)) rfl).trans ?_
  refine (px_get2 (idx := 54) (ci := 0) (k := 8) (by decide +kernel)).trans ((and_iff_right h1).trans ?_)
  refine (px_go (by decide +kernel : pm_fe 11 150 = some (.aload_n 1, 1)) rfl).trans ?_
  refine (px_go (by decide +kernel : pm_fe 11 151 = some (.iload 7, 2)) rfl).trans ?_
  refine (px_go (by decide +kernel : pm_fe 11 153 = some (.aload_n 0, 1)) rfl).trans ?_
  refine (px_get2 (idx := 28) (ci := 0) (k := 4) (by decide +kernel)).trans ((and_iff_right h1).trans ?_)
  refine (px_go (by decide +kernel : pm_fe 11 157 = some (.iload 7, 2)) rfl).trans ?_
  refine (px_iaload (by decide +kernel) h5).trans ?_
  refine (px_go (by decide +kernel : pm_fe 11 160 = some (.aload_n 0, 1)) rfl).trans ?_
  refine (px_get2 (idx := 31) (ci := 0) (k := 5) (by decide +kernel)).trans ((and_iff_right h1).trans ?_)
  refine (px_go (by decide +kernel : pm_fe 11 164 = some (.iload 7, 2)) rfl).trans ?_
  refine (px_iaload (by decide +kernel) h6).trans ?_
  refine (px_go (by decide +kernel : pm_fe 11 167 = some (.iadd, 1)) rfl).trans ?_
  refine (px_go (by decide +kernel : pm_fe 11 168 = some (.iload 10, 2)) rfl).trans ?_
  refine (px_v5 (idx := 151) (m' := 114) (ci := 9) (by decide +kernel)).trans ((and_iff_right ⟨h7, (by simp [pm_wl_n, pm_wl_c, pm_w] : pm_wl [] ≤ 8)⟩).trans ?_)
  exact Iff.rfl
theorem b11_173 {d : Nat} {G : PG} {M T : PH} {K : PV → PS → Prop} {l0 l1 l2 l3 l4 l5 l6 l7 l8 l9 l10 : Int} (h1 : pm_ob G l0 0) (h2 : pm_ob G (T l0.toNat 0) 9) (h3 : pm_ar G (T (T l0.toNat 0).toNat 0) 100 ((l7 * 24) + l3)) (h4 : pm_ar G (T l0.toNat 1) 100 l9) : pm_Run d 11 173 [.inr (.inr (.inl l0)), .inr (.inr (.inl l1)), .inl l2, .inl l3, .inl l4, .inl l5, .inl l6, .inl l7, .inl l8, .inl l9, .inl l10] [] (G, M, T) K ↔ pm_Call d 115 [.inr (.inr (.inl (T l0.toNat 0))), .inr (.inr (.inl (T l0.toNat 8))), .inl l7] (G, pm_sa M (T l0.toNat 1).toNat (pm_up (M (T l0.toNat 1).toNat) (pm_sg l9).toNat (M (T (T l0.toNat 0).toNat 0).toNat (pm_sg ((l7 * 24) + l3)).toNat)), T) (fun r S1 => pm_Run d 11 214 [.inr (.inr (.inl l0)), .inr (.inr (.inl l1)), .inl l2, .inl l3, .inl l4, .inl l5, .inl l6, .inl l7, .inl l8, .inl l9, .inl l10] (pm_push r [.inl l9, .inr (.inr (.inl (T l0.toNat 2)))]) S1 K) := by
  refine (px_go (by decide +kernel : pm_fe 11 173 = some (.aload_n 0, 1)) rfl).trans ?_
  refine (px_get2 (idx := 18) (ci := 0) (k := 1) (by decide +kernel)).trans ((and_iff_right h1).trans ?_)
  refine (px_go (by decide +kernel : pm_fe 11 177 = some (.iload 9, 2)) rfl).trans ?_
  refine (px_go (by decide +kernel : pm_fe 11 179 = some (.aload_n 0, 1)) rfl).trans ?_
  refine (px_get2 (idx := 14) (ci := 0) (k := 0) (by decide +kernel)).trans ((and_iff_right h1).trans ?_)
  refine (px_get2 (idx := 155) (ci := 9) (k := 0) (by decide +kernel)).trans ((and_iff_right h2).trans ?_)
  refine (px_go (by decide +kernel : pm_fe 11 186 = some (.iload 7, 2)) rfl).trans ?_
  refine (px_go (by decide +kernel : pm_fe 11 188 = some (.bipush 24, 2)) rfl).trans ?_
  refine (px_go (by decide +kernel : pm_fe 11 190 = some (.imul, 1)) rfl).trans ?_
  refine (px_go (by decide +kernel : pm_fe 11 191 = some (.iload_n 3, 1)) rfl).trans ?_
  refine (px_go (by decide +kernel : pm_fe 11 192 = some (.iadd, 1)) rfl).trans ?_
  refine (px_iaload (by decide +kernel) h3).trans ?_
  refine (px_iastore (by decide +kernel)).trans ((and_iff_right h4).trans ?_)
  refine (px_go (by decide +kernel : pm_fe 11 195 = some (.aload_n 0, 1)) rfl).trans ?_
  refine (px_get2 (idx := 22) (ci := 0) (k := 2) (by decide +kernel)).trans ((and_iff_right h1).trans ?_)
  refine (px_go (by decide +kernel : pm_fe 11 199 = some (.iload 9, 2)) rfl).trans ?_
  refine (px_go (by decide +kernel : pm_fe 11 201 = some (.aload_n 0, 1)) rfl).trans ?_
  refine (px_get2 (idx := 14) (ci := 0) (k := 0) (by decide +kernel)).trans ((and_iff_right h1).trans ?_)
  refine (px_go (by decide +kernel : pm_fe 11 205 = some (.aload_n 0, 1)) rfl).trans ?_
  refine (px_get2 (idx := 54) (ci := 0) (k := 8) (by decide +kernel)).trans ((and_iff_right h1).trans ?_)
  refine (px_go (by decide +kernel : pm_fe 11 209 = some (.iload 7, 2)) rfl).trans ?_
  refine (px_v2 (idx := 158) (m' := 115) (ci := 9) (by decide +kernel)).trans ((and_iff_right ⟨h2, (by simp [pm_wl_n, pm_wl_c, pm_w] : pm_wl [.inl l9, .inr (.inr (.inl (T l0.toNat 2)))] ≤ 8)⟩).trans ?_)
  exact Iff.rfl
theorem b11_214 {d : Nat} {G : PG} {M T : PH} {K : PV → PS → Prop} {l0 l1 l2 l3 l4 l5 l6 l7 l8 l9 l10 s0 s1 s2 : Int} (h1 : pm_ar G s2 100 s1) (h2 : pm_ob G l0 0) (h3 : pm_ar G (T l0.toNat 3) 100 l9) : pm_Run d 11 214 [.inr (.inr (.inl l0)), .inr (.inr (.inl l1)), .inl l2, .inl l3, .inl l4, .inl l5, .inl l6, .inl l7, .inl l8, .inl l9, .inl l10] [.inl s0, .inl s1, .inr (.inr (.inl s2))] (G, M, T) K ↔ pm_Run d 11 226 [.inr (.inr (.inl l0)), .inr (.inr (.inl l1)), .inl l2, .inl l3, .inl l4, .inl l5, .inl l6, .inl l7, .inl l8, .inl l9, .inl l10] [] (G, pm_sa (pm_sa M s2.toNat (pm_up (M s2.toNat) (pm_sg s1).toNat s0)) (T l0.toNat 3).toNat (pm_up ((pm_sa M s2.toNat (pm_up (M s2.toNat) (pm_sg s1).toNat s0)) (T l0.toNat 3).toNat) (pm_sg l9).toNat ((pm_sa M s2.toNat (pm_up (M s2.toNat) (pm_sg s1).toNat s0)) l0.toNat 10)), T) K := by
  refine (px_iastore (by decide +kernel)).trans ((and_iff_right h1).trans ?_)
  refine (px_go (by decide +kernel : pm_fe 11 215 = some (.aload_n 0, 1)) rfl).trans ?_
  refine (px_get2 (idx := 25) (ci := 0) (k := 3) (by decide +kernel)).trans ((and_iff_right h2).trans ?_)
  refine (px_go (by decide +kernel : pm_fe 11 219 = some (.iload 9, 2)) rfl).trans ?_
  refine (px_go (by decide +kernel : pm_fe 11 221 = some (.aload_n 0, 1)) rfl).trans ?_
  refine (px_get0 (idx := 126) (ci := 0) (k := 10) (by decide +kernel)).trans ((and_iff_right h2).trans ?_)
  refine (px_iastore (by decide +kernel)).trans ((and_iff_right h3).trans ?_)
  exact Iff.rfl
theorem b11_226 {d : Nat} {G : PG} {M T : PH} {K : PV → PS → Prop} {l0 l1 l2 l3 l4 l5 l6 l7 l8 l9 : Int} {l10 : PV} (h1 : pm_ob G l0 0) (h2 : pm_ar G (T l0.toNat 1) 100 l9) (h3 : pm_ar G (T l0.toNat 2) 100 l9) : pm_Run d 11 226 [.inr (.inr (.inl l0)), .inr (.inr (.inl l1)), .inl l2, .inl l3, .inl l4, .inl l5, .inl l6, .inl l7, .inl l8, .inl l9, l10] [] (G, M, T) K ↔ pm_Run d 11 42 [.inr (.inr (.inl l0)), .inr (.inr (.inl l1)), .inl l2, .inl l3, .inl (l4 + (M (T l0.toNat 1).toNat (pm_sg l9).toNat)), .inl (l5 + (M (T l0.toNat 2).toNat (pm_sg l9).toNat)), .inl l6, .inl (l7 + 1), .inl l8, .inl l9, l10] [] (G, M, T) K := by
  refine (px_go (by decide +kernel : pm_fe 11 226 = some (.iload 4, 2)) rfl).trans ?_
  refine (px_go (by decide +kernel : pm_fe 11 228 = some (.aload_n 0, 1)) rfl).trans ?_
  refine (px_get2 (idx := 18) (ci := 0) (k := 1) (by decide +kernel)).trans ((and_iff_right h1).trans ?_)
  refine (px_go (by decide +kernel : pm_fe 11 232 = some (.iload 9, 2)) rfl).trans ?_
  refine (px_iaload (by decide +kernel) h2).trans ?_
  refine (px_go (by decide +kernel : pm_fe 11 235 = some (.iadd, 1)) rfl).trans ?_
  refine (px_go (by decide +kernel : pm_fe 11 236 = some (.istore 4, 2)) rfl).trans ?_
  refine (px_go (by decide +kernel : pm_fe 11 238 = some (.iload 5, 2)) rfl).trans ?_
  refine (px_go (by decide +kernel : pm_fe 11 240 = some (.aload_n 0, 1)) rfl).trans ?_
  refine (px_get2 (idx := 22) (ci := 0) (k := 2) (by decide +kernel)).trans ((and_iff_right h1).trans ?_)
  refine (px_go (by decide +kernel : pm_fe 11 244 = some (.iload 9, 2)) rfl).trans ?_
  refine (px_iaload (by decide +kernel) h3).trans ?_
  refine (px_go (by decide +kernel : pm_fe 11 247 = some (.iadd, 1)) rfl).trans ?_
  refine (px_go (by decide +kernel : pm_fe 11 248 = some (.istore 5, 2)) rfl).trans ?_
  refine (px_go (by decide +kernel : pm_fe 11 250 = some (.iinc 7 1, 3)) rfl).trans ?_
  refine (px_goto (off := (-211)) (tgt := 42) (by decide +kernel)).trans ?_
  exact Iff.rfl
theorem b11_256 {d : Nat} {G : PG} {M T : PH} {K : PV → PS → Prop} {l0 l1 l2 l3 l4 l5 l6 l7 : Int} {l8 l9 l10 : PV} (h1 : pm_ob G l0 0) : pm_Run d 11 256 [.inr (.inr (.inl l0)), .inr (.inr (.inl l1)), .inl l2, .inl l3, .inl l4, .inl l5, .inl l6, .inl l7, l8, l9, l10] [] (G, M, T) K ↔ pm_Call d 117 [.inr (.inr (.inl (T l0.toNat 8))), .inl l3, .inl l4, .inl l5] (G, M, T) (fun r S1 => pm_Run d 11 268 [.inr (.inr (.inl l0)), .inr (.inr (.inl l1)), .inl l2, .inl l3, .inl l4, .inl l5, .inl l6, .inl l7, l8, l9, l10] (pm_push r []) S1 K) := by
  refine (px_go (by decide +kernel : pm_fe 11 256 = some (.aload_n 0, 1)) rfl).trans ?_
  refine (px_get2 (idx := 54) (ci := 0) (k := 8) (by decide +kernel)).trans ((and_iff_right h1).trans ?_)
  refine (px_go (by decide +kernel : pm_fe 11 260 = some (.iload_n 3, 1)) rfl).trans ?_
  refine (px_go (by decide +kernel : pm_fe 11 261 = some (.iload 4, 2)) rfl).trans ?_
  refine (px_go (by decide +kernel : pm_fe 11 263 = some (.iload 5, 2)) rfl).trans ?_
  refine (px_s4 (idx := 162) (m' := 117) (nest := 0) (by decide +kernel)).trans ((and_iff_right (by simp [pm_wl_n, pm_wl_c, pm_w] : pm_wl [] ≤ 8)).trans ?_)
  exact Iff.rfl
theorem b11_268 {d : Nat} {G : PG} {M T : PH} {K : PV → PS → Prop} {l0 l1 l2 l3 l4 l5 l6 l7 s0 : Int} {l8 l9 l10 : PV} : pm_Run d 11 268 [.inr (.inr (.inl l0)), .inr (.inr (.inl l1)), .inl l2, .inl l3, .inl l4, .inl l5, .inl l6, .inl l7, l8, l9, l10] [.inl s0] (G, M, T) K ↔ K (.inl s0) (G, M, T) := by
  refine (px_ri (by decide +kernel)).trans ?_
  exact Iff.rfl
