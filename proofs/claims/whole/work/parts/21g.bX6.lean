-- X6_init <init>()V
theorem en66 {d : Nat} {a : Int} {S : PS} {K : PV → PS → Prop} : pm_Call (d + 1) 66 [.inr (.inr (.inl a))] S K ↔ pm_Run d 66 0 [.inr (.inr (.inl a))] [] S K := pm_Call_s.trans (and_iff_right (show 1 ≤ pm_ml 66 from by decide +kernel))
theorem b66_23 {d : Nat} {G : PG} {M T : PH} {K : PV → PS → Prop} {l0 s0 s1 : Int} (h1 : pm_ob G s1 6) (h2 : 0 ≤ s0) (h3 : pm_ob G l0 6) : pm_Run d 66 23 [.inr (.inr (.inl l0))] [.inr (.inr (.inl s0)), .inr (.inr (.inl s1))] (G, M, T) K ↔ K PU (G, pm_sa M l0.toNat (pm_up (M l0.toNat) 4 (-1)), pm_sa T s1.toNat (pm_up (T s1.toNat) 1 s0)) := by
  refine (px_put2 (idx := 21) (ci := 6) (k := 1) (by decide +kernel)).trans ((and_iff_right ⟨h1, h2⟩).trans ?_)
  refine (px_go (by decide +kernel : pm_fe 66 26 = some (.aload_n 0, 1)) rfl).trans ?_
  refine (px_go (by decide +kernel : pm_fe 66 27 = some (.iconst (-1), 1)) rfl).trans ?_
  refine (px_put0 (idx := 25) (ci := 6) (k := 4) (by decide +kernel)).trans ((and_iff_right h3).trans ?_)
  refine (px_rv (by decide +kernel)).trans ?_
  exact Iff.rfl
-- X6_read read([BI)Z
theorem en67 {d : Nat} {a p0 p1 : Int} {S : PS} {K : PV → PS → Prop} : pm_Call (d + 1) 67 [.inr (.inr (.inl a)), .inr (.inr (.inl p0)), .inl p1] S K ↔ pm_Run d 67 0 [.inr (.inr (.inl a)), .inr (.inr (.inl p0)), .inl p1, PU] [] S K := pm_Call_s.trans (and_iff_right (show 3 ≤ pm_ml 67 from by decide +kernel))
theorem b67_0 {d : Nat} {G : PG} {M T : PH} {K : PV → PS → Prop} {l0 l1 l2 : Int} (h1 : pm_ob G l0 6) (h2 : pm_ob G (T l0.toNat 1) 1) : pm_Run d 67 0 [.inr (.inr (.inl l0)), .inr (.inr (.inl l1)), .inl l2, PU] [] (G, M, T) K ↔ pm_Call d 13 [.inr (.inr (.inl (T l0.toNat 1)))] (G, M, T) (fun r S1 => pm_Run d 67 7 [.inr (.inr (.inl l0)), .inr (.inr (.inl l1)), .inl l2, PU] (pm_push r []) S1 K) := by
  refine (px_go (by decide +kernel : pm_fe 67 0 = some (.aload_n 0, 1)) rfl).trans ?_
  refine (px_get2 (idx := 21) (ci := 6) (k := 1) (by decide +kernel)).trans ((and_iff_right h1).trans ?_)
  refine (px_v0 (idx := 29) (m' := 13) (ci := 1) (by decide +kernel)).trans ((and_iff_right ⟨h2, (by simp [pm_wl_n, pm_wl_c, pm_w] : pm_wl [] ≤ 8)⟩).trans ?_)
  exact Iff.rfl
theorem b67_7 {d : Nat} {G : PG} {M T : PH} {K : PV → PS → Prop} {l0 l1 l2 : Int} (h1 : pm_ob G l0 6) : pm_Run d 67 7 [.inr (.inr (.inl l0)), .inr (.inr (.inl l1)), .inl l2, PU] [] (G, M, T) K ↔ pm_Run d 67 22 [.inr (.inr (.inl l0)), .inr (.inr (.inl l1)), .inl l2, PU] [] (G, pm_sa (pm_sa (pm_sa M l0.toNat (pm_up (M l0.toNat) 3 0)) l0.toNat (pm_up ((pm_sa M l0.toNat (pm_up (M l0.toNat) 3 0)) l0.toNat) 4 (-1))) l0.toNat (pm_up ((pm_sa (pm_sa M l0.toNat (pm_up (M l0.toNat) 3 0)) l0.toNat (pm_up ((pm_sa M l0.toNat (pm_up (M l0.toNat) 3 0)) l0.toNat) 4 (-1))) l0.toNat) 2 0), T) K := by
  refine (px_go (by decide +kernel : pm_fe 67 7 = some (.aload_n 0, 1)) rfl).trans ?_
  refine (px_go (by decide +kernel : pm_fe 67 8 = some (.iconst 0, 1)) rfl).trans ?_
  refine (px_put0 (idx := 32) (ci := 6) (k := 3) (by decide +kernel)).trans ((and_iff_right h1).trans ?_)
  refine (px_go (by decide +kernel : pm_fe 67 12 = some (.aload_n 0, 1)) rfl).trans ?_
  refine (px_go (by decide +kernel : pm_fe 67 13 = some (.iconst (-1), 1)) rfl).trans ?_
  refine (px_put0 (idx := 25) (ci := 6) (k := 4) (by decide +kernel)).trans ((and_iff_right h1).trans ?_)
  refine (px_go (by decide +kernel : pm_fe 67 17 = some (.aload_n 0, 1)) rfl).trans ?_
  refine (px_go (by decide +kernel : pm_fe 67 18 = some (.iconst 0, 1)) rfl).trans ?_
  refine (px_put0 (idx := 35) (ci := 6) (k := 2) (by decide +kernel)).trans ((and_iff_right h1).trans ?_)
  exact Iff.rfl
theorem b67_22 {d : Nat} {G : PG} {M T : PH} {K : PV → PS → Prop} {l0 l1 l2 : Int} (h1 : pm_ob G l0 6) (h2 : pm_ob G (T l0.toNat 0) 4) : pm_Run d 67 22 [.inr (.inr (.inl l0)), .inr (.inr (.inl l1)), .inl l2, PU] [] (G, M, T) K ↔ pm_Call d 50 [.inr (.inr (.inl (T l0.toNat 0))), .inr (.inr (.inl l1)), .inl l2] (G, M, T) (fun r S1 => pm_Run d 67 31 [.inr (.inr (.inl l0)), .inr (.inr (.inl l1)), .inl l2, PU] (pm_push r []) S1 K) := by
  refine (px_go (by decide +kernel : pm_fe 67 22 = some (.aload_n 0, 1)) rfl).trans ?_
  refine (px_get2 (idx := 12) (ci := 6) (k := 0) (by decide +kernel)).trans ((and_iff_right h1).trans ?_)
  refine (px_go (by decide +kernel : pm_fe 67 26 = some (.aload_n 1, 1)) rfl).trans ?_
  refine (px_go (by decide +kernel : pm_fe 67 27 = some (.iload_n 2, 1)) rfl).trans ?_
  refine (px_v2 (idx := 38) (m' := 50) (ci := 4) (by decide +kernel)).trans ((and_iff_right ⟨h2, (by simp [pm_wl_n, pm_wl_c, pm_w] : pm_wl [] ≤ 8)⟩).trans ?_)
  exact Iff.rfl
theorem b67_31 {d : Nat} {G : PG} {M T : PH} {K : PV → PS → Prop} {l0 l1 l2 : Int} (h1 : pm_ob G l0 6) (h2 : pm_ob G (T l0.toNat 0) 4) : pm_Run d 67 31 [.inr (.inr (.inl l0)), .inr (.inr (.inl l1)), .inl l2, PU] [] (G, M, T) K ↔ pm_Call d 51 [.inr (.inr (.inl (T l0.toNat 0)))] (G, M, T) (fun r S1 => pm_Run d 67 38 [.inr (.inr (.inl l0)), .inr (.inr (.inl l1)), .inl l2, PU] (pm_push r []) S1 K) := by
  refine (px_go (by decide +kernel : pm_fe 67 31 = some (.aload_n 0, 1)) rfl).trans ?_
  refine (px_get2 (idx := 12) (ci := 6) (k := 0) (by decide +kernel)).trans ((and_iff_right h1).trans ?_)
  refine (px_v0 (idx := 42) (m' := 51) (ci := 4) (by decide +kernel)).trans ((and_iff_right ⟨h2, (by simp [pm_wl_n, pm_wl_c, pm_w] : pm_wl [] ≤ 8)⟩).trans ?_)
  exact Iff.rfl
theorem b67_38 {d : Nat} {G : PG} {M T : PH} {K : PV → PS → Prop} {l0 l1 l2 : Int} (h1 : pm_ob G l0 6) (h2 : pm_ob G (T l0.toNat 0) 4) : pm_Run d 67 38 [.inr (.inr (.inl l0)), .inr (.inr (.inl l1)), .inl l2, PU] [] (G, M, T) K ↔ if pm_sg (M (T l0.toNat 0).toNat 4) ≠ 0 then pm_Run d 67 52 [.inr (.inr (.inl l0)), .inr (.inr (.inl l1)), .inl l2, PU] [] (G, M, T) K else pm_Run d 67 48 [.inr (.inr (.inl l0)), .inr (.inr (.inl l1)), .inl l2, PU] [] (G, M, T) K := by
  refine (px_go (by decide +kernel : pm_fe 67 38 = some (.aload_n 0, 1)) rfl).trans ?_
  refine (px_get2 (idx := 12) (ci := 6) (k := 0) (by decide +kernel)).trans ((and_iff_right h1).trans ?_)
  refine (px_get0 (idx := 45) (ci := 4) (k := 4) (by decide +kernel)).trans ((and_iff_right h2).trans ?_)
  refine (px_if_ne (off := 7) (tgt := 52) (by decide +kernel)).trans ?_
  exact Iff.rfl
theorem b67_48 {d : Nat} {G : PG} {M T : PH} {K : PV → PS → Prop} {l0 l1 l2 : Int} (h1 : pm_ob G l0 6) : pm_Run d 67 48 [.inr (.inr (.inl l0)), .inr (.inr (.inl l1)), .inl l2, PU] [] (G, M, T) K ↔ pm_Call d 70 [.inr (.inr (.inl l0))] (G, M, T) (fun r S1 => pm_Run d 67 52 [.inr (.inr (.inl l0)), .inr (.inr (.inl l1)), .inl l2, PU] (pm_push r []) S1 K) := by
  refine (px_go (by decide +kernel : pm_fe 67 48 = some (.aload_n 0, 1)) rfl).trans ?_
  refine (px_v0 (idx := 48) (m' := 70) (ci := 6) (by decide +kernel)).trans ((and_iff_right ⟨h1, (by simp [pm_wl_n, pm_wl_c, pm_w] : pm_wl [] ≤ 8)⟩).trans ?_)
  exact Iff.rfl
theorem b67_52 {d : Nat} {G : PG} {M T : PH} {K : PV → PS → Prop} {l0 l1 l2 : Int} : pm_Run d 67 52 [.inr (.inr (.inl l0)), .inr (.inr (.inl l1)), .inl l2, PU] [] (G, M, T) K ↔ pm_Run d 67 54 [.inr (.inr (.inl l0)), .inr (.inr (.inl l1)), .inl l2, .inl 0] [] (G, M, T) K := by
  refine (px_go (by decide +kernel : pm_fe 67 52 = some (.iconst 0, 1)) rfl).trans ?_
  refine (px_go (by decide +kernel : pm_fe 67 53 = some (.istore_n 3, 1)) rfl).trans ?_
  exact Iff.rfl
theorem b67_54 {d : Nat} {G : PG} {M T : PH} {K : PV → PS → Prop} {l0 l1 l2 l3 : Int} : pm_Run d 67 54 [.inr (.inr (.inl l0)), .inr (.inr (.inl l1)), .inl l2, .inl l3] [] (G, M, T) K ↔ if pm_sg 80 < pm_sg l3 then pm_Run d 67 134 [.inr (.inr (.inl l0)), .inr (.inr (.inl l1)), .inl l2, .inl l3] [] (G, M, T) K else pm_Run d 67 60 [.inr (.inr (.inl l0)), .inr (.inr (.inl l1)), .inl l2, .inl l3] [] (G, M, T) K := by
  refine (px_go (by decide +kernel : pm_fe 67 54 = some (.iload_n 3, 1)) rfl).trans ?_
  refine (px_go (by decide +kernel : pm_fe 67 55 = some (.bipush 80, 2)) rfl).trans ?_
  refine (px_ic_gt (off := 77) (tgt := 134) (by decide +kernel)).trans ?_
  exact Iff.rfl
theorem b67_60 {d : Nat} {G : PG} {M T : PH} {K : PV → PS → Prop} {l0 l1 l2 l3 : Int} (h1 : pm_ob G l0 6) : pm_Run d 67 60 [.inr (.inr (.inl l0)), .inr (.inr (.inl l1)), .inl l2, .inl l3] [] (G, M, T) K ↔ if pm_sg (M l0.toNat 3) ≠ 0 then pm_Run d 67 134 [.inr (.inr (.inl l0)), .inr (.inr (.inl l1)), .inl l2, .inl l3] [] (G, M, T) K else pm_Run d 67 67 [.inr (.inr (.inl l0)), .inr (.inr (.inl l1)), .inl l2, .inl l3] [] (G, M, T) K := by
  refine (px_go (by decide +kernel : pm_fe 67 60 = some (.aload_n 0, 1)) rfl).trans ?_
  refine (px_get0 (idx := 32) (ci := 6) (k := 3) (by decide +kernel)).trans ((and_iff_right h1).trans ?_)
  refine (px_if_ne (off := 70) (tgt := 134) (by decide +kernel)).trans ?_
  exact Iff.rfl
theorem b67_67 {d : Nat} {G : PG} {M T : PH} {K : PV → PS → Prop} {l0 l1 l2 l3 : Int} (h1 : pm_ob G l0 6) (h2 : pm_ob G (T l0.toNat 0) 4) : pm_Run d 67 67 [.inr (.inr (.inl l0)), .inr (.inr (.inl l1)), .inl l2, .inl l3] [] (G, M, T) K ↔ if pm_sg (M (T l0.toNat 0).toNat 4) = 0 then pm_Run d 67 134 [.inr (.inr (.inl l0)), .inr (.inr (.inl l1)), .inl l2, .inl l3] [] (G, M, T) K else pm_Run d 67 77 [.inr (.inr (.inl l0)), .inr (.inr (.inl l1)), .inl l2, .inl l3] [] (G, M, T) K := by
  refine (px_go (by decide +kernel : pm_fe 67 67 = some (.aload_n 0, 1)) rfl).trans ?_
  refine (px_get2 (idx := 12) (ci := 6) (k := 0) (by decide +kernel)).trans ((and_iff_right h1).trans ?_)
  refine (px_get0 (idx := 45) (ci := 4) (k := 4) (by decide +kernel)).trans ((and_iff_right h2).trans ?_)
  refine (px_if_eq (off := 60) (tgt := 134) (by decide +kernel)).trans ?_
  exact Iff.rfl
theorem b67_77 {d : Nat} {G : PG} {M T : PH} {K : PV → PS → Prop} {l0 l1 l2 l3 : Int} : pm_Run d 67 77 [.inr (.inr (.inl l0)), .inr (.inr (.inl l1)), .inl l2, .inl l3] [] (G, M, T) K ↔ if pm_sg l3 ≠ pm_sg 80 then pm_Run d 67 99 [.inr (.inr (.inl l0)), .inr (.inr (.inl l1)), .inl l2, .inl l3] [] (G, M, T) K else pm_Run d 67 83 [.inr (.inr (.inl l0)), .inr (.inr (.inl l1)), .inl l2, .inl l3] [] (G, M, T) K := by
  refine (px_go (by decide +kernel : pm_fe 67 77 = some (.iload_n 3, 1)) rfl).trans ?_
  refine (px_go (by decide +kernel : pm_fe 67 78 = some (.bipush 80, 2)) rfl).trans ?_
  refine (px_ic_ne (off := 19) (tgt := 99) (by decide +kernel)).trans ?_
  exact Iff.rfl
theorem b67_83 {d : Nat} {G : PG} {M T : PH} {K : PV → PS → Prop} {l0 l1 l2 l3 : Int} (h1 : pm_ob G l0 6) (h2 : pm_ob G (T l0.toNat 0) 4) : pm_Run d 67 83 [.inr (.inr (.inl l0)), .inr (.inr (.inl l1)), .inl l2, .inl l3] [] (G, M, T) K ↔ pm_Call d 69 [.inr (.inr (.inl l0)), .inl 6, .inl (M (T l0.toNat 0).toNat 5)] (G, M, T) (fun r S1 => pm_Run d 67 96 [.inr (.inr (.inl l0)), .inr (.inr (.inl l1)), .inl l2, .inl l3] (pm_push r []) S1 K) := by
  refine (px_go (by decide +kernel : pm_fe 67 83 = some (.aload_n 0, 1)) rfl).trans ?_
  refine (px_go (by decide +kernel : pm_fe 67 84 = some (.bipush 6, 2)) rfl).trans ?_
  refine (px_go (by decide +kernel : pm_fe 67 86 = some (.aload_n 0, 1)) rfl).trans ?_
  refine (px_get2 (idx := 12) (ci := 6) (k := 0) (by decide +kernel)).trans ((and_iff_right h1).trans ?_)
  refine (px_get0 (idx := 51) (ci := 4) (k := 5) (by decide +kernel)).trans ((and_iff_right h2).trans ?_)
  refine (px_v2 (idx := 54) (m' := 69) (ci := 6) (by decide +kernel)).trans ((and_iff_right ⟨h1, (by simp [pm_wl_n, pm_wl_c, pm_w] : pm_wl [] ≤ 8)⟩).trans ?_)
  exact Iff.rfl
theorem b67_96 {d : Nat} {G : PG} {M T : PH} {K : PV → PS → Prop} {l0 l1 l2 l3 : Int} : pm_Run d 67 96 [.inr (.inr (.inl l0)), .inr (.inr (.inl l1)), .inl l2, .inl l3] [] (G, M, T) K ↔ pm_Run d 67 128 [.inr (.inr (.inl l0)), .inr (.inr (.inl l1)), .inl l2, .inl l3] [] (G, M, T) K := by
  refine (px_goto (off := 32) (tgt := 128) (by decide +kernel)).trans ?_
  exact Iff.rfl
theorem b67_99 {d : Nat} {G : PG} {M T : PH} {K : PV → PS → Prop} {l0 l1 l2 l3 : Int} : pm_Run d 67 99 [.inr (.inr (.inl l0)), .inr (.inr (.inl l1)), .inl l2, .inl l3] [] (G, M, T) K ↔ if pm_sg l3 ≠ 0 then pm_Run d 67 108 [.inr (.inr (.inl l0)), .inr (.inr (.inl l1)), .inl l2, .inl l3] [.inr (.inr (.inl l0))] (G, M, T) K else pm_Run d 67 104 [.inr (.inr (.inl l0)), .inr (.inr (.inl l1)), .inl l2, .inl l3] [.inr (.inr (.inl l0))] (G, M, T) K := by
  refine (px_go (by decide +kernel : pm_fe 67 99 = some (.aload_n 0, 1)) rfl).trans ?_
  refine (px_go (by decide +kernel : pm_fe 67 100 = some (.iload_n 3, 1)) rfl).trans ?_
  refine (px_if_ne (off := 7) (tgt := 108) (by decide +kernel)).trans ?_
  exact Iff.rfl
theorem b67_104 {d : Nat} {G : PG} {M T : PH} {K : PV → PS → Prop} {l0 l1 l2 l3 s0 : Int} : pm_Run d 67 104 [.inr (.inr (.inl l0)), .inr (.inr (.inl l1)), .inl l2, .inl l3] [.inr (.inr (.inl s0))] (G, M, T) K ↔ pm_Run d 67 109 [.inr (.inr (.inl l0)), .inr (.inr (.inl l1)), .inl l2, .inl l3] [.inl 1, .inr (.inr (.inl s0))] (G, M, T) K := by
  refine (px_go (by decide +kernel : pm_fe 67 104 = some (.iconst 1, 1)) rfl).trans ?_
  refine (px_goto (off := 4) (tgt := 109) (by decide +kernel)).trans ?_
  exact Iff.rfl
theorem b67_108 {d : Nat} {G : PG} {M T : PH} {K : PV → PS → Prop} {l0 l1 l2 l3 s0 : Int} : pm_Run d 67 108 [.inr (.inr (.inl l0)), .inr (.inr (.inl l1)), .inl l2, .inl l3] [.inr (.inr (.inl s0))] (G, M, T) K ↔ pm_Run d 67 109 [.inr (.inr (.inl l0)), .inr (.inr (.inl l1)), .inl l2, .inl l3] [.inl 0, .inr (.inr (.inl s0))] (G, M, T) K := by
  refine (px_go (by decide +kernel : pm_fe 67 108 = some (.iconst 0, 1)) rfl).trans ?_
  exact Iff.rfl
theorem b67_109 {d : Nat} {G : PG} {M T : PH} {K : PV → PS → Prop} {l0 l1 l2 l3 s0 s1 : Int} (h1 : pm_ob G s1 6) : pm_Run d 67 109 [.inr (.inr (.inl l0)), .inr (.inr (.inl l1)), .inl l2, .inl l3] [.inl s0, .inr (.inr (.inl s1))] (G, M, T) K ↔ pm_Call d 82 [.inr (.inr (.inl s1)), .inl s0] (G, M, T) (fun r S1 => pm_Run d 67 112 [.inr (.inr (.inl l0)), .inr (.inr (.inl l1)), .inl l2, .inl l3] (pm_push r []) S1 K) := by
  refine (px_v1 (idx := 58) (m' := 82) (ci := 6) (by decide +kernel)).trans ((and_iff_right ⟨h1, (by simp [pm_wl_n, pm_wl_c, pm_w] : pm_wl [] ≤ 8)⟩).trans ?_)
  exact Iff.rfl
theorem b67_112 {d : Nat} {G : PG} {M T : PH} {K : PV → PS → Prop} {l0 l1 l2 l3 : Int} (h1 : pm_ob G l0 6) : pm_Run d 67 112 [.inr (.inr (.inl l0)), .inr (.inr (.inl l1)), .inl l2, .inl l3] [] (G, M, T) K ↔ pm_Call d 74 [.inr (.inr (.inl l0)), .inl 59] (G, M, T) (fun r S1 => pm_Run d 67 118 [.inr (.inr (.inl l0)), .inr (.inr (.inl l1)), .inl l2, .inl l3] (pm_push r []) S1 K) := by
  refine (px_go (by decide +kernel : pm_fe 67 112 = some (.aload_n 0, 1)) rfl).trans ?_
  refine (px_go (by decide +kernel : pm_fe 67 113 = some (.bipush 59, 2)) rfl).trans ?_
  refine (px_v1 (idx := 62) (m' := 74) (ci := 6) (by decide +kernel)).trans ((and_iff_right ⟨h1, (by simp [pm_wl_n, pm_wl_c, pm_w] : pm_wl [] ≤ 8)⟩).trans ?_)
  exact Iff.rfl
theorem b67_118 {d : Nat} {G : PG} {M T : PH} {K : PV → PS → Prop} {l0 l1 l2 l3 : Int} (h1 : pm_ob G l0 6) (h2 : pm_ob G (T l0.toNat 1) 1) : pm_Run d 67 118 [.inr (.inr (.inl l0)), .inr (.inr (.inl l1)), .inl l2, .inl l3] [] (G, M, T) K ↔ pm_Run d 67 128 [.inr (.inr (.inl l0)), .inr (.inr (.inl l1)), .inl l2, .inl l3] [] (G, pm_sa M (T l0.toNat 1).toNat (pm_up (M (T l0.toNat 1).toNat) 7 (l3 + 1)), T) K := by
  refine (px_go (by decide +kernel : pm_fe 67 118 = some (.aload_n 0, 1)) rfl).trans ?_
  refine (px_get2 (idx := 21) (ci := 6) (k := 1) (by decide +kernel)).trans ((and_iff_right h1).trans ?_)
  refine (px_go (by decide +kernel : pm_fe 67 122 = some (.iload_n 3, 1)) rfl).trans ?_
  refine (px_go (by decide +kernel : pm_fe 67 123 = some (.iconst 1, 1)) rfl).trans ?_
  refine (px_go (by decide +kernel : pm_fe 67 124 = some (.iadd, 1)) rfl).trans ?_
  refine (px_put0 (idx := 66) (ci := 1) (k := 7) (by decide +kernel)).trans ((and_iff_right h2).trans ?_)
  exact Iff.rfl
theorem b67_128 {d : Nat} {G : PG} {M T : PH} {K : PV → PS → Prop} {l0 l1 l2 l3 : Int} : pm_Run d 67 128 [.inr (.inr (.inl l0)), .inr (.inr (.inl l1)), .inl l2, .inl l3] [] (G, M, T) K ↔ pm_Run d 67 54 [.inr (.inr (.inl l0)), .inr (.inr (.inl l1)), .inl l2, .inl (l3 + 1)] [] (G, M, T) K := by
  refine (px_go (by decide +kernel : pm_fe 67 128 = some (.iinc 3 1, 3)) rfl).trans ?_
  refine (px_goto (off := (-77)) (tgt := 54) (by decide +kernel)).trans ?_
  exact Iff.rfl
theorem b67_134 {d : Nat} {G : PG} {M T : PH} {K : PV → PS → Prop} {l0 l1 l2 l3 : Int} (h1 : pm_ob G l0 6) : pm_Run d 67 134 [.inr (.inr (.inl l0)), .inr (.inr (.inl l1)), .inl l2, .inl l3] [] (G, M, T) K ↔ if pm_sg (M l0.toNat 3) ≠ 0 then pm_Run d 67 145 [.inr (.inr (.inl l0)), .inr (.inr (.inl l1)), .inl l2, .inl l3] [] (G, M, T) K else pm_Run d 67 141 [.inr (.inr (.inl l0)), .inr (.inr (.inl l1)), .inl l2, .inl l3] [] (G, M, T) K := by
  refine (px_go (by decide +kernel : pm_fe 67 134 = some (.aload_n 0, 1)) rfl).trans ?_
  refine (px_get0 (idx := 32) (ci := 6) (k := 3) (by decide +kernel)).trans ((and_iff_right h1).trans ?_)
  refine (px_if_ne (off := 7) (tgt := 145) (by decide +kernel)).trans ?_
  exact Iff.rfl
theorem b67_141 {d : Nat} {G : PG} {M T : PH} {K : PV → PS → Prop} {l0 l1 l2 l3 : Int} : pm_Run d 67 141 [.inr (.inr (.inl l0)), .inr (.inr (.inl l1)), .inl l2, .inl l3] [] (G, M, T) K ↔ pm_Run d 67 146 [.inr (.inr (.inl l0)), .inr (.inr (.inl l1)), .inl l2, .inl l3] [.inl 1] (G, M, T) K := by
  refine (px_go (by decide +kernel : pm_fe 67 141 = some (.iconst 1, 1)) rfl).trans ?_
  refine (px_goto (off := 4) (tgt := 146) (by decide +kernel)).trans ?_
  exact Iff.rfl
theorem b67_145 {d : Nat} {G : PG} {M T : PH} {K : PV → PS → Prop} {l0 l1 l2 l3 : Int} : pm_Run d 67 145 [.inr (.inr (.inl l0)), .inr (.inr (.inl l1)), .inl l2, .inl l3] [] (G, M, T) K ↔ pm_Run d 67 146 [.inr (.inr (.inl l0)), .inr (.inr (.inl l1)), .inl l2, .inl l3] [.inl 0] (G, M, T) K := by
  refine (px_go (by decide +kernel : pm_fe 67 145 = some (.iconst 0, 1)) rfl).trans ?_
  exact Iff.rfl
theorem b67_146 {d : Nat} {G : PG} {M T : PH} {K : PV → PS → Prop} {l0 l1 l2 l3 s0 : Int} (h1 : s0 = 0 ∨ s0 = 1) : pm_Run d 67 146 [.inr (.inr (.inl l0)), .inr (.inr (.inl l1)), .inl l2, .inl l3] [.inl s0] (G, M, T) K ↔ K (.inl s0) (G, M, T) := by
  refine (px_rz (by decide +kernel)).trans ((and_iff_right h1).trans ?_)
  exact Iff.rfl
-- X6_handOver handOver(LMoonTender$Chart;)LMoonTender$Chart;
theorem en68 {d : Nat} {a p0 : Int} {S : PS} {K : PV → PS → Prop} : pm_Call (d + 1) 68 [.inr (.inr (.inl a)), .inr (.inr (.inl p0))] S K ↔ pm_Run d 68 0 [.inr (.inr (.inl a)), .inr (.inr (.inl p0)), PU] [] S K := pm_Call_s.trans (and_iff_right (show 2 ≤ pm_ml 68 from by decide +kernel))
theorem b68_0 {d : Nat} {G : PG} {M T : PH} {K : PV → PS → Prop} {l0 l1 : Int} (h1 : pm_ob G l0 6) (h2 : 0 ≤ l1) (h3 : 0 ≤ (T l0.toNat 1)) : pm_Run d 68 0 [.inr (.inr (.inl l0)), .inr (.inr (.inl l1)), PU] [] (G, M, T) K ↔ K (.inr (.inr (.inl (T l0.toNat 1)))) (G, M, pm_sa T l0.toNat (pm_up (T l0.toNat) 1 l1)) := by
  refine (px_go (by decide +kernel : pm_fe 68 0 = some (.aload_n 0, 1)) rfl).trans ?_
  refine (px_get2 (idx := 21) (ci := 6) (k := 1) (by decide +kernel)).trans ((and_iff_right h1).trans ?_)
  refine (px_go (by decide +kernel : pm_fe 68 4 = some (.astore_n 2, 1)) rfl).trans ?_
  refine (px_go (by decide +kernel : pm_fe 68 5 = some (.aload_n 0, 1)) rfl).trans ?_
  refine (px_go (by decide +kernel : pm_fe 68 6 = some (.aload_n 1, 1)) rfl).trans ?_
  refine (px_put2 (idx := 21) (ci := 6) (k := 1) (by decide +kernel)).trans ((and_iff_right ⟨h1, h2⟩).trans ?_)
  refine (px_go (by decide +kernel : pm_fe 68 10 = some (.aload_n 2, 1)) rfl).trans ?_
  refine (px_ra (by decide +kernel)).trans ((and_iff_right h3).trans ?_)
  exact Iff.rfl
-- X6_fail fail(II)V
theorem en69 {d : Nat} {a p0 p1 : Int} {S : PS} {K : PV → PS → Prop} : pm_Call (d + 1) 69 [.inr (.inr (.inl a)), .inl p0, .inl p1] S K ↔ pm_Run d 69 0 [.inr (.inr (.inl a)), .inl p0, .inl p1] [] S K := pm_Call_s.trans (and_iff_right (show 3 ≤ pm_ml 69 from by decide +kernel))
theorem b69_0 {d : Nat} {G : PG} {M T : PH} {K : PV → PS → Prop} {l0 l1 l2 : Int} (h1 : pm_ob G l0 6) : pm_Run d 69 0 [.inr (.inr (.inl l0)), .inl l1, .inl l2] [] (G, M, T) K ↔ if pm_sg (M l0.toNat 3) ≠ 0 then pm_Run d 69 17 [.inr (.inr (.inl l0)), .inl l1, .inl l2] [] (G, M, T) K else pm_Run d 69 7 [.inr (.inr (.inl l0)), .inl l1, .inl l2] [] (G, M, T) K := by
  refine (px_go (by decide +kernel : pm_fe 69 0 = some (.aload_n 0, 1)) rfl).trans ?_
  refine (px_get0 (idx := 32) (ci := 6) (k := 3) (by decide +kernel)).trans ((and_iff_right h1).trans ?_)
  refine (px_if_ne (off := 13) (tgt := 17) (by decide +kernel)).trans ?_
  exact Iff.rfl
theorem b69_7 {d : Nat} {G : PG} {M T : PH} {K : PV → PS → Prop} {l0 l1 l2 : Int} (h1 : pm_ob G l0 6) : pm_Run d 69 7 [.inr (.inr (.inl l0)), .inl l1, .inl l2] [] (G, M, T) K ↔ pm_Run d 69 17 [.inr (.inr (.inl l0)), .inl l1, .inl l2] [] (G, pm_sa (pm_sa M l0.toNat (pm_up (M l0.toNat) 3 l1)) l0.toNat (pm_up ((pm_sa M l0.toNat (pm_up (M l0.toNat) 3 l1)) l0.toNat) 4 l2), T) K := by
  refine (px_go (by decide +kernel : pm_fe 69 7 = some (.aload_n 0, 1)) rfl).trans ?_
  refine (px_go (by decide +kernel : pm_fe 69 8 = some (.iload_n 1, 1)) rfl).trans ?_
  refine (px_put0 (idx := 32) (ci := 6) (k := 3) (by decide +kernel)).trans ((and_iff_right h1).trans ?_)
  refine (px_go (by decide +kernel : pm_fe 69 12 = some (.aload_n 0, 1)) rfl).trans ?_
  refine (px_go (by decide +kernel : pm_fe 69 13 = some (.iload_n 2, 1)) rfl).trans ?_
  refine (px_put0 (idx := 25) (ci := 6) (k := 4) (by decide +kernel)).trans ((and_iff_right h1).trans ?_)
  exact Iff.rfl
theorem b69_17 {d : Nat} {G : PG} {M T : PH} {K : PV → PS → Prop} {l0 l1 l2 : Int} (h1 : pm_ob G l0 6) (h2 : pm_ob G (T l0.toNat 0) 4) : pm_Run d 69 17 [.inr (.inr (.inl l0)), .inl l1, .inl l2] [] (G, M, T) K ↔ K PU (G, pm_sa (pm_sa M (T l0.toNat 0).toNat (pm_up (M (T l0.toNat 0).toNat) 4 4)) (T l0.toNat 0).toNat (pm_up ((pm_sa M (T l0.toNat 0).toNat (pm_up (M (T l0.toNat 0).toNat) 4 4)) (T l0.toNat 0).toNat) 8 (-1)), T) := by
  refine (px_go (by decide +kernel : pm_fe 69 17 = some (.aload_n 0, 1)) rfl).trans ?_
  refine (px_get2 (idx := 12) (ci := 6) (k := 0) (by decide +kernel)).trans ((and_iff_right h1).trans ?_)
  refine (px_go (by decide +kernel : pm_fe 69 21 = some (.iconst 4, 1)) rfl).trans ?_
  refine (px_put0 (idx := 45) (ci := 4) (k := 4) (by decide +kernel)).trans ((and_iff_right h2).trans ?_)
  refine (px_go (by decide +kernel : pm_fe 69 25 = some (.aload_n 0, 1)) rfl).trans ?_
  refine (px_get2 (idx := 12) (ci := 6) (k := 0) (by decide +kernel)).trans ((and_iff_right h1).trans ?_)
  refine (px_go (by decide +kernel : pm_fe 69 29 = some (.iconst (-1), 1)) rfl).trans ?_
  refine (px_put0 (idx := 69) (ci := 4) (k := 8) (by decide +kernel)).trans ((and_iff_right h2).trans ?_)
  refine (px_rv (by decide +kernel)).trans ?_
  exact Iff.rfl
-- X6_wrong wrong()V
theorem en70 {d : Nat} {a : Int} {S : PS} {K : PV → PS → Prop} : pm_Call (d + 1) 70 [.inr (.inr (.inl a))] S K ↔ pm_Run d 70 0 [.inr (.inr (.inl a))] [] S K := pm_Call_s.trans (and_iff_right (show 1 ≤ pm_ml 70 from by decide +kernel))
theorem b70_0 {d : Nat} {G : PG} {M T : PH} {K : PV → PS → Prop} {l0 : Int} (h1 : pm_ob G l0 6) (h2 : pm_ob G (T l0.toNat 0) 4) : pm_Run d 70 0 [.inr (.inr (.inl l0))] [] (G, M, T) K ↔ pm_Call d 69 [.inr (.inr (.inl l0)), .inl 1, .inl (M (T l0.toNat 0).toNat 6)] (G, M, T) (fun r S1 => pm_Run d 70 12 [.inr (.inr (.inl l0))] (pm_push r []) S1 K) := by
  refine (px_go (by decide +kernel : pm_fe 70 0 = some (.aload_n 0, 1)) rfl).trans ?_
  refine (px_go (by decide +kernel : pm_fe 70 1 = some (.iconst 1, 1)) rfl).trans ?_
  refine (px_go (by decide +kernel : pm_fe 70 2 = some (.aload_n 0, 1)) rfl).trans ?_
  refine (px_get2 (idx := 12) (ci := 6) (k := 0) (by decide +kernel)).trans ((and_iff_right h1).trans ?_)
  refine (px_get0 (idx := 72) (ci := 4) (k := 6) (by decide +kernel)).trans ((and_iff_right h2).trans ?_)
  refine (px_v2 (idx := 54) (m' := 69) (ci := 6) (by decide +kernel)).trans ((and_iff_right ⟨h1, (by simp [pm_wl_n, pm_wl_c, pm_w] : pm_wl [] ≤ 8)⟩).trans ?_)
  exact Iff.rfl
theorem b70_12 {d : Nat} {G : PG} {M T : PH} {K : PV → PS → Prop} {l0 : Int} : pm_Run d 70 12 [.inr (.inr (.inl l0))] [] (G, M, T) K ↔ K PU (G, M, T) := by
  refine (px_rv (by decide +kernel)).trans ?_
  exact Iff.rfl
-- X6_isWord isWord(I)Z
theorem en71 {d : Nat} {a p0 : Int} {S : PS} {K : PV → PS → Prop} : pm_Call (d + 1) 71 [.inr (.inr (.inl a)), .inl p0] S K ↔ pm_Run d 71 0 [.inr (.inr (.inl a)), .inl p0] [] S K := pm_Call_s.trans (and_iff_right (show 2 ≤ pm_ml 71 from by decide +kernel))
theorem b71_0 {d : Nat} {G : PG} {M T : PH} {K : PV → PS → Prop} {l0 l1 : Int} (h1 : pm_ob G l0 6) (h2 : pm_ob G (T l0.toNat 0) 4) : pm_Run d 71 0 [.inr (.inr (.inl l0)), .inl l1] [] (G, M, T) K ↔ if pm_sg (M (T l0.toNat 0).toNat 4) ≠ pm_sg 1 then pm_Run d 71 26 [.inr (.inr (.inl l0)), .inl l1] [] (G, M, T) K else pm_Run d 71 11 [.inr (.inr (.inl l0)), .inl l1] [] (G, M, T) K := by
  refine (px_go (by decide +kernel : pm_fe 71 0 = some (.aload_n 0, 1)) rfl).trans ?_
  refine (px_get2 (idx := 12) (ci := 6) (k := 0) (by decide +kernel)).trans ((and_iff_right h1).trans ?_)
  refine (px_get0 (idx := 45) (ci := 4) (k := 4) (by decide +kernel)).trans ((and_iff_right h2).trans ?_)
  refine (px_go (by decide +kernel : pm_fe 71 7 = some (.iconst 1, 1)) rfl).trans ?_
  refine (px_ic_ne (off := 18) (tgt := 26) (by decide +kernel)).trans ?_
  exact Iff.rfl
theorem b71_11 {d : Nat} {G : PG} {M T : PH} {K : PV → PS → Prop} {l0 l1 : Int} (h1 : pm_ob G l0 6) (h2 : pm_ob G (T l0.toNat 0) 4) : pm_Run d 71 11 [.inr (.inr (.inl l0)), .inl l1] [] (G, M, T) K ↔ if pm_sg (M (T l0.toNat 0).toNat 8) ≠ pm_sg l1 then pm_Run d 71 26 [.inr (.inr (.inl l0)), .inl l1] [] (G, M, T) K else pm_Run d 71 22 [.inr (.inr (.inl l0)), .inl l1] [] (G, M, T) K := by
  refine (px_go (by decide +kernel : pm_fe 71 11 = some (.aload_n 0, 1)) rfl).trans ?_
  refine (px_get2 (idx := 12) (ci := 6) (k := 0) (by decide +kernel)).trans ((and_iff_right h1).trans ?_)
  refine (px_get0 (idx := 69) (ci := 4) (k := 8) (by decide +kernel)).trans ((and_iff_right h2).trans ?_)
  refine (px_go (by decide +kernel : pm_fe 71 18 = some (.iload_n 1, 1)) rfl).trans ?_
  refine (px_ic_ne (off := 7) (tgt := 26) (by decide +kernel)).trans ?_
  exact Iff.rfl
theorem b71_22 {d : Nat} {G : PG} {M T : PH} {K : PV → PS → Prop} {l0 l1 : Int} : pm_Run d 71 22 [.inr (.inr (.inl l0)), .inl l1] [] (G, M, T) K ↔ pm_Run d 71 27 [.inr (.inr (.inl l0)), .inl l1] [.inl 1] (G, M, T) K := by
  refine (px_go (by decide +kernel : pm_fe 71 22 = some (.iconst 1, 1)) rfl).trans ?_
  refine (px_goto (off := 4) (tgt := 27) (by decide +kernel)).trans ?_
  exact Iff.rfl
theorem b71_26 {d : Nat} {G : PG} {M T : PH} {K : PV → PS → Prop} {l0 l1 : Int} : pm_Run d 71 26 [.inr (.inr (.inl l0)), .inl l1] [] (G, M, T) K ↔ pm_Run d 71 27 [.inr (.inr (.inl l0)), .inl l1] [.inl 0] (G, M, T) K := by
  refine (px_go (by decide +kernel : pm_fe 71 26 = some (.iconst 0, 1)) rfl).trans ?_
  exact Iff.rfl
theorem b71_27 {d : Nat} {G : PG} {M T : PH} {K : PV → PS → Prop} {l0 l1 s0 : Int} (h1 : s0 = 0 ∨ s0 = 1) : pm_Run d 71 27 [.inr (.inr (.inl l0)), .inl l1] [.inl s0] (G, M, T) K ↔ K (.inl s0) (G, M, T) := by
  refine (px_rz (by decide +kernel)).trans ((and_iff_right h1).trans ?_)
  exact Iff.rfl
-- X6_isSign isSign(I)Z
theorem en72 {d : Nat} {a p0 : Int} {S : PS} {K : PV → PS → Prop} : pm_Call (d + 1) 72 [.inr (.inr (.inl a)), .inl p0] S K ↔ pm_Run d 72 0 [.inr (.inr (.inl a)), .inl p0] [] S K := pm_Call_s.trans (and_iff_right (show 2 ≤ pm_ml 72 from by decide +kernel))
theorem b72_0 {d : Nat} {G : PG} {M T : PH} {K : PV → PS → Prop} {l0 l1 : Int} (h1 : pm_ob G l0 6) (h2 : pm_ob G (T l0.toNat 0) 4) : pm_Run d 72 0 [.inr (.inr (.inl l0)), .inl l1] [] (G, M, T) K ↔ if pm_sg (M (T l0.toNat 0).toNat 4) ≠ pm_sg 3 then pm_Run d 72 26 [.inr (.inr (.inl l0)), .inl l1] [] (G, M, T) K else pm_Run d 72 11 [.inr (.inr (.inl l0)), .inl l1] [] (G, M, T) K := by
  refine (px_go (by decide +kernel : pm_fe 72 0 = some (.aload_n 0, 1)) rfl).trans ?_
  refine (px_get2 (idx := 12) (ci := 6) (k := 0) (by decide +kernel)).trans ((and_iff_right h1).trans ?_)
  refine (px_get0 (idx := 45) (ci := 4) (k := 4) (by decide +kernel)).trans ((and_iff_right h2).trans ?_)
  refine (px_go (by decide +kernel : pm_fe 72 7 = some (.iconst 3, 1)) rfl).trans ?_
  refine (px_ic_ne (off := 18) (tgt := 26) (by decide +kernel)).trans ?_
  exact Iff.rfl
theorem b72_11 {d : Nat} {G : PG} {M T : PH} {K : PV → PS → Prop} {l0 l1 : Int} (h1 : pm_ob G l0 6) (h2 : pm_ob G (T l0.toNat 0) 4) : pm_Run d 72 11 [.inr (.inr (.inl l0)), .inl l1] [] (G, M, T) K ↔ if pm_sg (M (T l0.toNat 0).toNat 7) ≠ pm_sg l1 then pm_Run d 72 26 [.inr (.inr (.inl l0)), .inl l1] [] (G, M, T) K else pm_Run d 72 22 [.inr (.inr (.inl l0)), .inl l1] [] (G, M, T) K := by
  refine (px_go (by decide +kernel : pm_fe 72 11 = some (.aload_n 0, 1)) rfl).trans ?_
  refine (px_get2 (idx := 12) (ci := 6) (k := 0) (by decide +kernel)).trans ((and_iff_right h1).trans ?_)
  refine (px_get0 (idx := 75) (ci := 4) (k := 7) (by decide +kernel)).trans ((and_iff_right h2).trans ?_)
  refine (px_go (by decide +kernel : pm_fe 72 18 = some (.iload_n 1, 1)) rfl).trans ?_
  refine (px_ic_ne (off := 7) (tgt := 26) (by decide +kernel)).trans ?_
  exact Iff.rfl
theorem b72_22 {d : Nat} {G : PG} {M T : PH} {K : PV → PS → Prop} {l0 l1 : Int} : pm_Run d 72 22 [.inr (.inr (.inl l0)), .inl l1] [] (G, M, T) K ↔ pm_Run d 72 27 [.inr (.inr (.inl l0)), .inl l1] [.inl 1] (G, M, T) K := by
  refine (px_go (by decide +kernel : pm_fe 72 22 = some (.iconst 1, 1)) rfl).trans ?_
  refine (px_goto (off := 4) (tgt := 27) (by decide +kernel)).trans ?_
  exact Iff.rfl
theorem b72_26 {d : Nat} {G : PG} {M T : PH} {K : PV → PS → Prop} {l0 l1 : Int} : pm_Run d 72 26 [.inr (.inr (.inl l0)), .inl l1] [] (G, M, T) K ↔ pm_Run d 72 27 [.inr (.inr (.inl l0)), .inl l1] [.inl 0] (G, M, T) K := by
  refine (px_go (by decide +kernel : pm_fe 72 26 = some (.iconst 0, 1)) rfl).trans ?_
  exact Iff.rfl
theorem b72_27 {d : Nat} {G : PG} {M T : PH} {K : PV → PS → Prop} {l0 l1 s0 : Int} (h1 : s0 = 0 ∨ s0 = 1) : pm_Run d 72 27 [.inr (.inr (.inl l0)), .inl l1] [.inl s0] (G, M, T) K ↔ K (.inl s0) (G, M, T) := by
  refine (px_rz (by decide +kernel)).trans ((and_iff_right h1).trans ?_)
  exact Iff.rfl
-- X6_word word(I)V
theorem en73 {d : Nat} {a p0 : Int} {S : PS} {K : PV → PS → Prop} : pm_Call (d + 1) 73 [.inr (.inr (.inl a)), .inl p0] S K ↔ pm_Run d 73 0 [.inr (.inr (.inl a)), .inl p0] [] S K := pm_Call_s.trans (and_iff_right (show 2 ≤ pm_ml 73 from by decide +kernel))
theorem b73_0 {d : Nat} {G : PG} {M T : PH} {K : PV → PS → Prop} {l0 l1 : Int} (h1 : pm_ob G l0 6) : pm_Run d 73 0 [.inr (.inr (.inl l0)), .inl l1] [] (G, M, T) K ↔ pm_Call d 71 [.inr (.inr (.inl l0)), .inl l1] (G, M, T) (fun r S1 => pm_Run d 73 5 [.inr (.inr (.inl l0)), .inl l1] (pm_push r []) S1 K) := by
  refine (px_go (by decide +kernel : pm_fe 73 0 = some (.aload_n 0, 1)) rfl).trans ?_
  refine (px_go (by decide +kernel : pm_fe 73 1 = some (.iload_n 1, 1)) rfl).trans ?_
  refine (px_v1 (idx := 78) (m' := 71) (ci := 6) (by decide +kernel)).trans ((and_iff_right ⟨h1, (by simp [pm_wl_n, pm_wl_c, pm_w] : pm_wl [] ≤ 8)⟩).trans ?_)
  exact Iff.rfl
theorem b73_5 {d : Nat} {G : PG} {M T : PH} {K : PV → PS → Prop} {l0 l1 s0 : Int} : pm_Run d 73 5 [.inr (.inr (.inl l0)), .inl l1] [.inl s0] (G, M, T) K ↔ if pm_sg s0 = 0 then pm_Run d 73 18 [.inr (.inr (.inl l0)), .inl l1] [] (G, M, T) K else pm_Run d 73 8 [.inr (.inr (.inl l0)), .inl l1] [] (G, M, T) K := by
  refine (px_if_eq (off := 13) (tgt := 18) (by decide +kernel)).trans ?_
  exact Iff.rfl
theorem b73_8 {d : Nat} {G : PG} {M T : PH} {K : PV → PS → Prop} {l0 l1 : Int} (h1 : pm_ob G l0 6) (h2 : pm_ob G (T l0.toNat 0) 4) : pm_Run d 73 8 [.inr (.inr (.inl l0)), .inl l1] [] (G, M, T) K ↔ pm_Call d 51 [.inr (.inr (.inl (T l0.toNat 0)))] (G, M, T) (fun r S1 => pm_Run d 73 15 [.inr (.inr (.inl l0)), .inl l1] (pm_push r []) S1 K) := by
  refine (px_go (by decide +kernel : pm_fe 73 8 = some (.aload_n 0, 1)) rfl).trans ?_
  refine (px_get2 (idx := 12) (ci := 6) (k := 0) (by decide +kernel)).trans ((and_iff_right h1).trans ?_)
  refine (px_v0 (idx := 42) (m' := 51) (ci := 4) (by decide +kernel)).trans ((and_iff_right ⟨h2, (by simp [pm_wl_n, pm_wl_c, pm_w] : pm_wl [] ≤ 8)⟩).trans ?_)
  exact Iff.rfl
theorem b73_15 {d : Nat} {G : PG} {M T : PH} {K : PV → PS → Prop} {l0 l1 : Int} : pm_Run d 73 15 [.inr (.inr (.inl l0)), .inl l1] [] (G, M, T) K ↔ pm_Run d 73 22 [.inr (.inr (.inl l0)), .inl l1] [] (G, M, T) K := by
  refine (px_goto (off := 7) (tgt := 22) (by decide +kernel)).trans ?_
  exact Iff.rfl
theorem b73_18 {d : Nat} {G : PG} {M T : PH} {K : PV → PS → Prop} {l0 l1 : Int} (h1 : pm_ob G l0 6) : pm_Run d 73 18 [.inr (.inr (.inl l0)), .inl l1] [] (G, M, T) K ↔ pm_Call d 70 [.inr (.inr (.inl l0))] (G, M, T) (fun r S1 => pm_Run d 73 22 [.inr (.inr (.inl l0)), .inl l1] (pm_push r []) S1 K) := by
  refine (px_go (by decide +kernel : pm_fe 73 18 = some (.aload_n 0, 1)) rfl).trans ?_
  refine (px_v0 (idx := 48) (m' := 70) (ci := 6) (by decide +kernel)).trans ((and_iff_right ⟨h1, (by simp [pm_wl_n, pm_wl_c, pm_w] : pm_wl [] ≤ 8)⟩).trans ?_)
  exact Iff.rfl
theorem b73_22 {d : Nat} {G : PG} {M T : PH} {K : PV → PS → Prop} {l0 l1 : Int} : pm_Run d 73 22 [.inr (.inr (.inl l0)), .inl l1] [] (G, M, T) K ↔ K PU (G, M, T) := by
  refine (px_rv (by decide +kernel)).trans ?_
  exact Iff.rfl
-- X6_sign sign(I)V
theorem en74 {d : Nat} {a p0 : Int} {S : PS} {K : PV → PS → Prop} : pm_Call (d + 1) 74 [.inr (.inr (.inl a)), .inl p0] S K ↔ pm_Run d 74 0 [.inr (.inr (.inl a)), .inl p0] [] S K := pm_Call_s.trans (and_iff_right (show 2 ≤ pm_ml 74 from by decide +kernel))
theorem b74_0 {d : Nat} {G : PG} {M T : PH} {K : PV → PS → Prop} {l0 l1 : Int} (h1 : pm_ob G l0 6) : pm_Run d 74 0 [.inr (.inr (.inl l0)), .inl l1] [] (G, M, T) K ↔ pm_Call d 72 [.inr (.inr (.inl l0)), .inl l1] (G, M, T) (fun r S1 => pm_Run d 74 5 [.inr (.inr (.inl l0)), .inl l1] (pm_push r []) S1 K) := by
  refine (px_go (by decide +kernel : pm_fe 74 0 = some (.aload_n 0, 1)) rfl).trans ?_
  refine (px_go (by decide +kernel : pm_fe 74 1 = some (.iload_n 1, 1)) rfl).trans ?_
  refine (px_v1 (idx := 82) (m' := 72) (ci := 6) (by decide +kernel)).trans ((and_iff_right ⟨h1, (by simp [pm_wl_n, pm_wl_c, pm_w] : pm_wl [] ≤ 8)⟩).trans ?_)
  exact Iff.rfl
theorem b74_5 {d : Nat} {G : PG} {M T : PH} {K : PV → PS → Prop} {l0 l1 s0 : Int} : pm_Run d 74 5 [.inr (.inr (.inl l0)), .inl l1] [.inl s0] (G, M, T) K ↔ if pm_sg s0 = 0 then pm_Run d 74 18 [.inr (.inr (.inl l0)), .inl l1] [] (G, M, T) K else pm_Run d 74 8 [.inr (.inr (.inl l0)), .inl l1] [] (G, M, T) K := by
  refine (px_if_eq (off := 13) (tgt := 18) (by decide +kernel)).trans ?_
  exact Iff.rfl
theorem b74_8 {d : Nat} {G : PG} {M T : PH} {K : PV → PS → Prop} {l0 l1 : Int} (h1 : pm_ob G l0 6) (h2 : pm_ob G (T l0.toNat 0) 4) : pm_Run d 74 8 [.inr (.inr (.inl l0)), .inl l1] [] (G, M, T) K ↔ pm_Call d 51 [.inr (.inr (.inl (T l0.toNat 0)))] (G, M, T) (fun r S1 => pm_Run d 74 15 [.inr (.inr (.inl l0)), .inl l1] (pm_push r []) S1 K) := by
  refine (px_go (by decide +kernel : pm_fe 74 8 = some (.aload_n 0, 1)) rfl).trans ?_
  refine (px_get2 (idx := 12) (ci := 6) (k := 0) (by decide +kernel)).trans ((and_iff_right h1).trans ?_)
  refine (px_v0 (idx := 42) (m' := 51) (ci := 4) (by decide +kernel)).trans ((and_iff_right ⟨h2, (by simp [pm_wl_n, pm_wl_c, pm_w] : pm_wl [] ≤ 8)⟩).trans ?_)
  exact Iff.rfl
theorem b74_15 {d : Nat} {G : PG} {M T : PH} {K : PV → PS → Prop} {l0 l1 : Int} : pm_Run d 74 15 [.inr (.inr (.inl l0)), .inl l1] [] (G, M, T) K ↔ pm_Run d 74 22 [.inr (.inr (.inl l0)), .inl l1] [] (G, M, T) K := by
  refine (px_goto (off := 7) (tgt := 22) (by decide +kernel)).trans ?_
  exact Iff.rfl
theorem b74_18 {d : Nat} {G : PG} {M T : PH} {K : PV → PS → Prop} {l0 l1 : Int} (h1 : pm_ob G l0 6) : pm_Run d 74 18 [.inr (.inr (.inl l0)), .inl l1] [] (G, M, T) K ↔ pm_Call d 70 [.inr (.inr (.inl l0))] (G, M, T) (fun r S1 => pm_Run d 74 22 [.inr (.inr (.inl l0)), .inl l1] (pm_push r []) S1 K) := by
  refine (px_go (by decide +kernel : pm_fe 74 18 = some (.aload_n 0, 1)) rfl).trans ?_
  refine (px_v0 (idx := 48) (m' := 70) (ci := 6) (by decide +kernel)).trans ((and_iff_right ⟨h1, (by simp [pm_wl_n, pm_wl_c, pm_w] : pm_wl [] ≤ 8)⟩).trans ?_)
  exact Iff.rfl
theorem b74_22 {d : Nat} {G : PG} {M T : PH} {K : PV → PS → Prop} {l0 l1 : Int} : pm_Run d 74 22 [.inr (.inr (.inl l0)), .inl l1] [] (G, M, T) K ↔ K PU (G, M, T) := by
  refine (px_rv (by decide +kernel)).trans ?_
  exact Iff.rfl
-- X6_number number(II)I
theorem en75 {d : Nat} {a p0 p1 : Int} {S : PS} {K : PV → PS → Prop} : pm_Call (d + 1) 75 [.inr (.inr (.inl a)), .inl p0, .inl p1] S K ↔ pm_Run d 75 0 [.inr (.inr (.inl a)), .inl p0, .inl p1, PU] [] S K := pm_Call_s.trans (and_iff_right (show 3 ≤ pm_ml 75 from by decide +kernel))
theorem b75_0 {d : Nat} {G : PG} {M T : PH} {K : PV → PS → Prop} {l0 l1 l2 : Int} (h1 : pm_ob G l0 6) (h2 : pm_ob G (T l0.toNat 0) 4) : pm_Run d 75 0 [.inr (.inr (.inl l0)), .inl l1, .inl l2, PU] [] (G, M, T) K ↔ if pm_sg (M (T l0.toNat 0).toNat 4) = pm_sg 2 then pm_Run d 75 26 [.inr (.inr (.inl l0)), .inl l1, .inl l2, .inl (M (T l0.toNat 0).toNat 7)] [] (G, M, T) K else pm_Run d 75 19 [.inr (.inr (.inl l0)), .inl l1, .inl l2, .inl (M (T l0.toNat 0).toNat 7)] [] (G, M, T) K := by
  refine (px_go (by decide +kernel : pm_fe 75 0 = some (.aload_n 0, 1)) rfl).trans ?_
  refine (px_get2 (idx := 12) (ci := 6) (k := 0) (by decide +kernel)).trans ((and_iff_right h1).trans ?_)
  refine (px_get0 (idx := 75) (ci := 4) (k := 7) (by decide +kernel)).trans ((and_iff_right h2).trans ?_)
  refine (px_go (by decide +kernel : pm_fe 75 7 = some (.istore_n 3, 1)) rfl).trans ?_
  refine (px_go (by decide +kernel : pm_fe 75 8 = some (.aload_n 0, 1)) rfl).trans ?_
  refine (px_get2 (idx := 12) (ci := 6) (k := 0) (by decide +kernel)).trans ((and_iff_right h1).trans ?_)
  refine (px_get0 (idx := 45) (ci := 4) (k := 4) (by decide +kernel)).trans ((and_iff_right h2).trans ?_)
  refine (px_go (by decide +kernel : pm_fe 75 15 = some (.iconst 2, 1)) rfl).trans ?_
  refine (px_ic_eq (off := 10) (tgt := 26) (by decide +kernel)).trans ?_
  exact Iff.rfl
theorem b75_19 {d : Nat} {G : PG} {M T : PH} {K : PV → PS → Prop} {l0 l1 l2 l3 : Int} (h1 : pm_ob G l0 6) : pm_Run d 75 19 [.inr (.inr (.inl l0)), .inl l1, .inl l2, .inl l3] [] (G, M, T) K ↔ pm_Call d 70 [.inr (.inr (.inl l0))] (G, M, T) (fun r S1 => pm_Run d 75 23 [.inr (.inr (.inl l0)), .inl l1, .inl l2, .inl l3] (pm_push r []) S1 K) := by
  refine (px_go (by decide +kernel : pm_fe 75 19 = some (.aload_n 0, 1)) rfl).trans ?_
  refine (px_v0 (idx := 48) (m' := 70) (ci := 6) (by decide +kernel)).trans ((and_iff_right ⟨h1, (by simp [pm_wl_n, pm_wl_c, pm_w] : pm_wl [] ≤ 8)⟩).trans ?_)
  exact Iff.rfl
theorem b75_23 {d : Nat} {G : PG} {M T : PH} {K : PV → PS → Prop} {l0 l1 l2 l3 : Int} : pm_Run d 75 23 [.inr (.inr (.inl l0)), .inl l1, .inl l2, .inl l3] [] (G, M, T) K ↔ pm_Run d 75 60 [.inr (.inr (.inl l0)), .inl l1, .inl l2, .inl l3] [] (G, M, T) K := by
  refine (px_goto (off := 37) (tgt := 60) (by decide +kernel)).trans ?_
  exact Iff.rfl
theorem b75_26 {d : Nat} {G : PG} {M T : PH} {K : PV → PS → Prop} {l0 l1 l2 l3 : Int} : pm_Run d 75 26 [.inr (.inr (.inl l0)), .inl l1, .inl l2, .inl l3] [] (G, M, T) K ↔ if pm_sg l3 < pm_sg l1 then pm_Run d 75 36 [.inr (.inr (.inl l0)), .inl l1, .inl l2, .inl l3] [] (G, M, T) K else pm_Run d 75 31 [.inr (.inr (.inl l0)), .inl l1, .inl l2, .inl l3] [] (G, M, T) K := by
  refine (px_go (by decide +kernel : pm_fe 75 26 = some (.iload_n 3, 1)) rfl).trans ?_
  refine (px_go (by decide +kernel : pm_fe 75 27 = some (.iload_n 1, 1)) rfl).trans ?_
  refine (px_ic_lt (off := 8) (tgt := 36) (by decide +kernel)).trans ?_
  exact Iff.rfl
theorem b75_31 {d : Nat} {G : PG} {M T : PH} {K : PV → PS → Prop} {l0 l1 l2 l3 : Int} : pm_Run d 75 31 [.inr (.inr (.inl l0)), .inl l1, .inl l2, .inl l3] [] (G, M, T) K ↔ if pm_sg l3 ≤ pm_sg l2 then pm_Run d 75 51 [.inr (.inr (.inl l0)), .inl l1, .inl l2, .inl l3] [] (G, M, T) K else pm_Run d 75 36 [.inr (.inr (.inl l0)), .inl l1, .inl l2, .inl l3] [] (G, M, T) K := by
  refine (px_go (by decide +kernel : pm_fe 75 31 = some (.iload_n 3, 1)) rfl).trans ?_
  refine (px_go (by decide +kernel : pm_fe 75 32 = some (.iload_n 2, 1)) rfl).trans ?_
  refine (px_ic_le (off := 18) (tgt := 51) (by decide +kernel)).trans ?_
  exact Iff.rfl
theorem b75_36 {d : Nat} {G : PG} {M T : PH} {K : PV → PS → Prop} {l0 l1 l2 l3 : Int} (h1 : pm_ob G l0 6) (h2 : pm_ob G (T l0.toNat 0) 4) : pm_Run d 75 36 [.inr (.inr (.inl l0)), .inl l1, .inl l2, .inl l3] [] (G, M, T) K ↔ pm_Call d 69 [.inr (.inr (.inl l0)), .inl 4, .inl (M (T l0.toNat 0).toNat 5)] (G, M, T) (fun r S1 => pm_Run d 75 48 [.inr (.inr (.inl l0)), .inl l1, .inl l2, .inl l3] (pm_push r []) S1 K) := by
  refine (px_go (by decide +kernel : pm_fe 75 36 = some (.aload_n 0, 1)) rfl).trans ?_
  refine (px_go (by decide +kernel : pm_fe 75 37 = some (.iconst 4, 1)) rfl).trans ?_
  refine (px_go (by decide +kernel : pm_fe 75 38 = some (.aload_n 0, 1)) rfl).trans ?_
  refine (px_get2 (idx := 12) (ci := 6) (k := 0) (by decide +kernel)).trans ((and_iff_right h1).trans ?_)
  refine (px_get0 (idx := 51) (ci := 4) (k := 5) (by decide +kernel)).trans ((and_iff_right h2).trans ?_)
  refine (px_v2 (idx := 54) (m' := 69) (ci := 6) (by decide +kernel)).trans ((and_iff_right ⟨h1, (by simp [pm_wl_n, pm_wl_c, pm_w] : pm_wl [] ≤ 8)⟩).trans ?_)
  exact Iff.rfl
theorem b75_48 {d : Nat} {G : PG} {M T : PH} {K : PV → PS → Prop} {l0 l1 l2 l3 : Int} : pm_Run d 75 48 [.inr (.inr (.inl l0)), .inl l1, .inl l2, .inl l3] [] (G, M, T) K ↔ pm_Run d 75 60 [.inr (.inr (.inl l0)), .inl l1, .inl l2, .inl l3] [] (G, M, T) K := by
  refine (px_goto (off := 12) (tgt := 60) (by decide +kernel)).trans ?_
  exact Iff.rfl
theorem b75_51 {d : Nat} {G : PG} {M T : PH} {K : PV → PS → Prop} {l0 l1 l2 l3 : Int} (h1 : pm_ob G l0 6) (h2 : pm_ob G (T l0.toNat 0) 4) : pm_Run d 75 51 [.inr (.inr (.inl l0)), .inl l1, .inl l2, .inl l3] [] (G, M, T) K ↔ pm_Call d 51 [.inr (.inr (.inl (T l0.toNat 0)))] (G, M, T) (fun r S1 => pm_Run d 75 58 [.inr (.inr (.inl l0)), .inl l1, .inl l2, .inl l3] (pm_push r []) S1 K) := by
  refine (px_go (by decide +kernel : pm_fe 75 51 = some (.aload_n 0, 1)) rfl).trans ?_
  refine (px_get2 (idx := 12) (ci := 6) (k := 0) (by decide +kernel)).trans ((and_iff_right h1).trans ?_)
  refine (px_v0 (idx := 42) (m' := 51) (ci := 4) (by decide +kernel)).trans ((and_iff_right ⟨h2, (by simp [pm_wl_n, pm_wl_c, pm_w] : pm_wl [] ≤ 8)⟩).trans ?_)
  exact Iff.rfl
theorem b75_58 {d : Nat} {G : PG} {M T : PH} {K : PV → PS → Prop} {l0 l1 l2 l3 : Int} : pm_Run d 75 58 [.inr (.inr (.inl l0)), .inl l1, .inl l2, .inl l3] [] (G, M, T) K ↔ K (.inl l3) (G, M, T) := by
  refine (px_go (by decide +kernel : pm_fe 75 58 = some (.iload_n 3, 1)) rfl).trans ?_
  refine (px_ri (by decide +kernel)).trans ?_
  exact Iff.rfl
theorem b75_60 {d : Nat} {G : PG} {M T : PH} {K : PV → PS → Prop} {l0 l1 l2 l3 : Int} : pm_Run d 75 60 [.inr (.inr (.inl l0)), .inl l1, .inl l2, .inl l3] [] (G, M, T) K ↔ K (.inl l1) (G, M, T) := by
  refine (px_go (by decide +kernel : pm_fe 75 60 = some (.iload_n 1, 1)) rfl).trans ?_
  refine (px_ri (by decide +kernel)).trans ?_
  exact Iff.rfl
-- X6_isName isName()Z
theorem en76 {d : Nat} {a : Int} {S : PS} {K : PV → PS → Prop} : pm_Call (d + 1) 76 [.inr (.inr (.inl a))] S K ↔ pm_Run d 76 0 [.inr (.inr (.inl a))] [] S K := pm_Call_s.trans (and_iff_right (show 1 ≤ pm_ml 76 from by decide +kernel))
theorem b76_0 {d : Nat} {G : PG} {M T : PH} {K : PV → PS → Prop} {l0 : Int} (h1 : pm_ob G l0 6) (h2 : pm_ob G (T l0.toNat 0) 4) : pm_Run d 76 0 [.inr (.inr (.inl l0))] [] (G, M, T) K ↔ if pm_sg (M (T l0.toNat 0).toNat 4) ≠ pm_sg 1 then pm_Run d 76 26 [.inr (.inr (.inl l0))] [] (G, M, T) K else pm_Run d 76 11 [.inr (.inr (.inl l0))] [] (G, M, T) K := by
  refine (px_go (by decide +kernel : pm_fe 76 0 = some (.aload_n 0, 1)) rfl).trans ?_
  refine (px_get2 (idx := 12) (ci := 6) (k := 0) (by decide +kernel)).trans ((and_iff_right h1).trans ?_)
  refine (px_get0 (idx := 45) (ci := 4) (k := 4) (by decide +kernel)).trans ((and_iff_right h2).trans ?_)
  refine (px_go (by decide +kernel : pm_fe 76 7 = some (.iconst 1, 1)) rfl).trans ?_
  refine (px_ic_ne (off := 18) (tgt := 26) (by decide +kernel)).trans ?_
  exact Iff.rfl
theorem b76_11 {d : Nat} {G : PG} {M T : PH} {K : PV → PS → Prop} {l0 : Int} (h1 : pm_ob G l0 6) (h2 : pm_ob G (T l0.toNat 0) 4) : pm_Run d 76 11 [.inr (.inr (.inl l0))] [] (G, M, T) K ↔ if pm_sg (M (T l0.toNat 0).toNat 8) ≠ pm_sg (-1) then pm_Run d 76 26 [.inr (.inr (.inl l0))] [] (G, M, T) K else pm_Run d 76 22 [.inr (.inr (.inl l0))] [] (G, M, T) K := by
  refine (px_go (by decide +kernel : pm_fe 76 11 = some (.aload_n 0, 1)) rfl).trans ?_
  refine (px_get2 (idx := 12) (ci := 6) (k := 0) (by decide +kernel)).trans ((and_iff_right h1).trans ?_)
  refine (px_get0 (idx := 69) (ci := 4) (k := 8) (by decide +kernel)).trans ((and_iff_right h2).trans ?_)
  refine (px_go (by decide +kernel : pm_fe 76 18 = some (.iconst (-1), 1)) rfl).trans ?_
  refine (px_ic_ne (off := 7) (tgt := 26) (by decide +kernel)).trans ?_
  exact Iff.rfl
theorem b76_22 {d : Nat} {G : PG} {M T : PH} {K : PV → PS → Prop} {l0 : Int} : pm_Run d 76 22 [.inr (.inr (.inl l0))] [] (G, M, T) K ↔ pm_Run d 76 27 [.inr (.inr (.inl l0))] [.inl 1] (G, M, T) K := by
  refine (px_go (by decide +kernel : pm_fe 76 22 = some (.iconst 1, 1)) rfl).trans ?_
  refine (px_goto (off := 4) (tgt := 27) (by decide +kernel)).trans ?_
  exact Iff.rfl
theorem b76_26 {d : Nat} {G : PG} {M T : PH} {K : PV → PS → Prop} {l0 : Int} : pm_Run d 76 26 [.inr (.inr (.inl l0))] [] (G, M, T) K ↔ pm_Run d 76 27 [.inr (.inr (.inl l0))] [.inl 0] (G, M, T) K := by
  refine (px_go (by decide +kernel : pm_fe 76 26 = some (.iconst 0, 1)) rfl).trans ?_
  exact Iff.rfl
theorem b76_27 {d : Nat} {G : PG} {M T : PH} {K : PV → PS → Prop} {l0 s0 : Int} (h1 : s0 = 0 ∨ s0 = 1) : pm_Run d 76 27 [.inr (.inr (.inl l0))] [.inl s0] (G, M, T) K ↔ K (.inl s0) (G, M, T) := by
  refine (px_rz (by decide +kernel)).trans ((and_iff_right h1).trans ?_)
  exact Iff.rfl
-- X6_newName newName()I
theorem en77 {d : Nat} {a : Int} {S : PS} {K : PV → PS → Prop} : pm_Call (d + 1) 77 [.inr (.inr (.inl a))] S K ↔ pm_Run d 77 0 [.inr (.inr (.inl a)), PU] [] S K := pm_Call_s.trans (and_iff_right (show 1 ≤ pm_ml 77 from by decide +kernel))
theorem b77_0 {d : Nat} {G : PG} {M T : PH} {K : PV → PS → Prop} {l0 : Int} (h1 : pm_ob G l0 6) (h2 : pm_ob G (T l0.toNat 0) 4) : pm_Run d 77 0 [.inr (.inr (.inl l0)), PU] [] (G, M, T) K ↔ pm_Call d 76 [.inr (.inr (.inl l0))] (G, M, T) (fun r S1 => pm_Run d 77 12 [.inr (.inr (.inl l0)), .inl (M (T l0.toNat 0).toNat 7)] (pm_push r []) S1 K) := by
  refine (px_go (by decide +kernel : pm_fe 77 0 = some (.aload_n 0, 1)) rfl).trans ?_
  refine (px_get2 (idx := 12) (ci := 6) (k := 0) (by decide +kernel)).trans ((and_iff_right h1).trans ?_)
  refine (px_get0 (idx := 75) (ci := 4) (k := 7) (by decide +kernel)).trans ((and_iff_right h2).trans ?_)
  refine (px_go (by decide +kernel : pm_fe 77 7 = some (.istore_n 1, 1)) rfl).trans ?_
  refine (px_go (by decide +kernel : pm_fe 77 8 = some (.aload_n 0, 1)) rfl).trans ?_
  refine (px_v0 (idx := 85) (m' := 76) (ci := 6) (by decide +kernel)).trans ((and_iff_right ⟨h1, (by simp [pm_wl_n, pm_wl_c, pm_w] : pm_wl [] ≤ 8)⟩).trans ?_)
  exact Iff.rfl
theorem b77_12 {d : Nat} {G : PG} {M T : PH} {K : PV → PS → Prop} {l0 l1 s0 : Int} : pm_Run d 77 12 [.inr (.inr (.inl l0)), .inl l1] [.inl s0] (G, M, T) K ↔ if pm_sg s0 ≠ 0 then pm_Run d 77 22 [.inr (.inr (.inl l0)), .inl l1] [] (G, M, T) K else pm_Run d 77 15 [.inr (.inr (.inl l0)), .inl l1] [] (G, M, T) K := by
  refine (px_if_ne (off := 10) (tgt := 22) (by decide +kernel)).trans ?_
  exact Iff.rfl
theorem b77_15 {d : Nat} {G : PG} {M T : PH} {K : PV → PS → Prop} {l0 l1 : Int} (h1 : pm_ob G l0 6) : pm_Run d 77 15 [.inr (.inr (.inl l0)), .inl l1] [] (G, M, T) K ↔ pm_Call d 70 [.inr (.inr (.inl l0))] (G, M, T) (fun r S1 => pm_Run d 77 19 [.inr (.inr (.inl l0)), .inl l1] (pm_push r []) S1 K) := by
  refine (px_go (by decide +kernel : pm_fe 77 15 = some (.aload_n 0, 1)) rfl).trans ?_
  refine (px_v0 (idx := 48) (m' := 70) (ci := 6) (by decide +kernel)).trans ((and_iff_right ⟨h1, (by simp [pm_wl_n, pm_wl_c, pm_w] : pm_wl [] ≤ 8)⟩).trans ?_)
  exact Iff.rfl
theorem b77_19 {d : Nat} {G : PG} {M T : PH} {K : PV → PS → Prop} {l0 l1 : Int} : pm_Run d 77 19 [.inr (.inr (.inl l0)), .inl l1] [] (G, M, T) K ↔ pm_Run d 77 68 [.inr (.inr (.inl l0)), .inl l1] [] (G, M, T) K := by
  refine (px_goto (off := 49) (tgt := 68) (by decide +kernel)).trans ?_
  exact Iff.rfl
theorem b77_22 {d : Nat} {G : PG} {M T : PH} {K : PV → PS → Prop} {l0 l1 : Int} (h1 : pm_ob G l0 6) (h2 : pm_ob G (T l0.toNat 1) 1) : pm_Run d 77 22 [.inr (.inr (.inl l0)), .inl l1] [] (G, M, T) K ↔ pm_Call d 14 [.inr (.inr (.inl (T l0.toNat 1))), .inl l1] (G, M, T) (fun r S1 => pm_Run d 77 30 [.inr (.inr (.inl l0)), .inl l1] (pm_push r []) S1 K) := by
  refine (px_go (by decide +kernel : pm_fe 77 22 = some (.aload_n 0, 1)) rfl).trans ?_
  refine (px_get2 (idx := 21) (ci := 6) (k := 1) (by decide +kernel)).trans ((and_iff_right h1).trans ?_)
  refine (px_go (by decide +kernel : pm_fe 77 26 = some (.iload_n 1, 1)) rfl).trans ?_
  refine (px_v1 (idx := 89) (m' := 14) (ci := 1) (by decide +kernel)).trans ((and_iff_right ⟨h2, (by simp [pm_wl_n, pm_wl_c, pm_w] : pm_wl [] ≤ 8)⟩).trans ?_)
  exact Iff.rfl
theorem b77_30 {d : Nat} {G : PG} {M T : PH} {K : PV → PS → Prop} {l0 l1 s0 : Int} : pm_Run d 77 30 [.inr (.inr (.inl l0)), .inl l1] [.inl s0] (G, M, T) K ↔ if pm_sg s0 ≠ pm_sg (-1) then pm_Run d 77 46 [.inr (.inr (.inl l0)), .inl l1] [] (G, M, T) K else pm_Run d 77 34 [.inr (.inr (.inl l0)), .inl l1] [] (G, M, T) K := by
  refine (px_go (by decide +kernel : pm_fe 77 30 = some (.iconst (-1), 1)) rfl).trans ?_
  refine (px_ic_ne (off := 15) (tgt := 46) (by decide +kernel)).trans ?_
  exact Iff.rfl
theorem b77_34 {d : Nat} {G : PG} {M T : PH} {K : PV → PS → Prop} {l0 l1 : Int} (h1 : pm_ob G l0 6) (h2 : pm_ob G (T l0.toNat 1) 1) : pm_Run d 77 34 [.inr (.inr (.inl l0)), .inl l1] [] (G, M, T) K ↔ pm_Call d 15 [.inr (.inr (.inl (T l0.toNat 1))), .inl l1] (G, M, T) (fun r S1 => pm_Run d 77 42 [.inr (.inr (.inl l0)), .inl l1] (pm_push r []) S1 K) := by
  refine (px_go (by decide +kernel : pm_fe 77 34 = some (.aload_n 0, 1)) rfl).trans ?_
  refine (px_get2 (idx := 21) (ci := 6) (k := 1) (by decide +kernel)).trans ((and_iff_right h1).trans ?_)
  refine (px_go (by decide +kernel : pm_fe 77 38 = some (.iload_n 1, 1)) rfl).trans ?_
  refine (px_v1 (idx := 93) (m' := 15) (ci := 1) (by decide +kernel)).trans ((and_iff_right ⟨h2, (by simp [pm_wl_n, pm_wl_c, pm_w] : pm_wl [] ≤ 8)⟩).trans ?_)
  exact Iff.rfl
theorem b77_42 {d : Nat} {G : PG} {M T : PH} {K : PV → PS → Prop} {l0 l1 s0 : Int} : pm_Run d 77 42 [.inr (.inr (.inl l0)), .inl l1] [.inl s0] (G, M, T) K ↔ if pm_sg s0 = pm_sg (-1) then pm_Run d 77 61 [.inr (.inr (.inl l0)), .inl l1] [] (G, M, T) K else pm_Run d 77 46 [.inr (.inr (.inl l0)), .inl l1] [] (G, M, T) K := by
  refine (px_go (by decide +kernel : pm_fe 77 42 = some (.iconst (-1), 1)) rfl).trans ?_
  refine (px_ic_eq (off := 18) (tgt := 61) (by decide +kernel)).trans ?_
  exact Iff.rfl
theorem b77_46 {d : Nat} {G : PG} {M T : PH} {K : PV → PS → Prop} {l0 l1 : Int} (h1 : pm_ob G l0 6) (h2 : pm_ob G (T l0.toNat 0) 4) : pm_Run d 77 46 [.inr (.inr (.inl l0)), .inl l1] [] (G, M, T) K ↔ pm_Call d 69 [.inr (.inr (.inl l0)), .inl 2, .inl (M (T l0.toNat 0).toNat 5)] (G, M, T) (fun r S1 => pm_Run d 77 58 [.inr (.inr (.inl l0)), .inl l1] (pm_push r []) S1 K) := by
  refine (px_go (by decide +kernel : pm_fe 77 46 = some (.aload_n 0, 1)) rfl).trans ?_
  refine (px_go (by decide +kernel : pm_fe 77 47 = some (.iconst 2, 1)) rfl).trans ?_
  refine (px_go (by decide +kernel : pm_fe 77 48 = some (.aload_n 0, 1)) rfl).trans ?_
  refine (px_get2 (idx := 12) (ci := 6) (k := 0) (by decide +kernel)).trans ((and_iff_right h1).trans ?_)
  refine (px_get0 (idx := 51) (ci := 4) (k := 5) (by decide +kernel)).trans ((and_iff_right h2).trans ?_)
  refine (px_v2 (idx := 54) (m' := 69) (ci := 6) (by decide +kernel)).trans ((and_iff_right ⟨h1, (by simp [pm_wl_n, pm_wl_c, pm_w] : pm_wl [] ≤ 8)⟩).trans ?_)
  exact Iff.rfl
theorem b77_58 {d : Nat} {G : PG} {M T : PH} {K : PV → PS → Prop} {l0 l1 : Int} : pm_Run d 77 58 [.inr (.inr (.inl l0)), .inl l1] [] (G, M, T) K ↔ pm_Run d 77 68 [.inr (.inr (.inl l0)), .inl l1] [] (G, M, T) K := by
  refine (px_goto (off := 10) (tgt := 68) (by decide +kernel)).trans ?_
  exact Iff.rfl
theorem b77_61 {d : Nat} {G : PG} {M T : PH} {K : PV → PS → Prop} {l0 l1 : Int} (h1 : pm_ob G l0 6) (h2 : pm_ob G (T l0.toNat 0) 4) : pm_Run d 77 61 [.inr (.inr (.inl l0)), .inl l1] [] (G, M, T) K ↔ pm_Call d 51 [.inr (.inr (.inl (T l0.toNat 0)))] (G, M, T) (fun r S1 => pm_Run d 77 68 [.inr (.inr (.inl l0)), .inl l1] (pm_push r []) S1 K) := by
  refine (px_go (by decide +kernel : pm_fe 77 61 = some (.aload_n 0, 1)) rfl).trans ?_
  refine (px_get2 (idx := 12) (ci := 6) (k := 0) (by decide +kernel)).trans ((and_iff_right h1).trans ?_)
  refine (px_v0 (idx := 42) (m' := 51) (ci := 4) (by decide +kernel)).trans ((and_iff_right ⟨h2, (by simp [pm_wl_n, pm_wl_c, pm_w] : pm_wl [] ≤ 8)⟩).trans ?_)
  exact Iff.rfl
theorem b77_68 {d : Nat} {G : PG} {M T : PH} {K : PV → PS → Prop} {l0 l1 : Int} : pm_Run d 77 68 [.inr (.inr (.inl l0)), .inl l1] [] (G, M, T) K ↔ K (.inl l1) (G, M, T) := by
  refine (px_go (by decide +kernel : pm_fe 77 68 = some (.iload_n 1, 1)) rfl).trans ?_
  refine (px_ri (by decide +kernel)).trans ?_
  exact Iff.rfl
-- X6_moonName moonName()I
theorem en78 {d : Nat} {a : Int} {S : PS} {K : PV → PS → Prop} : pm_Call (d + 1) 78 [.inr (.inr (.inl a))] S K ↔ pm_Run d 78 0 [.inr (.inr (.inl a)), PU] [] S K := pm_Call_s.trans (and_iff_right (show 1 ≤ pm_ml 78 from by decide +kernel))
theorem b78_0 {d : Nat} {G : PG} {M T : PH} {K : PV → PS → Prop} {l0 : Int} (h1 : pm_ob G l0 6) (h2 : pm_ob G (T l0.toNat 0) 4) (h3 : pm_ob G (T l0.toNat 1) 1) : pm_Run d 78 0 [.inr (.inr (.inl l0)), PU] [] (G, M, T) K ↔ pm_Call d 14 [.inr (.inr (.inl (T l0.toNat 1))), .inl (M (T l0.toNat 0).toNat 7)] (G, M, T) (fun r S1 => pm_Run d 78 14 [.inr (.inr (.inl l0)), PU] (pm_push r []) S1 K) := by
  refine (px_go (by decide +kernel : pm_fe 78 0 = some (.aload_n 0, 1)) rfl).trans ?_
  refine (px_get2 (idx := 21) (ci := 6) (k := 1) (by decide +kernel)).trans ((and_iff_right h1).trans ?_)
  refine (px_go (by decide +kernel : pm_fe 78 4 = some (.aload_n 0, 1)) rfl).trans ?_
  refine (px_get2 (idx := 12) (ci := 6) (k := 0) (by decide +kernel)).trans ((and_iff_right h1).trans ?_)
  refine (px_get0 (idx := 75) (ci := 4) (k := 7) (by decide +kernel)).trans ((and_iff_right h2).trans ?_)
  refine (px_v1 (idx := 89) (m' := 14) (ci := 1) (by decide +kernel)).trans ((and_iff_right ⟨h3, (by simp [pm_wl_n, pm_wl_c, pm_w] : pm_wl [] ≤ 8)⟩).trans ?_)
  exact Iff.rfl
theorem b78_14 {d : Nat} {G : PG} {M T : PH} {K : PV → PS → Prop} {l0 s0 : Int} : pm_Run d 78 14 [.inr (.inr (.inl l0)), PU] [.inl s0] (G, M, T) K ↔ if pm_sg s0 = pm_sg (-1) then pm_Run d 78 25 [.inr (.inr (.inl l0)), .inl s0] [.inr (.inr (.inl l0))] (G, M, T) K else pm_Run d 78 21 [.inr (.inr (.inl l0)), .inl s0] [.inr (.inr (.inl l0))] (G, M, T) K := by
  refine (px_go (by decide +kernel : pm_fe 78 14 = some (.istore_n 1, 1)) rfl).trans ?_
  refine (px_go (by decide +kernel : pm_fe 78 15 = some (.aload_n 0, 1)) rfl).trans ?_
  refine (px_go (by decide +kernel : pm_fe 78 16 = some (.iload_n 1, 1)) rfl).trans ?_
  refine (px_go (by decide +kernel : pm_fe 78 17 = some (.iconst (-1), 1)) rfl).trans ?_
  refine (px_ic_eq (off := 7) (tgt := 25) (by decide +kernel)).trans ?_
  exact Iff.rfl
theorem b78_21 {d : Nat} {G : PG} {M T : PH} {K : PV → PS → Prop} {l0 l1 s0 : Int} : pm_Run d 78 21 [.inr (.inr (.inl l0)), .inl l1] [.inr (.inr (.inl s0))] (G, M, T) K ↔ pm_Run d 78 26 [.inr (.inr (.inl l0)), .inl l1] [.inl 1, .inr (.inr (.inl s0))] (G, M, T) K := by
  refine (px_go (by decide +kernel : pm_fe 78 21 = some (.iconst 1, 1)) rfl).trans ?_
  refine (px_goto (off := 4) (tgt := 26) (by decide +kernel)).trans ?_
  exact Iff.rfl
theorem b78_25 {d : Nat} {G : PG} {M T : PH} {K : PV → PS → Prop} {l0 l1 s0 : Int} : pm_Run d 78 25 [.inr (.inr (.inl l0)), .inl l1] [.inr (.inr (.inl s0))] (G, M, T) K ↔ pm_Run d 78 26 [.inr (.inr (.inl l0)), .inl l1] [.inl 0, .inr (.inr (.inl s0))] (G, M, T) K := by
  refine (px_go (by decide +kernel : pm_fe 78 25 = some (.iconst 0, 1)) rfl).trans ?_
  exact Iff.rfl
theorem b78_26 {d : Nat} {G : PG} {M T : PH} {K : PV → PS → Prop} {l0 l1 s0 s1 : Int} (h1 : pm_ob G s1 6) : pm_Run d 78 26 [.inr (.inr (.inl l0)), .inl l1] [.inl s0, .inr (.inr (.inl s1))] (G, M, T) K ↔ pm_Call d 80 [.inr (.inr (.inl s1)), .inl s0] (G, M, T) (fun r S1 => pm_Run d 78 29 [.inr (.inr (.inl l0)), .inl l1] (pm_push r []) S1 K) := by
  refine (px_v1 (idx := 96) (m' := 80) (ci := 6) (by decide +kernel)).trans ((and_iff_right ⟨h1, (by simp [pm_wl_n, pm_wl_c, pm_w] : pm_wl [] ≤ 8)⟩).trans ?_)
  exact Iff.rfl
theorem b78_29 {d : Nat} {G : PG} {M T : PH} {K : PV → PS → Prop} {l0 l1 : Int} : pm_Run d 78 29 [.inr (.inr (.inl l0)), .inl l1] [] (G, M, T) K ↔ K (.inl l1) (G, M, T) := by
  refine (px_go (by decide +kernel : pm_fe 78 29 = some (.iload_n 1, 1)) rfl).trans ?_
  refine (px_ri (by decide +kernel)).trans ?_
  exact Iff.rfl
-- X6_harborName harborName(I)I
theorem en79 {d : Nat} {a p0 : Int} {S : PS} {K : PV → PS → Prop} : pm_Call (d + 1) 79 [.inr (.inr (.inl a)), .inl p0] S K ↔ pm_Run d 79 0 [.inr (.inr (.inl a)), .inl p0, PU] [] S K := pm_Call_s.trans (and_iff_right (show 2 ≤ pm_ml 79 from by decide +kernel))
theorem b79_0 {d : Nat} {G : PG} {M T : PH} {K : PV → PS → Prop} {l0 l1 : Int} (h1 : pm_ob G l0 6) (h2 : pm_ob G (T l0.toNat 0) 4) (h3 : pm_ob G (T l0.toNat 1) 1) : pm_Run d 79 0 [.inr (.inr (.inl l0)), .inl l1, PU] [] (G, M, T) K ↔ pm_Call d 15 [.inr (.inr (.inl (T l0.toNat 1))), .inl (M (T l0.toNat 0).toNat 7)] (G, M, T) (fun r S1 => pm_Run d 79 14 [.inr (.inr (.inl l0)), .inl l1, PU] (pm_push r []) S1 K) := by
  refine (px_go (by decide +kernel : pm_fe 79 0 = some (.aload_n 0, 1)) rfl).trans ?_
  refine (px_get2 (idx := 21) (ci := 6) (k := 1) (by decide +kernel)).trans ((and_iff_right h1).trans ?_)
  refine (px_go (by decide +kernel : pm_fe 79 4 = some (.aload_n 0, 1)) rfl).trans ?_
  refine (px_get2 (idx := 12) (ci := 6) (k := 0) (by decide +kernel)).trans ((and_iff_right h1).trans ?_)
  refine (px_get0 (idx := 75) (ci := 4) (k := 7) (by decide +kernel)).trans ((and_iff_right h2).trans ?_)
  refine (px_v1 (idx := 93) (m' := 15) (ci := 1) (by decide +kernel)).trans ((and_iff_right ⟨h3, (by simp [pm_wl_n, pm_wl_c, pm_w] : pm_wl [] ≤ 8)⟩).trans ?_)
  exact Iff.rfl
theorem b79_14 {d : Nat} {G : PG} {M T : PH} {K : PV → PS → Prop} {l0 l1 s0 : Int} : pm_Run d 79 14 [.inr (.inr (.inl l0)), .inl l1, PU] [.inl s0] (G, M, T) K ↔ if pm_sg s0 = pm_sg (-1) then pm_Run d 79 30 [.inr (.inr (.inl l0)), .inl l1, .inl s0] [.inr (.inr (.inl l0))] (G, M, T) K else pm_Run d 79 21 [.inr (.inr (.inl l0)), .inl l1, .inl s0] [.inr (.inr (.inl l0))] (G, M, T) K := by
  refine (px_go (by decide +kernel : pm_fe 79 14 = some (.istore_n 2, 1)) rfl).trans ?_
  refine (px_go (by decide +kernel : pm_fe 79 15 = some (.aload_n 0, 1)) rfl).trans ?_
  refine (px_go (by decide +kernel : pm_fe 79 16 = some (.iload_n 2, 1)) rfl).trans ?_
  refine (px_go (by decide +kernel : pm_fe 79 17 = some (.iconst (-1), 1)) rfl).trans ?_
  refine (px_ic_eq (off := 12) (tgt := 30) (by decide +kernel)).trans ?_
  exact Iff.rfl
theorem b79_21 {d : Nat} {G : PG} {M T : PH} {K : PV → PS → Prop} {l0 l1 l2 s0 : Int} : pm_Run d 79 21 [.inr (.inr (.inl l0)), .inl l1, .inl l2] [.inr (.inr (.inl s0))] (G, M, T) K ↔ if pm_sg l2 = pm_sg l1 then pm_Run d 79 30 [.inr (.inr (.inl l0)), .inl l1, .inl l2] [.inr (.inr (.inl s0))] (G, M, T) K else pm_Run d 79 26 [.inr (.inr (.inl l0)), .inl l1, .inl l2] [.inr (.inr (.inl s0))] (G, M, T) K := by
  refine (px_go (by decide +kernel : pm_fe 79 21 = some (.iload_n 2, 1)) rfl).trans ?_
  refine (px_go (by decide +kernel : pm_fe 79 22 = some (.iload_n 1, 1)) rfl).trans ?_
  refine (px_ic_eq (off := 7) (tgt := 30) (by decide +kernel)).trans ?_
  exact Iff.rfl
theorem b79_26 {d : Nat} {G : PG} {M T : PH} {K : PV → PS → Prop} {l0 l1 l2 s0 : Int} : pm_Run d 79 26 [.inr (.inr (.inl l0)), .inl l1, .inl l2] [.inr (.inr (.inl s0))] (G, M, T) K ↔ pm_Run d 79 31 [.inr (.inr (.inl l0)), .inl l1, .inl l2] [.inl 1, .inr (.inr (.inl s0))] (G, M, T) K := by
  refine (px_go (by decide +kernel : pm_fe 79 26 = some (.iconst 1, 1)) rfl).trans ?_
  refine (px_goto (off := 4) (tgt := 31) (by decide +kernel)).trans ?_
  exact Iff.rfl
theorem b79_30 {d : Nat} {G : PG} {M T : PH} {K : PV → PS → Prop} {l0 l1 l2 s0 : Int} : pm_Run d 79 30 [.inr (.inr (.inl l0)), .inl l1, .inl l2] [.inr (.inr (.inl s0))] (G, M, T) K ↔ pm_Run d 79 31 [.inr (.inr (.inl l0)), .inl l1, .inl l2] [.inl 0, .inr (.inr (.inl s0))] (G, M, T) K := by
  refine (px_go (by decide +kernel : pm_fe 79 30 = some (.iconst 0, 1)) rfl).trans ?_
  exact Iff.rfl
theorem b79_31 {d : Nat} {G : PG} {M T : PH} {K : PV → PS → Prop} {l0 l1 l2 s0 s1 : Int} (h1 : pm_ob G s1 6) : pm_Run d 79 31 [.inr (.inr (.inl l0)), .inl l1, .inl l2] [.inl s0, .inr (.inr (.inl s1))] (G, M, T) K ↔ pm_Call d 80 [.inr (.inr (.inl s1)), .inl s0] (G, M, T) (fun r S1 => pm_Run d 79 34 [.inr (.inr (.inl l0)), .inl l1, .inl l2] (pm_push r []) S1 K) := by
  refine (px_v1 (idx := 96) (m' := 80) (ci := 6) (by decide +kernel)).trans ((and_iff_right ⟨h1, (by simp [pm_wl_n, pm_wl_c, pm_w] : pm_wl [] ≤ 8)⟩).trans ?_)
  exact Iff.rfl
theorem b79_34 {d : Nat} {G : PG} {M T : PH} {K : PV → PS → Prop} {l0 l1 l2 : Int} : pm_Run d 79 34 [.inr (.inr (.inl l0)), .inl l1, .inl l2] [] (G, M, T) K ↔ K (.inl l2) (G, M, T) := by
  refine (px_go (by decide +kernel : pm_fe 79 34 = some (.iload_n 2, 1)) rfl).trans ?_
  refine (px_ri (by decide +kernel)).trans ?_
  exact Iff.rfl
-- X6_knownName knownName(Z)V
theorem en80 {d : Nat} {a p0 : Int} {S : PS} {K : PV → PS → Prop} : pm_Call (d + 1) 80 [.inr (.inr (.inl a)), .inl p0] S K ↔ pm_Run d 80 0 [.inr (.inr (.inl a)), .inl p0] [] S K := pm_Call_s.trans (and_iff_right (show 2 ≤ pm_ml 80 from by decide +kernel))
theorem b80_0 {d : Nat} {G : PG} {M T : PH} {K : PV → PS → Prop} {l0 l1 : Int} (h1 : pm_ob G l0 6) : pm_Run d 80 0 [.inr (.inr (.inl l0)), .inl l1] [] (G, M, T) K ↔ pm_Call d 76 [.inr (.inr (.inl l0))] (G, M, T) (fun r S1 => pm_Run d 80 4 [.inr (.inr (.inl l0)), .inl l1] (pm_push r []) S1 K) := by
  refine (px_go (by decide +kernel : pm_fe 80 0 = some (.aload_n 0, 1)) rfl).trans ?_
  refine (px_v0 (idx := 85) (m' := 76) (ci := 6) (by decide +kernel)).trans ((and_iff_right ⟨h1, (by simp [pm_wl_n, pm_wl_c, pm_w] : pm_wl [] ≤ 8)⟩).trans ?_)
  exact Iff.rfl
theorem b80_4 {d : Nat} {G : PG} {M T : PH} {K : PV → PS → Prop} {l0 l1 s0 : Int} : pm_Run d 80 4 [.inr (.inr (.inl l0)), .inl l1] [.inl s0] (G, M, T) K ↔ if pm_sg s0 ≠ 0 then pm_Run d 80 14 [.inr (.inr (.inl l0)), .inl l1] [] (G, M, T) K else pm_Run d 80 7 [.inr (.inr (.inl l0)), .inl l1] [] (G, M, T) K := by
  refine (px_if_ne (off := 10) (tgt := 14) (by decide +kernel)).trans ?_
  exact Iff.rfl
theorem b80_7 {d : Nat} {G : PG} {M T : PH} {K : PV → PS → Prop} {l0 l1 : Int} (h1 : pm_ob G l0 6) : pm_Run d 80 7 [.inr (.inr (.inl l0)), .inl l1] [] (G, M, T) K ↔ pm_Call d 70 [.inr (.inr (.inl l0))] (G, M, T) (fun r S1 => pm_Run d 80 11 [.inr (.inr (.inl l0)), .inl l1] (pm_push r []) S1 K) := by
  refine (px_go (by decide +kernel : pm_fe 80 7 = some (.aload_n 0, 1)) rfl).trans ?_
  refine (px_v0 (idx := 48) (m' := 70) (ci := 6) (by decide +kernel)).trans ((and_iff_right ⟨h1, (by simp [pm_wl_n, pm_wl_c, pm_w] : pm_wl [] ≤ 8)⟩).trans ?_)
  exact Iff.rfl
theorem b80_11 {d : Nat} {G : PG} {M T : PH} {K : PV → PS → Prop} {l0 l1 : Int} : pm_Run d 80 11 [.inr (.inr (.inl l0)), .inl l1] [] (G, M, T) K ↔ pm_Run d 80 40 [.inr (.inr (.inl l0)), .inl l1] [] (G, M, T) K := by
  refine (px_goto (off := 29) (tgt := 40) (by decide +kernel)).trans ?_
  exact Iff.rfl
theorem b80_14 {d : Nat} {G : PG} {M T : PH} {K : PV → PS → Prop} {l0 l1 : Int} : pm_Run d 80 14 [.inr (.inr (.inl l0)), .inl l1] [] (G, M, T) K ↔ if pm_sg l1 ≠ 0 then pm_Run d 80 33 [.inr (.inr (.inl l0)), .inl l1] [] (G, M, T) K else pm_Run d 80 18 [.inr (.inr (.inl l0)), .inl l1] [] (G, M, T) K := by
  refine (px_go (by decide +kernel : pm_fe 80 14 = some (.iload_n 1, 1)) rfl).trans ?_
  refine (px_if_ne (off := 18) (tgt := 33) (by decide +kernel)).trans ?_
  exact Iff.rfl
theorem b80_18 {d : Nat} {G : PG} {M T : PH} {K : PV → PS → Prop} {l0 l1 : Int} (h1 : pm_ob G l0 6) (h2 : pm_ob G (T l0.toNat 0) 4) : pm_Run d 80 18 [.inr (.inr (.inl l0)), .inl l1] [] (G, M, T) K ↔ pm_Call d 69 [.inr (.inr (.inl l0)), .inl 3, .inl (M (T l0.toNat 0).toNat 5)] (G, M, T) (fun r S1 => pm_Run d 80 30 [.inr (.inr (.inl l0)), .inl l1] (pm_push r []) S1 K) := by
  refine (px_go (by decide +kernel : pm_fe 80 18 = some (.aload_n 0, 1)) rfl).trans ?_
  refine (px_go (by decide +kernel : pm_fe 80 19 = some (.iconst 3, 1)) rfl).trans ?_
  refine (px_go (by decide +kernel : pm_fe 80 20 = some (.aload_n 0, 1)) rfl).trans ?_
  refine (px_get2 (idx := 12) (ci := 6) (k := 0) (by decide +kernel)).trans ((and_iff_right h1).trans ?_)
  refine (px_get0 (idx := 51) (ci := 4) (k := 5) (by decide +kernel)).trans ((and_iff_right h2).trans ?_)
  refine (px_v2 (idx := 54) (m' := 69) (ci := 6) (by decide +kernel)).trans ((and_iff_right ⟨h1, (by simp [pm_wl_n, pm_wl_c, pm_w] : pm_wl [] ≤ 8)⟩).trans ?_)
  exact Iff.rfl
theorem b80_30 {d : Nat} {G : PG} {M T : PH} {K : PV → PS → Prop} {l0 l1 : Int} : pm_Run d 80 30 [.inr (.inr (.inl l0)), .inl l1] [] (G, M, T) K ↔ pm_Run d 80 40 [.inr (.inr (.inl l0)), .inl l1] [] (G, M, T) K := by
  refine (px_goto (off := 10) (tgt := 40) (by decide +kernel)).trans ?_
  exact Iff.rfl
theorem b80_33 {d : Nat} {G : PG} {M T : PH} {K : PV → PS → Prop} {l0 l1 : Int} (h1 : pm_ob G l0 6) (h2 : pm_ob G (T l0.toNat 0) 4) : pm_Run d 80 33 [.inr (.inr (.inl l0)), .inl l1] [] (G, M, T) K ↔ pm_Call d 51 [.inr (.inr (.inl (T l0.toNat 0)))] (G, M, T) (fun r S1 => pm_Run d 80 40 [.inr (.inr (.inl l0)), .inl l1] (pm_push r []) S1 K) := by
  refine (px_go (by decide +kernel : pm_fe 80 33 = some (.aload_n 0, 1)) rfl).trans ?_
  refine (px_get2 (idx := 12) (ci := 6) (k := 0) (by decide +kernel)).trans ((and_iff_right h1).trans ?_)
  refine (px_v0 (idx := 42) (m' := 51) (ci := 4) (by decide +kernel)).trans ((and_iff_right ⟨h2, (by simp [pm_wl_n, pm_wl_c, pm_w] : pm_wl [] ≤ 8)⟩).trans ?_)
  exact Iff.rfl
theorem b80_40 {d : Nat} {G : PG} {M T : PH} {K : PV → PS → Prop} {l0 l1 : Int} : pm_Run d 80 40 [.inr (.inr (.inl l0)), .inl l1] [] (G, M, T) K ↔ K PU (G, M, T) := by
  refine (px_rv (by decide +kernel)).trans ?_
  exact Iff.rfl
-- X6_oneMore oneMore(Z)Z
theorem en81 {d : Nat} {a p0 : Int} {S : PS} {K : PV → PS → Prop} : pm_Call (d + 1) 81 [.inr (.inr (.inl a)), .inl p0] S K ↔ pm_Run d 81 0 [.inr (.inr (.inl a)), .inl p0] [] S K := pm_Call_s.trans (and_iff_right (show 2 ≤ pm_ml 81 from by decide +kernel))
theorem b81_0 {d : Nat} {G : PG} {M T : PH} {K : PV → PS → Prop} {l0 l1 : Int} : pm_Run d 81 0 [.inr (.inr (.inl l0)), .inl l1] [] (G, M, T) K ↔ if pm_sg l1 = 0 then pm_Run d 81 14 [.inr (.inr (.inl l0)), .inl l1] [] (G, M, T) K else pm_Run d 81 4 [.inr (.inr (.inl l0)), .inl l1] [] (G, M, T) K := by
  refine (px_go (by decide +kernel : pm_fe 81 0 = some (.iload_n 1, 1)) rfl).trans ?_
  refine (px_if_eq (off := 13) (tgt := 14) (by decide +kernel)).trans ?_
  exact Iff.rfl
theorem b81_4 {d : Nat} {G : PG} {M T : PH} {K : PV → PS → Prop} {l0 l1 : Int} (h1 : pm_ob G l0 6) (h2 : pm_ob G (T l0.toNat 0) 4) : pm_Run d 81 4 [.inr (.inr (.inl l0)), .inl l1] [] (G, M, T) K ↔ pm_Call d 51 [.inr (.inr (.inl (T l0.toNat 0)))] (G, M, T) (fun r S1 => pm_Run d 81 11 [.inr (.inr (.inl l0)), .inl l1] (pm_push r []) S1 K) := by
  refine (px_go (by decide +kernel : pm_fe 81 4 = some (.aload_n 0, 1)) rfl).trans ?_
  refine (px_get2 (idx := 12) (ci := 6) (k := 0) (by decide +kernel)).trans ((and_iff_right h1).trans ?_)
  refine (px_v0 (idx := 42) (m' := 51) (ci := 4) (by decide +kernel)).trans ((and_iff_right ⟨h2, (by simp [pm_wl_n, pm_wl_c, pm_w] : pm_wl [] ≤ 8)⟩).trans ?_)
  exact Iff.rfl
theorem b81_11 {d : Nat} {G : PG} {M T : PH} {K : PV → PS → Prop} {l0 l1 : Int} : pm_Run d 81 11 [.inr (.inr (.inl l0)), .inl l1] [] (G, M, T) K ↔ pm_Run d 81 27 [.inr (.inr (.inl l0)), .inl l1] [] (G, M, T) K := by
  refine (px_goto (off := 16) (tgt := 27) (by decide +kernel)).trans ?_
  exact Iff.rfl
theorem b81_14 {d : Nat} {G : PG} {M T : PH} {K : PV → PS → Prop} {l0 l1 : Int} (h1 : pm_ob G l0 6) (h2 : pm_ob G (T l0.toNat 0) 4) : pm_Run d 81 14 [.inr (.inr (.inl l0)), .inl l1] [] (G, M, T) K ↔ pm_Call d 69 [.inr (.inr (.inl l0)), .inl 6, .inl (M (T l0.toNat 0).toNat 5)] (G, M, T) (fun r S1 => pm_Run d 81 27 [.inr (.inr (.inl l0)), .inl l1] (pm_push r []) S1 K) := by
  refine (px_go (by decide +kernel : pm_fe 81 14 = some (.aload_n 0, 1)) rfl).trans ?_
  refine (px_go (by decide +kernel : pm_fe 81 15 = some (.bipush 6, 2)) rfl).trans ?_
  refine (px_go (by decide +kernel : pm_fe 81 17 = some (.aload_n 0, 1)) rfl).trans ?_
  refine (px_get2 (idx := 12) (ci := 6) (k := 0) (by decide +kernel)).trans ((and_iff_right h1).trans ?_)
  refine (px_get0 (idx := 51) (ci := 4) (k := 5) (by decide +kernel)).trans ((and_iff_right h2).trans ?_)
  refine (px_v2 (idx := 54) (m' := 69) (ci := 6) (by decide +kernel)).trans ((and_iff_right ⟨h1, (by simp [pm_wl_n, pm_wl_c, pm_w] : pm_wl [] ≤ 8)⟩).trans ?_)
  exact Iff.rfl
theorem b81_27 {d : Nat} {G : PG} {M T : PH} {K : PV → PS → Prop} {l0 l1 : Int} (h1 : pm_ob G l0 6) : pm_Run d 81 27 [.inr (.inr (.inl l0)), .inl l1] [] (G, M, T) K ↔ if pm_sg (M l0.toNat 3) ≠ 0 then pm_Run d 81 38 [.inr (.inr (.inl l0)), .inl l1] [] (G, M, T) K else pm_Run d 81 34 [.inr (.inr (.inl l0)), .inl l1] [] (G, M, T) K := by
  refine (px_go (by decide +kernel : pm_fe 81 27 = some (.aload_n 0, 1)) rfl).trans ?_
  refine (px_get0 (idx := 32) (ci := 6) (k := 3) (by decide +kernel)).trans ((and_iff_right h1).trans ?_)
  refine (px_if_ne (off := 7) (tgt := 38) (by decide +kernel)).trans ?_
  exact Iff.rfl
theorem b81_34 {d : Nat} {G : PG} {M T : PH} {K : PV → PS → Prop} {l0 l1 : Int} : pm_Run d 81 34 [.inr (.inr (.inl l0)), .inl l1] [] (G, M, T) K ↔ pm_Run d 81 39 [.inr (.inr (.inl l0)), .inl l1] [.inl 1] (G, M, T) K := by
  refine (px_go (by decide +kernel : pm_fe 81 34 = some (.iconst 1, 1)) rfl).trans ?_
  refine (px_goto (off := 4) (tgt := 39) (by decide +kernel)).trans ?_
  exact Iff.rfl
theorem b81_38 {d : Nat} {G : PG} {M T : PH} {K : PV → PS → Prop} {l0 l1 : Int} : pm_Run d 81 38 [.inr (.inr (.inl l0)), .inl l1] [] (G, M, T) K ↔ pm_Run d 81 39 [.inr (.inr (.inl l0)), .inl l1] [.inl 0] (G, M, T) K := by
  refine (px_go (by decide +kernel : pm_fe 81 38 = some (.iconst 0, 1)) rfl).trans ?_
  exact Iff.rfl
theorem b81_39 {d : Nat} {G : PG} {M T : PH} {K : PV → PS → Prop} {l0 l1 s0 : Int} (h1 : s0 = 0 ∨ s0 = 1) : pm_Run d 81 39 [.inr (.inr (.inl l0)), .inl l1] [.inl s0] (G, M, T) K ↔ K (.inl s0) (G, M, T) := by
  refine (px_rz (by decide +kernel)).trans ((and_iff_right h1).trans ?_)
  exact Iff.rfl
-- X6_statement statement(Z)V
theorem en82 {d : Nat} {a p0 : Int} {S : PS} {K : PV → PS → Prop} : pm_Call (d + 1) 82 [.inr (.inr (.inl a)), .inl p0] S K ↔ pm_Run d 82 0 [.inr (.inr (.inl a)), .inl p0, PU, PU] [] S K := pm_Call_s.trans (and_iff_right (show 2 ≤ pm_ml 82 from by decide +kernel))
theorem b82_0 {d : Nat} {G : PG} {M T : PH} {K : PV → PS → Prop} {l0 l1 : Int} (h1 : pm_ob G l0 6) (h2 : pm_ob G (T l0.toNat 0) 4) : pm_Run d 82 0 [.inr (.inr (.inl l0)), .inl l1, PU, PU] [] (G, M, T) K ↔ if pm_sg (M (T l0.toNat 0).toNat 4) ≠ pm_sg 1 then pm_Run d 82 21 [.inr (.inr (.inl l0)), .inl l1, PU, PU] [] (G, M, T) K else pm_Run d 82 11 [.inr (.inr (.inl l0)), .inl l1, PU, PU] [] (G, M, T) K := by
  refine (px_go (by decide +kernel : pm_fe 82 0 = some (.aload_n 0, 1)) rfl).trans ?_
  refine (px_get2 (idx := 12) (ci := 6) (k := 0) (by decide +kernel)).trans ((and_iff_right h1).trans ?_)
  refine (px_get0 (idx := 45) (ci := 4) (k := 4) (by decide +kernel)).trans ((and_iff_right h2).trans ?_)
  refine (px_go (by decide +kernel : pm_fe 82 7 = some (.iconst 1, 1)) rfl).trans ?_
  refine (px_ic_ne (off := 13) (tgt := 21) (by decide +kernel)).trans ?_
  exact Iff.rfl
theorem b82_11 {d : Nat} {G : PG} {M T : PH} {K : PV → PS → Prop} {l0 l1 : Int} (h1 : pm_ob G l0 6) (h2 : pm_ob G (T l0.toNat 0) 4) : pm_Run d 82 11 [.inr (.inr (.inl l0)), .inl l1, PU, PU] [] (G, M, T) K ↔ pm_Run d 82 22 [.inr (.inr (.inl l0)), .inl l1, PU, PU] [.inl (M (T l0.toNat 0).toNat 8)] (G, M, T) K := by
  refine (px_go (by decide +kernel : pm_fe 82 11 = some (.aload_n 0, 1)) rfl).trans ?_
  refine (px_get2 (idx := 12) (ci := 6) (k := 0) (by decide +kernel)).trans ((and_iff_right h1).trans ?_)
  refine (px_get0 (idx := 69) (ci := 4) (k := 8) (by decide +kernel)).trans ((and_iff_right h2).trans ?_)
  refine (px_goto (off := 4) (tgt := 22) (by decide +kernel)).trans ?_
  exact Iff.rfl
theorem b82_21 {d : Nat} {G : PG} {M T : PH} {K : PV → PS → Prop} {l0 l1 : Int} : pm_Run d 82 21 [.inr (.inr (.inl l0)), .inl l1, PU, PU] [] (G, M, T) K ↔ pm_Run d 82 22 [.inr (.inr (.inl l0)), .inl l1, PU, PU] [.inl (-1)] (G, M, T) K := by
  refine (px_go (by decide +kernel : pm_fe 82 21 = some (.iconst (-1), 1)) rfl).trans ?_
  exact Iff.rfl
theorem b82_22 {d : Nat} {G : PG} {M T : PH} {K : PV → PS → Prop} {l0 l1 s0 : Int} : pm_Run d 82 22 [.inr (.inr (.inl l0)), .inl l1, PU, PU] [.inl s0] (G, M, T) K ↔ if pm_sg s0 ≠ 0 then pm_Run d 82 32 [.inr (.inr (.inl l0)), .inl l1, .inl s0, PU] [.inl l1] (G, M, T) K else pm_Run d 82 28 [.inr (.inr (.inl l0)), .inl l1, .inl s0, PU] [.inl l1] (G, M, T) K := by
  refine (px_go (by decide +kernel : pm_fe 82 22 = some (.istore_n 2, 1)) rfl).trans ?_
  refine (px_go (by decide +kernel : pm_fe 82 23 = some (.iload_n 1, 1)) rfl).trans ?_
  refine (px_go (by decide +kernel : pm_fe 82 24 = some (.iload_n 2, 1)) rfl).trans ?_
  refine (px_if_ne (off := 7) (tgt := 32) (by decide +kernel)).trans ?_
  exact Iff.rfl
theorem b82_28 {d : Nat} {G : PG} {M T : PH} {K : PV → PS → Prop} {l0 l1 l2 s0 : Int} : pm_Run d 82 28 [.inr (.inr (.inl l0)), .inl l1, .inl l2, PU] [.inl s0] (G, M, T) K ↔ pm_Run d 82 33 [.inr (.inr (.inl l0)), .inl l1, .inl l2, PU] [.inl 1, .inl s0] (G, M, T) K := by
  refine (px_go (by decide +kernel : pm_fe 82 28 = some (.iconst 1, 1)) rfl).trans ?_
  refine (px_goto (off := 4) (tgt := 33) (by decide +kernel)).trans ?_
  exact Iff.rfl
theorem b82_32 {d : Nat} {G : PG} {M T : PH} {K : PV → PS → Prop} {l0 l1 l2 s0 : Int} : pm_Run d 82 32 [.inr (.inr (.inl l0)), .inl l1, .inl l2, PU] [.inl s0] (G, M, T) K ↔ pm_Run d 82 33 [.inr (.inr (.inl l0)), .inl l1, .inl l2, PU] [.inl 0, .inl s0] (G, M, T) K := by
  refine (px_go (by decide +kernel : pm_fe 82 32 = some (.iconst 0, 1)) rfl).trans ?_
  exact Iff.rfl
theorem b82_33 {d : Nat} {G : PG} {M T : PH} {K : PV → PS → Prop} {l0 l1 l2 s0 s1 : Int} : pm_Run d 82 33 [.inr (.inr (.inl l0)), .inl l1, .inl l2, PU] [.inl s0, .inl s1] (G, M, T) K ↔ if pm_sg s1 = pm_sg s0 then pm_Run d 82 41 [.inr (.inr (.inl l0)), .inl l1, .inl l2, PU] [] (G, M, T) K else pm_Run d 82 36 [.inr (.inr (.inl l0)), .inl l1, .inl l2, PU] [] (G, M, T) K := by
  refine (px_ic_eq (off := 8) (tgt := 41) (by decide +kernel)).trans ?_
  exact Iff.rfl
theorem b82_36 {d : Nat} {G : PG} {M T : PH} {K : PV → PS → Prop} {l0 l1 l2 : Int} (h1 : pm_ob G l0 6) : pm_Run d 82 36 [.inr (.inr (.inl l0)), .inl l1, .inl l2, PU] [] (G, M, T) K ↔ pm_Call d 70 [.inr (.inr (.inl l0))] (G, M, T) (fun r S1 => pm_Run d 82 40 [.inr (.inr (.inl l0)), .inl l1, .inl l2, PU] (pm_push r []) S1 K) := by
  refine (px_go (by decide +kernel : pm_fe 82 36 = some (.aload_n 0, 1)) rfl).trans ?_
  refine (px_v0 (idx := 48) (m' := 70) (ci := 6) (by decide +kernel)).trans ((and_iff_right ⟨h1, (by simp [pm_wl_n, pm_wl_c, pm_w] : pm_wl [] ≤ 8)⟩).trans ?_)
  exact Iff.rfl
theorem b82_40 {d : Nat} {G : PG} {M T : PH} {K : PV → PS → Prop} {l0 l1 l2 : Int} : pm_Run d 82 40 [.inr (.inr (.inl l0)), .inl l1, .inl l2, PU] [] (G, M, T) K ↔ K PU (G, M, T) := by
  refine (px_rv (by decide +kernel)).trans ?_
  exact Iff.rfl
theorem b82_41 {d : Nat} {G : PG} {M T : PH} {K : PV → PS → Prop} {l0 l1 l2 : Int} : pm_Run d 82 41 [.inr (.inr (.inl l0)), .inl l1, .inl l2, PU] [] (G, M, T) K ↔ pm_Run d 82 (pm_tg 0 [116, 140, 270, 270, 270, 147, 270, 270, 154, 161, 217, 217, 217, 168, 192] 270 (pm_sg l2)) [.inr (.inr (.inl l0)), .inl l1, .inl l2, PU] [] (G, M, T) K := by
  refine (px_go (by decide +kernel : pm_fe 82 41 = some (.iload_n 2, 1)) rfl).trans ?_
  refine (px_tsw (lo := 0) (dt := 270) (tl := [116, 140, 270, 270, 270, 147, 270, 270, 154, 161, 217, 217, 217, 168, 192]) (by decide +kernel : pm_fe 82 42 = some (.tableswitch 228 0 14 #[74, 98, 228, 228, 228, 105, 228, 228, 112, 119, 175, 175, 175, 126, 150], 74) ∧ _)).trans ?_
  exact Iff.rfl
theorem b82_116 {d : Nat} {G : PG} {M T : PH} {K : PV → PS → Prop} {l0 l1 l2 : Int} (h1 : pm_ob G l0 6) (h2 : pm_ob G (T l0.toNat 0) 4) : pm_Run d 82 116 [.inr (.inr (.inl l0)), .inl l1, .inl l2, PU] [] (G, M, T) K ↔ pm_Call d 51 [.inr (.inr (.inl (T l0.toNat 0)))] (G, M, T) (fun r S1 => pm_Run d 82 123 [.inr (.inr (.inl l0)), .inl l1, .inl l2, PU] (pm_push r []) S1 K) := by
  refine (px_go (by decide +kernel : pm_fe 82 116 = some (.aload_n 0, 1)) rfl).trans ?_
  refine (px_get2 (idx := 12) (ci := 6) (k := 0) (by decide +kernel)).trans ((and_iff_right h1).trans ?_)
  refine (px_v0 (idx := 42) (m' := 51) (ci := 4) (by decide +kernel)).trans ((and_iff_right ⟨h2, (by simp [pm_wl_n, pm_wl_c, pm_w] : pm_wl [] ≤ 8)⟩).trans ?_)
  exact Iff.rfl
theorem b82_123 {d : Nat} {G : PG} {M T : PH} {K : PV → PS → Prop} {l0 l1 l2 : Int} (h1 : pm_ob G l0 6) : pm_Run d 82 123 [.inr (.inr (.inl l0)), .inl l1, .inl l2, PU] [] (G, M, T) K ↔ pm_Call d 75 [.inr (.inr (.inl l0)), .inl 4, .inl 24] (G, M, T) (fun r S1 => pm_Run d 82 134 [.inr (.inr (.inl l0)), .inl l1, .inl l2, PU] (pm_push r [.inr (.inr (.inl (T l0.toNat 1)))]) S1 K) := by
  refine (px_go (by decide +kernel : pm_fe 82 123 = some (.aload_n 0, 1)) rfl).trans ?_
  refine (px_get2 (idx := 21) (ci := 6) (k := 1) (by decide +kernel)).trans ((and_iff_right h1).trans ?_)
  refine (px_go (by decide +kernel : pm_fe 82 127 = some (.aload_n 0, 1)) rfl).trans ?_
  refine (px_go (by decide +kernel : pm_fe 82 128 = some (.iconst 4, 1)) rfl).trans ?_
  refine (px_go (by decide +kernel : pm_fe 82 129 = some (.bipush 24, 2)) rfl).trans ?_
  refine (px_v2 (idx := 99) (m' := 75) (ci := 6) (by decide +kernel)).trans ((and_iff_right ⟨h1, (by simp [pm_wl_n, pm_wl_c, pm_w] : pm_wl [.inr (.inr (.inl (T l0.toNat 1)))] ≤ 8)⟩).trans ?_)
  exact Iff.rfl
theorem b82_134 {d : Nat} {G : PG} {M T : PH} {K : PV → PS → Prop} {l0 l1 l2 s0 s1 : Int} (h1 : pm_ob G s1 1) : pm_Run d 82 134 [.inr (.inr (.inl l0)), .inl l1, .inl l2, PU] [.inl s0, .inr (.inr (.inl s1))] (G, M, T) K ↔ pm_Run d 82 274 [.inr (.inr (.inl l0)), .inl l1, .inl l2, PU] [] (G, pm_sa M s1.toNat (pm_up (M s1.toNat) 0 s0), T) K := by
  refine (px_put0 (idx := 103) (ci := 1) (k := 0) (by decide +kernel)).trans ((and_iff_right h1).trans ?_)
  refine (px_goto (off := 137) (tgt := 274) (by decide +kernel)).trans ?_
  exact Iff.rfl
theorem b82_140 {d : Nat} {G : PG} {M T : PH} {K : PV → PS → Prop} {l0 l1 l2 : Int} (h1 : pm_ob G l0 6) : pm_Run d 82 140 [.inr (.inr (.inl l0)), .inl l1, .inl l2, PU] [] (G, M, T) K ↔ pm_Call d 84 [.inr (.inr (.inl l0))] (G, M, T) (fun r S1 => pm_Run d 82 144 [.inr (.inr (.inl l0)), .inl l1, .inl l2, PU] (pm_push r []) S1 K) := by
  refine (px_go (by decide +kernel : pm_fe 82 140 = some (.aload_n 0, 1)) rfl).trans ?_
  refine (px_v0 (idx := 106) (m' := 84) (ci := 6) (by decide +kernel)).trans ((and_iff_right ⟨h1, (by simp [pm_wl_n, pm_wl_c, pm_w] : pm_wl [] ≤ 8)⟩).trans ?_)
  exact Iff.rfl
theorem b82_144 {d : Nat} {G : PG} {M T : PH} {K : PV → PS → Prop} {l0 l1 l2 : Int} : pm_Run d 82 144 [.inr (.inr (.inl l0)), .inl l1, .inl l2, PU] [] (G, M, T) K ↔ pm_Run d 82 274 [.inr (.inr (.inl l0)), .inl l1, .inl l2, PU] [] (G, M, T) K := by
  refine (px_goto (off := 130) (tgt := 274) (by decide +kernel)).trans ?_
  exact Iff.rfl
theorem b82_147 {d : Nat} {G : PG} {M T : PH} {K : PV → PS → Prop} {l0 l1 l2 : Int} (h1 : pm_ob G l0 6) : pm_Run d 82 147 [.inr (.inr (.inl l0)), .inl l1, .inl l2, PU] [] (G, M, T) K ↔ pm_Call d 85 [.inr (.inr (.inl l0))] (G, M, T) (fun r S1 => pm_Run d 82 151 [.inr (.inr (.inl l0)), .inl l1, .inl l2, PU] (pm_push r []) S1 K) := by
  refine (px_go (by decide +kernel : pm_fe 82 147 = some (.aload_n 0, 1)) rfl).trans ?_
  refine (px_v0 (idx := 109) (m' := 85) (ci := 6) (by decide +kernel)).trans ((and_iff_right ⟨h1, (by simp [pm_wl_n, pm_wl_c, pm_w] : pm_wl [] ≤ 8)⟩).trans ?_)
  exact Iff.rfl
theorem b82_151 {d : Nat} {G : PG} {M T : PH} {K : PV → PS → Prop} {l0 l1 l2 : Int} : pm_Run d 82 151 [.inr (.inr (.inl l0)), .inl l1, .inl l2, PU] [] (G, M, T) K ↔ pm_Run d 82 274 [.inr (.inr (.inl l0)), .inl l1, .inl l2, PU] [] (G, M, T) K := by
  refine (px_goto (off := 123) (tgt := 274) (by decide +kernel)).trans ?_
  exact Iff.rfl
theorem b82_154 {d : Nat} {G : PG} {M T : PH} {K : PV → PS → Prop} {l0 l1 l2 : Int} (h1 : pm_ob G l0 6) : pm_Run d 82 154 [.inr (.inr (.inl l0)), .inl l1, .inl l2, PU] [] (G, M, T) K ↔ pm_Call d 87 [.inr (.inr (.inl l0))] (G, M, T) (fun r S1 => pm_Run d 82 158 [.inr (.inr (.inl l0)), .inl l1, .inl l2, PU] (pm_push r []) S1 K) := by
  refine (px_go (by decide +kernel : pm_fe 82 154 = some (.aload_n 0, 1)) rfl).trans ?_
  refine (px_v0 (idx := 112) (m' := 87) (ci := 6) (by decide +kernel)).trans ((and_iff_right ⟨h1, (by simp [pm_wl_n, pm_wl_c, pm_w] : pm_wl [] ≤ 8)⟩).trans ?_)
  exact Iff.rfl
theorem b82_158 {d : Nat} {G : PG} {M T : PH} {K : PV → PS → Prop} {l0 l1 l2 : Int} : pm_Run d 82 158 [.inr (.inr (.inl l0)), .inl l1, .inl l2, PU] [] (G, M, T) K ↔ pm_Run d 82 274 [.inr (.inr (.inl l0)), .inl l1, .inl l2, PU] [] (G, M, T) K := by
  refine (px_goto (off := 116) (tgt := 274) (by decide +kernel)).trans ?_
  exact Iff.rfl
theorem b82_161 {d : Nat} {G : PG} {M T : PH} {K : PV → PS → Prop} {l0 l1 l2 : Int} (h1 : pm_ob G l0 6) : pm_Run d 82 161 [.inr (.inr (.inl l0)), .inl l1, .inl l2, PU] [] (G, M, T) K ↔ pm_Call d 88 [.inr (.inr (.inl l0))] (G, M, T) (fun r S1 => pm_Run d 82 165 [.inr (.inr (.inl l0)), .inl l1, .inl l2, PU] (pm_push r []) S1 K) := by
  refine (px_go (by decide +kernel : pm_fe 82 161 = some (.aload_n 0, 1)) rfl).trans ?_
  refine (px_v0 (idx := 115) (m' := 88) (ci := 6) (by decide +kernel)).trans ((and_iff_right ⟨h1, (by simp [pm_wl_n, pm_wl_c, pm_w] : pm_wl [] ≤ 8)⟩).trans ?_)
  exact Iff.rfl
theorem b82_165 {d : Nat} {G : PG} {M T : PH} {K : PV → PS → Prop} {l0 l1 l2 : Int} : pm_Run d 82 165 [.inr (.inr (.inl l0)), .inl l1, .inl l2, PU] [] (G, M, T) K ↔ pm_Run d 82 274 [.inr (.inr (.inl l0)), .inl l1, .inl l2, PU] [] (G, M, T) K := by
  refine (px_goto (off := 109) (tgt := 274) (by decide +kernel)).trans ?_
  exact Iff.rfl
theorem b82_168 {d : Nat} {G : PG} {M T : PH} {K : PV → PS → Prop} {l0 l1 l2 : Int} (h1 : pm_ob G l0 6) (h2 : pm_ob G (T l0.toNat 0) 4) : pm_Run d 82 168 [.inr (.inr (.inl l0)), .inl l1, .inl l2, PU] [] (G, M, T) K ↔ pm_Call d 51 [.inr (.inr (.inl (T l0.toNat 0)))] (G, M, T) (fun r S1 => pm_Run d 82 175 [.inr (.inr (.inl l0)), .inl l1, .inl l2, PU] (pm_push r []) S1 K) := by
  refine (px_go (by decide +kernel : pm_fe 82 168 = some (.aload_n 0, 1)) rfl).trans ?_
  refine (px_get2 (idx := 12) (ci := 6) (k := 0) (by decide +kernel)).trans ((and_iff_right h1).trans ?_)
  refine (px_v0 (idx := 42) (m' := 51) (ci := 4) (by decide +kernel)).trans ((and_iff_right ⟨h2, (by simp [pm_wl_n, pm_wl_c, pm_w] : pm_wl [] ≤ 8)⟩).trans ?_)
  exact Iff.rfl
theorem b82_175 {d : Nat} {G : PG} {M T : PH} {K : PV → PS → Prop} {l0 l1 l2 : Int} (h1 : pm_ob G l0 6) : pm_Run d 82 175 [.inr (.inr (.inl l0)), .inl l1, .inl l2, PU] [] (G, M, T) K ↔ pm_Call d 75 [.inr (.inr (.inl l0)), .inl 0, .inl 99] (G, M, T) (fun r S1 => pm_Run d 82 186 [.inr (.inr (.inl l0)), .inl l1, .inl l2, PU] (pm_push r [.inr (.inr (.inl (T l0.toNat 1)))]) S1 K) := by
  refine (px_go (by decide +kernel : pm_fe 82 175 = some (.aload_n 0, 1)) rfl).trans ?_
  refine (px_get2 (idx := 21) (ci := 6) (k := 1) (by decide +kernel)).trans ((and_iff_right h1).trans ?_)
  refine (px_go (by decide +kernel : pm_fe 82 179 = some (.aload_n 0, 1)) rfl).trans ?_
  refine (px_go (by decide +kernel : pm_fe 82 180 = some (.iconst 0, 1)) rfl).trans ?_
  refine (px_go (by decide +kernel : pm_fe 82 181 = some (.bipush 99, 2)) rfl).trans ?_
  refine (px_v2 (idx := 99) (m' := 75) (ci := 6) (by decide +kernel)).trans ((and_iff_right ⟨h1, (by simp [pm_wl_n, pm_wl_c, pm_w] : pm_wl [.inr (.inr (.inl (T l0.toNat 1)))] ≤ 8)⟩).trans ?_)
  exact Iff.rfl
theorem b82_186 {d : Nat} {G : PG} {M T : PH} {K : PV → PS → Prop} {l0 l1 l2 s0 s1 : Int} (h1 : pm_ob G s1 1) : pm_Run d 82 186 [.inr (.inr (.inl l0)), .inl l1, .inl l2, PU] [.inl s0, .inr (.inr (.inl s1))] (G, M, T) K ↔ pm_Run d 82 274 [.inr (.inr (.inl l0)), .inl l1, .inl l2, PU] [] (G, pm_sa M s1.toNat (pm_up (M s1.toNat) 5 s0), T) K := by
  refine (px_put0 (idx := 118) (ci := 1) (k := 5) (by decide +kernel)).trans ((and_iff_right h1).trans ?_)
  refine (px_goto (off := 85) (tgt := 274) (by decide +kernel)).trans ?_
  exact Iff.rfl
theorem b82_192 {d : Nat} {G : PG} {M T : PH} {K : PV → PS → Prop} {l0 l1 l2 : Int} (h1 : pm_ob G l0 6) (h2 : pm_ob G (T l0.toNat 0) 4) : pm_Run d 82 192 [.inr (.inr (.inl l0)), .inl l1, .inl l2, PU] [] (G, M, T) K ↔ pm_Call d 51 [.inr (.inr (.inl (T l0.toNat 0)))] (G, M, T) (fun r S1 => pm_Run d 82 199 [.inr (.inr (.inl l0)), .inl l1, .inl l2, PU] (pm_push r []) S1 K) := by
  refine (px_go (by decide +kernel : pm_fe 82 192 = some (.aload_n 0, 1)) rfl).trans ?_
  refine (px_get2 (idx := 12) (ci := 6) (k := 0) (by decide +kernel)).trans ((and_iff_right h1).trans ?_)
  refine (px_v0 (idx := 42) (m' := 51) (ci := 4) (by decide +kernel)).trans ((and_iff_right ⟨h2, (by simp [pm_wl_n, pm_wl_c, pm_w] : pm_wl [] ≤ 8)⟩).trans ?_)
  exact Iff.rfl
theorem b82_199 {d : Nat} {G : PG} {M T : PH} {K : PV → PS → Prop} {l0 l1 l2 : Int} (h1 : pm_ob G l0 6) : pm_Run d 82 199 [.inr (.inr (.inl l0)), .inl l1, .inl l2, PU] [] (G, M, T) K ↔ pm_Call d 75 [.inr (.inr (.inl l0)), .inl 1, .inl 999] (G, M, T) (fun r S1 => pm_Run d 82 211 [.inr (.inr (.inl l0)), .inl l1, .inl l2, PU] (pm_push r [.inr (.inr (.inl (T l0.toNat 1)))]) S1 K) := by
  refine (px_go (by decide +kernel : pm_fe 82 199 = some (.aload_n 0, 1)) rfl).trans ?_
  refine (px_get2 (idx := 21) (ci := 6) (k := 1) (by decide +kernel)).trans ((and_iff_right h1).trans ?_)
  refine (px_go (by decide +kernel : pm_fe 82 203 = some (.aload_n 0, 1)) rfl).trans ?_
  refine (px_go (by decide +kernel : pm_fe 82 204 = some (.iconst 1, 1)) rfl).trans ?_
  refine (px_go (by decide +kernel : pm_fe 82 205 = some (.sipush 999, 3)) rfl).trans ?_
  refine (px_v2 (idx := 99) (m' := 75) (ci := 6) (by decide +kernel)).trans ((and_iff_right ⟨h1, (by simp [pm_wl_n, pm_wl_c, pm_w] : pm_wl [.inr (.inr (.inl (T l0.toNat 1)))] ≤ 8)⟩).trans ?_)
  exact Iff.rfl
theorem b82_211 {d : Nat} {G : PG} {M T : PH} {K : PV → PS → Prop} {l0 l1 l2 s0 s1 : Int} (h1 : pm_ob G s1 1) : pm_Run d 82 211 [.inr (.inr (.inl l0)), .inl l1, .inl l2, PU] [.inl s0, .inr (.inr (.inl s1))] (G, M, T) K ↔ pm_Run d 82 274 [.inr (.inr (.inl l0)), .inl l1, .inl l2, PU] [] (G, pm_sa M s1.toNat (pm_up (M s1.toNat) 6 s0), T) K := by
  refine (px_put0 (idx := 121) (ci := 1) (k := 6) (by decide +kernel)).trans ((and_iff_right h1).trans ?_)
  refine (px_goto (off := 60) (tgt := 274) (by decide +kernel)).trans ?_
  exact Iff.rfl
theorem b82_217 {d : Nat} {G : PG} {M T : PH} {K : PV → PS → Prop} {l0 l1 l2 : Int} (h1 : pm_ob G l0 6) : pm_Run d 82 217 [.inr (.inr (.inl l0)), .inl l1, .inl l2, PU] [] (G, M, T) K ↔ pm_Call d 83 [.inr (.inr (.inl l0)), .inl l2] (G, M, T) (fun r S1 => pm_Run d 82 222 [.inr (.inr (.inl l0)), .inl l1, .inl l2, PU] (pm_push r []) S1 K) := by
  refine (px_go (by decide +kernel : pm_fe 82 217 = some (.aload_n 0, 1)) rfl).trans ?_
  refine (px_go (by decide +kernel : pm_fe 82 218 = some (.iload_n 2, 1)) rfl).trans ?_
  refine (px_v1 (idx := 124) (m' := 83) (ci := 6) (by decide +kernel)).trans ((and_iff_right ⟨h1, (by simp [pm_wl_n, pm_wl_c, pm_w] : pm_wl [] ≤ 8)⟩).trans ?_)
  exact Iff.rfl
theorem b82_222 {d : Nat} {G : PG} {M T : PH} {K : PV → PS → Prop} {l0 l1 l2 s0 : Int} : pm_Run d 82 222 [.inr (.inr (.inl l0)), .inl l1, .inl l2, PU] [.inl s0] (G, M, T) K ↔ if pm_sg s0 = pm_sg (-1) then pm_Run d 82 274 [.inr (.inr (.inl l0)), .inl l1, .inl l2, .inl s0] [] (G, M, T) K else pm_Run d 82 228 [.inr (.inr (.inl l0)), .inl l1, .inl l2, .inl s0] [] (G, M, T) K := by
  refine (px_go (by decide +kernel : pm_fe 82 222 = some (.istore_n 3, 1)) rfl).trans ?_
  refine (px_go (by decide +kernel : pm_fe 82 223 = some (.iload_n 3, 1)) rfl).trans ?_
  refine (px_go (by decide +kernel : pm_fe 82 224 = some (.iconst (-1), 1)) rfl).trans ?_
  refine (px_ic_eq (off := 49) (tgt := 274) (by decide +kernel)).trans ?_
  exact Iff.rfl
theorem b82_228 {d : Nat} {G : PG} {M T : PH} {K : PV → PS → Prop} {l0 l1 l2 l3 : Int} (h1 : pm_ob G l0 6) (h2 : pm_ob G (T l0.toNat 1) 1) (h3 : pm_ob G (T (T l0.toNat 1).toNat 17) 3) : pm_Run d 82 228 [.inr (.inr (.inl l0)), .inl l1, .inl l2, .inl l3] [] (G, M, T) K ↔ pm_Call d 41 [.inr (.inr (.inl (T (T l0.toNat 1).toNat 17))), .inl l3] (G, M, T) (fun r S1 => pm_Run d 82 239 [.inr (.inr (.inl l0)), .inl l1, .inl l2, .inl l3] (pm_push r []) S1 K) := by
  refine (px_go (by decide +kernel : pm_fe 82 228 = some (.aload_n 0, 1)) rfl).trans ?_
  refine (px_get2 (idx := 21) (ci := 6) (k := 1) (by decide +kernel)).trans ((and_iff_right h1).trans ?_)
  refine (px_get2 (idx := 127) (ci := 1) (k := 17) (by decide +kernel)).trans ((and_iff_right h2).trans ?_)
  refine (px_go (by decide +kernel : pm_fe 82 235 = some (.iload_n 3, 1)) rfl).trans ?_
  refine (px_v1 (idx := 131) (m' := 41) (ci := 3) (by decide +kernel)).trans ((and_iff_right ⟨h3, (by simp [pm_wl_n, pm_wl_c, pm_w] : pm_wl [] ≤ 8)⟩).trans ?_)
  exact Iff.rfl
theorem b82_239 {d : Nat} {G : PG} {M T : PH} {K : PV → PS → Prop} {l0 l1 l2 l3 : Int} : pm_Run d 82 239 [.inr (.inr (.inl l0)), .inl l1, .inl l2, .inl l3] [] (G, M, T) K ↔ if pm_sg l2 ≠ pm_sg 10 then pm_Run d 82 252 [.inr (.inr (.inl l0)), .inl l1, .inl l2, .inl l3] [] (G, M, T) K else pm_Run d 82 245 [.inr (.inr (.inl l0)), .inl l1, .inl l2, .inl l3] [] (G, M, T) K := by
  refine (px_go (by decide +kernel : pm_fe 82 239 = some (.iload_n 2, 1)) rfl).trans ?_
  refine (px_go (by decide +kernel : pm_fe 82 240 = some (.bipush 10, 2)) rfl).trans ?_
  refine (px_ic_ne (off := 10) (tgt := 252) (by decide +kernel)).trans ?_
  exact Iff.rfl
theorem b82_245 {d : Nat} {G : PG} {M T : PH} {K : PV → PS → Prop} {l0 l1 l2 l3 : Int} (h1 : pm_ob G l0 6) : pm_Run d 82 245 [.inr (.inr (.inl l0)), .inl l1, .inl l2, .inl l3] [] (G, M, T) K ↔ pm_Call d 91 [.inr (.inr (.inl l0))] (G, M, T) (fun r S1 => pm_Run d 82 249 [.inr (.inr (.inl l0)), .inl l1, .inl l2, .inl l3] (pm_push r []) S1 K) := by
  refine (px_go (by decide +kernel : pm_fe 82 245 = some (.aload_n 0, 1)) rfl).trans ?_
  refine (px_v0 (idx := 136) (m' := 91) (ci := 6) (by decide +kernel)).trans ((and_iff_right ⟨h1, (by simp [pm_wl_n, pm_wl_c, pm_w] : pm_wl [] ≤ 8)⟩).trans ?_)
  exact Iff.rfl
theorem b82_249 {d : Nat} {G : PG} {M T : PH} {K : PV → PS → Prop} {l0 l1 l2 l3 : Int} : pm_Run d 82 249 [.inr (.inr (.inl l0)), .inl l1, .inl l2, .inl l3] [] (G, M, T) K ↔ pm_Run d 82 256 [.inr (.inr (.inl l0)), .inl l1, .inl l2, .inl l3] [] (G, M, T) K := by
  refine (px_goto (off := 7) (tgt := 256) (by decide +kernel)).trans ?_
  exact Iff.rfl
theorem b82_252 {d : Nat} {G : PG} {M T : PH} {K : PV → PS → Prop} {l0 l1 l2 l3 : Int} (h1 : pm_ob G l0 6) : pm_Run d 82 252 [.inr (.inr (.inl l0)), .inl l1, .inl l2, .inl l3] [] (G, M, T) K ↔ pm_Call d 94 [.inr (.inr (.inl l0))] (G, M, T) (fun r S1 => pm_Run d 82 256 [.inr (.inr (.inl l0)), .inl l1, .inl l2, .inl l3] (pm_push r []) S1 K) := by
  refine (px_go (by decide +kernel : pm_fe 82 252 = some (.aload_n 0, 1)) rfl).trans ?_
  refine (px_v0 (idx := 139) (m' := 94) (ci := 6) (by decide +kernel)).trans ((and_iff_right ⟨h1, (by simp [pm_wl_n, pm_wl_c, pm_w] : pm_wl [] ≤ 8)⟩).trans ?_)
  exact Iff.rfl
theorem b82_256 {d : Nat} {G : PG} {M T : PH} {K : PV → PS → Prop} {l0 l1 l2 l3 : Int} (h1 : pm_ob G l0 6) (h2 : pm_ob G (T l0.toNat 1) 1) (h3 : pm_ob G (T (T l0.toNat 1).toNat 17) 3) : pm_Run d 82 256 [.inr (.inr (.inl l0)), .inl l1, .inl l2, .inl l3] [] (G, M, T) K ↔ pm_Call d 42 [.inr (.inr (.inl (T (T l0.toNat 1).toNat 17))), .inl l3] (G, M, T) (fun r S1 => pm_Run d 82 267 [.inr (.inr (.inl l0)), .inl l1, .inl l2, .inl l3] (pm_push r []) S1 K) := by
  refine (px_go (by decide +kernel : pm_fe 82 256 = some (.aload_n 0, 1)) rfl).trans ?_
  refine (px_get2 (idx := 21) (ci := 6) (k := 1) (by decide +kernel)).trans ((and_iff_right h1).trans ?_)
  refine (px_get2 (idx := 127) (ci := 1) (k := 17) (by decide +kernel)).trans ((and_iff_right h2).trans ?_)
  refine (px_go (by decide +kernel : pm_fe 82 263 = some (.iload_n 3, 1)) rfl).trans ?_
  refine (px_v1 (idx := 142) (m' := 42) (ci := 3) (by decide +kernel)).trans ((and_iff_right ⟨h3, (by simp [pm_wl_n, pm_wl_c, pm_w] : pm_wl [] ≤ 8)⟩).trans ?_)
  exact Iff.rfl
theorem b82_267 {d : Nat} {G : PG} {M T : PH} {K : PV → PS → Prop} {l0 l1 l2 l3 : Int} : pm_Run d 82 267 [.inr (.inr (.inl l0)), .inl l1, .inl l2, .inl l3] [] (G, M, T) K ↔ pm_Run d 82 274 [.inr (.inr (.inl l0)), .inl l1, .inl l2, .inl l3] [] (G, M, T) K := by
  refine (px_goto (off := 7) (tgt := 274) (by decide +kernel)).trans ?_
  exact Iff.rfl
theorem b82_270 {d : Nat} {G : PG} {M T : PH} {K : PV → PS → Prop} {l0 l1 l2 : Int} (h1 : pm_ob G l0 6) : pm_Run d 82 270 [.inr (.inr (.inl l0)), .inl l1, .inl l2, PU] [] (G, M, T) K ↔ pm_Call d 70 [.inr (.inr (.inl l0))] (G, M, T) (fun r S1 => pm_Run d 82 274 [.inr (.inr (.inl l0)), .inl l1, .inl l2, PU] (pm_push r []) S1 K) := by
  refine (px_go (by decide +kernel : pm_fe 82 270 = some (.aload_n 0, 1)) rfl).trans ?_
  refine (px_v0 (idx := 48) (m' := 70) (ci := 6) (by decide +kernel)).trans ((and_iff_right ⟨h1, (by simp [pm_wl_n, pm_wl_c, pm_w] : pm_wl [] ≤ 8)⟩).trans ?_)
  exact Iff.rfl
theorem b82_274 {d : Nat} {G : PG} {M T : PH} {K : PV → PS → Prop} {l0 l1 l2 : Int} {l3 : PV} : pm_Run d 82 274 [.inr (.inr (.inl l0)), .inl l1, .inl l2, l3] [] (G, M, T) K ↔ K PU (G, M, T) := by
  refine (px_rv (by decide +kernel)).trans ?_
  exact Iff.rfl
-- X6_formulaOf formulaOf(I)I
theorem en83 {d : Nat} {a p0 : Int} {S : PS} {K : PV → PS → Prop} : pm_Call (d + 1) 83 [.inr (.inr (.inl a)), .inl p0] S K ↔ pm_Run d 83 0 [.inr (.inr (.inl a)), .inl p0, PU] [] S K := pm_Call_s.trans (and_iff_right (show 2 ≤ pm_ml 83 from by decide +kernel))
theorem b83_0 {d : Nat} {G : PG} {M T : PH} {K : PV → PS → Prop} {l0 l1 : Int} : pm_Run d 83 0 [.inr (.inr (.inl l0)), .inl l1, PU] [] (G, M, T) K ↔ if pm_sg l1 ≠ pm_sg 11 then pm_Run d 83 10 [.inr (.inr (.inl l0)), .inl l1, PU] [] (G, M, T) K else pm_Run d 83 6 [.inr (.inr (.inl l0)), .inl l1, PU] [] (G, M, T) K := by
  refine (px_go (by decide +kernel : pm_fe 83 0 = some (.iload_n 1, 1)) rfl).trans ?_
  refine (px_go (by decide +kernel : pm_fe 83 1 = some (.bipush 11, 2)) rfl).trans ?_
  refine (px_ic_ne (off := 7) (tgt := 10) (by decide +kernel)).trans ?_
  exact Iff.rfl
theorem b83_6 {d : Nat} {G : PG} {M T : PH} {K : PV → PS → Prop} {l0 l1 : Int} : pm_Run d 83 6 [.inr (.inr (.inl l0)), .inl l1, PU] [] (G, M, T) K ↔ pm_Run d 83 11 [.inr (.inr (.inl l0)), .inl l1, PU] [.inl 0] (G, M, T) K := by
  refine (px_go (by decide +kernel : pm_fe 83 6 = some (.iconst 0, 1)) rfl).trans ?_
  refine (px_goto (off := 4) (tgt := 11) (by decide +kernel)).trans ?_
  exact Iff.rfl
theorem b83_10 {d : Nat} {G : PG} {M T : PH} {K : PV → PS → Prop} {l0 l1 : Int} : pm_Run d 83 10 [.inr (.inr (.inl l0)), .inl l1, PU] [] (G, M, T) K ↔ pm_Run d 83 11 [.inr (.inr (.inl l0)), .inl l1, PU] [.inl 1] (G, M, T) K := by
  refine (px_go (by decide +kernel : pm_fe 83 10 = some (.iconst 1, 1)) rfl).trans ?_
  exact Iff.rfl
theorem b83_11 {d : Nat} {G : PG} {M T : PH} {K : PV → PS → Prop} {l0 l1 s0 : Int} : pm_Run d 83 11 [.inr (.inr (.inl l0)), .inl l1, PU] [.inl s0] (G, M, T) K ↔ if pm_sg l1 ≠ pm_sg 10 then pm_Run d 83 69 [.inr (.inr (.inl l0)), .inl l1, .inl s0] [] (G, M, T) K else pm_Run d 83 18 [.inr (.inr (.inl l0)), .inl l1, .inl s0] [] (G, M, T) K := by
  refine (px_go (by decide +kernel : pm_fe 83 11 = some (.istore_n 2, 1)) rfl).trans ?_
  refine (px_go (by decide +kernel : pm_fe 83 12 = some (.iload_n 1, 1)) rfl).trans ?_
  refine (px_go (by decide +kernel : pm_fe 83 13 = some (.bipush 10, 2)) rfl).trans ?_
  refine (px_ic_ne (off := 54) (tgt := 69) (by decide +kernel)).trans ?_
  exact Iff.rfl
theorem b83_18 {d : Nat} {G : PG} {M T : PH} {K : PV → PS → Prop} {l0 l1 l2 : Int} (h1 : pm_ob G l0 6) (h2 : pm_ob G (T l0.toNat 1) 1) : pm_Run d 83 18 [.inr (.inr (.inl l0)), .inl l1, .inl l2] [] (G, M, T) K ↔ if pm_sg 6 ≤ pm_sg (M (T l0.toNat 1).toNat 4) then pm_Run d 83 45 [.inr (.inr (.inl l0)), .inl l1, .inl (2 + (M (T l0.toNat 1).toNat 4))] [.inr (.inr (.inl l0))] (G, M, T) K else pm_Run d 83 41 [.inr (.inr (.inl l0)), .inl l1, .inl (2 + (M (T l0.toNat 1).toNat 4))] [.inr (.inr (.inl l0))] (G, M, T) K := by
  refine (px_go (by decide +kernel : pm_fe 83 18 = some (.iconst 2, 1)) rfl).trans ?_
  refine (px_go (by decide +kernel : pm_fe 83 19 = some (.aload_n 0, 1)) rfl).trans ?_
  refine (px_get2 (idx := 21) (ci := 6) (k := 1) (by decide +kernel)).trans ((and_iff_right h1).trans ?_)
  refine (px_get0 (idx := 145) (ci := 1) (k := 4) (by decide +kernel)).trans ((and_iff_right h2).trans ?_)
  refine (px_go (by decide +kernel : pm_fe 83 26 = some (.iadd, 1)) rfl).trans ?_
  refine (px_go (by decide +kernel : pm_fe 83 27 = some (.istore_n 2, 1)) rfl).trans ?_
  refine (px_go (by decide +kernel : pm_fe 83 28 = some (.aload_n 0, 1)) rfl).trans ?_
  refine (px_go (by decide +kernel : pm_fe 83 29 = some (.aload_n 0, 1)) rfl).trans ?_
  refine (px_get2 (idx := 21) (ci := 6) (k := 1) (by decide +kernel)).trans ((and_iff_right h1).trans ?_)
  refine (px_get0 (idx := 145) (ci := 1) (k := 4) (by decide +kernel)).trans ((and_iff_right h2).trans ?_)
  refine (px_go (by decide +kernel : pm_fe 83 36 = some (.bipush 6, 2)) rfl).trans ?_
  refine (px_ic_ge (off := 7) (tgt := 45) (by decide +kernel)).trans ?_
  exact Iff.rfl
theorem b83_41 {d : Nat} {G : PG} {M T : PH} {K : PV → PS → Prop} {l0 l1 l2 s0 : Int} : pm_Run d 83 41 [.inr (.inr (.inl l0)), .inl l1, .inl l2] [.inr (.inr (.inl s0))] (G, M, T) K ↔ pm_Run d 83 46 [.inr (.inr (.inl l0)), .inl l1, .inl l2] [.inl 1, .inr (.inr (.inl s0))] (G, M, T) K := by
  refine (px_go (by decide +kernel : pm_fe 83 41 = some (.iconst 1, 1)) rfl).trans ?_
  refine (px_goto (off := 4) (tgt := 46) (by decide +kernel)).trans ?_
  exact Iff.rfl
theorem b83_45 {d : Nat} {G : PG} {M T : PH} {K : PV → PS → Prop} {l0 l1 l2 s0 : Int} : pm_Run d 83 45 [.inr (.inr (.inl l0)), .inl l1, .inl l2] [.inr (.inr (.inl s0))] (G, M, T) K ↔ pm_Run d 83 46 [.inr (.inr (.inl l0)), .inl l1, .inl l2] [.inl 0, .inr (.inr (.inl s0))] (G, M, T) K := by
  refine (px_go (by decide +kernel : pm_fe 83 45 = some (.iconst 0, 1)) rfl).trans ?_
  exact Iff.rfl
theorem b83_46 {d : Nat} {G : PG} {M T : PH} {K : PV → PS → Prop} {l0 l1 l2 s0 s1 : Int} (h1 : pm_ob G s1 6) : pm_Run d 83 46 [.inr (.inr (.inl l0)), .inl l1, .inl l2] [.inl s0, .inr (.inr (.inl s1))] (G, M, T) K ↔ pm_Call d 81 [.inr (.inr (.inl s1)), .inl s0] (G, M, T) (fun r S1 => pm_Run d 83 49 [.inr (.inr (.inl l0)), .inl l1, .inl l2] (pm_push r []) S1 K) := by
  refine (px_v1 (idx := 148) (m' := 81) (ci := 6) (by decide +kernel)).trans ((and_iff_right ⟨h1, (by simp [pm_wl_n, pm_wl_c, pm_w] : pm_wl [] ≤ 8)⟩).trans ?_)
  exact Iff.rfl
theorem b83_49 {d : Nat} {G : PG} {M T : PH} {K : PV → PS → Prop} {l0 l1 l2 s0 : Int} : pm_Run d 83 49 [.inr (.inr (.inl l0)), .inl l1, .inl l2] [.inl s0] (G, M, T) K ↔ if pm_sg s0 ≠ 0 then pm_Run d 83 54 [.inr (.inr (.inl l0)), .inl l1, .inl l2] [] (G, M, T) K else pm_Run d 83 52 [.inr (.inr (.inl l0)), .inl l1, .inl l2] [] (G, M, T) K := by
  refine (px_if_ne (off := 5) (tgt := 54) (by decide +kernel)).trans ?_
  exact Iff.rfl
theorem b83_52 {d : Nat} {G : PG} {M T : PH} {K : PV → PS → Prop} {l0 l1 l2 : Int} : pm_Run d 83 52 [.inr (.inr (.inl l0)), .inl l1, .inl l2] [] (G, M, T) K ↔ K (.inl (-1)) (G, M, T) := by
  refine (px_go (by decide +kernel : pm_fe 83 52 = some (.iconst (-1), 1)) rfl).trans ?_
  refine (px_ri (by decide +kernel)).trans ?_
  exact Iff.rfl
theorem b83_54 {d : Nat} {G : PG} {M T : PH} {K : PV → PS → Prop} {l0 l1 l2 : Int} (h1 : pm_ob G l0 6) (h2 : pm_ob G (T l0.toNat 1) 1) : pm_Run d 83 54 [.inr (.inr (.inl l0)), .inl l1, .inl l2] [] (G, M, T) K ↔ K (.inl l2) (G, pm_sa M (T l0.toNat 1).toNat (pm_up (M (T l0.toNat 1).toNat) 4 ((M (T l0.toNat 1).toNat 4) + 1)), T) := by
  refine (px_go (by decide +kernel : pm_fe 83 54 = some (.aload_n 0, 1)) rfl).trans ?_
  refine (px_get2 (idx := 21) (ci := 6) (k := 1) (by decide +kernel)).trans ((and_iff_right h1).trans ?_)
  refine (px_go (by decide +kernel : pm_fe 83 58 = some (.dup, 1)) rfl).trans ?_
  refine (px_get0 (idx := 145) (ci := 1) (k := 4) (by decide +kernel)).trans ((and_iff_right h2).trans ?_)
  refine (px_go (by decide +kernel : pm_fe 83 62 = some (.iconst 1, 1)) rfl).trans ?_
  refine (px_go (by decide +kernel : pm_fe 83 63 = some (.iadd, 1)) rfl).trans ?_
  refine (px_put0 (idx := 145) (ci := 1) (k := 4) (by decide +kernel)).trans ((and_iff_right h2).trans ?_)
  refine (px_go (by decide +kernel : pm_fe 83 67 = some (.iload_n 2, 1)) rfl).trans ?_
  refine (px_ri (by decide +kernel)).trans ?_
  exact Iff.rfl
theorem b83_69 {d : Nat} {G : PG} {M T : PH} {K : PV → PS → Prop} {l0 l1 l2 : Int} (h1 : pm_ob G l0 6) (h2 : pm_ob G (T l0.toNat 1) 1) (h3 : pm_ob G (T (T l0.toNat 1).toNat 17) 3) : pm_Run d 83 69 [.inr (.inr (.inl l0)), .inl l1, .inl l2] [] (G, M, T) K ↔ pm_Call d 44 [.inr (.inr (.inl (T (T l0.toNat 1).toNat 17))), .inl l2] (G, M, T) (fun r S1 => pm_Run d 83 81 [.inr (.inr (.inl l0)), .inl l1, .inl l2] (pm_push r [.inr (.inr (.inl l0))]) S1 K) := by
  refine (px_go (by decide +kernel : pm_fe 83 69 = some (.aload_n 0, 1)) rfl).trans ?_
  refine (px_go (by decide +kernel : pm_fe 83 70 = some (.aload_n 0, 1)) rfl).trans ?_
  refine (px_get2 (idx := 21) (ci := 6) (k := 1) (by decide +kernel)).trans ((and_iff_right h1).trans ?_)
  refine (px_get2 (idx := 127) (ci := 1) (k := 17) (by decide +kernel)).trans ((and_iff_right h2).trans ?_)
  refine (px_go (by decide +kernel : pm_fe 83 77 = some (.iload_n 2, 1)) rfl).trans ?_
  refine (px_v1 (idx := 152) (m' := 44) (ci := 3) (by decide +kernel)).trans ((and_iff_right ⟨h3, (by simp [pm_wl_n, pm_wl_c, pm_w] : pm_wl [.inr (.inr (.inl l0))] ≤ 8)⟩).trans ?_)
  exact Iff.rfl
theorem b83_81 {d : Nat} {G : PG} {M T : PH} {K : PV → PS → Prop} {l0 l1 l2 s0 s1 : Int} : pm_Run d 83 81 [.inr (.inr (.inl l0)), .inl l1, .inl l2] [.inl s0, .inr (.inr (.inl s1))] (G, M, T) K ↔ if pm_sg s0 ≠ 0 then pm_Run d 83 88 [.inr (.inr (.inl l0)), .inl l1, .inl l2] [.inr (.inr (.inl s1))] (G, M, T) K else pm_Run d 83 84 [.inr (.inr (.inl l0)), .inl l1, .inl l2] [.inr (.inr (.inl s1))] (G, M, T) K := by
  refine (px_if_ne (off := 7) (tgt := 88) (by decide +kernel)).trans ?_
  exact Iff.rfl
theorem b83_84 {d : Nat} {G : PG} {M T : PH} {K : PV → PS → Prop} {l0 l1 l2 s0 : Int} : pm_Run d 83 84 [.inr (.inr (.inl l0)), .inl l1, .inl l2] [.inr (.inr (.inl s0))] (G, M, T) K ↔ pm_Run d 83 89 [.inr (.inr (.inl l0)), .inl l1, .inl l2] [.inl 1, .inr (.inr (.inl s0))] (G, M, T) K := by
  refine (px_go (by decide +kernel : pm_fe 83 84 = some (.iconst 1, 1)) rfl).trans ?_
  refine (px_goto (off := 4) (tgt := 89) (by decide +kernel)).trans ?_
  exact Iff.rfl
theorem b83_88 {d : Nat} {G : PG} {M T : PH} {K : PV → PS → Prop} {l0 l1 l2 s0 : Int} : pm_Run d 83 88 [.inr (.inr (.inl l0)), .inl l1, .inl l2] [.inr (.inr (.inl s0))] (G, M, T) K ↔ pm_Run d 83 89 [.inr (.inr (.inl l0)), .inl l1, .inl l2] [.inl 0, .inr (.inr (.inl s0))] (G, M, T) K := by
  refine (px_go (by decide +kernel : pm_fe 83 88 = some (.iconst 0, 1)) rfl).trans ?_
  exact Iff.rfl
theorem b83_89 {d : Nat} {G : PG} {M T : PH} {K : PV → PS → Prop} {l0 l1 l2 s0 s1 : Int} (h1 : pm_ob G s1 6) : pm_Run d 83 89 [.inr (.inr (.inl l0)), .inl l1, .inl l2] [.inl s0, .inr (.inr (.inl s1))] (G, M, T) K ↔ pm_Call d 81 [.inr (.inr (.inl s1)), .inl s0] (G, M, T) (fun r S1 => pm_Run d 83 92 [.inr (.inr (.inl l0)), .inl l1, .inl l2] (pm_push r []) S1 K) := by
  refine (px_v1 (idx := 148) (m' := 81) (ci := 6) (by decide +kernel)).trans ((and_iff_right ⟨h1, (by simp [pm_wl_n, pm_wl_c, pm_w] : pm_wl [] ≤ 8)⟩).trans ?_)
  exact Iff.rfl
theorem b83_92 {d : Nat} {G : PG} {M T : PH} {K : PV → PS → Prop} {l0 l1 l2 s0 : Int} : pm_Run d 83 92 [.inr (.inr (.inl l0)), .inl l1, .inl l2] [.inl s0] (G, M, T) K ↔ if pm_sg s0 = 0 then pm_Run d 83 99 [.inr (.inr (.inl l0)), .inl l1, .inl l2] [] (G, M, T) K else pm_Run d 83 95 [.inr (.inr (.inl l0)), .inl l1, .inl l2] [] (G, M, T) K := by
  refine (px_if_eq (off := 7) (tgt := 99) (by decide +kernel)).trans ?_
  exact Iff.rfl
theorem b83_95 {d : Nat} {G : PG} {M T : PH} {K : PV → PS → Prop} {l0 l1 l2 : Int} : pm_Run d 83 95 [.inr (.inr (.inl l0)), .inl l1, .inl l2] [] (G, M, T) K ↔ pm_Run d 83 100 [.inr (.inr (.inl l0)), .inl l1, .inl l2] [.inl l2] (G, M, T) K := by
  refine (px_go (by decide +kernel : pm_fe 83 95 = some (.iload_n 2, 1)) rfl).trans ?_
  refine (px_goto (off := 4) (tgt := 100) (by decide +kernel)).trans ?_
  exact Iff.rfl
theorem b83_99 {d : Nat} {G : PG} {M T : PH} {K : PV → PS → Prop} {l0 l1 l2 : Int} : pm_Run d 83 99 [.inr (.inr (.inl l0)), .inl l1, .inl l2] [] (G, M, T) K ↔ pm_Run d 83 100 [.inr (.inr (.inl l0)), .inl l1, .inl l2] [.inl (-1)] (G, M, T) K := by
  refine (px_go (by decide +kernel : pm_fe 83 99 = some (.iconst (-1), 1)) rfl).trans ?_
  exact Iff.rfl
theorem b83_100 {d : Nat} {G : PG} {M T : PH} {K : PV → PS → Prop} {l0 l1 l2 s0 : Int} : pm_Run d 83 100 [.inr (.inr (.inl l0)), .inl l1, .inl l2] [.inl s0] (G, M, T) K ↔ K (.inl s0) (G, M, T) := by
  refine (px_ri (by decide +kernel)).trans ?_
  exact Iff.rfl
-- X6_moonStatement moonStatement()V
theorem en84 {d : Nat} {a : Int} {S : PS} {K : PV → PS → Prop} : pm_Call (d + 1) 84 [.inr (.inr (.inl a))] S K ↔ pm_Run d 84 0 [.inr (.inr (.inl a)), PU] [] S K := pm_Call_s.trans (and_iff_right (show 1 ≤ pm_ml 84 from by decide +kernel))
theorem b84_0 {d : Nat} {G : PG} {M T : PH} {K : PV → PS → Prop} {l0 : Int} (h1 : pm_ob G l0 6) (h2 : pm_ob G (T l0.toNat 1) 1) : pm_Run d 84 0 [.inr (.inr (.inl l0)), PU] [] (G, M, T) K ↔ if pm_sg 3 ≤ pm_sg (M (T l0.toNat 1).toNat 1) then pm_Run d 84 18 [.inr (.inr (.inl l0)), .inl (M (T l0.toNat 1).toNat 1)] [.inr (.inr (.inl l0))] (G, M, T) K else pm_Run d 84 14 [.inr (.inr (.inl l0)), .inl (M (T l0.toNat 1).toNat 1)] [.inr (.inr (.inl l0))] (G, M, T) K := by
  refine (px_go (by decide +kernel : pm_fe 84 0 = some (.aload_n 0, 1)) rfl).trans ?_
  refine (px_get2 (idx := 21) (ci := 6) (k := 1) (by decide +kernel)).trans ((and_iff_right h1).trans ?_)
  refine (px_get0 (idx := 155) (ci := 1) (k := 1) (by decide +kernel)).trans ((and_iff_right h2).trans ?_)
  refine (px_go (by decide +kernel : pm_fe 84 7 = some (.istore_n 1, 1)) rfl).trans ?_
  refine (px_go (by decide +kernel : pm_fe 84 8 = some (.aload_n 0, 1)) rfl).trans ?_
  refine (px_go (by decide +kernel : pm_fe 84 9 = some (.iload_n 1, 1)) rfl).trans ?_
  refine (px_go (by decide +kernel : pm_fe 84 10 = some (.iconst 3, 1)) rfl).trans ?_
  refine (px_ic_ge (off := 7) (tgt := 18) (by decide +kernel)).trans ?_
  exact Iff.rfl
theorem b84_14 {d : Nat} {G : PG} {M T : PH} {K : PV → PS → Prop} {l0 l1 s0 : Int} : pm_Run d 84 14 [.inr (.inr (.inl l0)), .inl l1] [.inr (.inr (.inl s0))] (G, M, T) K ↔ pm_Run d 84 19 [.inr (.inr (.inl l0)), .inl l1] [.inl 1, .inr (.inr (.inl s0))] (G, M, T) K := by
  refine (px_go (by decide +kernel : pm_fe 84 14 = some (.iconst 1, 1)) rfl).trans ?_
  refine (px_goto (off := 4) (tgt := 19) (by decide +kernel)).trans ?_
  exact Iff.rfl
theorem b84_18 {d : Nat} {G : PG} {M T : PH} {K : PV → PS → Prop} {l0 l1 s0 : Int} : pm_Run d 84 18 [.inr (.inr (.inl l0)), .inl l1] [.inr (.inr (.inl s0))] (G, M, T) K ↔ pm_Run d 84 19 [.inr (.inr (.inl l0)), .inl l1] [.inl 0, .inr (.inr (.inl s0))] (G, M, T) K := by
  refine (px_go (by decide +kernel : pm_fe 84 18 = some (.iconst 0, 1)) rfl).trans ?_
  exact Iff.rfl
theorem b84_19 {d : Nat} {G : PG} {M T : PH} {K : PV → PS → Prop} {l0 l1 s0 s1 : Int} (h1 : pm_ob G s1 6) : pm_Run d 84 19 [.inr (.inr (.inl l0)), .inl l1] [.inl s0, .inr (.inr (.inl s1))] (G, M, T) K ↔ pm_Call d 81 [.inr (.inr (.inl s1)), .inl s0] (G, M, T) (fun r S1 => pm_Run d 84 22 [.inr (.inr (.inl l0)), .inl l1] (pm_push r []) S1 K) := by
  refine (px_v1 (idx := 148) (m' := 81) (ci := 6) (by decide +kernel)).trans ((and_iff_right ⟨h1, (by simp [pm_wl_n, pm_wl_c, pm_w] : pm_wl [] ≤ 8)⟩).trans ?_)
  exact Iff.rfl
theorem b84_22 {d : Nat} {G : PG} {M T : PH} {K : PV → PS → Prop} {l0 l1 s0 : Int} : pm_Run d 84 22 [.inr (.inr (.inl l0)), .inl l1] [.inl s0] (G, M, T) K ↔ if pm_sg s0 ≠ 0 then pm_Run d 84 26 [.inr (.inr (.inl l0)), .inl l1] [] (G, M, T) K else pm_Run d 84 25 [.inr (.inr (.inl l0)), .inl l1] [] (G, M, T) K := by
  refine (px_if_ne (off := 4) (tgt := 26) (by decide +kernel)).trans ?_
  exact Iff.rfl
theorem b84_25 {d : Nat} {G : PG} {M T : PH} {K : PV → PS → Prop} {l0 l1 : Int} : pm_Run d 84 25 [.inr (.inr (.inl l0)), .inl l1] [] (G, M, T) K ↔ K PU (G, M, T) := by
  refine (px_rv (by decide +kernel)).trans ?_
  exact Iff.rfl
theorem b84_26 {d : Nat} {G : PG} {M T : PH} {K : PV → PS → Prop} {l0 l1 : Int} (h1 : pm_ob G l0 6) (h2 : pm_ob G (T l0.toNat 1) 1) : pm_Run d 84 26 [.inr (.inr (.inl l0)), .inl l1] [] (G, M, T) K ↔ pm_Call d 77 [.inr (.inr (.inl l0))] (G, M, T) (fun r S1 => pm_Run d 84 38 [.inr (.inr (.inl l0)), .inl l1] (pm_push r [.inl l1, .inr (.inr (.inl (T (T l0.toNat 1).toNat 8)))]) S1 K) := by
  refine (px_go (by decide +kernel : pm_fe 84 26 = some (.aload_n 0, 1)) rfl).trans ?_
  refine (px_get2 (idx := 21) (ci := 6) (k := 1) (by decide +kernel)).trans ((and_iff_right h1).trans ?_)
  refine (px_get2 (idx := 158) (ci := 1) (k := 8) (by decide +kernel)).trans ((and_iff_right h2).trans ?_)
  refine (px_go (by decide +kernel : pm_fe 84 33 = some (.iload_n 1, 1)) rfl).trans ?_
  refine (px_go (by decide +kernel : pm_fe 84 34 = some (.aload_n 0, 1)) rfl).trans ?_
  refine (px_v0 (idx := 162) (m' := 77) (ci := 6) (by decide +kernel)).trans ((and_iff_right ⟨h1, (by simp [pm_wl_n, pm_wl_c, pm_w] : pm_wl [.inl l1, .inr (.inr (.inl (T (T l0.toNat 1).toNat 8)))] ≤ 8)⟩).trans ?_)
  exact Iff.rfl
theorem b84_38 {d : Nat} {G : PG} {M T : PH} {K : PV → PS → Prop} {l0 l1 s0 s1 s2 : Int} (h1 : pm_ar G s2 100 s1) (h2 : pm_ob G l0 6) : pm_Run d 84 38 [.inr (.inr (.inl l0)), .inl l1] [.inl s0, .inl s1, .inr (.inr (.inl s2))] (G, M, T) K ↔ pm_Call d 73 [.inr (.inr (.inl l0)), .inl 2] (G, pm_sa M s2.toNat (pm_up (M s2.toNat) (pm_sg s1).toNat s0), T) (fun r S1 => pm_Run d 84 44 [.inr (.inr (.inl l0)), .inl l1] (pm_push r []) S1 K) := by
  refine (px_iastore (by decide +kernel)).trans ((and_iff_right h1).trans ?_)
  refine (px_go (by decide +kernel : pm_fe 84 39 = some (.aload_n 0, 1)) rfl).trans ?_
  refine (px_go (by decide +kernel : pm_fe 84 40 = some (.iconst 2, 1)) rfl).trans ?_
  refine (px_v1 (idx := 166) (m' := 73) (ci := 6) (by decide +kernel)).trans ((and_iff_right ⟨h2, (by simp [pm_wl_n, pm_wl_c, pm_w] : pm_wl [] ≤ 8)⟩).trans ?_)
  exact Iff.rfl
theorem b84_44 {d : Nat} {G : PG} {M T : PH} {K : PV → PS → Prop} {l0 l1 : Int} (h1 : pm_ob G l0 6) (h2 : pm_ob G (T l0.toNat 1) 1) (h3 : pm_ob G (T (T l0.toNat 1).toNat 16) 5) : pm_Run d 84 44 [.inr (.inr (.inl l0)), .inl l1] [] (G, M, T) K ↔ pm_Call d 75 [.inr (.inr (.inl l0)), .inl 0, .inl ((M (T l0.toNat 1).toNat 0) - 1)] (G, M, T) (fun r S1 => pm_Run d 84 69 [.inr (.inr (.inl l0)), .inl l1] (pm_push r [.inl l1, .inr (.inr (.inl (T (T (T l0.toNat 1).toNat 16).toNat 1)))]) S1 K) := by
  refine (px_go (by decide +kernel : pm_fe 84 44 = some (.aload_n 0, 1)) rfl).trans ?_
  refine (px_get2 (idx := 21) (ci := 6) (k := 1) (by decide +kernel)).trans ((and_iff_right h1).trans ?_)
  refine (px_get2 (idx := 169) (ci := 1) (k := 16) (by decide +kernel)).trans ((and_iff_right h2).trans ?_)
  refine (px_get2 (idx := 173) (ci := 5) (k := 1) (by decide +kernel)).trans ((and_iff_right h3).trans ?_)
  refine (px_go (by decide +kernel : pm_fe 84 54 = some (.iload_n 1, 1)) rfl).trans ?_
  refine (px_go (by decide +kernel : pm_fe 84 55 = some (.aload_n 0, 1)) rfl).trans ?_
  refine (px_go (by decide +kernel : pm_fe 84 56 = some (.iconst 0, 1)) rfl).trans ?_
  refine (px_go (by decide +kernel : pm_fe 84 57 = some (.aload_n 0, 1)) rfl).trans ?_
  refine (px_get2 (idx := 21) (ci := 6) (k := 1) (by decide +kernel)).trans ((and_iff_right h1).trans ?_)
  refine (px_get0 (idx := 103) (ci := 1) (k := 0) (by decide +kernel)).trans ((and_iff_right h2).trans ?_)
  refine (px_go (by decide +kernel : pm_fe 84 64 = some (.iconst 1, 1)) rfl).trans ?_
  refine (px_go (by decide +kernel : pm_fe 84 65 = some (.isub, 1)) rfl).trans ?_
  refine (px_v2 (idx := 99) (m' := 75) (ci := 6) (by decide +kernel)).trans ((and_iff_right ⟨h1, (by simp [pm_wl_n, pm_wl_c, pm_w] : pm_wl [.inl l1, .inr (.inr (.inl (T (T (T l0.toNat 1).toNat 16).toNat 1)))] ≤ 8)⟩).trans ?_)
  exact Iff.rfl
theorem b84_69 {d : Nat} {G : PG} {M T : PH} {K : PV → PS → Prop} {l0 l1 s0 s1 s2 : Int} (h1 : pm_ar G s2 100 s1) (h2 : pm_ob G l0 6) : pm_Run d 84 69 [.inr (.inr (.inl l0)), .inl l1] [.inl s0, .inl s1, .inr (.inr (.inl s2))] (G, M, T) K ↔ pm_Call d 73 [.inr (.inr (.inl l0)), .inl 3] (G, pm_sa M s2.toNat (pm_up (M s2.toNat) (pm_sg s1).toNat s0), T) (fun r S1 => pm_Run d 84 75 [.inr (.inr (.inl l0)), .inl l1] (pm_push r []) S1 K) := by
  refine (px_iastore (by decide +kernel)).trans ((and_iff_right h1).trans ?_)
  refine (px_go (by decide +kernel : pm_fe 84 70 = some (.aload_n 0, 1)) rfl).trans ?_
  refine (px_go (by decide +kernel : pm_fe 84 71 = some (.iconst 3, 1)) rfl).trans ?_
  refine (px_v1 (idx := 166) (m' := 73) (ci := 6) (by decide +kernel)).trans ((and_iff_right ⟨h2, (by simp [pm_wl_n, pm_wl_c, pm_w] : pm_wl [] ≤ 8)⟩).trans ?_)
  exact Iff.rfl
theorem b84_75 {d : Nat} {G : PG} {M T : PH} {K : PV → PS → Prop} {l0 l1 : Int} (h1 : pm_ob G l0 6) (h2 : pm_ob G (T l0.toNat 1) 1) : pm_Run d 84 75 [.inr (.inr (.inl l0)), .inl l1] [] (G, M, T) K ↔ pm_Call d 75 [.inr (.inr (.inl l0)), .inl 0, .inl 23] (G, M, T) (fun r S1 => pm_Run d 84 90 [.inr (.inr (.inl l0)), .inl l1] (pm_push r [.inl l1, .inr (.inr (.inl (T (T l0.toNat 1).toNat 9)))]) S1 K) := by
  refine (px_go (by decide +kernel : pm_fe 84 75 = some (.aload_n 0, 1)) rfl).trans ?_
  refine (px_get2 (idx := 21) (ci := 6) (k := 1) (by decide +kernel)).trans ((and_iff_right h1).trans ?_)
  refine (px_get2 (idx := 178) (ci := 1) (k := 9) (by decide +kernel)).trans ((and_iff_right h2).trans ?_)
  refine (px_go (by decide +kernel : pm_fe 84 82 = some (.iload_n 1, 1)) rfl).trans ?_
  refine (px_go (by decide +kernel : pm_fe 84 83 = some (.aload_n 0, 1)) rfl).trans ?_
  refine (px_go (by decide +kernel : pm_fe 84 84 = some (.iconst 0, 1)) rfl).trans ?_
  refine (px_go (by decide +kernel : pm_fe 84 85 = some (.bipush 23, 2)) rfl).trans ?_
  refine (px_v2 (idx := 99) (m' := 75) (ci := 6) (by decide +kernel)).trans ((and_iff_right ⟨h1, (by simp [pm_wl_n, pm_wl_c, pm_w] : pm_wl [.inl l1, .inr (.inr (.inl (T (T l0.toNat 1).toNat 9)))] ≤ 8)⟩).trans ?_)
  exact Iff.rfl
theorem b84_90 {d : Nat} {G : PG} {M T : PH} {K : PV → PS → Prop} {l0 l1 s0 s1 s2 : Int} (h1 : pm_ar G s2 100 s1) (h2 : pm_ob G l0 6) : pm_Run d 84 90 [.inr (.inr (.inl l0)), .inl l1] [.inl s0, .inl s1, .inr (.inr (.inl s2))] (G, M, T) K ↔ pm_Call d 73 [.inr (.inr (.inl l0)), .inl 4] (G, pm_sa M s2.toNat (pm_up (M s2.toNat) (pm_sg s1).toNat s0), T) (fun r S1 => pm_Run d 84 96 [.inr (.inr (.inl l0)), .inl l1] (pm_push r []) S1 K) := by
  refine (px_iastore (by decide +kernel)).trans ((and_iff_right h1).trans ?_)
  refine (px_go (by decide +kernel : pm_fe 84 91 = some (.aload_n 0, 1)) rfl).trans ?_
  refine (px_go (by decide +kernel : pm_fe 84 92 = some (.iconst 4, 1)) rfl).trans ?_
  refine (px_v1 (idx := 166) (m' := 73) (ci := 6) (by decide +kernel)).trans ((and_iff_right ⟨h2, (by simp [pm_wl_n, pm_wl_c, pm_w] : pm_wl [] ≤ 8)⟩).trans ?_)
  exact Iff.rfl
theorem b84_96 {d : Nat} {G : PG} {M T : PH} {K : PV → PS → Prop} {l0 l1 : Int} (h1 : pm_ob G l0 6) (h2 : pm_ob G (T l0.toNat 1) 1) (h3 : pm_ob G (T (T l0.toNat 1).toNat 16) 5) : pm_Run d 84 96 [.inr (.inr (.inl l0)), .inl l1] [] (G, M, T) K ↔ pm_Call d 75 [.inr (.inr (.inl l0)), .inl 0, .inl 9] (G, M, T) (fun r S1 => pm_Run d 84 114 [.inr (.inr (.inl l0)), .inl l1] (pm_push r [.inl l1, .inr (.inr (.inl (T (T (T l0.toNat 1).toNat 16).toNat 2)))]) S1 K) := by
  refine (px_go (by decide +kernel : pm_fe 84 96 = some (.aload_n 0, 1)) rfl).trans ?_
  refine (px_get2 (idx := 21) (ci := 6) (k := 1) (by decide +kernel)).trans ((and_iff_right h1).trans ?_)
  refine (px_get2 (idx := 169) (ci := 1) (k := 16) (by decide +kernel)).trans ((and_iff_right h2).trans ?_)
  refine (px_get2 (idx := 181) (ci := 5) (k := 2) (by decide +kernel)).trans ((and_iff_right h3).trans ?_)
  refine (px_go (by decide +kernel : pm_fe 84 106 = some (.iload_n 1, 1)) rfl).trans ?_
  refine (px_go (by decide +kernel : pm_fe 84 107 = some (.aload_n 0, 1)) rfl).trans ?_
  refine (px_go (by decide +kernel : pm_fe 84 108 = some (.iconst 0, 1)) rfl).trans ?_
  refine (px_go (by decide +kernel : pm_fe 84 109 = some (.bipush 9, 2)) rfl).trans ?_
  refine (px_v2 (idx := 99) (m' := 75) (ci := 6) (by decide +kernel)).trans ((and_iff_right ⟨h1, (by simp [pm_wl_n, pm_wl_c, pm_w] : pm_wl [.inl l1, .inr (.inr (.inl (T (T (T l0.toNat 1).toNat 16).toNat 2)))] ≤ 8)⟩).trans ?_)
  exact Iff.rfl
theorem b84_114 {d : Nat} {G : PG} {M T : PH} {K : PV → PS → Prop} {l0 l1 s0 s1 s2 : Int} (h1 : pm_ar G s2 100 s1) (h2 : pm_ob G l0 6) (h3 : pm_ob G (T l0.toNat 1) 1) : pm_Run d 84 114 [.inr (.inr (.inl l0)), .inl l1] [.inl s0, .inl s1, .inr (.inr (.inl s2))] (G, M, T) K ↔ K PU (G, pm_sa (pm_sa M s2.toNat (pm_up (M s2.toNat) (pm_sg s1).toNat s0)) (T l0.toNat 1).toNat (pm_up ((pm_sa M s2.toNat (pm_up (M s2.toNat) (pm_sg s1).toNat s0)) (T l0.toNat 1).toNat) 1 (l1 + 1)), T) := by
  refine (px_iastore (by decide +kernel)).trans ((and_iff_right h1).trans ?_)
  refine (px_go (by decide +kernel : pm_fe 84 115 = some (.aload_n 0, 1)) rfl).trans ?_
  refine (px_get2 (idx := 21) (ci := 6) (k := 1) (by decide +kernel)).trans ((and_iff_right h2).trans ?_)
  refine (px_go (by decide +kernel : pm_fe 84 119 = some (.iload_n 1, 1)) rfl).trans ?_
  refine (px_go (by decide +kernel : pm_fe 84 120 = some (.iconst 1, 1)) rfl).trans ?_
  refine (px_go (by decide +kernel : pm_fe 84 121 = some (.iadd, 1)) rfl).trans ?_
  refine (px_put0 (idx := 155) (ci := 1) (k := 1) (by decide +kernel)).trans ((and_iff_right h3).trans ?_)
  refine (px_rv (by decide +kernel)).trans ?_
  exact Iff.rfl
-- X6_harborStatement harborStatement()V
theorem en85 {d : Nat} {a : Int} {S : PS} {K : PV → PS → Prop} : pm_Call (d + 1) 85 [.inr (.inr (.inl a))] S K ↔ pm_Run d 85 0 [.inr (.inr (.inl a)), PU] [] S K := pm_Call_s.trans (and_iff_right (show 1 ≤ pm_ml 85 from by decide +kernel))
theorem b85_0 {d : Nat} {G : PG} {M T : PH} {K : PV → PS → Prop} {l0 : Int} (h1 : pm_ob G l0 6) (h2 : pm_ob G (T l0.toNat 1) 1) : pm_Run d 85 0 [.inr (.inr (.inl l0)), PU] [] (G, M, T) K ↔ if pm_sg 8 ≤ pm_sg (M (T l0.toNat 1).toNat 2) then pm_Run d 85 19 [.inr (.inr (.inl l0)), .inl (M (T l0.toNat 1).toNat 2)] [.inr (.inr (.inl l0))] (G, M, T) K else pm_Run d 85 15 [.inr (.inr (.inl l0)), .inl (M (T l0.toNat 1).toNat 2)] [.inr (.inr (.inl l0))] (G, M, T) K := by
  refine (px_go (by decide +kernel : pm_fe 85 0 = some (.aload_n 0, 1)) rfl).trans ?_
  refine (px_get2 (idx := 21) (ci := 6) (k := 1) (by decide +kernel)).trans ((and_iff_right h1).trans ?_)
  refine (px_get0 (idx := 184) (ci := 1) (k := 2) (by decide +kernel)).trans ((and_iff_right h2).trans ?_)
  refine (px_go (by decide +kernel : pm_fe 85 7 = some (.istore_n 1, 1)) rfl).trans ?_
  refine (px_go (by decide +kernel : pm_fe 85 8 = some (.aload_n 0, 1)) rfl).trans ?_
  refine (px_go (by decide +kernel : pm_fe 85 9 = some (.iload_n 1, 1)) rfl).trans ?_
  refine (px_go (by decide +kernel : pm_fe 85 10 = some (.bipush 8, 2)) rfl).trans ?_
  refine (px_ic_ge (off := 7) (tgt := 19) (by decide +kernel)).trans ?_
  exact Iff.rfl
theorem b85_15 {d : Nat} {G : PG} {M T : PH} {K : PV → PS → Prop} {l0 l1 s0 : Int} : pm_Run d 85 15 [.inr (.inr (.inl l0)), .inl l1] [.inr (.inr (.inl s0))] (G, M, T) K ↔ pm_Run d 85 20 [.inr (.inr (.inl l0)), .inl l1] [.inl 1, .inr (.inr (.inl s0))] (G, M, T) K := by
  refine (px_go (by decide +kernel : pm_fe 85 15 = some (.iconst 1, 1)) rfl).trans ?_
  refine (px_goto (off := 4) (tgt := 20) (by decide +kernel)).trans ?_
  exact Iff.rfl
theorem b85_19 {d : Nat} {G : PG} {M T : PH} {K : PV → PS → Prop} {l0 l1 s0 : Int} : pm_Run d 85 19 [.inr (.inr (.inl l0)), .inl l1] [.inr (.inr (.inl s0))] (G, M, T) K ↔ pm_Run d 85 20 [.inr (.inr (.inl l0)), .inl l1] [.inl 0, .inr (.inr (.inl s0))] (G, M, T) K := by
  refine (px_go (by decide +kernel : pm_fe 85 19 = some (.iconst 0, 1)) rfl).trans ?_
  exact Iff.rfl
theorem b85_20 {d : Nat} {G : PG} {M T : PH} {K : PV → PS → Prop} {l0 l1 s0 s1 : Int} (h1 : pm_ob G s1 6) : pm_Run d 85 20 [.inr (.inr (.inl l0)), .inl l1] [.inl s0, .inr (.inr (.inl s1))] (G, M, T) K ↔ pm_Call d 81 [.inr (.inr (.inl s1)), .inl s0] (G, M, T) (fun r S1 => pm_Run d 85 23 [.inr (.inr (.inl l0)), .inl l1] (pm_push r []) S1 K) := by
  refine (px_v1 (idx := 148) (m' := 81) (ci := 6) (by decide +kernel)).trans ((and_iff_right ⟨h1, (by simp [pm_wl_n, pm_wl_c, pm_w] : pm_wl [] ≤ 8)⟩).trans ?_)
  exact Iff.rfl
theorem b85_23 {d : Nat} {G : PG} {M T : PH} {K : PV → PS → Prop} {l0 l1 s0 : Int} : pm_Run d 85 23 [.inr (.inr (.inl l0)), .inl l1] [.inl s0] (G, M, T) K ↔ if pm_sg s0 ≠ 0 then pm_Run d 85 27 [.inr (.inr (.inl l0)), .inl l1] [] (G, M, T) K else pm_Run d 85 26 [.inr (.inr (.inl l0)), .inl l1] [] (G, M, T) K := by
  refine (px_if_ne (off := 4) (tgt := 27) (by decide +kernel)).trans ?_
  exact Iff.rfl
theorem b85_26 {d : Nat} {G : PG} {M T : PH} {K : PV → PS → Prop} {l0 l1 : Int} : pm_Run d 85 26 [.inr (.inr (.inl l0)), .inl l1] [] (G, M, T) K ↔ K PU (G, M, T) := by
  refine (px_rv (by decide +kernel)).trans ?_
  exact Iff.rfl
theorem b85_27 {d : Nat} {G : PG} {M T : PH} {K : PV → PS → Prop} {l0 l1 : Int} (h1 : pm_ob G l0 6) (h2 : pm_ob G (T l0.toNat 1) 1) : pm_Run d 85 27 [.inr (.inr (.inl l0)), .inl l1] [] (G, M, T) K ↔ pm_Call d 77 [.inr (.inr (.inl l0))] (G, M, T) (fun r S1 => pm_Run d 85 39 [.inr (.inr (.inl l0)), .inl l1] (pm_push r [.inl l1, .inr (.inr (.inl (T (T l0.toNat 1).toNat 10)))]) S1 K) := by
  refine (px_go (by decide +kernel : pm_fe 85 27 = some (.aload_n 0, 1)) rfl).trans ?_
  refine (px_get2 (idx := 21) (ci := 6) (k := 1) (by decide +kernel)).trans ((and_iff_right h1).trans ?_)
  refine (px_get2 (idx := 187) (ci := 1) (k := 10) (by decide +kernel)).trans ((and_iff_right h2).trans ?_)
  refine (px_go (by decide +kernel : pm_fe 85 34 = some (.iload_n 1, 1)) rfl).trans ?_
  refine (px_go (by decide +kernel : pm_fe 85 35 = some (.aload_n 0, 1)) rfl).trans ?_
  refine (px_v0 (idx := 162) (m' := 77) (ci := 6) (by decide +kernel)).trans ((and_iff_right ⟨h1, (by simp [pm_wl_n, pm_wl_c, pm_w] : pm_wl [.inl l1, .inr (.inr (.inl (T (T l0.toNat 1).toNat 10)))] ≤ 8)⟩).trans ?_)
  exact Iff.rfl
theorem b85_39 {d : Nat} {G : PG} {M T : PH} {K : PV → PS → Prop} {l0 l1 s0 s1 s2 : Int} (h1 : pm_ar G s2 100 s1) (h2 : pm_ob G l0 6) : pm_Run d 85 39 [.inr (.inr (.inl l0)), .inl l1] [.inl s0, .inl s1, .inr (.inr (.inl s2))] (G, M, T) K ↔ pm_Call d 73 [.inr (.inr (.inl l0)), .inl 2] (G, pm_sa M s2.toNat (pm_up (M s2.toNat) (pm_sg s1).toNat s0), T) (fun r S1 => pm_Run d 85 45 [.inr (.inr (.inl l0)), .inl l1] (pm_push r []) S1 K) := by
  refine (px_iastore (by decide +kernel)).trans ((and_iff_right h1).trans ?_)
  refine (px_go (by decide +kernel : pm_fe 85 40 = some (.aload_n 0, 1)) rfl).trans ?_
  refine (px_go (by decide +kernel : pm_fe 85 41 = some (.iconst 2, 1)) rfl).trans ?_
  refine (px_v1 (idx := 166) (m' := 73) (ci := 6) (by decide +kernel)).trans ((and_iff_right ⟨h2, (by simp [pm_wl_n, pm_wl_c, pm_w] : pm_wl [] ≤ 8)⟩).trans ?_)
  exact Iff.rfl
theorem b85_45 {d : Nat} {G : PG} {M T : PH} {K : PV → PS → Prop} {l0 l1 : Int} (h1 : pm_ob G l0 6) (h2 : pm_ob G (T l0.toNat 1) 1) : pm_Run d 85 45 [.inr (.inr (.inl l0)), .inl l1] [] (G, M, T) K ↔ pm_Call d 86 [.inr (.inr (.inl l0))] (G, M, T) (fun r S1 => pm_Run d 85 57 [.inr (.inr (.inl l0)), .inl l1] (pm_push r [.inl l1, .inr (.inr (.inl (T (T l0.toNat 1).toNat 11)))]) S1 K) := by
  refine (px_go (by decide +kernel : pm_fe 85 45 = some (.aload_n 0, 1)) rfl).trans ?_
  refine (px_get2 (idx := 21) (ci := 6) (k := 1) (by decide +kernel)).trans ((and_iff_right h1).trans ?_)
  refine (px_get2 (idx := 190) (ci := 1) (k := 11) (by decide +kernel)).trans ((and_iff_right h2).trans ?_)
  refine (px_go (by decide +kernel : pm_fe 85 52 = some (.iload_n 1, 1)) rfl).trans ?_
  refine (px_go (by decide +kernel : pm_fe 85 53 = some (.aload_n 0, 1)) rfl).trans ?_
  refine (px_v0 (idx := 193) (m' := 86) (ci := 6) (by decide +kernel)).trans ((and_iff_right ⟨h1, (by simp [pm_wl_n, pm_wl_c, pm_w] : pm_wl [.inl l1, .inr (.inr (.inl (T (T l0.toNat 1).toNat 11)))] ≤ 8)⟩).trans ?_)
  exact Iff.rfl
theorem b85_57 {d : Nat} {G : PG} {M T : PH} {K : PV → PS → Prop} {l0 l1 s0 s1 s2 : Int} (h1 : pm_ar G s2 100 s1) (h2 : pm_ob G l0 6) : pm_Run d 85 57 [.inr (.inr (.inl l0)), .inl l1] [.inl s0, .inl s1, .inr (.inr (.inl s2))] (G, M, T) K ↔ pm_Call d 73 [.inr (.inr (.inl l0)), .inl 6] (G, pm_sa M s2.toNat (pm_up (M s2.toNat) (pm_sg s1).toNat s0), T) (fun r S1 => pm_Run d 85 64 [.inr (.inr (.inl l0)), .inl l1] (pm_push r []) S1 K) := by
  refine (px_iastore (by decide +kernel)).trans ((and_iff_right h1).trans ?_)
  refine (px_go (by decide +kernel : pm_fe 85 58 = some (.aload_n 0, 1)) rfl).trans ?_
  refine (px_go (by decide +kernel : pm_fe 85 59 = some (.bipush 6, 2)) rfl).trans ?_
  refine (px_v1 (idx := 166) (m' := 73) (ci := 6) (by decide +kernel)).trans ((and_iff_right ⟨h2, (by simp [pm_wl_n, pm_wl_c, pm_w] : pm_wl [] ≤ 8)⟩).trans ?_)
  exact Iff.rfl
theorem b85_64 {d : Nat} {G : PG} {M T : PH} {K : PV → PS → Prop} {l0 l1 : Int} (h1 : pm_ob G l0 6) (h2 : pm_ob G (T l0.toNat 1) 1) (h3 : pm_ob G (T (T l0.toNat 1).toNat 16) 5) : pm_Run d 85 64 [.inr (.inr (.inl l0)), .inl l1] [] (G, M, T) K ↔ pm_Call d 75 [.inr (.inr (.inl l0)), .inl 0, .inl 999] (G, M, T) (fun r S1 => pm_Run d 85 83 [.inr (.inr (.inl l0)), .inl l1] (pm_push r [.inl l1, .inr (.inr (.inl (T (T (T l0.toNat 1).toNat 16).toNat 3)))]) S1 K) := by
  refine (px_go (by decide +kernel : pm_fe 85 64 = some (.aload_n 0, 1)) rfl).trans ?_
  refine (px_get2 (idx := 21) (ci := 6) (k := 1) (by decide +kernel)).trans ((and_iff_right h1).trans ?_)
  refine (px_get2 (idx := 169) (ci := 1) (k := 16) (by decide +kernel)).trans ((and_iff_right h2).trans ?_)
  refine (px_get2 (idx := 196) (ci := 5) (k := 3) (by decide +kernel)).trans ((and_iff_right h3).trans ?_)
  refine (px_go (by decide +kernel : pm_fe 85 74 = some (.iload_n 1, 1)) rfl).trans ?_
  refine (px_go (by decide +kernel : pm_fe 85 75 = some (.aload_n 0, 1)) rfl).trans ?_
  refine (px_go (by decide +kernel : pm_fe 85 76 = some (.iconst 0, 1)) rfl).trans ?_
  refine (px_go (by decide +kernel : pm_fe 85 77 = some (.sipush 999, 3)) rfl).trans ?_
  refine (px_v2 (idx := 99) (m' := 75) (ci := 6) (by decide +kernel)).trans ((and_iff_right ⟨h1, (by simp [pm_wl_n, pm_wl_c, pm_w] : pm_wl [.inl l1, .inr (.inr (.inl (T (T (T l0.toNat 1).toNat 16).toNat 3)))] ≤ 8)⟩).trans ?_)
  exact Iff.rfl
theorem b85_83 {d : Nat} {G : PG} {M T : PH} {K : PV → PS → Prop} {l0 l1 s0 s1 s2 : Int} (h1 : pm_ar G s2 100 s1) (h2 : pm_ob G l0 6) : pm_Run d 85 83 [.inr (.inr (.inl l0)), .inl l1] [.inl s0, .inl s1, .inr (.inr (.inl s2))] (G, M, T) K ↔ pm_Call d 73 [.inr (.inr (.inl l0)), .inl 7] (G, pm_sa M s2.toNat (pm_up (M s2.toNat) (pm_sg s1).toNat s0), T) (fun r S1 => pm_Run d 85 90 [.inr (.inr (.inl l0)), .inl l1] (pm_push r []) S1 K) := by
  refine (px_iastore (by decide +kernel)).trans ((and_iff_right h1).trans ?_)
  refine (px_go (by decide +kernel : pm_fe 85 84 = some (.aload_n 0, 1)) rfl).trans ?_
  refine (px_go (by decide +kernel : pm_fe 85 85 = some (.bipush 7, 2)) rfl).trans ?_
  refine (px_v1 (idx := 166) (m' := 73) (ci := 6) (by decide +kernel)).trans ((and_iff_right ⟨h2, (by simp [pm_wl_n, pm_wl_c, pm_w] : pm_wl [] ≤ 8)⟩).trans ?_)
  exact Iff.rfl
theorem b85_90 {d : Nat} {G : PG} {M T : PH} {K : PV → PS → Prop} {l0 l1 : Int} (h1 : pm_ob G l0 6) (h2 : pm_ob G (T l0.toNat 1) 1) : pm_Run d 85 90 [.inr (.inr (.inl l0)), .inl l1] [] (G, M, T) K ↔ pm_Call d 75 [.inr (.inr (.inl l0)), .inl 0, .inl 99] (G, M, T) (fun r S1 => pm_Run d 85 105 [.inr (.inr (.inl l0)), .inl l1] (pm_push r [.inl l1, .inr (.inr (.inl (T (T l0.toNat 1).toNat 12)))]) S1 K) := by
  refine (px_go (by decide +kernel : pm_fe 85 90 = some (.aload_n 0, 1)) rfl).trans ?_
  refine (px_get2 (idx := 21) (ci := 6) (k := 1) (by decide +kernel)).trans ((and_iff_right h1).trans ?_)
  refine (px_get2 (idx := 199) (ci := 1) (k := 12) (by decide +kernel)).trans ((and_iff_right h2).trans ?_)
  refine (px_go (by decide +kernel : pm_fe 85 97 = some (.iload_n 1, 1)) rfl).trans ?_
  refine (px_go (by decide +kernel : pm_fe 85 98 = some (.aload_n 0, 1)) rfl).trans ?_
  refine (px_go (by decide +kernel : pm_fe 85 99 = some (.iconst 0, 1)) rfl).trans ?_
  refine (px_go (by decide +kernel : pm_fe 85 100 = some (.bipush 99, 2)) rfl).trans ?_
  refine (px_v2 (idx := 99) (m' := 75) (ci := 6) (by decide +kernel)).trans ((and_iff_right ⟨h1, (by simp [pm_wl_n, pm_wl_c, pm_w] : pm_wl [.inl l1, .inr (.inr (.inl (T (T l0.toNat 1).toNat 12)))] ≤ 8)⟩).trans ?_)
  exact Iff.rfl
theorem b85_105 {d : Nat} {G : PG} {M T : PH} {K : PV → PS → Prop} {l0 l1 s0 s1 s2 : Int} (h1 : pm_ar G s2 100 s1) (h2 : pm_ob G l0 6) (h3 : pm_ob G (T l0.toNat 1) 1) : pm_Run d 85 105 [.inr (.inr (.inl l0)), .inl l1] [.inl s0, .inl s1, .inr (.inr (.inl s2))] (G, M, T) K ↔ K PU (G, pm_sa (pm_sa M s2.toNat (pm_up (M s2.toNat) (pm_sg s1).toNat s0)) (T l0.toNat 1).toNat (pm_up ((pm_sa M s2.toNat (pm_up (M s2.toNat) (pm_sg s1).toNat s0)) (T l0.toNat 1).toNat) 2 (l1 + 1)), T) := by
  refine (px_iastore (by decide +kernel)).trans ((and_iff_right h1).trans ?_)
  refine (px_go (by decide +kernel : pm_fe 85 106 = some (.aload_n 0, 1)) rfl).trans ?_
  refine (px_get2 (idx := 21) (ci := 6) (k := 1) (by decide +kernel)).trans ((and_iff_right h2).trans ?_)
  refine (px_go (by decide +kernel : pm_fe 85 110 = some (.iload_n 1, 1)) rfl).trans ?_
  refine (px_go (by decide +kernel : pm_fe 85 111 = some (.iconst 1, 1)) rfl).trans ?_
  refine (px_go (by decide +kernel : pm_fe 85 112 = some (.iadd, 1)) rfl).trans ?_
  refine (px_put0 (idx := 184) (ci := 1) (k := 2) (by decide +kernel)).trans ((and_iff_right h3).trans ?_)
  refine (px_rv (by decide +kernel)).trans ?_
  exact Iff.rfl
-- X6_freePlace freePlace()I
theorem en86 {d : Nat} {a : Int} {S : PS} {K : PV → PS → Prop} : pm_Call (d + 1) 86 [.inr (.inr (.inl a))] S K ↔ pm_Run d 86 0 [.inr (.inr (.inl a))] [] S K := pm_Call_s.trans (and_iff_right (show 1 ≤ pm_ml 86 from by decide +kernel))
theorem b86_0 {d : Nat} {G : PG} {M T : PH} {K : PV → PS → Prop} {l0 : Int} (h1 : pm_ob G l0 6) (h2 : pm_ob G (T l0.toNat 0) 4) : pm_Run d 86 0 [.inr (.inr (.inl l0))] [] (G, M, T) K ↔ if pm_sg (M (T l0.toNat 0).toNat 4) ≠ pm_sg 2 then pm_Run d 86 40 [.inr (.inr (.inl l0))] [] (G, M, T) K else pm_Run d 86 11 [.inr (.inr (.inl l0))] [] (G, M, T) K := by
  refine (px_go (by decide +kernel : pm_fe 86 0 = some (.aload_n 0, 1)) rfl).trans ?_
  refine (px_get2 (idx := 12) (ci := 6) (k := 0) (by decide +kernel)).trans ((and_iff_right h1).trans ?_)
  refine (px_get0 (idx := 45) (ci := 4) (k := 4) (by decide +kernel)).trans ((and_iff_right h2).trans ?_)
  refine (px_go (by decide +kernel : pm_fe 86 7 = some (.iconst 2, 1)) rfl).trans ?_
  refine (px_ic_ne (off := 32) (tgt := 40) (by decide +kernel)).trans ?_
  exact Iff.rfl
theorem b86_11 {d : Nat} {G : PG} {M T : PH} {K : PV → PS → Prop} {l0 : Int} (h1 : pm_ob G l0 6) (h2 : pm_ob G (T l0.toNat 0) 4) (h3 : pm_ob G (T l0.toNat 1) 1) : pm_Run d 86 11 [.inr (.inr (.inl l0))] [] (G, M, T) K ↔ pm_Call d 16 [.inr (.inr (.inl (T l0.toNat 1))), .inl (M (T l0.toNat 0).toNat 7)] (G, M, T) (fun r S1 => pm_Run d 86 25 [.inr (.inr (.inl l0))] (pm_push r []) S1 K) := by
  refine (px_go (by decide +kernel : pm_fe 86 11 = some (.aload_n 0, 1)) rfl).trans ?_
  refine (px_get2 (idx := 21) (ci := 6) (k := 1) (by decide +kernel)).trans ((and_iff_right h1).trans ?_)
  refine (px_go (by decide +kernel : pm_fe 86 15 = some (.aload_n 0, 1)) rfl).trans ?_
  refine (px_get2 (idx := 12) (ci := 6) (k := 0) (by decide +kernel)).trans ((and_iff_right h1).trans ?_)
  refine (px_get0 (idx := 75) (ci := 4) (k := 7) (by decide +kernel)).trans ((and_iff_right h2).trans ?_)
  refine (px_v1 (idx := 202) (m' := 16) (ci := 1) (by decide +kernel)).trans ((and_iff_right ⟨h3, (by simp [pm_wl_n, pm_wl_c, pm_w] : pm_wl [] ≤ 8)⟩).trans ?_)
  exact Iff.rfl
theorem b86_25 {d : Nat} {G : PG} {M T : PH} {K : PV → PS → Prop} {l0 s0 : Int} : pm_Run d 86 25 [.inr (.inr (.inl l0))] [.inl s0] (G, M, T) K ↔ if pm_sg s0 = 0 then pm_Run d 86 40 [.inr (.inr (.inl l0))] [] (G, M, T) K else pm_Run d 86 28 [.inr (.inr (.inl l0))] [] (G, M, T) K := by
  refine (px_if_eq (off := 15) (tgt := 40) (by decide +kernel)).trans ?_
  exact Iff.rfl
theorem b86_28 {d : Nat} {G : PG} {M T : PH} {K : PV → PS → Prop} {l0 : Int} (h1 : pm_ob G l0 6) (h2 : pm_ob G (T l0.toNat 0) 4) : pm_Run d 86 28 [.inr (.inr (.inl l0))] [] (G, M, T) K ↔ pm_Call d 69 [.inr (.inr (.inl l0)), .inl 4, .inl (M (T l0.toNat 0).toNat 5)] (G, M, T) (fun r S1 => pm_Run d 86 40 [.inr (.inr (.inl l0))] (pm_push r []) S1 K) := by
  refine (px_go (by decide +kernel : pm_fe 86 28 = some (.aload_n 0, 1)) rfl).trans ?_
  refine (px_go (by decide +kernel : pm_fe 86 29 = some (.iconst 4, 1)) rfl).trans ?_
  refine (px_go (by decide +kernel : pm_fe 86 30 = some (.aload_n 0, 1)) rfl).trans ?_
  refine (px_get2 (idx := 12) (ci := 6) (k := 0) (by decide +kernel)).trans ((and_iff_right h1).trans ?_)
  refine (px_get0 (idx := 51) (ci := 4) (k := 5) (by decide +kernel)).trans ((and_iff_right h2).trans ?_)
  refine (px_v2 (idx := 54) (m' := 69) (ci := 6) (by decide +kernel)).trans ((and_iff_right ⟨h1, (by simp [pm_wl_n, pm_wl_c, pm_w] : pm_wl [] ≤ 8)⟩).trans ?_)
  exact Iff.rfl
theorem b86_40 {d : Nat} {G : PG} {M T : PH} {K : PV → PS → Prop} {l0 : Int} (h1 : pm_ob G l0 6) (h2 : pm_ob G (T l0.toNat 1) 1) : pm_Run d 86 40 [.inr (.inr (.inl l0))] [] (G, M, T) K ↔ pm_Call d 75 [.inr (.inr (.inl l0)), .inl 0, .inl ((M (T l0.toNat 1).toNat 0) - 1)] (G, M, T) (fun r S1 => pm_Run d 86 54 [.inr (.inr (.inl l0))] (pm_push r []) S1 K) := by
  refine (px_go (by decide +kernel : pm_fe 86 40 = some (.aload_n 0, 1)) rfl).trans ?_
  refine (px_go (by decide +kernel : pm_fe 86 41 = some (.iconst 0, 1)) rfl).trans ?_
  refine (px_go (by decide +kernel : pm_fe 86 42 = some (.aload_n 0, 1)) rfl).trans ?_
  refine (px_get2 (idx := 21) (ci := 6) (k := 1) (by decide +kernel)).trans ((and_iff_right h1).trans ?_)
  refine (px_get0 (idx := 103) (ci := 1) (k := 0) (by decide +kernel)).trans ((and_iff_right h2).trans ?_)
  refine (px_go (by decide +kernel : pm_fe 86 49 = some (.iconst 1, 1)) rfl).trans ?_
  refine (px_go (by decide +kernel : pm_fe 86 50 = some (.isub, 1)) rfl).trans ?_
  refine (px_v2 (idx := 99) (m' := 75) (ci := 6) (by decide +kernel)).trans ((and_iff_right ⟨h1, (by simp [pm_wl_n, pm_wl_c, pm_w] : pm_wl [] ≤ 8)⟩).trans ?_)
  exact Iff.rfl
theorem b86_54 {d : Nat} {G : PG} {M T : PH} {K : PV → PS → Prop} {l0 s0 : Int} : pm_Run d 86 54 [.inr (.inr (.inl l0))] [.inl s0] (G, M, T) K ↔ K (.inl s0) (G, M, T) := by
  refine (px_ri (by decide +kernel)).trans ?_
  exact Iff.rfl
-- X6_paysStatement paysStatement()V
theorem en87 {d : Nat} {a : Int} {S : PS} {K : PV → PS → Prop} : pm_Call (d + 1) 87 [.inr (.inr (.inl a))] S K ↔ pm_Run d 87 0 [.inr (.inr (.inl a)), PU, PU, PU] [] S K := pm_Call_s.trans (and_iff_right (show 1 ≤ pm_ml 87 from by decide +kernel))
theorem b87_0 {d : Nat} {G : PG} {M T : PH} {K : PV → PS → Prop} {l0 : Int} (h1 : pm_ob G l0 6) (h2 : pm_ob G (T l0.toNat 0) 4) : pm_Run d 87 0 [.inr (.inr (.inl l0)), PU, PU, PU] [] (G, M, T) K ↔ pm_Call d 51 [.inr (.inr (.inl (T l0.toNat 0)))] (G, M, T) (fun r S1 => pm_Run d 87 7 [.inr (.inr (.inl l0)), PU, PU, PU] (pm_push r []) S1 K) := by
  refine (px_go (by decide +kernel : pm_fe 87 0 = some (.aload_n 0, 1)) rfl).trans ?_
  refine (px_get2 (idx := 12) (ci := 6) (k := 0) (by decide +kernel)).trans ((and_iff_right h1).trans ?_)
  refine (px_v0 (idx := 42) (m' := 51) (ci := 4) (by decide +kernel)).trans ((and_iff_right ⟨h2, (by simp [pm_wl_n, pm_wl_c, pm_w] : pm_wl [] ≤ 8)⟩).trans ?_)
  exact Iff.rfl
theorem b87_7 {d : Nat} {G : PG} {M T : PH} {K : PV → PS → Prop} {l0 : Int} (h1 : pm_ob G l0 6) : pm_Run d 87 7 [.inr (.inr (.inl l0)), PU, PU, PU] [] (G, M, T) K ↔ pm_Call d 79 [.inr (.inr (.inl l0)), .inl (-1)] (G, M, T) (fun r S1 => pm_Run d 87 12 [.inr (.inr (.inl l0)), PU, PU, PU] (pm_push r []) S1 K) := by
  refine (px_go (by decide +kernel : pm_fe 87 7 = some (.aload_n 0, 1)) rfl).trans ?_
  refine (px_go (by decide +kernel : pm_fe 87 8 = some (.iconst (-1), 1)) rfl).trans ?_
  refine (px_v1 (idx := 205) (m' := 79) (ci := 6) (by decide +kernel)).trans ((and_iff_right ⟨h1, (by simp [pm_wl_n, pm_wl_c, pm_w] : pm_wl [] ≤ 8)⟩).trans ?_)
  exact Iff.rfl
theorem b87_12 {d : Nat} {G : PG} {M T : PH} {K : PV → PS → Prop} {l0 s0 : Int} (h1 : pm_ob G l0 6) : pm_Run d 87 12 [.inr (.inr (.inl l0)), PU, PU, PU] [.inl s0] (G, M, T) K ↔ pm_Call d 78 [.inr (.inr (.inl l0))] (G, M, T) (fun r S1 => pm_Run d 87 17 [.inr (.inr (.inl l0)), .inl s0, PU, PU] (pm_push r []) S1 K) := by
  refine (px_go (by decide +kernel : pm_fe 87 12 = some (.istore_n 1, 1)) rfl).trans ?_
  refine (px_go (by decide +kernel : pm_fe 87 13 = some (.aload_n 0, 1)) rfl).trans ?_
  refine (px_v0 (idx := 207) (m' := 78) (ci := 6) (by decide +kernel)).trans ((and_iff_right ⟨h1, (by simp [pm_wl_n, pm_wl_c, pm_w] : pm_wl [] ≤ 8)⟩).trans ?_)
  exact Iff.rfl
theorem b87_17 {d : Nat} {G : PG} {M T : PH} {K : PV → PS → Prop} {l0 l1 s0 : Int} (h1 : pm_ob G l0 6) : pm_Run d 87 17 [.inr (.inr (.inl l0)), .inl l1, PU, PU] [.inl s0] (G, M, T) K ↔ pm_Call d 75 [.inr (.inr (.inl l0)), .inl 0, .inl 20] (G, M, T) (fun r S1 => pm_Run d 87 25 [.inr (.inr (.inl l0)), .inl l1, .inl s0, PU] (pm_push r []) S1 K) := by
  refine (px_go (by decide +kernel : pm_fe 87 17 = some (.istore_n 2, 1)) rfl).trans ?_
  refine (px_go (by decide +kernel : pm_fe 87 18 = some (.aload_n 0, 1)) rfl).trans ?_
  refine (px_go (by decide +kernel : pm_fe 87 19 = some (.iconst 0, 1)) rfl).trans ?_
  refine (px_go (by decide +kernel : pm_fe 87 20 = some (.bipush 20, 2)) rfl).trans ?_
  refine (px_v2 (idx := 99) (m' := 75) (ci := 6) (by decide +kernel)).trans ((and_iff_right ⟨h1, (by simp [pm_wl_n, pm_wl_c, pm_w] : pm_wl [] ≤ 8)⟩).trans ?_)
  exact Iff.rfl
theorem b87_25 {d : Nat} {G : PG} {M T : PH} {K : PV → PS → Prop} {l0 l1 l2 s0 : Int} (h1 : pm_ob G l0 6) : pm_Run d 87 25 [.inr (.inr (.inl l0)), .inl l1, .inl l2, PU] [.inl s0] (G, M, T) K ↔ if pm_sg (M l0.toNat 3) ≠ 0 then pm_Run d 87 50 [.inr (.inr (.inl l0)), .inl l1, .inl l2, .inl s0] [] (G, M, T) K else pm_Run d 87 33 [.inr (.inr (.inl l0)), .inl l1, .inl l2, .inl s0] [] (G, M, T) K := by
  refine (px_go (by decide +kernel : pm_fe 87 25 = some (.istore_n 3, 1)) rfl).trans ?_
  refine (px_go (by decide +kernel : pm_fe 87 26 = some (.aload_n 0, 1)) rfl).trans ?_
  refine (px_get0 (idx := 32) (ci := 6) (k := 3) (by decide +kernel)).trans ((and_iff_right h1).trans ?_)
  refine (px_if_ne (off := 20) (tgt := 50) (by decide +kernel)).trans ?_
  exact Iff.rfl
theorem b87_33 {d : Nat} {G : PG} {M T : PH} {K : PV → PS → Prop} {l0 l1 l2 l3 : Int} (h1 : pm_ob G l0 6) (h2 : pm_ob G (T l0.toNat 1) 1) (h3 : pm_ob G (T (T l0.toNat 1).toNat 16) 5) : pm_Run d 87 33 [.inr (.inr (.inl l0)), .inl l1, .inl l2, .inl l3] [] (G, M, T) K ↔ pm_Call d 55 [.inl l1, .inl l2] (G, M, T) (fun r S1 => pm_Run d 87 48 [.inr (.inr (.inl l0)), .inl l1, .inl l2, .inl l3] (pm_push r [.inr (.inr (.inl (T (T (T l0.toNat 1).toNat 16).toNat 4)))]) S1 K) := by
  refine (px_go (by decide +kernel : pm_fe 87 33 = some (.aload_n 0, 1)) rfl).trans ?_
  refine (px_get2 (idx := 21) (ci := 6) (k := 1) (by decide +kernel)).trans ((and_iff_right h1).trans ?_)
  refine (px_get2 (idx := 169) (ci := 1) (k := 16) (by decide +kernel)).trans ((and_iff_right h2).trans ?_)
  refine (px_get2 (idx := 209) (ci := 5) (k := 4) (by decide +kernel)).trans ((and_iff_right h3).trans ?_)
  refine (px_go (by decide +kernel : pm_fe 87 43 = some (.iload_n 1, 1)) rfl).trans ?_
  refine (px_go (by decide +kernel : pm_fe 87 44 = some (.iload_n 2, 1)) rfl).trans ?_
  refine (px_s2 (idx := 212) (m' := 55) (nest := 0) (by decide +kernel)).trans ((and_iff_right (by simp [pm_wl_n, pm_wl_c, pm_w] : pm_wl [.inr (.inr (.inl (T (T (T l0.toNat 1).toNat 16).toNat 4)))] ≤ 8)).trans ?_)
  exact Iff.rfl
theorem b87_48 {d : Nat} {G : PG} {M T : PH} {K : PV → PS → Prop} {l0 l1 l2 l3 s0 s1 : Int} (h1 : pm_ar G s1 100 s0) : pm_Run d 87 48 [.inr (.inr (.inl l0)), .inl l1, .inl l2, .inl l3] [.inl s0, .inr (.inr (.inl s1))] (G, M, T) K ↔ pm_Run d 87 50 [.inr (.inr (.inl l0)), .inl l1, .inl l2, .inl l3] [] (G, pm_sa M s1.toNat (pm_up (M s1.toNat) (pm_sg s0).toNat l3), T) K := by
  refine (px_go (by decide +kernel : pm_fe 87 48 = some (.iload_n 3, 1)) rfl).trans ?_
  refine (px_iastore (by decide +kernel)).trans ((and_iff_right h1).trans ?_)
  exact Iff.rfl
theorem b87_50 {d : Nat} {G : PG} {M T : PH} {K : PV → PS → Prop} {l0 l1 l2 l3 : Int} : pm_Run d 87 50 [.inr (.inr (.inl l0)), .inl l1, .inl l2, .inl l3] [] (G, M, T) K ↔ K PU (G, M, T) := by
  refine (px_rv (by decide +kernel)).trans ?_
  exact Iff.rfl
-- X6_owesStatement owesStatement()V
theorem en88 {d : Nat} {a : Int} {S : PS} {K : PV → PS → Prop} : pm_Call (d + 1) 88 [.inr (.inr (.inl a))] S K ↔ pm_Run d 88 0 [.inr (.inr (.inl a)), PU, PU, PU, PU] [] S K := pm_Call_s.trans (and_iff_right (show 1 ≤ pm_ml 88 from by decide +kernel))
theorem b88_0 {d : Nat} {G : PG} {M T : PH} {K : PV → PS → Prop} {l0 : Int} (h1 : pm_ob G l0 6) (h2 : pm_ob G (T l0.toNat 1) 1) : pm_Run d 88 0 [.inr (.inr (.inl l0)), PU, PU, PU, PU] [] (G, M, T) K ↔ if pm_sg 16 ≤ pm_sg (M (T l0.toNat 1).toNat 3) then pm_Run d 88 19 [.inr (.inr (.inl l0)), .inl (M (T l0.toNat 1).toNat 3), PU, PU, PU] [.inr (.inr (.inl l0))] (G, M, T) K else pm_Run d 88 15 [.inr (.inr (.inl l0)), .inl (M (T l0.toNat 1).toNat 3), PU, PU, PU] [.inr (.inr (.inl l0))] (G, M, T) K := by
  refine (px_go (by decide +kernel : pm_fe 88 0 = some (.aload_n 0, 1)) rfl).trans ?_
  refine (px_get2 (idx := 21) (ci := 6) (k := 1) (by decide +kernel)).trans ((and_iff_right h1).trans ?_)
  refine (px_get0 (idx := 215) (ci := 1) (k := 3) (by decide +kernel)).trans ((and_iff_right h2).trans ?_)
  refine (px_go (by decide +kernel : pm_fe 88 7 = some (.istore_n 1, 1)) rfl).trans ?_
  refine (px_go (by decide +kernel : pm_fe 88 8 = some (.aload_n 0, 1)) rfl).trans ?_
  refine (px_go (by decide +kernel : pm_fe 88 9 = some (.iload_n 1, 1)) rfl).trans ?_
  refine (px_go (by decide +kernel : pm_fe 88 10 = some (.bipush 16, 2)) rfl).trans ?_
  refine (px_ic_ge (off := 7) (tgt := 19) (by decide +kernel)).trans ?_
  exact Iff.rfl
theorem b88_15 {d : Nat} {G : PG} {M T : PH} {K : PV → PS → Prop} {l0 l1 s0 : Int} : pm_Run d 88 15 [.inr (.inr (.inl l0)), .inl l1, PU, PU, PU] [.inr (.inr (.inl s0))] (G, M, T) K ↔ pm_Run d 88 20 [.inr (.inr (.inl l0)), .inl l1, PU, PU, PU] [.inl 1, .inr (.inr (.inl s0))] (G, M, T) K := by
  refine (px_go (by decide +kernel : pm_fe 88 15 = some (.iconst 1, 1)) rfl).trans ?_
  refine (px_goto (off := 4) (tgt := 20) (by decide +kernel)).trans ?_
  exact Iff.rfl
theorem b88_19 {d : Nat} {G : PG} {M T : PH} {K : PV → PS → Prop} {l0 l1 s0 : Int} : pm_Run d 88 19 [.inr (.inr (.inl l0)), .inl l1, PU, PU, PU] [.inr (.inr (.inl s0))] (G, M, T) K ↔ pm_Run d 88 20 [.inr (.inr (.inl l0)), .inl l1, PU, PU, PU] [.inl 0, .inr (.inr (.inl s0))] (G, M, T) K := by
  refine (px_go (by decide +kernel : pm_fe 88 19 = some (.iconst 0, 1)) rfl).trans ?_
  exact Iff.rfl
theorem b88_20 {d : Nat} {G : PG} {M T : PH} {K : PV → PS → Prop} {l0 l1 s0 s1 : Int} (h1 : pm_ob G s1 6) : pm_Run d 88 20 [.inr (.inr (.inl l0)), .inl l1, PU, PU, PU] [.inl s0, .inr (.inr (.inl s1))] (G, M, T) K ↔ pm_Call d 81 [.inr (.inr (.inl s1)), .inl s0] (G, M, T) (fun r S1 => pm_Run d 88 23 [.inr (.inr (.inl l0)), .inl l1, PU, PU, PU] (pm_push r []) S1 K) := by
  refine (px_v1 (idx := 148) (m' := 81) (ci := 6) (by decide +kernel)).trans ((and_iff_right ⟨h1, (by simp [pm_wl_n, pm_wl_c, pm_w] : pm_wl [] ≤ 8)⟩).trans ?_)
  exact Iff.rfl
theorem b88_23 {d : Nat} {G : PG} {M T : PH} {K : PV → PS → Prop} {l0 l1 s0 : Int} : pm_Run d 88 23 [.inr (.inr (.inl l0)), .inl l1, PU, PU, PU] [.inl s0] (G, M, T) K ↔ if pm_sg s0 ≠ 0 then pm_Run d 88 27 [.inr (.inr (.inl l0)), .inl l1, PU, PU, PU] [] (G, M, T) K else pm_Run d 88 26 [.inr (.inr (.inl l0)), .inl l1, PU, PU, PU] [] (G, M, T) K := by
  refine (px_if_ne (off := 4) (tgt := 27) (by decide +kernel)).trans ?_
  exact Iff.rfl
theorem b88_26 {d : Nat} {G : PG} {M T : PH} {K : PV → PS → Prop} {l0 l1 : Int} : pm_Run d 88 26 [.inr (.inr (.inl l0)), .inl l1, PU, PU, PU] [] (G, M, T) K ↔ K PU (G, M, T) := by
  refine (px_rv (by decide +kernel)).trans ?_
  exact Iff.rfl
theorem b88_27 {d : Nat} {G : PG} {M T : PH} {K : PV → PS → Prop} {l0 l1 : Int} (h1 : pm_ob G l0 6) : pm_Run d 88 27 [.inr (.inr (.inl l0)), .inl l1, PU, PU, PU] [] (G, M, T) K ↔ pm_Call d 79 [.inr (.inr (.inl l0)), .inl (-1)] (G, M, T) (fun r S1 => pm_Run d 88 32 [.inr (.inr (.inl l0)), .inl l1, PU, PU, PU] (pm_push r []) S1 K) := by
  refine (px_go (by decide +kernel : pm_fe 88 27 = some (.aload_n 0, 1)) rfl).trans ?_
  refine (px_go (by decide +kernel : pm_fe 88 28 = some (.iconst (-1), 1)) rfl).trans ?_
  refine (px_v1 (idx := 205) (m' := 79) (ci := 6) (by decide +kernel)).trans ((and_iff_right ⟨h1, (by simp [pm_wl_n, pm_wl_c, pm_w] : pm_wl [] ≤ 8)⟩).trans ?_)
  exact Iff.rfl
theorem b88_32 {d : Nat} {G : PG} {M T : PH} {K : PV → PS → Prop} {l0 l1 s0 : Int} (h1 : pm_ob G l0 6) : pm_Run d 88 32 [.inr (.inr (.inl l0)), .inl l1, PU, PU, PU] [.inl s0] (G, M, T) K ↔ pm_Call d 79 [.inr (.inr (.inl l0)), .inl s0] (G, M, T) (fun r S1 => pm_Run d 88 38 [.inr (.inr (.inl l0)), .inl l1, .inl s0, PU, PU] (pm_push r []) S1 K) := by
  refine (px_go (by decide +kernel : pm_fe 88 32 = some (.istore_n 2, 1)) rfl).trans ?_
  refine (px_go (by decide +kernel : pm_fe 88 33 = some (.aload_n 0, 1)) rfl).trans ?_
  refine (px_go (by decide +kernel : pm_fe 88 34 = some (.iload_n 2, 1)) rfl).trans ?_
  refine (px_v1 (idx := 205) (m' := 79) (ci := 6) (by decide +kernel)).trans ((and_iff_right ⟨h1, (by simp [pm_wl_n, pm_wl_c, pm_w] : pm_wl [] ≤ 8)⟩).trans ?_)
  exact Iff.rfl
theorem b88_38 {d : Nat} {G : PG} {M T : PH} {K : PV → PS → Prop} {l0 l1 l2 s0 : Int} (h1 : pm_ob G l0 6) : pm_Run d 88 38 [.inr (.inr (.inl l0)), .inl l1, .inl l2, PU, PU] [.inl s0] (G, M, T) K ↔ pm_Call d 75 [.inr (.inr (.inl l0)), .inl 1, .inl 999] (G, M, T) (fun r S1 => pm_Run d 88 47 [.inr (.inr (.inl l0)), .inl l1, .inl l2, .inl s0, PU] (pm_push r []) S1 K) := by
  refine (px_go (by decide +kernel : pm_fe 88 38 = some (.istore_n 3, 1)) rfl).trans ?_
  refine (px_go (by decide +kernel : pm_fe 88 39 = some (.aload_n 0, 1)) rfl).trans ?_
  refine (px_go (by decide +kernel : pm_fe 88 40 = some (.iconst 1, 1)) rfl).trans ?_
  refine (px_go (by decide +kernel : pm_fe 88 41 = some (.sipush 999, 3)) rfl).trans ?_
  refine (px_v2 (idx := 99) (m' := 75) (ci := 6) (by decide +kernel)).trans ((and_iff_right ⟨h1, (by simp [pm_wl_n, pm_wl_c, pm_w] : pm_wl [] ≤ 8)⟩).trans ?_)
  exact Iff.rfl
theorem b88_47 {d : Nat} {G : PG} {M T : PH} {K : PV → PS → Prop} {l0 l1 l2 l3 s0 : Int} (h1 : pm_ob G l0 6) : pm_Run d 88 47 [.inr (.inr (.inl l0)), .inl l1, .inl l2, .inl l3, PU] [.inl s0] (G, M, T) K ↔ if pm_sg (M l0.toNat 3) ≠ 0 then pm_Run d 88 97 [.inr (.inr (.inl l0)), .inl l1, .inl l2, .inl l3, .inl s0] [] (G, M, T) K else pm_Run d 88 56 [.inr (.inr (.inl l0)), .inl l1, .inl l2, .inl l3, .inl s0] [] (G, M, T) K := by
  refine (px_go (by decide +kernel : pm_fe 88 47 = some (.istore 4, 2)) rfl).trans ?_
  refine (px_go (by decide +kernel : pm_fe 88 49 = some (.aload_n 0, 1)) rfl).trans ?_
  refine (px_get0 (idx := 32) (ci := 6) (k := 3) (by decide +kernel)).trans ((and_iff_right h1).trans ?_)
  refine (px_if_ne (off := 44) (tgt := 97) (by decide +kernel)).trans ?_
  exact Iff.rfl
theorem b88_56 {d : Nat} {G : PG} {M T : PH} {K : PV → PS → Prop} {l0 l1 l2 l3 l4 : Int} (h1 : pm_ob G l0 6) (h2 : pm_ob G (T l0.toNat 1) 1) (h3 : pm_ar G (T (T l0.toNat 1).toNat 13) 100 l1) (h4 : pm_ar G (T (T l0.toNat 1).toNat 14) 100 l1) : pm_Run d 88 56 [.inr (.inr (.inl l0)), .inl l1, .inl l2, .inl l3, .inl l4] [] (G, M, T) K ↔ pm_Run d 88 76 [.inr (.inr (.inl l0)), .inl l1, .inl l2, .inl l3, .inl l4] [] (G, pm_sa (pm_sa M (T (T l0.toNat 1).toNat 13).toNat (pm_up (M (T (T l0.toNat 1).toNat 13).toNat) (pm_sg l1).toNat l2)) (T (T l0.toNat 1).toNat 14).toNat (pm_up ((pm_sa M (T (T l0.toNat 1).toNat 13).toNat (pm_up (M (T (T l0.toNat 1).toNat 13).toNat) (pm_sg l1).toNat l2)) (T (T l0.toNat 1).toNat 14).toNat) (pm_sg l1).toNat l3), T) K := by
  refine (px_go (by decide +kernel : pm_fe 88 56 = some (.aload_n 0, 1)) rfl).trans ?_
  refine (px_get2 (idx := 21) (ci := 6) (k := 1) (by decide +kernel)).trans ((and_iff_right h1).trans ?_)
  refine (px_get2 (idx := 218) (ci := 1) (k := 13) (by decide +kernel)).trans ((and_iff_right h2).trans ?_)
  refine (px_go (by decide +kernel : pm_fe 88 63 = some (.iload_n 1, 1)) rfl).trans ?_
  refine (px_go (by decide +kernel : pm_fe 88 64 = some (.iload_n 2, 1)) rfl).trans ?_
  refine (px_iastore (by decide +kernel)).trans ((and_iff_right h3).trans ?_)
  refine (px_go (by decide +kernel : pm_fe 88 66 = some (.aload_n 0, 1)) rfl).trans ?_
  refine (px_get2 (idx := 21) (ci := 6) (k := 1) (by decide +kernel)).trans ((and_iff_right h1).trans ?_)
  refine (px_get2 (idx := 221) (ci := 1) (k := 14) (by decide +kernel)).trans ((and_iff_right h2).trans ?_)
  refine (px_go (by decide +kernel : pm_fe 88 73 = some (.iload_n 1, 1)) rfl).trans ?_
  refine (px_go (by decide +kernel : pm_fe 88 74 = some (.iload_n 3, 1)) rfl).trans ?_
  refine (px_iastore (by decide +kernel)).trans ((and_iff_right h4).trans ?_)
  exact Iff.rfl
theorem b88_76 {d : Nat} {G : PG} {M T : PH} {K : PV → PS → Prop} {l0 l1 l2 l3 l4 : Int} (h1 : pm_ob G l0 6) (h2 : pm_ob G (T l0.toNat 1) 1) (h3 : pm_ar G (T (T l0.toNat 1).toNat 15) 100 l1) : pm_Run d 88 76 [.inr (.inr (.inl l0)), .inl l1, .inl l2, .inl l3, .inl l4] [] (G, M, T) K ↔ pm_Run d 88 97 [.inr (.inr (.inl l0)), .inl l1, .inl l2, .inl l3, .inl l4] [] (G, pm_sa (pm_sa M (T (T l0.toNat 1).toNat 15).toNat (pm_up (M (T (T l0.toNat 1).toNat 15).toNat) (pm_sg l1).toNat l4)) (T l0.toNat 1).toNat (pm_up ((pm_sa M (T (T l0.toNat 1).toNat 15).toNat (pm_up (M (T (T l0.toNat 1).toNat 15).toNat) (pm_sg l1).toNat l4)) (T l0.toNat 1).toNat) 3 (l1 + 1)), T) K := by
  refine (px_go (by decide +kernel : pm_fe 88 76 = some (.aload_n 0, 1)) rfl).trans ?_
  refine (px_get2 (idx := 21) (ci := 6) (k := 1) (by decide +kernel)).trans ((and_iff_right h1).trans ?_)
  refine (px_get2 (idx := 224) (ci := 1) (k := 15) (by decide +kernel)).trans ((and_iff_right h2).trans ?_)
  refine (px_go (by decide +kernel : pm_fe 88 83 = some (.iload_n 1, 1)) rfl).trans ?_
  refine (px_go (by decide +kernel : pm_fe 88 84 = some (.iload 4, 2)) rfl).trans ?_
  refine (px_iastore (by decide +kernel)).trans ((and_iff_right h3).trans ?_)
  refine (px_go (by decide +kernel : pm_fe 88 87 = some (.aload_n 0, 1)) rfl).trans ?_
  refine (px_get2 (idx := 21) (ci := 6) (k := 1) (by decide +kernel)).trans ((and_iff_right h1).trans ?_)
  refine (px_go (by decide +kernel : pm_fe 88 91 = some (.iload_n 1, 1)) rfl).trans ?_
  refine (px_go (by decide +kernel : pm_fe 88 92 = some (.iconst 1, 1)) rfl).trans ?_
  refine (px_go (by decide +kernel : pm_fe 88 93 = some (.iadd, 1)) rfl).trans ?_
  refine (px_put0 (idx := 215) (ci := 1) (k := 3) (by decide +kernel)).trans ((and_iff_right h2).trans ?_)
  exact Iff.rfl
theorem b88_97 {d : Nat} {G : PG} {M T : PH} {K : PV → PS → Prop} {l0 l1 l2 l3 l4 : Int} : pm_Run d 88 97 [.inr (.inr (.inl l0)), .inl l1, .inl l2, .inl l3, .inl l4] [] (G, M, T) K ↔ K PU (G, M, T) := by
  refine (px_rv (by decide +kernel)).trans ?_
  exact Iff.rfl
-- X6_work work(I)V
theorem en89 {d : Nat} {a p0 : Int} {S : PS} {K : PV → PS → Prop} : pm_Call (d + 1) 89 [.inr (.inr (.inl a)), .inl p0] S K ↔ pm_Run d 89 0 [.inr (.inr (.inl a)), .inl p0] [] S K := pm_Call_s.trans (and_iff_right (show 2 ≤ pm_ml 89 from by decide +kernel))
theorem b89_0 {d : Nat} {G : PG} {M T : PH} {K : PV → PS → Prop} {l0 l1 : Int} (h1 : pm_ob G l0 6) (h2 : pm_ob G (T l0.toNat 1) 1) (h3 : pm_ob G (T (T l0.toNat 1).toNat 17) 3) : pm_Run d 89 0 [.inr (.inr (.inl l0)), .inl l1] [] (G, M, T) K ↔ pm_Call d 43 [.inr (.inr (.inl (T (T l0.toNat 1).toNat 17))), .inl (20000 + l1)] (G, M, T) (fun r S1 => pm_Run d 89 15 [.inr (.inr (.inl l0)), .inl l1] (pm_push r []) S1 K) := by
  refine (px_go (by decide +kernel : pm_fe 89 0 = some (.aload_n 0, 1)) rfl).trans ?_
  refine (px_get2 (idx := 21) (ci := 6) (k := 1) (by decide +kernel)).trans ((and_iff_right h1).trans ?_)
  refine (px_get2 (idx := 127) (ci := 1) (k := 17) (by decide +kernel)).trans ((and_iff_right h2).trans ?_)
  refine (px_go (by decide +kernel : pm_fe 89 7 = some (.sipush 20000, 3)) rfl).trans ?_
  refine (px_go (by decide +kernel : pm_fe 89 10 = some (.iload_n 1, 1)) rfl).trans ?_
  refine (px_go (by decide +kernel : pm_fe 89 11 = some (.iadd, 1)) rfl).trans ?_
  refine (px_v1 (idx := 227) (m' := 43) (ci := 3) (by decide +kernel)).trans ((and_iff_right ⟨h3, (by simp [pm_wl_n, pm_wl_c, pm_w] : pm_wl [] ≤ 8)⟩).trans ?_)
  exact Iff.rfl
theorem b89_15 {d : Nat} {G : PG} {M T : PH} {K : PV → PS → Prop} {l0 l1 : Int} : pm_Run d 89 15 [.inr (.inr (.inl l0)), .inl l1] [] (G, M, T) K ↔ K PU (G, M, T) := by
  refine (px_rv (by decide +kernel)).trans ?_
  exact Iff.rfl
-- X6_opened opened()Z
theorem en90 {d : Nat} {a : Int} {S : PS} {K : PV → PS → Prop} : pm_Call (d + 1) 90 [.inr (.inr (.inl a))] S K ↔ pm_Run d 90 0 [.inr (.inr (.inl a))] [] S K := pm_Call_s.trans (and_iff_right (show 1 ≤ pm_ml 90 from by decide +kernel))
theorem b90_0 {d : Nat} {G : PG} {M T : PH} {K : PV → PS → Prop} {l0 : Int} (h1 : pm_ob G l0 6) : pm_Run d 90 0 [.inr (.inr (.inl l0))] [] (G, M, T) K ↔ if pm_sg (M l0.toNat 2) < pm_sg 7 then pm_Run d 90 23 [.inr (.inr (.inl l0))] [] (G, M, T) K else pm_Run d 90 9 [.inr (.inr (.inl l0))] [] (G, M, T) K := by
  refine (px_go (by decide +kernel : pm_fe 90 0 = some (.aload_n 0, 1)) rfl).trans ?_
  refine (px_get0 (idx := 35) (ci := 6) (k := 2) (by decide +kernel)).trans ((and_iff_right h1).trans ?_)
  refine (px_go (by decide +kernel : pm_fe 90 4 = some (.bipush 7, 2)) rfl).trans ?_
  refine (px_ic_lt (off := 17) (tgt := 23) (by decide +kernel)).trans ?_
  exact Iff.rfl
theorem b90_9 {d : Nat} {G : PG} {M T : PH} {K : PV → PS → Prop} {l0 : Int} (h1 : pm_ob G l0 6) (h2 : pm_ob G (T l0.toNat 0) 4) : pm_Run d 90 9 [.inr (.inr (.inl l0))] [] (G, M, T) K ↔ pm_Call d 69 [.inr (.inr (.inl l0)), .inl 5, .inl (M (T l0.toNat 0).toNat 5)] (G, M, T) (fun r S1 => pm_Run d 90 21 [.inr (.inr (.inl l0))] (pm_push r []) S1 K) := by
  refine (px_go (by decide +kernel : pm_fe 90 9 = some (.aload_n 0, 1)) rfl).trans ?_
  refine (px_go (by decide +kernel : pm_fe 90 10 = some (.iconst 5, 1)) rfl).trans ?_
  refine (px_go (by decide +kernel : pm_fe 90 11 = some (.aload_n 0, 1)) rfl).trans ?_
  refine (px_get2 (idx := 12) (ci := 6) (k := 0) (by decide +kernel)).trans ((and_iff_right h1).trans ?_)
  refine (px_get0 (idx := 51) (ci := 4) (k := 5) (by decide +kernel)).trans ((and_iff_right h2).trans ?_)
  refine (px_v2 (idx := 54) (m' := 69) (ci := 6) (by decide +kernel)).trans ((and_iff_right ⟨h1, (by simp [pm_wl_n, pm_wl_c, pm_w] : pm_wl [] ≤ 8)⟩).trans ?_)
  exact Iff.rfl
theorem b90_21 {d : Nat} {G : PG} {M T : PH} {K : PV → PS → Prop} {l0 : Int} : pm_Run d 90 21 [.inr (.inr (.inl l0))] [] (G, M, T) K ↔ K (.inl 0) (G, M, T) := by
  refine (px_go (by decide +kernel : pm_fe 90 21 = some (.iconst 0, 1)) rfl).trans ?_
  refine (px_rz (by decide +kernel)).trans ((and_iff_right (by decide : (0 : Int) = (0 : Int) ∨ (0 : Int) = (1 : Int))).trans ?_)
  exact Iff.rfl
theorem b90_23 {d : Nat} {G : PG} {M T : PH} {K : PV → PS → Prop} {l0 : Int} (h1 : pm_ob G l0 6) (h2 : pm_ob G (T l0.toNat 0) 4) : pm_Run d 90 23 [.inr (.inr (.inl l0))] [] (G, M, T) K ↔ pm_Call d 51 [.inr (.inr (.inl (T l0.toNat 0)))] (G, pm_sa M l0.toNat (pm_up (M l0.toNat) 2 ((M l0.toNat 2) + 1)), T) (fun r S1 => pm_Run d 90 40 [.inr (.inr (.inl l0))] (pm_push r []) S1 K) := by
  refine (px_go (by decide +kernel : pm_fe 90 23 = some (.aload_n 0, 1)) rfl).trans ?_
  refine (px_go (by decide +kernel : pm_fe 90 24 = some (.dup, 1)) rfl).trans ?_
  refine (px_get0 (idx := 35) (ci := 6) (k := 2) (by decide +kernel)).trans ((and_iff_right h1).trans ?_)
  refine (px_go (by decide +kernel : pm_fe 90 28 = some (.iconst 1, 1)) rfl).trans ?_
  refine (px_go (by decide +kernel : pm_fe 90 29 = some (.iadd, 1)) rfl).trans ?_
  refine (px_put0 (idx := 35) (ci := 6) (k := 2) (by decide +kernel)).trans ((and_iff_right h1).trans ?_)
  refine (px_go (by decide +kernel : pm_fe 90 33 = some (.aload_n 0, 1)) rfl).trans ?_
  refine (px_get2 (idx := 12) (ci := 6) (k := 0) (by decide +kernel)).trans ((and_iff_right h1).trans ?_)
  refine (px_v0 (idx := 42) (m' := 51) (ci := 4) (by decide +kernel)).trans ((and_iff_right ⟨h2, (by simp [pm_wl_n, pm_wl_c, pm_w] : pm_wl [] ≤ 8)⟩).trans ?_)
  exact Iff.rfl
theorem b90_40 {d : Nat} {G : PG} {M T : PH} {K : PV → PS → Prop} {l0 : Int} : pm_Run d 90 40 [.inr (.inr (.inl l0))] [] (G, M, T) K ↔ K (.inl 1) (G, M, T) := by
  refine (px_go (by decide +kernel : pm_fe 90 40 = some (.iconst 1, 1)) rfl).trans ?_
  refine (px_rz (by decide +kernel)).trans ((and_iff_right (by decide : (1 : Int) = (0 : Int) ∨ (1 : Int) = (1 : Int))).trans ?_)
  exact Iff.rfl
-- X6_test test()V
theorem en91 {d : Nat} {a : Int} {S : PS} {K : PV → PS → Prop} : pm_Call (d + 1) 91 [.inr (.inr (.inl a))] S K ↔ pm_Run d 91 0 [.inr (.inr (.inl a)), PU] [] S K := pm_Call_s.trans (and_iff_right (show 1 ≤ pm_ml 91 from by decide +kernel))
theorem b91_0 {d : Nat} {G : PG} {M T : PH} {K : PV → PS → Prop} {l0 : Int} (h1 : pm_ob G l0 6) : pm_Run d 91 0 [.inr (.inr (.inl l0)), PU] [] (G, M, T) K ↔ pm_Call d 92 [.inr (.inr (.inl l0))] (G, M, T) (fun r S1 => pm_Run d 91 4 [.inr (.inr (.inl l0)), PU] (pm_push r []) S1 K) := by
  refine (px_go (by decide +kernel : pm_fe 91 0 = some (.aload_n 0, 1)) rfl).trans ?_
  refine (px_v0 (idx := 230) (m' := 92) (ci := 6) (by decide +kernel)).trans ((and_iff_right ⟨h1, (by simp [pm_wl_n, pm_wl_c, pm_w] : pm_wl [] ≤ 8)⟩).trans ?_)
  exact Iff.rfl
theorem b91_4 {d : Nat} {G : PG} {M T : PH} {K : PV → PS → Prop} {l0 : Int} : pm_Run d 91 4 [.inr (.inr (.inl l0)), PU] [] (G, M, T) K ↔ pm_Run d 91 6 [.inr (.inr (.inl l0)), .inl 0] [] (G, M, T) K := by
  refine (px_go (by decide +kernel : pm_fe 91 4 = some (.iconst 0, 1)) rfl).trans ?_
  refine (px_go (by decide +kernel : pm_fe 91 5 = some (.istore_n 1, 1)) rfl).trans ?_
  exact Iff.rfl
theorem b91_6 {d : Nat} {G : PG} {M T : PH} {K : PV → PS → Prop} {l0 l1 : Int} : pm_Run d 91 6 [.inr (.inr (.inl l0)), .inl l1] [] (G, M, T) K ↔ if pm_sg 1600 ≤ pm_sg l1 then pm_Run d 91 45 [.inr (.inr (.inl l0)), .inl l1] [] (G, M, T) K else pm_Run d 91 13 [.inr (.inr (.inl l0)), .inl l1] [] (G, M, T) K := by
  refine (px_go (by decide +kernel : pm_fe 91 6 = some (.iload_n 1, 1)) rfl).trans ?_
  refine (px_go (by decide +kernel : pm_fe 91 7 = some (.sipush 1600, 3)) rfl).trans ?_
  refine (px_ic_ge (off := 35) (tgt := 45) (by decide +kernel)).trans ?_
  exact Iff.rfl
theorem b91_13 {d : Nat} {G : PG} {M T : PH} {K : PV → PS → Prop} {l0 l1 : Int} (h1 : pm_ob G l0 6) : pm_Run d 91 13 [.inr (.inr (.inl l0)), .inl l1] [] (G, M, T) K ↔ pm_Call d 71 [.inr (.inr (.inl l0)), .inl 23] (G, M, T) (fun r S1 => pm_Run d 91 19 [.inr (.inr (.inl l0)), .inl l1] (pm_push r []) S1 K) := by
  refine (px_go (by decide +kernel : pm_fe 91 13 = some (.aload_n 0, 1)) rfl).trans ?_
  refine (px_go (by decide +kernel : pm_fe 91 14 = some (.bipush 23, 2)) rfl).trans ?_
  refine (px_v1 (idx := 78) (m' := 71) (ci := 6) (by decide +kernel)).trans ((and_iff_right ⟨h1, (by simp [pm_wl_n, pm_wl_c, pm_w] : pm_wl [] ≤ 8)⟩).trans ?_)
  exact Iff.rfl
theorem b91_19 {d : Nat} {G : PG} {M T : PH} {K : PV → PS → Prop} {l0 l1 s0 : Int} : pm_Run d 91 19 [.inr (.inr (.inl l0)), .inl l1] [.inl s0] (G, M, T) K ↔ if pm_sg s0 = 0 then pm_Run d 91 45 [.inr (.inr (.inl l0)), .inl l1] [] (G, M, T) K else pm_Run d 91 22 [.inr (.inr (.inl l0)), .inl l1] [] (G, M, T) K := by
  refine (px_if_eq (off := 26) (tgt := 45) (by decide +kernel)).trans ?_
  exact Iff.rfl
theorem b91_22 {d : Nat} {G : PG} {M T : PH} {K : PV → PS → Prop} {l0 l1 : Int} (h1 : pm_ob G l0 6) (h2 : pm_ob G (T l0.toNat 0) 4) : pm_Run d 91 22 [.inr (.inr (.inl l0)), .inl l1] [] (G, M, T) K ↔ pm_Call d 51 [.inr (.inr (.inl (T l0.toNat 0)))] (G, M, T) (fun r S1 => pm_Run d 91 29 [.inr (.inr (.inl l0)), .inl l1] (pm_push r []) S1 K) := by
  refine (px_go (by decide +kernel : pm_fe 91 22 = some (.aload_n 0, 1)) rfl).trans ?_
  refine (px_get2 (idx := 12) (ci := 6) (k := 0) (by decide +kernel)).trans ((and_iff_right h1).trans ?_)
  refine (px_v0 (idx := 42) (m' := 51) (ci := 4) (by decide +kernel)).trans ((and_iff_right ⟨h2, (by simp [pm_wl_n, pm_wl_c, pm_w] : pm_wl [] ≤ 8)⟩).trans ?_)
  exact Iff.rfl
theorem b91_29 {d : Nat} {G : PG} {M T : PH} {K : PV → PS → Prop} {l0 l1 : Int} (h1 : pm_ob G l0 6) : pm_Run d 91 29 [.inr (.inr (.inl l0)), .inl l1] [] (G, M, T) K ↔ pm_Call d 92 [.inr (.inr (.inl l0))] (G, M, T) (fun r S1 => pm_Run d 91 33 [.inr (.inr (.inl l0)), .inl l1] (pm_push r []) S1 K) := by
  refine (px_go (by decide +kernel : pm_fe 91 29 = some (.aload_n 0, 1)) rfl).trans ?_
  refine (px_v0 (idx := 230) (m' := 92) (ci := 6) (by decide +kernel)).trans ((and_iff_right ⟨h1, (by simp [pm_wl_n, pm_wl_c, pm_w] : pm_wl [] ≤ 8)⟩).trans ?_)
  exact Iff.rfl
theorem b91_33 {d : Nat} {G : PG} {M T : PH} {K : PV → PS → Prop} {l0 l1 : Int} (h1 : pm_ob G l0 6) : pm_Run d 91 33 [.inr (.inr (.inl l0)), .inl l1] [] (G, M, T) K ↔ pm_Call d 89 [.inr (.inr (.inl l0)), .inl 23] (G, M, T) (fun r S1 => pm_Run d 91 39 [.inr (.inr (.inl l0)), .inl l1] (pm_push r []) S1 K) := by
  refine (px_go (by decide +kernel : pm_fe 91 33 = some (.aload_n 0, 1)) rfl).trans ?_
  refine (px_go (by decide +kernel : pm_fe 91 34 = some (.bipush 23, 2)) rfl).trans ?_
  refine (px_v1 (idx := 233) (m' := 89) (ci := 6) (by decide +kernel)).trans ((and_iff_right ⟨h1, (by simp [pm_wl_n, pm_wl_c, pm_w] : pm_wl [] ≤ 8)⟩).trans ?_)
  exact Iff.rfl
theorem b91_39 {d : Nat} {G : PG} {M T : PH} {K : PV → PS → Prop} {l0 l1 : Int} : pm_Run d 91 39 [.inr (.inr (.inl l0)), .inl l1] [] (G, M, T) K ↔ pm_Run d 91 6 [.inr (.inr (.inl l0)), .inl (l1 + 1)] [] (G, M, T) K := by
  refine (px_go (by decide +kernel : pm_fe 91 39 = some (.iinc 1 1, 3)) rfl).trans ?_
  refine (px_goto (off := (-36)) (tgt := 6) (by decide +kernel)).trans ?_
  exact Iff.rfl
theorem b91_45 {d : Nat} {G : PG} {M T : PH} {K : PV → PS → Prop} {l0 l1 : Int} : pm_Run d 91 45 [.inr (.inr (.inl l0)), .inl l1] [] (G, M, T) K ↔ K PU (G, M, T) := by
  refine (px_rv (by decide +kernel)).trans ?_
  exact Iff.rfl
-- X6_both both()V
theorem en92 {d : Nat} {a : Int} {S : PS} {K : PV → PS → Prop} : pm_Call (d + 1) 92 [.inr (.inr (.inl a))] S K ↔ pm_Run d 92 0 [.inr (.inr (.inl a)), PU] [] S K := pm_Call_s.trans (and_iff_right (show 1 ≤ pm_ml 92 from by decide +kernel))
theorem b92_0 {d : Nat} {G : PG} {M T : PH} {K : PV → PS → Prop} {l0 : Int} (h1 : pm_ob G l0 6) : pm_Run d 92 0 [.inr (.inr (.inl l0)), PU] [] (G, M, T) K ↔ pm_Call d 93 [.inr (.inr (.inl l0))] (G, M, T) (fun r S1 => pm_Run d 92 4 [.inr (.inr (.inl l0)), PU] (pm_push r []) S1 K) := by
  refine (px_go (by decide +kernel : pm_fe 92 0 = some (.aload_n 0, 1)) rfl).trans ?_
  refine (px_v0 (idx := 236) (m' := 93) (ci := 6) (by decide +kernel)).trans ((and_iff_right ⟨h1, (by simp [pm_wl_n, pm_wl_c, pm_w] : pm_wl [] ≤ 8)⟩).trans ?_)
  exact Iff.rfl
theorem b92_4 {d : Nat} {G : PG} {M T : PH} {K : PV → PS → Prop} {l0 : Int} : pm_Run d 92 4 [.inr (.inr (.inl l0)), PU] [] (G, M, T) K ↔ pm_Run d 92 6 [.inr (.inr (.inl l0)), .inl 0] [] (G, M, T) K := by
  refine (px_go (by decide +kernel : pm_fe 92 4 = some (.iconst 0, 1)) rfl).trans ?_
  refine (px_go (by decide +kernel : pm_fe 92 5 = some (.istore_n 1, 1)) rfl).trans ?_
  exact Iff.rfl
theorem b92_6 {d : Nat} {G : PG} {M T : PH} {K : PV → PS → Prop} {l0 l1 : Int} : pm_Run d 92 6 [.inr (.inr (.inl l0)), .inl l1] [] (G, M, T) K ↔ if pm_sg 1600 ≤ pm_sg l1 then pm_Run d 92 45 [.inr (.inr (.inl l0)), .inl l1] [] (G, M, T) K else pm_Run d 92 13 [.inr (.inr (.inl l0)), .inl l1] [] (G, M, T) K := by
  refine (px_go (by decide +kernel : pm_fe 92 6 = some (.iload_n 1, 1)) rfl).trans ?_
  refine (px_go (by decide +kernel : pm_fe 92 7 = some (.sipush 1600, 3)) rfl).trans ?_
  refine (px_ic_ge (off := 35) (tgt := 45) (by decide +kernel)).trans ?_
  exact Iff.rfl
theorem b92_13 {d : Nat} {G : PG} {M T : PH} {K : PV → PS → Prop} {l0 l1 : Int} (h1 : pm_ob G l0 6) : pm_Run d 92 13 [.inr (.inr (.inl l0)), .inl l1] [] (G, M, T) K ↔ pm_Call d 71 [.inr (.inr (.inl l0)), .inl 24] (G, M, T) (fun r S1 => pm_Run d 92 19 [.inr (.inr (.inl l0)), .inl l1] (pm_push r []) S1 K) := by
  refine (px_go (by decide +kernel : pm_fe 92 13 = some (.aload_n 0, 1)) rfl).trans ?_
  refine (px_go (by decide +kernel : pm_fe 92 14 = some (.bipush 24, 2)) rfl).trans ?_
  refine (px_v1 (idx := 78) (m' := 71) (ci := 6) (by decide +kernel)).trans ((and_iff_right ⟨h1, (by simp [pm_wl_n, pm_wl_c, pm_w] : pm_wl [] ≤ 8)⟩).trans ?_)
  exact Iff.rfl
theorem b92_19 {d : Nat} {G : PG} {M T : PH} {K : PV → PS → Prop} {l0 l1 s0 : Int} : pm_Run d 92 19 [.inr (.inr (.inl l0)), .inl l1] [.inl s0] (G, M, T) K ↔ if pm_sg s0 = 0 then pm_Run d 92 45 [.inr (.inr (.inl l0)), .inl l1] [] (G, M, T) K else pm_Run d 92 22 [.inr (.inr (.inl l0)), .inl l1] [] (G, M, T) K := by
  refine (px_if_eq (off := 26) (tgt := 45) (by decide +kernel)).trans ?_
  exact Iff.rfl
theorem b92_22 {d : Nat} {G : PG} {M T : PH} {K : PV → PS → Prop} {l0 l1 : Int} (h1 : pm_ob G l0 6) (h2 : pm_ob G (T l0.toNat 0) 4) : pm_Run d 92 22 [.inr (.inr (.inl l0)), .inl l1] [] (G, M, T) K ↔ pm_Call d 51 [.inr (.inr (.inl (T l0.toNat 0)))] (G, M, T) (fun r S1 => pm_Run d 92 29 [.inr (.inr (.inl l0)), .inl l1] (pm_push r []) S1 K) := by
  refine (px_go (by decide +kernel : pm_fe 92 22 = some (.aload_n 0, 1)) rfl).trans ?_
  refine (px_get2 (idx := 12) (ci := 6) (k := 0) (by decide +kernel)).trans ((and_iff_right h1).trans ?_)
  refine (px_v0 (idx := 42) (m' := 51) (ci := 4) (by decide +kernel)).trans ((and_iff_right ⟨h2, (by simp [pm_wl_n, pm_wl_c, pm_w] : pm_wl [] ≤ 8)⟩).trans ?_)
  exact Iff.rfl
theorem b92_29 {d : Nat} {G : PG} {M T : PH} {K : PV → PS → Prop} {l0 l1 : Int} (h1 : pm_ob G l0 6) : pm_Run d 92 29 [.inr (.inr (.inl l0)), .inl l1] [] (G, M, T) K ↔ pm_Call d 93 [.inr (.inr (.inl l0))] (G, M, T) (fun r S1 => pm_Run d 92 33 [.inr (.inr (.inl l0)), .inl l1] (pm_push r []) S1 K) := by
  refine (px_go (by decide +kernel : pm_fe 92 29 = some (.aload_n 0, 1)) rfl).trans ?_
  refine (px_v0 (idx := 236) (m' := 93) (ci := 6) (by decide +kernel)).trans ((and_iff_right ⟨h1, (by simp [pm_wl_n, pm_wl_c, pm_w] : pm_wl [] ≤ 8)⟩).trans ?_)
  exact Iff.rfl
theorem b92_33 {d : Nat} {G : PG} {M T : PH} {K : PV → PS → Prop} {l0 l1 : Int} (h1 : pm_ob G l0 6) : pm_Run d 92 33 [.inr (.inr (.inl l0)), .inl l1] [] (G, M, T) K ↔ pm_Call d 89 [.inr (.inr (.inl l0)), .inl 24] (G, M, T) (fun r S1 => pm_Run d 92 39 [.inr (.inr (.inl l0)), .inl l1] (pm_push r []) S1 K) := by
  refine (px_go (by decide +kernel : pm_fe 92 33 = some (.aload_n 0, 1)) rfl).trans ?_
  refine (px_go (by decide +kernel : pm_fe 92 34 = some (.bipush 24, 2)) rfl).trans ?_
  refine (px_v1 (idx := 233) (m' := 89) (ci := 6) (by decide +kernel)).trans ((and_iff_right ⟨h1, (by simp [pm_wl_n, pm_wl_c, pm_w] : pm_wl [] ≤ 8)⟩).trans ?_)
  exact Iff.rfl
theorem b92_39 {d : Nat} {G : PG} {M T : PH} {K : PV → PS → Prop} {l0 l1 : Int} : pm_Run d 92 39 [.inr (.inr (.inl l0)), .inl l1] [] (G, M, T) K ↔ pm_Run d 92 6 [.inr (.inr (.inl l0)), .inl (l1 + 1)] [] (G, M, T) K := by
  refine (px_go (by decide +kernel : pm_fe 92 39 = some (.iinc 1 1, 3)) rfl).trans ?_
  refine (px_goto (off := (-36)) (tgt := 6) (by decide +kernel)).trans ?_
  exact Iff.rfl
theorem b92_45 {d : Nat} {G : PG} {M T : PH} {K : PV → PS → Prop} {l0 l1 : Int} : pm_Run d 92 45 [.inr (.inr (.inl l0)), .inl l1] [] (G, M, T) K ↔ K PU (G, M, T) := by
  refine (px_rv (by decide +kernel)).trans ?_
  exact Iff.rfl
-- X6_fact fact()V
theorem en93 {d : Nat} {a : Int} {S : PS} {K : PV → PS → Prop} : pm_Call (d + 1) 93 [.inr (.inr (.inl a))] S K ↔ pm_Run d 93 0 [.inr (.inr (.inl a)), PU] [] S K := pm_Call_s.trans (and_iff_right (show 1 ≤ pm_ml 93 from by decide +kernel))
theorem b93_0 {d : Nat} {G : PG} {M T : PH} {K : PV → PS → Prop} {l0 : Int} (h1 : pm_ob G l0 6) : pm_Run d 93 0 [.inr (.inr (.inl l0)), PU] [] (G, M, T) K ↔ pm_Call d 71 [.inr (.inr (.inl l0)), .inl 25] (G, M, T) (fun r S1 => pm_Run d 93 6 [.inr (.inr (.inl l0)), PU] (pm_push r []) S1 K) := by
  refine (px_go (by decide +kernel : pm_fe 93 0 = some (.aload_n 0, 1)) rfl).trans ?_
  refine (px_go (by decide +kernel : pm_fe 93 1 = some (.bipush 25, 2)) rfl).trans ?_
  refine (px_v1 (idx := 78) (m' := 71) (ci := 6) (by decide +kernel)).trans ((and_iff_right ⟨h1, (by simp [pm_wl_n, pm_wl_c, pm_w] : pm_wl [] ≤ 8)⟩).trans ?_)
  exact Iff.rfl
theorem b93_6 {d : Nat} {G : PG} {M T : PH} {K : PV → PS → Prop} {l0 s0 : Int} : pm_Run d 93 6 [.inr (.inr (.inl l0)), PU] [.inl s0] (G, M, T) K ↔ if pm_sg s0 = 0 then pm_Run d 93 39 [.inr (.inr (.inl l0)), PU] [] (G, M, T) K else pm_Run d 93 9 [.inr (.inr (.inl l0)), PU] [] (G, M, T) K := by
  refine (px_if_eq (off := 33) (tgt := 39) (by decide +kernel)).trans ?_
  exact Iff.rfl
theorem b93_9 {d : Nat} {G : PG} {M T : PH} {K : PV → PS → Prop} {l0 : Int} (h1 : pm_ob G l0 6) : pm_Run d 93 9 [.inr (.inr (.inl l0)), PU] [] (G, M, T) K ↔ pm_Call d 90 [.inr (.inr (.inl l0))] (G, M, T) (fun r S1 => pm_Run d 93 13 [.inr (.inr (.inl l0)), PU] (pm_push r []) S1 K) := by
  refine (px_go (by decide +kernel : pm_fe 93 9 = some (.aload_n 0, 1)) rfl).trans ?_
  refine (px_v0 (idx := 239) (m' := 90) (ci := 6) (by decide +kernel)).trans ((and_iff_right ⟨h1, (by simp [pm_wl_n, pm_wl_c, pm_w] : pm_wl [] ≤ 8)⟩).trans ?_)
  exact Iff.rfl
theorem b93_13 {d : Nat} {G : PG} {M T : PH} {K : PV → PS → Prop} {l0 s0 : Int} : pm_Run d 93 13 [.inr (.inr (.inl l0)), PU] [.inl s0] (G, M, T) K ↔ if pm_sg s0 = 0 then pm_Run d 93 165 [.inr (.inr (.inl l0)), PU] [] (G, M, T) K else pm_Run d 93 16 [.inr (.inr (.inl l0)), PU] [] (G, M, T) K := by
  refine (px_if_eq (off := 152) (tgt := 165) (by decide +kernel)).trans ?_
  exact Iff.rfl
theorem b93_16 {d : Nat} {G : PG} {M T : PH} {K : PV → PS → Prop} {l0 : Int} (h1 : pm_ob G l0 6) : pm_Run d 93 16 [.inr (.inr (.inl l0)), PU] [] (G, M, T) K ↔ pm_Call d 93 [.inr (.inr (.inl l0))] (G, M, T) (fun r S1 => pm_Run d 93 20 [.inr (.inr (.inl l0)), PU] (pm_push r []) S1 K) := by
  refine (px_go (by decide +kernel : pm_fe 93 16 = some (.aload_n 0, 1)) rfl).trans ?_
  refine (px_v0 (idx := 236) (m' := 93) (ci := 6) (by decide +kernel)).trans ((and_iff_right ⟨h1, (by simp [pm_wl_n, pm_wl_c, pm_w] : pm_wl [] ≤ 8)⟩).trans ?_)
  exact Iff.rfl
theorem b93_20 {d : Nat} {G : PG} {M T : PH} {K : PV → PS → Prop} {l0 : Int} (h1 : pm_ob G l0 6) : pm_Run d 93 20 [.inr (.inr (.inl l0)), PU] [] (G, M, T) K ↔ pm_Call d 89 [.inr (.inr (.inl l0)), .inl 25] (G, pm_sa M l0.toNat (pm_up (M l0.toNat) 2 ((M l0.toNat 2) - 1)), T) (fun r S1 => pm_Run d 93 36 [.inr (.inr (.inl l0)), PU] (pm_push r []) S1 K) := by
  refine (px_go (by decide +kernel : pm_fe 93 20 = some (.aload_n 0, 1)) rfl).trans ?_
  refine (px_go (by decide +kernel : pm_fe 93 21 = some (.dup, 1)) rfl).trans ?_
  refine (px_get0 (idx := 35) (ci := 6) (k := 2) (by decide +kernel)).trans ((and_iff_right h1).trans ?_)
  refine (px_go (by decide +kernel : pm_fe 93 25 = some (.iconst 1, 1)) rfl).trans ?_
  refine (px_go (by decide +kernel : pm_fe 93 26 = some (.isub, 1)) rfl).trans ?_
  refine (px_put0 (idx := 35) (ci := 6) (k := 2) (by decide +kernel)).trans ((and_iff_right h1).trans ?_)
  refine (px_go (by decide +kernel : pm_fe 93 30 = some (.aload_n 0, 1)) rfl).trans ?_
  refine (px_go (by decide +kernel : pm_fe 93 31 = some (.bipush 25, 2)) rfl).trans ?_
  refine (px_v1 (idx := 233) (m' := 89) (ci := 6) (by decide +kernel)).trans ((and_iff_right ⟨h1, (by simp [pm_wl_n, pm_wl_c, pm_w] : pm_wl [] ≤ 8)⟩).trans ?_)
  exact Iff.rfl
theorem b93_36 {d : Nat} {G : PG} {M T : PH} {K : PV → PS → Prop} {l0 : Int} : pm_Run d 93 36 [.inr (.inr (.inl l0)), PU] [] (G, M, T) K ↔ pm_Run d 93 165 [.inr (.inr (.inl l0)), PU] [] (G, M, T) K := by
  refine (px_goto (off := 129) (tgt := 165) (by decide +kernel)).trans ?_
  exact Iff.rfl
theorem b93_39 {d : Nat} {G : PG} {M T : PH} {K : PV → PS → Prop} {l0 : Int} (h1 : pm_ob G l0 6) : pm_Run d 93 39 [.inr (.inr (.inl l0)), PU] [] (G, M, T) K ↔ pm_Call d 72 [.inr (.inr (.inl l0)), .inl 91] (G, M, T) (fun r S1 => pm_Run d 93 45 [.inr (.inr (.inl l0)), PU] (pm_push r []) S1 K) := by
  refine (px_go (by decide +kernel : pm_fe 93 39 = some (.aload_n 0, 1)) rfl).trans ?_
  refine (px_go (by decide +kernel : pm_fe 93 40 = some (.bipush 91, 2)) rfl).trans ?_
  refine (px_v1 (idx := 82) (m' := 72) (ci := 6) (by decide +kernel)).trans ((and_iff_right ⟨h1, (by simp [pm_wl_n, pm_wl_c, pm_w] : pm_wl [] ≤ 8)⟩).trans ?_)
  exact Iff.rfl
theorem b93_45 {d : Nat} {G : PG} {M T : PH} {K : PV → PS → Prop} {l0 s0 : Int} : pm_Run d 93 45 [.inr (.inr (.inl l0)), PU] [.inl s0] (G, M, T) K ↔ if pm_sg s0 = 0 then pm_Run d 93 78 [.inr (.inr (.inl l0)), PU] [] (G, M, T) K else pm_Run d 93 48 [.inr (.inr (.inl l0)), PU] [] (G, M, T) K := by
  refine (px_if_eq (off := 33) (tgt := 78) (by decide +kernel)).trans ?_
  exact Iff.rfl
theorem b93_48 {d : Nat} {G : PG} {M T : PH} {K : PV → PS → Prop} {l0 : Int} (h1 : pm_ob G l0 6) : pm_Run d 93 48 [.inr (.inr (.inl l0)), PU] [] (G, M, T) K ↔ pm_Call d 90 [.inr (.inr (.inl l0))] (G, M, T) (fun r S1 => pm_Run d 93 52 [.inr (.inr (.inl l0)), PU] (pm_push r []) S1 K) := by
  refine (px_go (by decide +kernel : pm_fe 93 48 = some (.aload_n 0, 1)) rfl).trans ?_
  refine (px_v0 (idx := 239) (m' := 90) (ci := 6) (by decide +kernel)).trans ((and_iff_right ⟨h1, (by simp [pm_wl_n, pm_wl_c, pm_w] : pm_wl [] ≤ 8)⟩).trans ?_)
  exact Iff.rfl
theorem b93_52 {d : Nat} {G : PG} {M T : PH} {K : PV → PS → Prop} {l0 s0 : Int} : pm_Run d 93 52 [.inr (.inr (.inl l0)), PU] [.inl s0] (G, M, T) K ↔ if pm_sg s0 = 0 then pm_Run d 93 165 [.inr (.inr (.inl l0)), PU] [] (G, M, T) K else pm_Run d 93 55 [.inr (.inr (.inl l0)), PU] [] (G, M, T) K := by
  refine (px_if_eq (off := 113) (tgt := 165) (by decide +kernel)).trans ?_
  exact Iff.rfl
theorem b93_55 {d : Nat} {G : PG} {M T : PH} {K : PV → PS → Prop} {l0 : Int} (h1 : pm_ob G l0 6) : pm_Run d 93 55 [.inr (.inr (.inl l0)), PU] [] (G, M, T) K ↔ pm_Call d 91 [.inr (.inr (.inl l0))] (G, M, T) (fun r S1 => pm_Run d 93 59 [.inr (.inr (.inl l0)), PU] (pm_push r []) S1 K) := by
  refine (px_go (by decide +kernel : pm_fe 93 55 = some (.aload_n 0, 1)) rfl).trans ?_
  refine (px_v0 (idx := 136) (m' := 91) (ci := 6) (by decide +kernel)).trans ((and_iff_right ⟨h1, (by simp [pm_wl_n, pm_wl_c, pm_w] : pm_wl [] ≤ 8)⟩).trans ?_)
  exact Iff.rfl
theorem b93_59 {d : Nat} {G : PG} {M T : PH} {K : PV → PS → Prop} {l0 : Int} (h1 : pm_ob G l0 6) : pm_Run d 93 59 [.inr (.inr (.inl l0)), PU] [] (G, M, T) K ↔ pm_Call d 74 [.inr (.inr (.inl l0)), .inl 93] (G, M, T) (fun r S1 => pm_Run d 93 65 [.inr (.inr (.inl l0)), PU] (pm_push r []) S1 K) := by
  refine (px_go (by decide +kernel : pm_fe 93 59 = some (.aload_n 0, 1)) rfl).trans ?_
  refine (px_go (by decide +kernel : pm_fe 93 60 = some (.bipush 93, 2)) rfl).trans ?_
  refine (px_v1 (idx := 62) (m' := 74) (ci := 6) (by decide +kernel)).trans ((and_iff_right ⟨h1, (by simp [pm_wl_n, pm_wl_c, pm_w] : pm_wl [] ≤ 8)⟩).trans ?_)
  exact Iff.rfl
theorem b93_65 {d : Nat} {G : PG} {M T : PH} {K : PV → PS → Prop} {l0 : Int} (h1 : pm_ob G l0 6) : pm_Run d 93 65 [.inr (.inr (.inl l0)), PU] [] (G, M, T) K ↔ pm_Run d 93 165 [.inr (.inr (.inl l0)), PU] [] (G, pm_sa M l0.toNat (pm_up (M l0.toNat) 2 ((M l0.toNat 2) - 1)), T) K := by
  refine (px_go (by decide +kernel : pm_fe 93 65 = some (.aload_n 0, 1)) rfl).trans ?_
  refine (px_go (by decide +kernel : pm_fe 93 66 = some (.dup, 1)) rfl).trans ?_
  refine (px_get0 (idx := 35) (ci := 6) (k := 2) (by decide +kernel)).trans ((and_iff_right h1).trans ?_)
  refine (px_go (by decide +kernel : pm_fe 93 70 = some (.iconst 1, 1)) rfl).trans ?_
  refine (px_go (by decide +kernel : pm_fe 93 71 = some (.isub, 1)) rfl).trans ?_
  refine (px_put0 (idx := 35) (ci := 6) (k := 2) (by decide +kernel)).trans ((and_iff_right h1).trans ?_)
  refine (px_goto (off := 90) (tgt := 165) (by decide +kernel)).trans ?_
  exact Iff.rfl
theorem b93_78 {d : Nat} {G : PG} {M T : PH} {K : PV → PS → Prop} {l0 : Int} (h1 : pm_ob G l0 6) : pm_Run d 93 78 [.inr (.inr (.inl l0)), PU] [] (G, M, T) K ↔ pm_Call d 71 [.inr (.inr (.inl l0)), .inl 26] (G, M, T) (fun r S1 => pm_Run d 93 84 [.inr (.inr (.inl l0)), PU] (pm_push r []) S1 K) := by
  refine (px_go (by decide +kernel : pm_fe 93 78 = some (.aload_n 0, 1)) rfl).trans ?_
  refine (px_go (by decide +kernel : pm_fe 93 79 = some (.bipush 26, 2)) rfl).trans ?_
  refine (px_v1 (idx := 78) (m' := 71) (ci := 6) (by decide +kernel)).trans ((and_iff_right ⟨h1, (by simp [pm_wl_n, pm_wl_c, pm_w] : pm_wl [] ≤ 8)⟩).trans ?_)
  exact Iff.rfl
theorem b93_84 {d : Nat} {G : PG} {M T : PH} {K : PV → PS → Prop} {l0 s0 : Int} : pm_Run d 93 84 [.inr (.inr (.inl l0)), PU] [.inl s0] (G, M, T) K ↔ if pm_sg s0 = 0 then pm_Run d 93 103 [.inr (.inr (.inl l0)), PU] [] (G, M, T) K else pm_Run d 93 87 [.inr (.inr (.inl l0)), PU] [] (G, M, T) K := by
  refine (px_if_eq (off := 19) (tgt := 103) (by decide +kernel)).trans ?_
  exact Iff.rfl
theorem b93_87 {d : Nat} {G : PG} {M T : PH} {K : PV → PS → Prop} {l0 : Int} (h1 : pm_ob G l0 6) : pm_Run d 93 87 [.inr (.inr (.inl l0)), PU] [] (G, M, T) K ↔ pm_Call d 89 [.inr (.inr (.inl l0)), .inl 26] (G, M, T) (fun r S1 => pm_Run d 93 93 [.inr (.inr (.inl l0)), PU] (pm_push r []) S1 K) := by
  refine (px_go (by decide +kernel : pm_fe 93 87 = some (.aload_n 0, 1)) rfl).trans ?_
  refine (px_go (by decide +kernel : pm_fe 93 88 = some (.bipush 26, 2)) rfl).trans ?_
  refine (px_v1 (idx := 233) (m' := 89) (ci := 6) (by decide +kernel)).trans ((and_iff_right ⟨h1, (by simp [pm_wl_n, pm_wl_c, pm_w] : pm_wl [] ≤ 8)⟩).trans ?_)
  exact Iff.rfl
theorem b93_93 {d : Nat} {G : PG} {M T : PH} {K : PV → PS → Prop} {l0 : Int} (h1 : pm_ob G l0 6) (h2 : pm_ob G (T l0.toNat 0) 4) : pm_Run d 93 93 [.inr (.inr (.inl l0)), PU] [] (G, M, T) K ↔ pm_Call d 51 [.inr (.inr (.inl (T l0.toNat 0)))] (G, M, T) (fun r S1 => pm_Run d 93 100 [.inr (.inr (.inl l0)), PU] (pm_push r []) S1 K) := by
  refine (px_go (by decide +kernel : pm_fe 93 93 = some (.aload_n 0, 1)) rfl).trans ?_
  refine (px_get2 (idx := 12) (ci := 6) (k := 0) (by decide +kernel)).trans ((and_iff_right h1).trans ?_)
  refine (px_v0 (idx := 42) (m' := 51) (ci := 4) (by decide +kernel)).trans ((and_iff_right ⟨h2, (by simp [pm_wl_n, pm_wl_c, pm_w] : pm_wl [] ≤ 8)⟩).trans ?_)
  exact Iff.rfl
theorem b93_100 {d : Nat} {G : PG} {M T : PH} {K : PV → PS → Prop} {l0 : Int} : pm_Run d 93 100 [.inr (.inr (.inl l0)), PU] [] (G, M, T) K ↔ pm_Run d 93 165 [.inr (.inr (.inl l0)), PU] [] (G, M, T) K := by
  refine (px_goto (off := 65) (tgt := 165) (by decide +kernel)).trans ?_
  exact Iff.rfl
theorem b93_103 {d : Nat} {G : PG} {M T : PH} {K : PV → PS → Prop} {l0 : Int} (h1 : pm_ob G l0 6) : pm_Run d 93 103 [.inr (.inr (.inl l0)), PU] [] (G, M, T) K ↔ pm_Call d 94 [.inr (.inr (.inl l0))] (G, M, T) (fun r S1 => pm_Run d 93 107 [.inr (.inr (.inl l0)), PU] (pm_push r []) S1 K) := by
  refine (px_go (by decide +kernel : pm_fe 93 103 = some (.aload_n 0, 1)) rfl).trans ?_
  refine (px_v0 (idx := 139) (m' := 94) (ci := 6) (by decide +kernel)).trans ((and_iff_right ⟨h1, (by simp [pm_wl_n, pm_wl_c, pm_w] : pm_wl [] ≤ 8)⟩).trans ?_)
  exact Iff.rfl
theorem b93_107 {d : Nat} {G : PG} {M T : PH} {K : PV → PS → Prop} {l0 : Int} (h1 : pm_ob G l0 6) (h2 : pm_ob G (T l0.toNat 0) 4) : pm_Run d 93 107 [.inr (.inr (.inl l0)), PU] [] (G, M, T) K ↔ pm_Call d 72 [.inr (.inr (.inl l0)), .inl 60] (G, M, T) (fun r S1 => pm_Run d 93 121 [.inr (.inr (.inl l0)), .inl (M (T l0.toNat 0).toNat 7)] (pm_push r []) S1 K) := by
  refine (px_go (by decide +kernel : pm_fe 93 107 = some (.aload_n 0, 1)) rfl).trans ?_
  refine (px_get2 (idx := 12) (ci := 6) (k := 0) (by decide +kernel)).trans ((and_iff_right h1).trans ?_)
  refine (px_get0 (idx := 75) (ci := 4) (k := 7) (by decide +kernel)).trans ((and_iff_right h2).trans ?_)
  refine (px_go (by decide +kernel : pm_fe 93 114 = some (.istore_n 1, 1)) rfl).trans ?_
  refine (px_go (by decide +kernel : pm_fe 93 115 = some (.aload_n 0, 1)) rfl).trans ?_
  refine (px_go (by decide +kernel : pm_fe 93 116 = some (.bipush 60, 2)) rfl).trans ?_
  refine (px_v1 (idx := 82) (m' := 72) (ci := 6) (by decide +kernel)).trans ((and_iff_right ⟨h1, (by simp [pm_wl_n, pm_wl_c, pm_w] : pm_wl [] ≤ 8)⟩).trans ?_)
  exact Iff.rfl
theorem b93_121 {d : Nat} {G : PG} {M T : PH} {K : PV → PS → Prop} {l0 l1 s0 : Int} : pm_Run d 93 121 [.inr (.inr (.inl l0)), .inl l1] [.inl s0] (G, M, T) K ↔ if pm_sg s0 ≠ 0 then pm_Run d 93 142 [.inr (.inr (.inl l0)), .inl l1] [] (G, M, T) K else pm_Run d 93 124 [.inr (.inr (.inl l0)), .inl l1] [] (G, M, T) K := by
  refine (px_if_ne (off := 21) (tgt := 142) (by decide +kernel)).trans ?_
  exact Iff.rfl
theorem b93_124 {d : Nat} {G : PG} {M T : PH} {K : PV → PS → Prop} {l0 l1 : Int} (h1 : pm_ob G l0 6) : pm_Run d 93 124 [.inr (.inr (.inl l0)), .inl l1] [] (G, M, T) K ↔ pm_Call d 72 [.inr (.inr (.inl l0)), .inl 62] (G, M, T) (fun r S1 => pm_Run d 93 130 [.inr (.inr (.inl l0)), .inl l1] (pm_push r []) S1 K) := by
  refine (px_go (by decide +kernel : pm_fe 93 124 = some (.aload_n 0, 1)) rfl).trans ?_
  refine (px_go (by decide +kernel : pm_fe 93 125 = some (.bipush 62, 2)) rfl).trans ?_
  refine (px_v1 (idx := 82) (m' := 72) (ci := 6) (by decide +kernel)).trans ((and_iff_right ⟨h1, (by simp [pm_wl_n, pm_wl_c, pm_w] : pm_wl [] ≤ 8)⟩).trans ?_)
  exact Iff.rfl
theorem b93_130 {d : Nat} {G : PG} {M T : PH} {K : PV → PS → Prop} {l0 l1 s0 : Int} : pm_Run d 93 130 [.inr (.inr (.inl l0)), .inl l1] [.inl s0] (G, M, T) K ↔ if pm_sg s0 ≠ 0 then pm_Run d 93 142 [.inr (.inr (.inl l0)), .inl l1] [] (G, M, T) K else pm_Run d 93 133 [.inr (.inr (.inl l0)), .inl l1] [] (G, M, T) K := by
  refine (px_if_ne (off := 12) (tgt := 142) (by decide +kernel)).trans ?_
  exact Iff.rfl
theorem b93_133 {d : Nat} {G : PG} {M T : PH} {K : PV → PS → Prop} {l0 l1 : Int} (h1 : pm_ob G l0 6) : pm_Run d 93 133 [.inr (.inr (.inl l0)), .inl l1] [] (G, M, T) K ↔ pm_Call d 72 [.inr (.inr (.inl l0)), .inl 61] (G, M, T) (fun r S1 => pm_Run d 93 139 [.inr (.inr (.inl l0)), .inl l1] (pm_push r []) S1 K) := by
  refine (px_go (by decide +kernel : pm_fe 93 133 = some (.aload_n 0, 1)) rfl).trans ?_
  refine (px_go (by decide +kernel : pm_fe 93 134 = some (.bipush 61, 2)) rfl).trans ?_
  refine (px_v1 (idx := 82) (m' := 72) (ci := 6) (by decide +kernel)).trans ((and_iff_right ⟨h1, (by simp [pm_wl_n, pm_wl_c, pm_w] : pm_wl [] ≤ 8)⟩).trans ?_)
  exact Iff.rfl
theorem b93_139 {d : Nat} {G : PG} {M T : PH} {K : PV → PS → Prop} {l0 l1 s0 : Int} : pm_Run d 93 139 [.inr (.inr (.inl l0)), .inl l1] [.inl s0] (G, M, T) K ↔ if pm_sg s0 = 0 then pm_Run d 93 161 [.inr (.inr (.inl l0)), .inl l1] [] (G, M, T) K else pm_Run d 93 142 [.inr (.inr (.inl l0)), .inl l1] [] (G, M, T) K := by
  refine (px_if_eq (off := 22) (tgt := 161) (by decide +kernel)).trans ?_
  exact Iff.rfl
theorem b93_142 {d : Nat} {G : PG} {M T : PH} {K : PV → PS → Prop} {l0 l1 : Int} (h1 : pm_ob G l0 6) (h2 : pm_ob G (T l0.toNat 0) 4) : pm_Run d 93 142 [.inr (.inr (.inl l0)), .inl l1] [] (G, M, T) K ↔ pm_Call d 51 [.inr (.inr (.inl (T l0.toNat 0)))] (G, M, T) (fun r S1 => pm_Run d 93 149 [.inr (.inr (.inl l0)), .inl l1] (pm_push r []) S1 K) := by
  refine (px_go (by decide +kernel : pm_fe 93 142 = some (.aload_n 0, 1)) rfl).trans ?_
  refine (px_get2 (idx := 12) (ci := 6) (k := 0) (by decide +kernel)).trans ((and_iff_right h1).trans ?_)
  refine (px_v0 (idx := 42) (m' := 51) (ci := 4) (by decide +kernel)).trans ((and_iff_right ⟨h2, (by simp [pm_wl_n, pm_wl_c, pm_w] : pm_wl [] ≤ 8)⟩).trans ?_)
  exact Iff.rfl
theorem b93_149 {d : Nat} {G : PG} {M T : PH} {K : PV → PS → Prop} {l0 l1 : Int} (h1 : pm_ob G l0 6) : pm_Run d 93 149 [.inr (.inr (.inl l0)), .inl l1] [] (G, M, T) K ↔ pm_Call d 94 [.inr (.inr (.inl l0))] (G, M, T) (fun r S1 => pm_Run d 93 153 [.inr (.inr (.inl l0)), .inl l1] (pm_push r []) S1 K) := by
  refine (px_go (by decide +kernel : pm_fe 93 149 = some (.aload_n 0, 1)) rfl).trans ?_
  refine (px_v0 (idx := 139) (m' := 94) (ci := 6) (by decide +kernel)).trans ((and_iff_right ⟨h1, (by simp [pm_wl_n, pm_wl_c, pm_w] : pm_wl [] ≤ 8)⟩).trans ?_)
  exact Iff.rfl
theorem b93_153 {d : Nat} {G : PG} {M T : PH} {K : PV → PS → Prop} {l0 l1 : Int} (h1 : pm_ob G l0 6) : pm_Run d 93 153 [.inr (.inr (.inl l0)), .inl l1] [] (G, M, T) K ↔ pm_Call d 89 [.inr (.inr (.inl l0)), .inl l1] (G, M, T) (fun r S1 => pm_Run d 93 158 [.inr (.inr (.inl l0)), .inl l1] (pm_push r []) S1 K) := by
  refine (px_go (by decide +kernel : pm_fe 93 153 = some (.aload_n 0, 1)) rfl).trans ?_
  refine (px_go (by decide +kernel : pm_fe 93 154 = some (.iload_n 1, 1)) rfl).trans ?_
  refine (px_v1 (idx := 233) (m' := 89) (ci := 6) (by decide +kernel)).trans ((and_iff_right ⟨h1, (by simp [pm_wl_n, pm_wl_c, pm_w] : pm_wl [] ≤ 8)⟩).trans ?_)
  exact Iff.rfl
theorem b93_158 {d : Nat} {G : PG} {M T : PH} {K : PV → PS → Prop} {l0 l1 : Int} : pm_Run d 93 158 [.inr (.inr (.inl l0)), .inl l1] [] (G, M, T) K ↔ pm_Run d 93 165 [.inr (.inr (.inl l0)), .inl l1] [] (G, M, T) K := by
  refine (px_goto (off := 7) (tgt := 165) (by decide +kernel)).trans ?_
  exact Iff.rfl
theorem b93_161 {d : Nat} {G : PG} {M T : PH} {K : PV → PS → Prop} {l0 l1 : Int} (h1 : pm_ob G l0 6) : pm_Run d 93 161 [.inr (.inr (.inl l0)), .inl l1] [] (G, M, T) K ↔ pm_Call d 70 [.inr (.inr (.inl l0))] (G, M, T) (fun r S1 => pm_Run d 93 165 [.inr (.inr (.inl l0)), .inl l1] (pm_push r []) S1 K) := by
  refine (px_go (by decide +kernel : pm_fe 93 161 = some (.aload_n 0, 1)) rfl).trans ?_
  refine (px_v0 (idx := 48) (m' := 70) (ci := 6) (by decide +kernel)).trans ((and_iff_right ⟨h1, (by simp [pm_wl_n, pm_wl_c, pm_w] : pm_wl [] ≤ 8)⟩).trans ?_)
  exact Iff.rfl
theorem b93_165 {d : Nat} {G : PG} {M T : PH} {K : PV → PS → Prop} {l0 : Int} {l1 : PV} : pm_Run d 93 165 [.inr (.inr (.inl l0)), l1] [] (G, M, T) K ↔ K PU (G, M, T) := by
  refine (px_rv (by decide +kernel)).trans ?_
  exact Iff.rfl
-- X6_sum sum()V
theorem en94 {d : Nat} {a : Int} {S : PS} {K : PV → PS → Prop} : pm_Call (d + 1) 94 [.inr (.inr (.inl a))] S K ↔ pm_Run d 94 0 [.inr (.inr (.inl a)), PU, PU] [] S K := pm_Call_s.trans (and_iff_right (show 1 ≤ pm_ml 94 from by decide +kernel))
theorem b94_0 {d : Nat} {G : PG} {M T : PH} {K : PV → PS → Prop} {l0 : Int} (h1 : pm_ob G l0 6) : pm_Run d 94 0 [.inr (.inr (.inl l0)), PU, PU] [] (G, M, T) K ↔ pm_Call d 95 [.inr (.inr (.inl l0))] (G, M, T) (fun r S1 => pm_Run d 94 4 [.inr (.inr (.inl l0)), PU, PU] (pm_push r []) S1 K) := by
  refine (px_go (by decide +kernel : pm_fe 94 0 = some (.aload_n 0, 1)) rfl).trans ?_
  refine (px_v0 (idx := 242) (m' := 95) (ci := 6) (by decide +kernel)).trans ((and_iff_right ⟨h1, (by simp [pm_wl_n, pm_wl_c, pm_w] : pm_wl [] ≤ 8)⟩).trans ?_)
  exact Iff.rfl
theorem b94_4 {d : Nat} {G : PG} {M T : PH} {K : PV → PS → Prop} {l0 : Int} : pm_Run d 94 4 [.inr (.inr (.inl l0)), PU, PU] [] (G, M, T) K ↔ pm_Run d 94 6 [.inr (.inr (.inl l0)), .inl 0, PU] [] (G, M, T) K := by
  refine (px_go (by decide +kernel : pm_fe 94 4 = some (.iconst 0, 1)) rfl).trans ?_
  refine (px_go (by decide +kernel : pm_fe 94 5 = some (.istore_n 1, 1)) rfl).trans ?_
  exact Iff.rfl
theorem b94_6 {d : Nat} {G : PG} {M T : PH} {K : PV → PS → Prop} {l0 l1 : Int} {l2 : PV} : pm_Run d 94 6 [.inr (.inr (.inl l0)), .inl l1, l2] [] (G, M, T) K ↔ if pm_sg 1600 ≤ pm_sg l1 then pm_Run d 94 61 [.inr (.inr (.inl l0)), .inl l1, l2] [] (G, M, T) K else pm_Run d 94 13 [.inr (.inr (.inl l0)), .inl l1, l2] [] (G, M, T) K := by
  refine (px_go (by decide +kernel : pm_fe 94 6 = some (.iload_n 1, 1)) rfl).trans ?_
  refine (px_go (by decide +kernel : pm_fe 94 7 = some (.sipush 1600, 3)) rfl).trans ?_
  refine (px_ic_ge (off := 51) (tgt := 61) (by decide +kernel)).trans ?_
  exact Iff.rfl
theorem b94_13 {d : Nat} {G : PG} {M T : PH} {K : PV → PS → Prop} {l0 l1 : Int} {l2 : PV} (h1 : pm_ob G l0 6) : pm_Run d 94 13 [.inr (.inr (.inl l0)), .inl l1, l2] [] (G, M, T) K ↔ pm_Call d 72 [.inr (.inr (.inl l0)), .inl 43] (G, M, T) (fun r S1 => pm_Run d 94 19 [.inr (.inr (.inl l0)), .inl l1, l2] (pm_push r []) S1 K) := by
  refine (px_go (by decide +kernel : pm_fe 94 13 = some (.aload_n 0, 1)) rfl).trans ?_
  refine (px_go (by decide +kernel : pm_fe 94 14 = some (.bipush 43, 2)) rfl).trans ?_
  refine (px_v1 (idx := 82) (m' := 72) (ci := 6) (by decide +kernel)).trans ((and_iff_right ⟨h1, (by simp [pm_wl_n, pm_wl_c, pm_w] : pm_wl [] ≤ 8)⟩).trans ?_)
  exact Iff.rfl
theorem b94_19 {d : Nat} {G : PG} {M T : PH} {K : PV → PS → Prop} {l0 l1 s0 : Int} {l2 : PV} : pm_Run d 94 19 [.inr (.inr (.inl l0)), .inl l1, l2] [.inl s0] (G, M, T) K ↔ if pm_sg s0 ≠ 0 then pm_Run d 94 31 [.inr (.inr (.inl l0)), .inl l1, l2] [] (G, M, T) K else pm_Run d 94 22 [.inr (.inr (.inl l0)), .inl l1, l2] [] (G, M, T) K := by
  refine (px_if_ne (off := 12) (tgt := 31) (by decide +kernel)).trans ?_
  exact Iff.rfl
theorem b94_22 {d : Nat} {G : PG} {M T : PH} {K : PV → PS → Prop} {l0 l1 : Int} {l2 : PV} (h1 : pm_ob G l0 6) : pm_Run d 94 22 [.inr (.inr (.inl l0)), .inl l1, l2] [] (G, M, T) K ↔ pm_Call d 72 [.inr (.inr (.inl l0)), .inl 45] (G, M, T) (fun r S1 => pm_Run d 94 28 [.inr (.inr (.inl l0)), .inl l1, l2] (pm_push r []) S1 K) := by
  refine (px_go (by decide +kernel : pm_fe 94 22 = some (.aload_n 0, 1)) rfl).trans ?_
  refine (px_go (by decide +kernel : pm_fe 94 23 = some (.bipush 45, 2)) rfl).trans ?_
  refine (px_v1 (idx := 82) (m' := 72) (ci := 6) (by decide +kernel)).trans ((and_iff_right ⟨h1, (by simp [pm_wl_n, pm_wl_c, pm_w] : pm_wl [] ≤ 8)⟩).trans ?_)
  exact Iff.rfl
theorem b94_28 {d : Nat} {G : PG} {M T : PH} {K : PV → PS → Prop} {l0 l1 s0 : Int} {l2 : PV} : pm_Run d 94 28 [.inr (.inr (.inl l0)), .inl l1, l2] [.inl s0] (G, M, T) K ↔ if pm_sg s0 = 0 then pm_Run d 94 61 [.inr (.inr (.inl l0)), .inl l1, l2] [] (G, M, T) K else pm_Run d 94 31 [.inr (.inr (.inl l0)), .inl l1, l2] [] (G, M, T) K := by
  refine (px_if_eq (off := 33) (tgt := 61) (by decide +kernel)).trans ?_
  exact Iff.rfl
theorem b94_31 {d : Nat} {G : PG} {M T : PH} {K : PV → PS → Prop} {l0 l1 : Int} {l2 : PV} (h1 : pm_ob G l0 6) (h2 : pm_ob G (T l0.toNat 0) 4) : pm_Run d 94 31 [.inr (.inr (.inl l0)), .inl l1, l2] [] (G, M, T) K ↔ pm_Call d 51 [.inr (.inr (.inl (T l0.toNat 0)))] (G, M, T) (fun r S1 => pm_Run d 94 46 [.inr (.inr (.inl l0)), .inl l1, .inl (M (T l0.toNat 0).toNat 7)] (pm_push r []) S1 K) := by
  refine (px_go (by decide +kernel : pm_fe 94 31 = some (.aload_n 0, 1)) rfl).trans ?_
  refine (px_get2 (idx := 12) (ci := 6) (k := 0) (by decide +kernel)).trans ((and_iff_right h1).trans ?_)
  refine (px_get0 (idx := 75) (ci := 4) (k := 7) (by decide +kernel)).trans ((and_iff_right h2).trans ?_)
  refine (px_go (by decide +kernel : pm_fe 94 38 = some (.istore_n 2, 1)) rfl).trans ?_
  refine (px_go (by decide +kernel : pm_fe 94 39 = some (.aload_n 0, 1)) rfl).trans ?_
  refine (px_get2 (idx := 12) (ci := 6) (k := 0) (by decide +kernel)).trans ((and_iff_right h1).trans ?_)
  refine (px_v0 (idx := 42) (m' := 51) (ci := 4) (by decide +kernel)).trans ((and_iff_right ⟨h2, (by simp [pm_wl_n, pm_wl_c, pm_w] : pm_wl [] ≤ 8)⟩).trans ?_)
  exact Iff.rfl
theorem b94_46 {d : Nat} {G : PG} {M T : PH} {K : PV → PS → Prop} {l0 l1 l2 : Int} (h1 : pm_ob G l0 6) : pm_Run d 94 46 [.inr (.inr (.inl l0)), .inl l1, .inl l2] [] (G, M, T) K ↔ pm_Call d 95 [.inr (.inr (.inl l0))] (G, M, T) (fun r S1 => pm_Run d 94 50 [.inr (.inr (.inl l0)), .inl l1, .inl l2] (pm_push r []) S1 K) := by
  refine (px_go (by decide +kernel : pm_fe 94 46 = some (.aload_n 0, 1)) rfl).trans ?_
  refine (px_v0 (idx := 242) (m' := 95) (ci := 6) (by decide +kernel)).trans ((and_iff_right ⟨h1, (by simp [pm_wl_n, pm_wl_c, pm_w] : pm_wl [] ≤ 8)⟩).trans ?_)
  exact Iff.rfl
theorem b94_50 {d : Nat} {G : PG} {M T : PH} {K : PV → PS → Prop} {l0 l1 l2 : Int} (h1 : pm_ob G l0 6) : pm_Run d 94 50 [.inr (.inr (.inl l0)), .inl l1, .inl l2] [] (G, M, T) K ↔ pm_Call d 89 [.inr (.inr (.inl l0)), .inl l2] (G, M, T) (fun r S1 => pm_Run d 94 55 [.inr (.inr (.inl l0)), .inl l1, .inl l2] (pm_push r []) S1 K) := by
  refine (px_go (by decide +kernel : pm_fe 94 50 = some (.aload_n 0, 1)) rfl).trans ?_
  refine (px_go (by decide +kernel : pm_fe 94 51 = some (.iload_n 2, 1)) rfl).trans ?_
  refine (px_v1 (idx := 233) (m' := 89) (ci := 6) (by decide +kernel)).trans ((and_iff_right ⟨h1, (by simp [pm_wl_n, pm_wl_c, pm_w] : pm_wl [] ≤ 8)⟩).trans ?_)
  exact Iff.rfl
theorem b94_55 {d : Nat} {G : PG} {M T : PH} {K : PV → PS → Prop} {l0 l1 l2 : Int} : pm_Run d 94 55 [.inr (.inr (.inl l0)), .inl l1, .inl l2] [] (G, M, T) K ↔ pm_Run d 94 6 [.inr (.inr (.inl l0)), .inl (l1 + 1), .inl l2] [] (G, M, T) K := by
  refine (px_go (by decide +kernel : pm_fe 94 55 = some (.iinc 1 1, 3)) rfl).trans ?_
  refine (px_goto (off := (-52)) (tgt := 6) (by decide +kernel)).trans ?_
  exact Iff.rfl
theorem b94_61 {d : Nat} {G : PG} {M T : PH} {K : PV → PS → Prop} {l0 l1 : Int} {l2 : PV} : pm_Run d 94 61 [.inr (.inr (.inl l0)), .inl l1, l2] [] (G, M, T) K ↔ K PU (G, M, T) := by
  refine (px_rv (by decide +kernel)).trans ?_
  exact Iff.rfl
-- X6_product product()V
theorem en95 {d : Nat} {a : Int} {S : PS} {K : PV → PS → Prop} : pm_Call (d + 1) 95 [.inr (.inr (.inl a))] S K ↔ pm_Run d 95 0 [.inr (.inr (.inl a)), PU, PU] [] S K := pm_Call_s.trans (and_iff_right (show 1 ≤ pm_ml 95 from by decide +kernel))
theorem b95_0 {d : Nat} {G : PG} {M T : PH} {K : PV → PS → Prop} {l0 : Int} (h1 : pm_ob G l0 6) : pm_Run d 95 0 [.inr (.inr (.inl l0)), PU, PU] [] (G, M, T) K ↔ pm_Call d 96 [.inr (.inr (.inl l0))] (G, M, T) (fun r S1 => pm_Run d 95 4 [.inr (.inr (.inl l0)), PU, PU] (pm_push r []) S1 K) := by
  refine (px_go (by decide +kernel : pm_fe 95 0 = some (.aload_n 0, 1)) rfl).trans ?_
  refine (px_v0 (idx := 245) (m' := 96) (ci := 6) (by decide +kernel)).trans ((and_iff_right ⟨h1, (by simp [pm_wl_n, pm_wl_c, pm_w] : pm_wl [] ≤ 8)⟩).trans ?_)
  exact Iff.rfl
theorem b95_4 {d : Nat} {G : PG} {M T : PH} {K : PV → PS → Prop} {l0 : Int} : pm_Run d 95 4 [.inr (.inr (.inl l0)), PU, PU] [] (G, M, T) K ↔ pm_Run d 95 6 [.inr (.inr (.inl l0)), .inl 0, PU] [] (G, M, T) K := by
  refine (px_go (by decide +kernel : pm_fe 95 4 = some (.iconst 0, 1)) rfl).trans ?_
  refine (px_go (by decide +kernel : pm_fe 95 5 = some (.istore_n 1, 1)) rfl).trans ?_
  exact Iff.rfl
theorem b95_6 {d : Nat} {G : PG} {M T : PH} {K : PV → PS → Prop} {l0 l1 : Int} {l2 : PV} : pm_Run d 95 6 [.inr (.inr (.inl l0)), .inl l1, l2] [] (G, M, T) K ↔ if pm_sg 1600 ≤ pm_sg l1 then pm_Run d 95 70 [.inr (.inr (.inl l0)), .inl l1, l2] [] (G, M, T) K else pm_Run d 95 13 [.inr (.inr (.inl l0)), .inl l1, l2] [] (G, M, T) K := by
  refine (px_go (by decide +kernel : pm_fe 95 6 = some (.iload_n 1, 1)) rfl).trans ?_
  refine (px_go (by decide +kernel : pm_fe 95 7 = some (.sipush 1600, 3)) rfl).trans ?_
  refine (px_ic_ge (off := 60) (tgt := 70) (by decide +kernel)).trans ?_
  exact Iff.rfl
theorem b95_13 {d : Nat} {G : PG} {M T : PH} {K : PV → PS → Prop} {l0 l1 : Int} {l2 : PV} (h1 : pm_ob G l0 6) : pm_Run d 95 13 [.inr (.inr (.inl l0)), .inl l1, l2] [] (G, M, T) K ↔ pm_Call d 72 [.inr (.inr (.inl l0)), .inl 42] (G, M, T) (fun r S1 => pm_Run d 95 19 [.inr (.inr (.inl l0)), .inl l1, l2] (pm_push r []) S1 K) := by
  refine (px_go (by decide +kernel : pm_fe 95 13 = some (.aload_n 0, 1)) rfl).trans ?_
  refine (px_go (by decide +kernel : pm_fe 95 14 = some (.bipush 42, 2)) rfl).trans ?_
  refine (px_v1 (idx := 82) (m' := 72) (ci := 6) (by decide +kernel)).trans ((and_iff_right ⟨h1, (by simp [pm_wl_n, pm_wl_c, pm_w] : pm_wl [] ≤ 8)⟩).trans ?_)
  exact Iff.rfl
theorem b95_19 {d : Nat} {G : PG} {M T : PH} {K : PV → PS → Prop} {l0 l1 s0 : Int} {l2 : PV} : pm_Run d 95 19 [.inr (.inr (.inl l0)), .inl l1, l2] [.inl s0] (G, M, T) K ↔ if pm_sg s0 ≠ 0 then pm_Run d 95 40 [.inr (.inr (.inl l0)), .inl l1, l2] [] (G, M, T) K else pm_Run d 95 22 [.inr (.inr (.inl l0)), .inl l1, l2] [] (G, M, T) K := by
  refine (px_if_ne (off := 21) (tgt := 40) (by decide +kernel)).trans ?_
  exact Iff.rfl
theorem b95_22 {d : Nat} {G : PG} {M T : PH} {K : PV → PS → Prop} {l0 l1 : Int} {l2 : PV} (h1 : pm_ob G l0 6) : pm_Run d 95 22 [.inr (.inr (.inl l0)), .inl l1, l2] [] (G, M, T) K ↔ pm_Call d 72 [.inr (.inr (.inl l0)), .inl 47] (G, M, T) (fun r S1 => pm_Run d 95 28 [.inr (.inr (.inl l0)), .inl l1, l2] (pm_push r []) S1 K) := by
  refine (px_go (by decide +kernel : pm_fe 95 22 = some (.aload_n 0, 1)) rfl).trans ?_
  refine (px_go (by decide +kernel : pm_fe 95 23 = some (.bipush 47, 2)) rfl).trans ?_
  refine (px_v1 (idx := 82) (m' := 72) (ci := 6) (by decide +kernel)).trans ((and_iff_right ⟨h1, (by simp [pm_wl_n, pm_wl_c, pm_w] : pm_wl [] ≤ 8)⟩).trans ?_)
  exact Iff.rfl
theorem b95_28 {d : Nat} {G : PG} {M T : PH} {K : PV → PS → Prop} {l0 l1 s0 : Int} {l2 : PV} : pm_Run d 95 28 [.inr (.inr (.inl l0)), .inl l1, l2] [.inl s0] (G, M, T) K ↔ if pm_sg s0 ≠ 0 then pm_Run d 95 40 [.inr (.inr (.inl l0)), .inl l1, l2] [] (G, M, T) K else pm_Run d 95 31 [.inr (.inr (.inl l0)), .inl l1, l2] [] (G, M, T) K := by
  refine (px_if_ne (off := 12) (tgt := 40) (by decide +kernel)).trans ?_
  exact Iff.rfl
theorem b95_31 {d : Nat} {G : PG} {M T : PH} {K : PV → PS → Prop} {l0 l1 : Int} {l2 : PV} (h1 : pm_ob G l0 6) : pm_Run d 95 31 [.inr (.inr (.inl l0)), .inl l1, l2] [] (G, M, T) K ↔ pm_Call d 72 [.inr (.inr (.inl l0)), .inl 37] (G, M, T) (fun r S1 => pm_Run d 95 37 [.inr (.inr (.inl l0)), .inl l1, l2] (pm_push r []) S1 K) := by
  refine (px_go (by decide +kernel : pm_fe 95 31 = some (.aload_n 0, 1)) rfl).trans ?_
  refine (px_go (by decide +kernel : pm_fe 95 32 = some (.bipush 37, 2)) rfl).trans ?_
  refine (px_v1 (idx := 82) (m' := 72) (ci := 6) (by decide +kernel)).trans ((and_iff_right ⟨h1, (by simp [pm_wl_n, pm_wl_c, pm_w] : pm_wl [] ≤ 8)⟩).trans ?_)
  exact Iff.rfl
theorem b95_37 {d : Nat} {G : PG} {M T : PH} {K : PV → PS → Prop} {l0 l1 s0 : Int} {l2 : PV} : pm_Run d 95 37 [.inr (.inr (.inl l0)), .inl l1, l2] [.inl s0] (G, M, T) K ↔ if pm_sg s0 = 0 then pm_Run d 95 70 [.inr (.inr (.inl l0)), .inl l1, l2] [] (G, M, T) K else pm_Run d 95 40 [.inr (.inr (.inl l0)), .inl l1, l2] [] (G, M, T) K := by
  refine (px_if_eq (off := 33) (tgt := 70) (by decide +kernel)).trans ?_
  exact Iff.rfl
theorem b95_40 {d : Nat} {G : PG} {M T : PH} {K : PV → PS → Prop} {l0 l1 : Int} {l2 : PV} (h1 : pm_ob G l0 6) (h2 : pm_ob G (T l0.toNat 0) 4) : pm_Run d 95 40 [.inr (.inr (.inl l0)), .inl l1, l2] [] (G, M, T) K ↔ pm_Call d 51 [.inr (.inr (.inl (T l0.toNat 0)))] (G, M, T) (fun r S1 => pm_Run d 95 55 [.inr (.inr (.inl l0)), .inl l1, .inl (M (T l0.toNat 0).toNat 7)] (pm_push r []) S1 K) := by
  refine (px_go (by decide +kernel : pm_fe 95 40 = some (.aload_n 0, 1)) rfl).trans ?_
  refine (px_get2 (idx := 12) (ci := 6) (k := 0) (by decide +kernel)).trans ((and_iff_right h1).trans ?_)
  refine (px_get0 (idx := 75) (ci := 4) (k := 7) (by decide +kernel)).trans ((and_iff_right h2).trans ?_)
  refine (px_go (by decide +kernel : pm_fe 95 47 = some (.istore_n 2, 1)) rfl).trans ?_
  refine (px_go (by decide +kernel : pm_fe 95 48 = some (.aload_n 0, 1)) rfl).trans ?_
  refine (px_get2 (idx := 12) (ci := 6) (k := 0) (by decide +kernel)).trans ((and_iff_right h1).trans ?_)
  refine (px_v0 (idx := 42) (m' := 51) (ci := 4) (by decide +kernel)).trans ((and_iff_right ⟨h2, (by simp [pm_wl_n, pm_wl_c, pm_w] : pm_wl [] ≤ 8)⟩).trans ?_)
  exact Iff.rfl
theorem b95_55 {d : Nat} {G : PG} {M T : PH} {K : PV → PS → Prop} {l0 l1 l2 : Int} (h1 : pm_ob G l0 6) : pm_Run d 95 55 [.inr (.inr (.inl l0)), .inl l1, .inl l2] [] (G, M, T) K ↔ pm_Call d 96 [.inr (.inr (.inl l0))] (G, M, T) (fun r S1 => pm_Run d 95 59 [.inr (.inr (.inl l0)), .inl l1, .inl l2] (pm_push r []) S1 K) := by
  refine (px_go (by decide +kernel : pm_fe 95 55 = some (.aload_n 0, 1)) rfl).trans ?_
  refine (px_v0 (idx := 245) (m' := 96) (ci := 6) (by decide +kernel)).trans ((and_iff_right ⟨h1, (by simp [pm_wl_n, pm_wl_c, pm_w] : pm_wl [] ≤ 8)⟩).trans ?_)
  exact Iff.rfl
theorem b95_59 {d : Nat} {G : PG} {M T : PH} {K : PV → PS → Prop} {l0 l1 l2 : Int} (h1 : pm_ob G l0 6) : pm_Run d 95 59 [.inr (.inr (.inl l0)), .inl l1, .inl l2] [] (G, M, T) K ↔ pm_Call d 89 [.inr (.inr (.inl l0)), .inl l2] (G, M, T) (fun r S1 => pm_Run d 95 64 [.inr (.inr (.inl l0)), .inl l1, .inl l2] (pm_push r []) S1 K) := by
  refine (px_go (by decide +kernel : pm_fe 95 59 = some (.aload_n 0, 1)) rfl).trans ?_
  refine (px_go (by decide +kernel : pm_fe 95 60 = some (.iload_n 2, 1)) rfl).trans ?_
  refine (px_v1 (idx := 233) (m' := 89) (ci := 6) (by decide +kernel)).trans ((and_iff_right ⟨h1, (by simp [pm_wl_n, pm_wl_c, pm_w] : pm_wl [] ≤ 8)⟩).trans ?_)
  exact Iff.rfl
theorem b95_64 {d : Nat} {G : PG} {M T : PH} {K : PV → PS → Prop} {l0 l1 l2 : Int} : pm_Run d 95 64 [.inr (.inr (.inl l0)), .inl l1, .inl l2] [] (G, M, T) K ↔ pm_Run d 95 6 [.inr (.inr (.inl l0)), .inl (l1 + 1), .inl l2] [] (G, M, T) K := by
  refine (px_go (by decide +kernel : pm_fe 95 64 = some (.iinc 1 1, 3)) rfl).trans ?_
  refine (px_goto (off := (-61)) (tgt := 6) (by decide +kernel)).trans ?_
  exact Iff.rfl
theorem b95_70 {d : Nat} {G : PG} {M T : PH} {K : PV → PS → Prop} {l0 l1 : Int} {l2 : PV} : pm_Run d 95 70 [.inr (.inr (.inl l0)), .inl l1, l2] [] (G, M, T) K ↔ K PU (G, M, T) := by
  refine (px_rv (by decide +kernel)).trans ?_
  exact Iff.rfl
-- X6_part part()V
theorem en96 {d : Nat} {a : Int} {S : PS} {K : PV → PS → Prop} : pm_Call (d + 1) 96 [.inr (.inr (.inl a))] S K ↔ pm_Run d 96 0 [.inr (.inr (.inl a))] [] S K := pm_Call_s.trans (and_iff_right (show 1 ≤ pm_ml 96 from by decide +kernel))
theorem b96_0 {d : Nat} {G : PG} {M T : PH} {K : PV → PS → Prop} {l0 : Int} (h1 : pm_ob G l0 6) (h2 : pm_ob G (T l0.toNat 0) 4) : pm_Run d 96 0 [.inr (.inr (.inl l0))] [] (G, M, T) K ↔ if pm_sg (M (T l0.toNat 0).toNat 4) ≠ pm_sg 2 then pm_Run d 96 38 [.inr (.inr (.inl l0))] [] (G, M, T) K else pm_Run d 96 11 [.inr (.inr (.inl l0))] [] (G, M, T) K := by
  refine (px_go (by decide +kernel : pm_fe 96 0 = some (.aload_n 0, 1)) rfl).trans ?_
  refine (px_get2 (idx := 12) (ci := 6) (k := 0) (by decide +kernel)).trans ((and_iff_right h1).trans ?_)
  refine (px_get0 (idx := 45) (ci := 4) (k := 4) (by decide +kernel)).trans ((and_iff_right h2).trans ?_)
  refine (px_go (by decide +kernel : pm_fe 96 7 = some (.iconst 2, 1)) rfl).trans ?_
  refine (px_ic_ne (off := 30) (tgt := 38) (by decide +kernel)).trans ?_
  exact Iff.rfl
theorem b96_11 {d : Nat} {G : PG} {M T : PH} {K : PV → PS → Prop} {l0 : Int} (h1 : pm_ob G l0 6) (h2 : pm_ob G (T l0.toNat 1) 1) (h3 : pm_ob G (T l0.toNat 0) 4) (h4 : pm_ob G (T (T l0.toNat 1).toNat 17) 3) : pm_Run d 96 11 [.inr (.inr (.inl l0))] [] (G, M, T) K ↔ pm_Call d 43 [.inr (.inr (.inl (T (T l0.toNat 1).toNat 17))), .inl (M (T l0.toNat 0).toNat 7)] (G, M, T) (fun r S1 => pm_Run d 96 28 [.inr (.inr (.inl l0))] (pm_push r []) S1 K) := by
  refine (px_go (by decide +kernel : pm_fe 96 11 = some (.aload_n 0, 1)) rfl).trans ?_
  refine (px_get2 (idx := 21) (ci := 6) (k := 1) (by decide +kernel)).trans ((and_iff_right h1).trans ?_)
  refine (px_get2 (idx := 127) (ci := 1) (k := 17) (by decide +kernel)).trans ((and_iff_right h2).trans ?_)
  refine (px_go (by decide +kernel : pm_fe 96 18 = some (.aload_n 0, 1)) rfl).trans ?_
  refine (px_get2 (idx := 12) (ci := 6) (k := 0) (by decide +kernel)).trans ((and_iff_right h1).trans ?_)
  refine (px_get0 (idx := 75) (ci := 4) (k := 7) (by decide +kernel)).trans ((and_iff_right h3).trans ?_)
  refine (px_v1 (idx := 227) (m' := 43) (ci := 3) (by decide +kernel)).trans ((and_iff_right ⟨h4, (by simp [pm_wl_n, pm_wl_c, pm_w] : pm_wl [] ≤ 8)⟩).trans ?_)
  exact Iff.rfl
theorem b96_28 {d : Nat} {G : PG} {M T : PH} {K : PV → PS → Prop} {l0 : Int} (h1 : pm_ob G l0 6) (h2 : pm_ob G (T l0.toNat 0) 4) : pm_Run d 96 28 [.inr (.inr (.inl l0))] [] (G, M, T) K ↔ pm_Call d 51 [.inr (.inr (.inl (T l0.toNat 0)))] (G, M, T) (fun r S1 => pm_Run d 96 35 [.inr (.inr (.inl l0))] (pm_push r []) S1 K) := by
  refine (px_go (by decide +kernel : pm_fe 96 28 = some (.aload_n 0, 1)) rfl).trans ?_
  refine (px_get2 (idx := 12) (ci := 6) (k := 0) (by decide +kernel)).trans ((and_iff_right h1).trans ?_)
  refine (px_v0 (idx := 42) (m' := 51) (ci := 4) (by decide +kernel)).trans ((and_iff_right ⟨h2, (by simp [pm_wl_n, pm_wl_c, pm_w] : pm_wl [] ≤ 8)⟩).trans ?_)
  exact Iff.rfl
theorem b96_35 {d : Nat} {G : PG} {M T : PH} {K : PV → PS → Prop} {l0 : Int} : pm_Run d 96 35 [.inr (.inr (.inl l0))] [] (G, M, T) K ↔ pm_Run d 96 151 [.inr (.inr (.inl l0))] [] (G, M, T) K := by
  refine (px_goto (off := 116) (tgt := 151) (by decide +kernel)).trans ?_
  exact Iff.rfl
theorem b96_38 {d : Nat} {G : PG} {M T : PH} {K : PV → PS → Prop} {l0 : Int} (h1 : pm_ob G l0 6) : pm_Run d 96 38 [.inr (.inr (.inl l0))] [] (G, M, T) K ↔ pm_Call d 72 [.inr (.inr (.inl l0)), .inl 40] (G, M, T) (fun r S1 => pm_Run d 96 44 [.inr (.inr (.inl l0))] (pm_push r []) S1 K) := by
  refine (px_go (by decide +kernel : pm_fe 96 38 = some (.aload_n 0, 1)) rfl).trans ?_
  refine (px_go (by decide +kernel : pm_fe 96 39 = some (.bipush 40, 2)) rfl).trans ?_
  refine (px_v1 (idx := 82) (m' := 72) (ci := 6) (by decide +kernel)).trans ((and_iff_right ⟨h1, (by simp [pm_wl_n, pm_wl_c, pm_w] : pm_wl [] ≤ 8)⟩).trans ?_)
  exact Iff.rfl
theorem b96_44 {d : Nat} {G : PG} {M T : PH} {K : PV → PS → Prop} {l0 s0 : Int} : pm_Run d 96 44 [.inr (.inr (.inl l0))] [.inl s0] (G, M, T) K ↔ if pm_sg s0 = 0 then pm_Run d 96 77 [.inr (.inr (.inl l0))] [] (G, M, T) K else pm_Run d 96 47 [.inr (.inr (.inl l0))] [] (G, M, T) K := by
  refine (px_if_eq (off := 33) (tgt := 77) (by decide +kernel)).trans ?_
  exact Iff.rfl
theorem b96_47 {d : Nat} {G : PG} {M T : PH} {K : PV → PS → Prop} {l0 : Int} (h1 : pm_ob G l0 6) : pm_Run d 96 47 [.inr (.inr (.inl l0))] [] (G, M, T) K ↔ pm_Call d 90 [.inr (.inr (.inl l0))] (G, M, T) (fun r S1 => pm_Run d 96 51 [.inr (.inr (.inl l0))] (pm_push r []) S1 K) := by
  refine (px_go (by decide +kernel : pm_fe 96 47 = some (.aload_n 0, 1)) rfl).trans ?_
  refine (px_v0 (idx := 239) (m' := 90) (ci := 6) (by decide +kernel)).trans ((and_iff_right ⟨h1, (by simp [pm_wl_n, pm_wl_c, pm_w] : pm_wl [] ≤ 8)⟩).trans ?_)
  exact Iff.rfl
theorem b96_51 {d : Nat} {G : PG} {M T : PH} {K : PV → PS → Prop} {l0 s0 : Int} : pm_Run d 96 51 [.inr (.inr (.inl l0))] [.inl s0] (G, M, T) K ↔ if pm_sg s0 = 0 then pm_Run d 96 151 [.inr (.inr (.inl l0))] [] (G, M, T) K else pm_Run d 96 54 [.inr (.inr (.inl l0))] [] (G, M, T) K := by
  refine (px_if_eq (off := 100) (tgt := 151) (by decide +kernel)).trans ?_
  exact Iff.rfl
theorem b96_54 {d : Nat} {G : PG} {M T : PH} {K : PV → PS → Prop} {l0 : Int} (h1 : pm_ob G l0 6) : pm_Run d 96 54 [.inr (.inr (.inl l0))] [] (G, M, T) K ↔ pm_Call d 94 [.inr (.inr (.inl l0))] (G, M, T) (fun r S1 => pm_Run d 96 58 [.inr (.inr (.inl l0))] (pm_push r []) S1 K) := by
  refine (px_go (by decide +kernel : pm_fe 96 54 = some (.aload_n 0, 1)) rfl).trans ?_
  refine (px_v0 (idx := 139) (m' := 94) (ci := 6) (by decide +kernel)).trans ((and_iff_right ⟨h1, (by simp [pm_wl_n, pm_wl_c, pm_w] : pm_wl [] ≤ 8)⟩).trans ?_)
  exact Iff.rfl
theorem b96_58 {d : Nat} {G : PG} {M T : PH} {K : PV → PS → Prop} {l0 : Int} (h1 : pm_ob G l0 6) : pm_Run d 96 58 [.inr (.inr (.inl l0))] [] (G, M, T) K ↔ pm_Call d 74 [.inr (.inr (.inl l0)), .inl 41] (G, M, T) (fun r S1 => pm_Run d 96 64 [.inr (.inr (.inl l0))] (pm_push r []) S1 K) := by
  refine (px_go (by decide +kernel : pm_fe 96 58 = some (.aload_n 0, 1)) rfl).trans ?_
  refine (px_go (by decide +kernel : pm_fe 96 59 = some (.bipush 41, 2)) rfl).trans ?_
  refine (px_v1 (idx := 62) (m' := 74) (ci := 6) (by decide +kernel)).trans ((and_iff_right ⟨h1, (by simp [pm_wl_n, pm_wl_c, pm_w] : pm_wl [] ≤ 8)⟩).trans ?_)
  exact Iff.rfl
theorem b96_64 {d : Nat} {G : PG} {M T : PH} {K : PV → PS → Prop} {l0 : Int} (h1 : pm_ob G l0 6) : pm_Run d 96 64 [.inr (.inr (.inl l0))] [] (G, M, T) K ↔ pm_Run d 96 151 [.inr (.inr (.inl l0))] [] (G, pm_sa M l0.toNat (pm_up (M l0.toNat) 2 ((M l0.toNat 2) - 1)), T) K := by
  refine (px_go (by decide +kernel : pm_fe 96 64 = some (.aload_n 0, 1)) rfl).trans ?_
  refine (px_go (by decide +kernel : pm_fe 96 65 = some (.dup, 1)) rfl).trans ?_
  refine (px_get0 (idx := 35) (ci := 6) (k := 2) (by decide +kernel)).trans ((and_iff_right h1).trans ?_)
  refine (px_go (by decide +kernel : pm_fe 96 69 = some (.iconst 1, 1)) rfl).trans ?_
  refine (px_go (by decide +kernel : pm_fe 96 70 = some (.isub, 1)) rfl).trans ?_
  refine (px_put0 (idx := 35) (ci := 6) (k := 2) (by decide +kernel)).trans ((and_iff_right h1).trans ?_)
  refine (px_goto (off := 77) (tgt := 151) (by decide +kernel)).trans ?_
  exact Iff.rfl
theorem b96_77 {d : Nat} {G : PG} {M T : PH} {K : PV → PS → Prop} {l0 : Int} (h1 : pm_ob G l0 6) : pm_Run d 96 77 [.inr (.inr (.inl l0))] [] (G, M, T) K ↔ pm_Call d 71 [.inr (.inr (.inl l0)), .inl 27] (G, M, T) (fun r S1 => pm_Run d 96 83 [.inr (.inr (.inl l0))] (pm_push r []) S1 K) := by
  refine (px_go (by decide +kernel : pm_fe 96 77 = some (.aload_n 0, 1)) rfl).trans ?_
  refine (px_go (by decide +kernel : pm_fe 96 78 = some (.bipush 27, 2)) rfl).trans ?_
  refine (px_v1 (idx := 78) (m' := 71) (ci := 6) (by decide +kernel)).trans ((and_iff_right ⟨h1, (by simp [pm_wl_n, pm_wl_c, pm_w] : pm_wl [] ≤ 8)⟩).trans ?_)
  exact Iff.rfl
theorem b96_83 {d : Nat} {G : PG} {M T : PH} {K : PV → PS → Prop} {l0 s0 : Int} : pm_Run d 96 83 [.inr (.inr (.inl l0))] [.inl s0] (G, M, T) K ↔ if pm_sg s0 ≠ 0 then pm_Run d 96 95 [.inr (.inr (.inl l0))] [] (G, M, T) K else pm_Run d 96 86 [.inr (.inr (.inl l0))] [] (G, M, T) K := by
  refine (px_if_ne (off := 12) (tgt := 95) (by decide +kernel)).trans ?_
  exact Iff.rfl
theorem b96_86 {d : Nat} {G : PG} {M T : PH} {K : PV → PS → Prop} {l0 : Int} (h1 : pm_ob G l0 6) : pm_Run d 96 86 [.inr (.inr (.inl l0))] [] (G, M, T) K ↔ pm_Call d 71 [.inr (.inr (.inl l0)), .inl 28] (G, M, T) (fun r S1 => pm_Run d 96 92 [.inr (.inr (.inl l0))] (pm_push r []) S1 K) := by
  refine (px_go (by decide +kernel : pm_fe 96 86 = some (.aload_n 0, 1)) rfl).trans ?_
  refine (px_go (by decide +kernel : pm_fe 96 87 = some (.bipush 28, 2)) rfl).trans ?_
  refine (px_v1 (idx := 78) (m' := 71) (ci := 6) (by decide +kernel)).trans ((and_iff_right ⟨h1, (by simp [pm_wl_n, pm_wl_c, pm_w] : pm_wl [] ≤ 8)⟩).trans ?_)
  exact Iff.rfl
theorem b96_92 {d : Nat} {G : PG} {M T : PH} {K : PV → PS → Prop} {l0 s0 : Int} : pm_Run d 96 92 [.inr (.inr (.inl l0))] [.inl s0] (G, M, T) K ↔ if pm_sg s0 = 0 then pm_Run d 96 109 [.inr (.inr (.inl l0))] [] (G, M, T) K else pm_Run d 96 95 [.inr (.inr (.inl l0))] [] (G, M, T) K := by
  refine (px_if_eq (off := 17) (tgt := 109) (by decide +kernel)).trans ?_
  exact Iff.rfl
theorem b96_95 {d : Nat} {G : PG} {M T : PH} {K : PV → PS → Prop} {l0 : Int} (h1 : pm_ob G l0 6) (h2 : pm_ob G (T l0.toNat 0) 4) : pm_Run d 96 95 [.inr (.inr (.inl l0))] [] (G, M, T) K ↔ pm_Call d 97 [.inr (.inr (.inl l0)), .inl (M (T l0.toNat 0).toNat 8)] (G, M, T) (fun r S1 => pm_Run d 96 106 [.inr (.inr (.inl l0))] (pm_push r []) S1 K) := by
  refine (px_go (by decide +kernel : pm_fe 96 95 = some (.aload_n 0, 1)) rfl).trans ?_
  refine (px_go (by decide +kernel : pm_fe 96 96 = some (.aload_n 0, 1)) rfl).trans ?_
  refine (px_get2 (idx := 12) (ci := 6) (k := 0) (by decide +kernel)).trans ((and_iff_right h1).trans ?_)
  refine (px_get0 (idx := 69) (ci := 4) (k := 8) (by decide +kernel)).trans ((and_iff_right h2).trans ?_)
  refine (px_v1 (idx := 248) (m' := 97) (ci := 6) (by decide +kernel)).trans ((and_iff_right ⟨h1, (by simp [pm_wl_n, pm_wl_c, pm_w] : pm_wl [] ≤ 8)⟩).trans ?_)
  exact Iff.rfl
theorem b96_106 {d : Nat} {G : PG} {M T : PH} {K : PV → PS → Prop} {l0 : Int} : pm_Run d 96 106 [.inr (.inr (.inl l0))] [] (G, M, T) K ↔ pm_Run d 96 151 [.inr (.inr (.inl l0))] [] (G, M, T) K := by
  refine (px_goto (off := 45) (tgt := 151) (by decide +kernel)).trans ?_
  exact Iff.rfl
theorem b96_109 {d : Nat} {G : PG} {M T : PH} {K : PV → PS → Prop} {l0 : Int} (h1 : pm_ob G l0 6) : pm_Run d 96 109 [.inr (.inr (.inl l0))] [] (G, M, T) K ↔ pm_Call d 98 [.inr (.inr (.inl l0))] (G, M, T) (fun r S1 => pm_Run d 96 113 [.inr (.inr (.inl l0))] (pm_push r []) S1 K) := by
  refine (px_go (by decide +kernel : pm_fe 96 109 = some (.aload_n 0, 1)) rfl).trans ?_
  refine (px_v0 (idx := 251) (m' := 98) (ci := 6) (by decide +kernel)).trans ((and_iff_right ⟨h1, (by simp [pm_wl_n, pm_wl_c, pm_w] : pm_wl [] ≤ 8)⟩).trans ?_)
  exact Iff.rfl
theorem b96_113 {d : Nat} {G : PG} {M T : PH} {K : PV → PS → Prop} {l0 s0 : Int} : pm_Run d 96 113 [.inr (.inr (.inl l0))] [.inl s0] (G, M, T) K ↔ if pm_sg s0 = 0 then pm_Run d 96 147 [.inr (.inr (.inl l0))] [] (G, M, T) K else pm_Run d 96 116 [.inr (.inr (.inl l0))] [] (G, M, T) K := by
  refine (px_if_eq (off := 34) (tgt := 147) (by decide +kernel)).trans ?_
  exact Iff.rfl
theorem b96_116 {d : Nat} {G : PG} {M T : PH} {K : PV → PS → Prop} {l0 : Int} (h1 : pm_ob G l0 6) (h2 : pm_ob G (T l0.toNat 1) 1) (h3 : pm_ob G (T l0.toNat 0) 4) (h4 : pm_ob G (T (T l0.toNat 1).toNat 17) 3) : pm_Run d 96 116 [.inr (.inr (.inl l0))] [] (G, M, T) K ↔ pm_Call d 43 [.inr (.inr (.inl (T (T l0.toNat 1).toNat 17))), .inl (10000 + (M (T l0.toNat 0).toNat 8))] (G, M, T) (fun r S1 => pm_Run d 96 137 [.inr (.inr (.inl l0))] (pm_push r []) S1 K) := by
  refine (px_go (by decide +kernel : pm_fe 96 116 = some (.aload_n 0, 1)) rfl).trans ?_
  refine (px_get2 (idx := 21) (ci := 6) (k := 1) (by decide +kernel)).trans ((and_iff_right h1).trans ?_)
  refine (px_get2 (idx := 127) (ci := 1) (k := 17) (by decide +kernel)).trans ((and_iff_right h2).trans ?_)
  refine (px_go (by decide +kernel : pm_fe 96 123 = some (.sipush 10000, 3)) rfl).trans ?_
  refine (px_go (by decide +kernel : pm_fe 96 126 = some (.aload_n 0, 1)) rfl).trans ?_
  refine (px_get2 (idx := 12) (ci := 6) (k := 0) (by decide +kernel)).trans ((and_iff_right h1).trans ?_)
  refine (px_get0 (idx := 69) (ci := 4) (k := 8) (by decide +kernel)).trans ((and_iff_right h3).trans ?_)
  refine (px_go (by decide +kernel : pm_fe 96 133 = some (.iadd, 1)) rfl).trans ?_
  refine (px_v1 (idx := 227) (m' := 43) (ci := 3) (by decide +kernel)).trans ((and_iff_right ⟨h4, (by simp [pm_wl_n, pm_wl_c, pm_w] : pm_wl [] ≤ 8)⟩).trans ?_)
  exact Iff.rfl
theorem b96_137 {d : Nat} {G : PG} {M T : PH} {K : PV → PS → Prop} {l0 : Int} (h1 : pm_ob G l0 6) (h2 : pm_ob G (T l0.toNat 0) 4) : pm_Run d 96 137 [.inr (.inr (.inl l0))] [] (G, M, T) K ↔ pm_Call d 51 [.inr (.inr (.inl (T l0.toNat 0)))] (G, M, T) (fun r S1 => pm_Run d 96 144 [.inr (.inr (.inl l0))] (pm_push r []) S1 K) := by
  refine (px_go (by decide +kernel : pm_fe 96 137 = some (.aload_n 0, 1)) rfl).trans ?_
  refine (px_get2 (idx := 12) (ci := 6) (k := 0) (by decide +kernel)).trans ((and_iff_right h1).trans ?_)
  refine (px_v0 (idx := 42) (m' := 51) (ci := 4) (by decide +kernel)).trans ((and_iff_right ⟨h2, (by simp [pm_wl_n, pm_wl_c, pm_w] : pm_wl [] ≤ 8)⟩).trans ?_)
  exact Iff.rfl
theorem b96_144 {d : Nat} {G : PG} {M T : PH} {K : PV → PS → Prop} {l0 : Int} : pm_Run d 96 144 [.inr (.inr (.inl l0))] [] (G, M, T) K ↔ pm_Run d 96 151 [.inr (.inr (.inl l0))] [] (G, M, T) K := by
  refine (px_goto (off := 7) (tgt := 151) (by decide +kernel)).trans ?_
  exact Iff.rfl
theorem b96_147 {d : Nat} {G : PG} {M T : PH} {K : PV → PS → Prop} {l0 : Int} (h1 : pm_ob G l0 6) : pm_Run d 96 147 [.inr (.inr (.inl l0))] [] (G, M, T) K ↔ pm_Call d 70 [.inr (.inr (.inl l0))] (G, M, T) (fun r S1 => pm_Run d 96 151 [.inr (.inr (.inl l0))] (pm_push r []) S1 K) := by
  refine (px_go (by decide +kernel : pm_fe 96 147 = some (.aload_n 0, 1)) rfl).trans ?_
  refine (px_v0 (idx := 48) (m' := 70) (ci := 6) (by decide +kernel)).trans ((and_iff_right ⟨h1, (by simp [pm_wl_n, pm_wl_c, pm_w] : pm_wl [] ≤ 8)⟩).trans ?_)
  exact Iff.rfl
theorem b96_151 {d : Nat} {G : PG} {M T : PH} {K : PV → PS → Prop} {l0 : Int} : pm_Run d 96 151 [.inr (.inr (.inl l0))] [] (G, M, T) K ↔ K PU (G, M, T) := by
  refine (px_rv (by decide +kernel)).trans ?_
  exact Iff.rfl
-- X6_ofTwo ofTwo(I)V
theorem en97 {d : Nat} {a p0 : Int} {S : PS} {K : PV → PS → Prop} : pm_Call (d + 1) 97 [.inr (.inr (.inl a)), .inl p0] S K ↔ pm_Run d 97 0 [.inr (.inr (.inl a)), .inl p0] [] S K := pm_Call_s.trans (and_iff_right (show 2 ≤ pm_ml 97 from by decide +kernel))
theorem b97_0 {d : Nat} {G : PG} {M T : PH} {K : PV → PS → Prop} {l0 l1 : Int} (h1 : pm_ob G l0 6) (h2 : pm_ob G (T l0.toNat 0) 4) : pm_Run d 97 0 [.inr (.inr (.inl l0)), .inl l1] [] (G, M, T) K ↔ pm_Call d 51 [.inr (.inr (.inl (T l0.toNat 0)))] (G, M, T) (fun r S1 => pm_Run d 97 7 [.inr (.inr (.inl l0)), .inl l1] (pm_push r []) S1 K) := by
  refine (px_go (by decide +kernel : pm_fe 97 0 = some (.aload_n 0, 1)) rfl).trans ?_
  refine (px_get2 (idx := 12) (ci := 6) (k := 0) (by decide +kernel)).trans ((and_iff_right h1).trans ?_)
  refine (px_v0 (idx := 42) (m' := 51) (ci := 4) (by decide +kernel)).trans ((and_iff_right ⟨h2, (by simp [pm_wl_n, pm_wl_c, pm_w] : pm_wl [] ≤ 8)⟩).trans ?_)
  exact Iff.rfl
theorem b97_7 {d : Nat} {G : PG} {M T : PH} {K : PV → PS → Prop} {l0 l1 : Int} (h1 : pm_ob G l0 6) : pm_Run d 97 7 [.inr (.inr (.inl l0)), .inl l1] [] (G, M, T) K ↔ pm_Call d 72 [.inr (.inr (.inl l0)), .inl 40] (G, M, T) (fun r S1 => pm_Run d 97 13 [.inr (.inr (.inl l0)), .inl l1] (pm_push r []) S1 K) := by
  refine (px_go (by decide +kernel : pm_fe 97 7 = some (.aload_n 0, 1)) rfl).trans ?_
  refine (px_go (by decide +kernel : pm_fe 97 8 = some (.bipush 40, 2)) rfl).trans ?_
  refine (px_v1 (idx := 82) (m' := 72) (ci := 6) (by decide +kernel)).trans ((and_iff_right ⟨h1, (by simp [pm_wl_n, pm_wl_c, pm_w] : pm_wl [] ≤ 8)⟩).trans ?_)
  exact Iff.rfl
theorem b97_13 {d : Nat} {G : PG} {M T : PH} {K : PV → PS → Prop} {l0 l1 s0 : Int} : pm_Run d 97 13 [.inr (.inr (.inl l0)), .inl l1] [.inl s0] (G, M, T) K ↔ if pm_sg s0 ≠ 0 then pm_Run d 97 23 [.inr (.inr (.inl l0)), .inl l1] [] (G, M, T) K else pm_Run d 97 16 [.inr (.inr (.inl l0)), .inl l1] [] (G, M, T) K := by
  refine (px_if_ne (off := 10) (tgt := 23) (by decide +kernel)).trans ?_
  exact Iff.rfl
theorem b97_16 {d : Nat} {G : PG} {M T : PH} {K : PV → PS → Prop} {l0 l1 : Int} (h1 : pm_ob G l0 6) : pm_Run d 97 16 [.inr (.inr (.inl l0)), .inl l1] [] (G, M, T) K ↔ pm_Call d 70 [.inr (.inr (.inl l0))] (G, M, T) (fun r S1 => pm_Run d 97 20 [.inr (.inr (.inl l0)), .inl l1] (pm_push r []) S1 K) := by
  refine (px_go (by decide +kernel : pm_fe 97 16 = some (.aload_n 0, 1)) rfl).trans ?_
  refine (px_v0 (idx := 48) (m' := 70) (ci := 6) (by decide +kernel)).trans ((and_iff_right ⟨h1, (by simp [pm_wl_n, pm_wl_c, pm_w] : pm_wl [] ≤ 8)⟩).trans ?_)
  exact Iff.rfl
theorem b97_20 {d : Nat} {G : PG} {M T : PH} {K : PV → PS → Prop} {l0 l1 : Int} : pm_Run d 97 20 [.inr (.inr (.inl l0)), .inl l1] [] (G, M, T) K ↔ pm_Run d 97 65 [.inr (.inr (.inl l0)), .inl l1] [] (G, M, T) K := by
  refine (px_goto (off := 45) (tgt := 65) (by decide +kernel)).trans ?_
  exact Iff.rfl
theorem b97_23 {d : Nat} {G : PG} {M T : PH} {K : PV → PS → Prop} {l0 l1 : Int} (h1 : pm_ob G l0 6) : pm_Run d 97 23 [.inr (.inr (.inl l0)), .inl l1] [] (G, M, T) K ↔ pm_Call d 90 [.inr (.inr (.inl l0))] (G, M, T) (fun r S1 => pm_Run d 97 27 [.inr (.inr (.inl l0)), .inl l1] (pm_push r []) S1 K) := by
  refine (px_go (by decide +kernel : pm_fe 97 23 = some (.aload_n 0, 1)) rfl).trans ?_
  refine (px_v0 (idx := 239) (m' := 90) (ci := 6) (by decide +kernel)).trans ((and_iff_right ⟨h1, (by simp [pm_wl_n, pm_wl_c, pm_w] : pm_wl [] ≤ 8)⟩).trans ?_)
  exact Iff.rfl
theorem b97_27 {d : Nat} {G : PG} {M T : PH} {K : PV → PS → Prop} {l0 l1 s0 : Int} : pm_Run d 97 27 [.inr (.inr (.inl l0)), .inl l1] [.inl s0] (G, M, T) K ↔ if pm_sg s0 = 0 then pm_Run d 97 65 [.inr (.inr (.inl l0)), .inl l1] [] (G, M, T) K else pm_Run d 97 30 [.inr (.inr (.inl l0)), .inl l1] [] (G, M, T) K := by
  refine (px_if_eq (off := 38) (tgt := 65) (by decide +kernel)).trans ?_
  exact Iff.rfl
theorem b97_30 {d : Nat} {G : PG} {M T : PH} {K : PV → PS → Prop} {l0 l1 : Int} (h1 : pm_ob G l0 6) : pm_Run d 97 30 [.inr (.inr (.inl l0)), .inl l1] [] (G, M, T) K ↔ pm_Call d 94 [.inr (.inr (.inl l0))] (G, M, T) (fun r S1 => pm_Run d 97 34 [.inr (.inr (.inl l0)), .inl l1] (pm_push r []) S1 K) := by
  refine (px_go (by decide +kernel : pm_fe 97 30 = some (.aload_n 0, 1)) rfl).trans ?_
  refine (px_v0 (idx := 139) (m' := 94) (ci := 6) (by decide +kernel)).trans ((and_iff_right ⟨h1, (by simp [pm_wl_n, pm_wl_c, pm_w] : pm_wl [] ≤ 8)⟩).trans ?_)
  exact Iff.rfl
theorem b97_34 {d : Nat} {G : PG} {M T : PH} {K : PV → PS → Prop} {l0 l1 : Int} (h1 : pm_ob G l0 6) : pm_Run d 97 34 [.inr (.inr (.inl l0)), .inl l1] [] (G, M, T) K ↔ pm_Call d 74 [.inr (.inr (.inl l0)), .inl 44] (G, M, T) (fun r S1 => pm_Run d 97 40 [.inr (.inr (.inl l0)), .inl l1] (pm_push r []) S1 K) := by
  refine (px_go (by decide +kernel : pm_fe 97 34 = some (.aload_n 0, 1)) rfl).trans ?_
  refine (px_go (by decide +kernel : pm_fe 97 35 = some (.bipush 44, 2)) rfl).trans ?_
  refine (px_v1 (idx := 62) (m' := 74) (ci := 6) (by decide +kernel)).trans ((and_iff_right ⟨h1, (by simp [pm_wl_n, pm_wl_c, pm_w] : pm_wl [] ≤ 8)⟩).trans ?_)
  exact Iff.rfl
theorem b97_40 {d : Nat} {G : PG} {M T : PH} {K : PV → PS → Prop} {l0 l1 : Int} (h1 : pm_ob G l0 6) : pm_Run d 97 40 [.inr (.inr (.inl l0)), .inl l1] [] (G, M, T) K ↔ pm_Call d 94 [.inr (.inr (.inl l0))] (G, M, T) (fun r S1 => pm_Run d 97 44 [.inr (.inr (.inl l0)), .inl l1] (pm_push r []) S1 K) := by
  refine (px_go (by decide +kernel : pm_fe 97 40 = some (.aload_n 0, 1)) rfl).trans ?_
  refine (px_v0 (idx := 139) (m' := 94) (ci := 6) (by decide +kernel)).trans ((and_iff_right ⟨h1, (by simp [pm_wl_n, pm_wl_c, pm_w] : pm_wl [] ≤ 8)⟩).trans ?_)
  exact Iff.rfl
theorem b97_44 {d : Nat} {G : PG} {M T : PH} {K : PV → PS → Prop} {l0 l1 : Int} (h1 : pm_ob G l0 6) : pm_Run d 97 44 [.inr (.inr (.inl l0)), .inl l1] [] (G, M, T) K ↔ pm_Call d 74 [.inr (.inr (.inl l0)), .inl 41] (G, M, T) (fun r S1 => pm_Run d 97 50 [.inr (.inr (.inl l0)), .inl l1] (pm_push r []) S1 K) := by
  refine (px_go (by decide +kernel : pm_fe 97 44 = some (.aload_n 0, 1)) rfl).trans ?_
  refine (px_go (by decide +kernel : pm_fe 97 45 = some (.bipush 41, 2)) rfl).trans ?_
  refine (px_v1 (idx := 62) (m' := 74) (ci := 6) (by decide +kernel)).trans ((and_iff_right ⟨h1, (by simp [pm_wl_n, pm_wl_c, pm_w] : pm_wl [] ≤ 8)⟩).trans ?_)
  exact Iff.rfl
theorem b97_50 {d : Nat} {G : PG} {M T : PH} {K : PV → PS → Prop} {l0 l1 : Int} (h1 : pm_ob G l0 6) : pm_Run d 97 50 [.inr (.inr (.inl l0)), .inl l1] [] (G, M, T) K ↔ pm_Call d 89 [.inr (.inr (.inl l0)), .inl l1] (G, pm_sa M l0.toNat (pm_up (M l0.toNat) 2 ((M l0.toNat 2) - 1)), T) (fun r S1 => pm_Run d 97 65 [.inr (.inr (.inl l0)), .inl l1] (pm_push r []) S1 K) := by
  refine (px_go (by decide +kernel : pm_fe 97 50 = some (.aload_n 0, 1)) rfl).trans ?_
  refine (px_go (by decide +kernel : pm_fe 97 51 = some (.dup, 1)) rfl).trans ?_
  refine (px_get0 (idx := 35) (ci := 6) (k := 2) (by decide +kernel)).trans ((and_iff_right h1).trans ?_)
  refine (px_go (by decide +kernel : pm_fe 97 55 = some (.iconst 1, 1)) rfl).trans ?_
  refine (px_go (by decide +kernel : pm_fe 97 56 = some (.isub, 1)) rfl).trans ?_
  refine (px_put0 (idx := 35) (ci := 6) (k := 2) (by decide +kernel)).trans ((and_iff_right h1).trans ?_)
  refine (px_go (by decide +kernel : pm_fe 97 60 = some (.aload_n 0, 1)) rfl).trans ?_
  refine (px_go (by decide +kernel : pm_fe 97 61 = some (.iload_n 1, 1)) rfl).trans ?_
  refine (px_v1 (idx := 233) (m' := 89) (ci := 6) (by decide +kernel)).trans ((and_iff_right ⟨h1, (by simp [pm_wl_n, pm_wl_c, pm_w] : pm_wl [] ≤ 8)⟩).trans ?_)
  exact Iff.rfl
theorem b97_65 {d : Nat} {G : PG} {M T : PH} {K : PV → PS → Prop} {l0 l1 : Int} : pm_Run d 97 65 [.inr (.inr (.inl l0)), .inl l1] [] (G, M, T) K ↔ K PU (G, M, T) := by
  refine (px_rv (by decide +kernel)).trans ?_
  exact Iff.rfl
-- X6_isValueWord isValueWord()Z
theorem en98 {d : Nat} {a : Int} {S : PS} {K : PV → PS → Prop} : pm_Call (d + 1) 98 [.inr (.inr (.inl a))] S K ↔ pm_Run d 98 0 [.inr (.inr (.inl a)), PU] [] S K := pm_Call_s.trans (and_iff_right (show 1 ≤ pm_ml 98 from by decide +kernel))
theorem b98_0 {d : Nat} {G : PG} {M T : PH} {K : PV → PS → Prop} {l0 : Int} (h1 : pm_ob G l0 6) (h2 : pm_ob G (T l0.toNat 0) 4) : pm_Run d 98 0 [.inr (.inr (.inl l0)), PU] [] (G, M, T) K ↔ if pm_sg (M (T l0.toNat 0).toNat 4) ≠ pm_sg 1 then pm_Run d 98 52 [.inr (.inr (.inl l0)), .inl (M (T l0.toNat 0).toNat 8)] [] (G, M, T) K else pm_Run d 98 19 [.inr (.inr (.inl l0)), .inl (M (T l0.toNat 0).toNat 8)] [] (G, M, T) K := by
  refine (px_go (by decide +kernel : pm_fe 98 0 = some (.aload_n 0, 1)) rfl).trans ?_
  refine (px_get2 (idx := 12) (ci := 6) (k := 0) (by decide +kernel)).trans ((and_iff_right h1).trans ?_)
  refine (px_get0 (idx := 69) (ci := 4) (k := 8) (by decide +kernel)).trans ((and_iff_right h2).trans ?_)
  refine (px_go (by decide +kernel : pm_fe 98 7 = some (.istore_n 1, 1)) rfl).trans ?_
  refine (px_go (by decide +kernel : pm_fe 98 8 = some (.aload_n 0, 1)) rfl).trans ?_
  refine (px_get2 (idx := 12) (ci := 6) (k := 0) (by decide +kernel)).trans ((and_iff_right h1).trans ?_)
  refine (px_get0 (idx := 45) (ci := 4) (k := 4) (by decide +kernel)).trans ((and_iff_right h2).trans ?_)
  refine (px_go (by decide +kernel : pm_fe 98 15 = some (.iconst 1, 1)) rfl).trans ?_
  refine (px_ic_ne (off := 36) (tgt := 52) (by decide +kernel)).trans ?_
  exact Iff.rfl
theorem b98_19 {d : Nat} {G : PG} {M T : PH} {K : PV → PS → Prop} {l0 l1 : Int} : pm_Run d 98 19 [.inr (.inr (.inl l0)), .inl l1] [] (G, M, T) K ↔ if pm_sg l1 < pm_sg 15 then pm_Run d 98 31 [.inr (.inr (.inl l0)), .inl l1] [] (G, M, T) K else pm_Run d 98 25 [.inr (.inr (.inl l0)), .inl l1] [] (G, M, T) K := by
  refine (px_go (by decide +kernel : pm_fe 98 19 = some (.iload_n 1, 1)) rfl).trans ?_
  refine (px_go (by decide +kernel : pm_fe 98 20 = some (.bipush 15, 2)) rfl).trans ?_
  refine (px_ic_lt (off := 9) (tgt := 31) (by decide +kernel)).trans ?_
  exact Iff.rfl
theorem b98_25 {d : Nat} {G : PG} {M T : PH} {K : PV → PS → Prop} {l0 l1 : Int} : pm_Run d 98 25 [.inr (.inr (.inl l0)), .inl l1] [] (G, M, T) K ↔ if pm_sg l1 ≤ pm_sg 22 then pm_Run d 98 48 [.inr (.inr (.inl l0)), .inl l1] [] (G, M, T) K else pm_Run d 98 31 [.inr (.inr (.inl l0)), .inl l1] [] (G, M, T) K := by
  refine (px_go (by decide +kernel : pm_fe 98 25 = some (.iload_n 1, 1)) rfl).trans ?_
  refine (px_go (by decide +kernel : pm_fe 98 26 = some (.bipush 22, 2)) rfl).trans ?_
  refine (px_ic_le (off := 20) (tgt := 48) (by decide +kernel)).trans ?_
  exact Iff.rfl
theorem b98_31 {d : Nat} {G : PG} {M T : PH} {K : PV → PS → Prop} {l0 l1 : Int} : pm_Run d 98 31 [.inr (.inr (.inl l0)), .inl l1] [] (G, M, T) K ↔ if pm_sg l1 = pm_sg 7 then pm_Run d 98 48 [.inr (.inr (.inl l0)), .inl l1] [] (G, M, T) K else pm_Run d 98 37 [.inr (.inr (.inl l0)), .inl l1] [] (G, M, T) K := by
  refine (px_go (by decide +kernel : pm_fe 98 31 = some (.iload_n 1, 1)) rfl).trans ?_
  refine (px_go (by decide +kernel : pm_fe 98 32 = some (.bipush 7, 2)) rfl).trans ?_
  refine (px_ic_eq (off := 14) (tgt := 48) (by decide +kernel)).trans ?_
  exact Iff.rfl
theorem b98_37 {d : Nat} {G : PG} {M T : PH} {K : PV → PS → Prop} {l0 l1 : Int} : pm_Run d 98 37 [.inr (.inr (.inl l0)), .inl l1] [] (G, M, T) K ↔ if pm_sg l1 = pm_sg 6 then pm_Run d 98 48 [.inr (.inr (.inl l0)), .inl l1] [] (G, M, T) K else pm_Run d 98 43 [.inr (.inr (.inl l0)), .inl l1] [] (G, M, T) K := by
  refine (px_go (by decide +kernel : pm_fe 98 37 = some (.iload_n 1, 1)) rfl).trans ?_
  refine (px_go (by decide +kernel : pm_fe 98 38 = some (.bipush 6, 2)) rfl).trans ?_
  refine (px_ic_eq (off := 8) (tgt := 48) (by decide +kernel)).trans ?_
  exact Iff.rfl
theorem b98_43 {d : Nat} {G : PG} {M T : PH} {K : PV → PS → Prop} {l0 l1 : Int} : pm_Run d 98 43 [.inr (.inr (.inl l0)), .inl l1] [] (G, M, T) K ↔ if pm_sg l1 ≠ pm_sg 4 then pm_Run d 98 52 [.inr (.inr (.inl l0)), .inl l1] [] (G, M, T) K else pm_Run d 98 48 [.inr (.inr (.inl l0)), .inl l1] [] (G, M, T) K := by
  refine (px_go (by decide +kernel : pm_fe 98 43 = some (.iload_n 1, 1)) rfl).trans ?_
  refine (px_go (by decide +kernel : pm_fe 98 44 = some (.iconst 4, 1)) rfl).trans ?_
  refine (px_ic_ne (off := 7) (tgt := 52) (by decide +kernel)).trans ?_
  exact Iff.rfl
theorem b98_48 {d : Nat} {G : PG} {M T : PH} {K : PV → PS → Prop} {l0 l1 : Int} : pm_Run d 98 48 [.inr (.inr (.inl l0)), .inl l1] [] (G, M, T) K ↔ pm_Run d 98 53 [.inr (.inr (.inl l0)), .inl l1] [.inl 1] (G, M, T) K := by
  refine (px_go (by decide +kernel : pm_fe 98 48 = some (.iconst 1, 1)) rfl).trans ?_
  refine (px_goto (off := 4) (tgt := 53) (by decide +kernel)).trans ?_
  exact Iff.rfl
theorem b98_52 {d : Nat} {G : PG} {M T : PH} {K : PV → PS → Prop} {l0 l1 : Int} : pm_Run d 98 52 [.inr (.inr (.inl l0)), .inl l1] [] (G, M, T) K ↔ pm_Run d 98 53 [.inr (.inr (.inl l0)), .inl l1] [.inl 0] (G, M, T) K := by
  refine (px_go (by decide +kernel : pm_fe 98 52 = some (.iconst 0, 1)) rfl).trans ?_
  exact Iff.rfl
theorem b98_53 {d : Nat} {G : PG} {M T : PH} {K : PV → PS → Prop} {l0 l1 s0 : Int} (h1 : s0 = 0 ∨ s0 = 1) : pm_Run d 98 53 [.inr (.inr (.inl l0)), .inl l1] [.inl s0] (G, M, T) K ↔ K (.inl s0) (G, M, T) := by
  refine (px_rz (by decide +kernel)).trans ((and_iff_right h1).trans ?_)
  exact Iff.rfl
