-- X11_init <init>()V
theorem en131 {d : Nat} {a : Int} {S : PS} {K : PV → PS → Prop} : pm_Call (d + 1) 131 [.inr (.inr (.inl a))] S K ↔ pm_Run d 131 0 [.inr (.inr (.inl a))] [] S K := pm_Call_s.trans (and_iff_right (show 1 ≤ pm_ml 131 from by decide +kernel))
theorem b131_141 {d : Nat} {G : PG} {M T : PH} {K : PV → PS → Prop} {l0 s0 s1 : Int} (h1 : pm_ob G s1 11) (h2 : 0 ≤ s0) (h3 : pm_ob G l0 11) : pm_Run d 131 141 [.inr (.inr (.inl l0))] [.inr (.inr (.inl s0)), .inr (.inr (.inl s1))] (G, M, T) K ↔ K PU (G, pm_sa M l0.toNat (pm_up (M l0.toNat) 12 1), pm_sa T s1.toNat (pm_up (T s1.toNat) 10 s0)) := by
  refine (px_put2 (idx := 78) (ci := 11) (k := 10) (by decide +kernel)).trans ((and_iff_right ⟨h1, h2⟩).trans ?_)
  refine (px_go (by decide +kernel : pm_fe 131 144 = some (.aload_n 0, 1)) rfl).trans ?_
  refine (px_go (by decide +kernel : pm_fe 131 145 = some (.iconst 1, 1)) rfl).trans ?_
  refine (px_put0 (idx := 82) (ci := 11) (k := 12) (by decide +kernel)).trans ((and_iff_right h3).trans ?_)
  refine (px_rv (by decide +kernel)).trans ?_
  exact Iff.rfl
-- X11_feed feed(IIIII)I
theorem en132 {d : Nat} {a p0 p1 p2 p3 p4 : Int} {S : PS} {K : PV → PS → Prop} : pm_Call (d + 1) 132 [.inr (.inr (.inl a)), .inl p0, .inl p1, .inl p2, .inl p3, .inl p4] S K ↔ pm_Run d 132 0 [.inr (.inr (.inl a)), .inl p0, .inl p1, .inl p2, .inl p3, .inl p4] [] S K := pm_Call_s.trans (and_iff_right (show 6 ≤ pm_ml 132 from by decide +kernel))
theorem b132_0 {d : Nat} {G : PG} {M T : PH} {K : PV → PS → Prop} {l0 l1 l2 l3 l4 l5 : Int} (h1 : pm_ob G l0 11) : pm_Run d 132 0 [.inr (.inr (.inl l0)), .inl l1, .inl l2, .inl l3, .inl l4, .inl l5] [] (G, M, T) K ↔ if pm_sg ((M l0.toNat 11) + 20) ≤ pm_sg 1600 then pm_Run d 132 19 [.inr (.inr (.inl l0)), .inl l1, .inl l2, .inl l3, .inl l4, .inl l5] [] (G, M, T) K else pm_Run d 132 13 [.inr (.inr (.inl l0)), .inl l1, .inl l2, .inl l3, .inl l4, .inl l5] [] (G, M, T) K := by
  refine (px_go (by decide +kernel : pm_fe 132 0 = some (.aload_n 0, 1)) rfl).trans ?_
  refine (px_get0 (idx := 86) (ci := 11) (k := 11) (by decide +kernel)).trans ((and_iff_right h1).trans ?_)
  refine (px_go (by decide +kernel : pm_fe 132 4 = some (.bipush 20, 2)) rfl).trans ?_
  refine (px_go (by decide +kernel : pm_fe 132 6 = some (.iadd, 1)) rfl).trans ?_
  refine (px_go (by decide +kernel : pm_fe 132 7 = some (.sipush 1600, 3)) rfl).trans ?_
  refine (px_ic_le (off := 9) (tgt := 19) (by decide +kernel)).trans ?_
  exact Iff.rfl
theorem b132_13 {d : Nat} {G : PG} {M T : PH} {K : PV → PS → Prop} {l0 l1 l2 l3 l4 l5 : Int} (h1 : pm_ob G l0 11) : pm_Run d 132 13 [.inr (.inr (.inl l0)), .inl l1, .inl l2, .inl l3, .inl l4, .inl l5] [] (G, M, T) K ↔ pm_Call d 164 [.inr (.inr (.inl l0)), .inl 0] (G, M, T) (fun r S1 => pm_Run d 132 18 [.inr (.inr (.inl l0)), .inl l1, .inl l2, .inl l3, .inl l4, .inl l5] (pm_push r []) S1 K) := by
  refine (px_go (by decide +kernel : pm_fe 132 13 = some (.aload_n 0, 1)) rfl).trans ?_
  refine (px_go (by decide +kernel : pm_fe 132 14 = some (.iconst 0, 1)) rfl).trans ?_
  refine (px_v1 (idx := 89) (m' := 164) (ci := 11) (by decide +kernel)).trans ((and_iff_right ⟨h1, (by simp [pm_wl_n, pm_wl_c, pm_w] : pm_wl [] ≤ 8)⟩).trans ?_)
  exact Iff.rfl
theorem b132_18 {d : Nat} {G : PG} {M T : PH} {K : PV → PS → Prop} {l0 l1 l2 l3 l4 l5 s0 : Int} : pm_Run d 132 18 [.inr (.inr (.inl l0)), .inl l1, .inl l2, .inl l3, .inl l4, .inl l5] [.inl s0] (G, M, T) K ↔ K (.inl s0) (G, M, T) := by
  refine (px_ri (by decide +kernel)).trans ?_
  exact Iff.rfl
theorem b132_19 {d : Nat} {G : PG} {M T : PH} {K : PV → PS → Prop} {l0 l1 l2 l3 l4 l5 : Int} (h1 : pm_ob G l0 11) : pm_Run d 132 19 [.inr (.inr (.inl l0)), .inl l1, .inl l2, .inl l3, .inl l4, .inl l5] [] (G, M, T) K ↔ pm_Call d 165 [.inr (.inr (.inl l0)), .inl l1] (G, M, T) (fun r S1 => pm_Run d 132 24 [.inr (.inr (.inl l0)), .inl l1, .inl l2, .inl l3, .inl l4, .inl l5] (pm_push r []) S1 K) := by
  refine (px_go (by decide +kernel : pm_fe 132 19 = some (.aload_n 0, 1)) rfl).trans ?_
  refine (px_go (by decide +kernel : pm_fe 132 20 = some (.iload_n 1, 1)) rfl).trans ?_
  refine (px_v1 (idx := 93) (m' := 165) (ci := 11) (by decide +kernel)).trans ((and_iff_right ⟨h1, (by simp [pm_wl_n, pm_wl_c, pm_w] : pm_wl [] ≤ 8)⟩).trans ?_)
  exact Iff.rfl
theorem b132_24 {d : Nat} {G : PG} {M T : PH} {K : PV → PS → Prop} {l0 l1 l2 l3 l4 l5 : Int} (h1 : pm_ob G l0 11) : pm_Run d 132 24 [.inr (.inr (.inl l0)), .inl l1, .inl l2, .inl l3, .inl l4, .inl l5] [] (G, M, T) K ↔ pm_Call d 165 [.inr (.inr (.inl l0)), .inl l2] (G, M, T) (fun r S1 => pm_Run d 132 29 [.inr (.inr (.inl l0)), .inl l1, .inl l2, .inl l3, .inl l4, .inl l5] (pm_push r []) S1 K) := by
  refine (px_go (by decide +kernel : pm_fe 132 24 = some (.aload_n 0, 1)) rfl).trans ?_
  refine (px_go (by decide +kernel : pm_fe 132 25 = some (.iload_n 2, 1)) rfl).trans ?_
  refine (px_v1 (idx := 93) (m' := 165) (ci := 11) (by decide +kernel)).trans ((and_iff_right ⟨h1, (by simp [pm_wl_n, pm_wl_c, pm_w] : pm_wl [] ≤ 8)⟩).trans ?_)
  exact Iff.rfl
theorem b132_29 {d : Nat} {G : PG} {M T : PH} {K : PV → PS → Prop} {l0 l1 l2 l3 l4 l5 : Int} (h1 : pm_ob G l0 11) : pm_Run d 132 29 [.inr (.inr (.inl l0)), .inl l1, .inl l2, .inl l3, .inl l4, .inl l5] [] (G, M, T) K ↔ pm_Call d 165 [.inr (.inr (.inl l0)), .inl l3] (G, M, T) (fun r S1 => pm_Run d 132 34 [.inr (.inr (.inl l0)), .inl l1, .inl l2, .inl l3, .inl l4, .inl l5] (pm_push r []) S1 K) := by
  refine (px_go (by decide +kernel : pm_fe 132 29 = some (.aload_n 0, 1)) rfl).trans ?_
  refine (px_go (by decide +kernel : pm_fe 132 30 = some (.iload_n 3, 1)) rfl).trans ?_
  refine (px_v1 (idx := 93) (m' := 165) (ci := 11) (by decide +kernel)).trans ((and_iff_right ⟨h1, (by simp [pm_wl_n, pm_wl_c, pm_w] : pm_wl [] ≤ 8)⟩).trans ?_)
  exact Iff.rfl
theorem b132_34 {d : Nat} {G : PG} {M T : PH} {K : PV → PS → Prop} {l0 l1 l2 l3 l4 l5 : Int} (h1 : pm_ob G l0 11) : pm_Run d 132 34 [.inr (.inr (.inl l0)), .inl l1, .inl l2, .inl l3, .inl l4, .inl l5] [] (G, M, T) K ↔ pm_Call d 165 [.inr (.inr (.inl l0)), .inl l4] (G, M, T) (fun r S1 => pm_Run d 132 40 [.inr (.inr (.inl l0)), .inl l1, .inl l2, .inl l3, .inl l4, .inl l5] (pm_push r []) S1 K) := by
  refine (px_go (by decide +kernel : pm_fe 132 34 = some (.aload_n 0, 1)) rfl).trans ?_
  refine (px_go (by decide +kernel : pm_fe 132 35 = some (.iload 4, 2)) rfl).trans ?_
  refine (px_v1 (idx := 93) (m' := 165) (ci := 11) (by decide +kernel)).trans ((and_iff_right ⟨h1, (by simp [pm_wl_n, pm_wl_c, pm_w] : pm_wl [] ≤ 8)⟩).trans ?_)
  exact Iff.rfl
theorem b132_40 {d : Nat} {G : PG} {M T : PH} {K : PV → PS → Prop} {l0 l1 l2 l3 l4 l5 : Int} (h1 : pm_ob G l0 11) : pm_Run d 132 40 [.inr (.inr (.inl l0)), .inl l1, .inl l2, .inl l3, .inl l4, .inl l5] [] (G, M, T) K ↔ pm_Call d 165 [.inr (.inr (.inl l0)), .inl l5] (G, M, T) (fun r S1 => pm_Run d 132 46 [.inr (.inr (.inl l0)), .inl l1, .inl l2, .inl l3, .inl l4, .inl l5] (pm_push r []) S1 K) := by
  refine (px_go (by decide +kernel : pm_fe 132 40 = some (.aload_n 0, 1)) rfl).trans ?_
  refine (px_go (by decide +kernel : pm_fe 132 41 = some (.iload 5, 2)) rfl).trans ?_
  refine (px_v1 (idx := 93) (m' := 165) (ci := 11) (by decide +kernel)).trans ((and_iff_right ⟨h1, (by simp [pm_wl_n, pm_wl_c, pm_w] : pm_wl [] ≤ 8)⟩).trans ?_)
  exact Iff.rfl
theorem b132_46 {d : Nat} {G : PG} {M T : PH} {K : PV → PS → Prop} {l0 l1 l2 l3 l4 l5 : Int} (h1 : pm_ob G l0 11) : pm_Run d 132 46 [.inr (.inr (.inl l0)), .inl l1, .inl l2, .inl l3, .inl l4, .inl l5] [] (G, M, T) K ↔ K (.inl (M l0.toNat 11)) (G, M, T) := by
  refine (px_go (by decide +kernel : pm_fe 132 46 = some (.aload_n 0, 1)) rfl).trans ?_
  refine (px_get0 (idx := 86) (ci := 11) (k := 11) (by decide +kernel)).trans ((and_iff_right h1).trans ?_)
  refine (px_ri (by decide +kernel)).trans ?_
  exact Iff.rfl
-- X11_end end(I)Z
theorem en133 {d : Nat} {a p0 : Int} {S : PS} {K : PV → PS → Prop} : pm_Call (d + 1) 133 [.inr (.inr (.inl a)), .inl p0] S K ↔ pm_Run d 133 0 [.inr (.inr (.inl a)), .inl p0] [] S K := pm_Call_s.trans (and_iff_right (show 2 ≤ pm_ml 133 from by decide +kernel))
theorem b133_0 {d : Nat} {G : PG} {M T : PH} {K : PV → PS → Prop} {l0 l1 : Int} : pm_Run d 133 0 [.inr (.inr (.inl l0)), .inl l1] [] (G, M, T) K ↔ if pm_sg l1 < 0 then pm_Run d 133 12 [.inr (.inr (.inl l0)), .inl l1] [] (G, M, T) K else pm_Run d 133 4 [.inr (.inr (.inl l0)), .inl l1] [] (G, M, T) K := by
  refine (px_go (by decide +kernel : pm_fe 133 0 = some (.iload_n 1, 1)) rfl).trans ?_
  refine (px_if_lt (off := 11) (tgt := 12) (by decide +kernel)).trans ?_
  exact Iff.rfl
theorem b133_4 {d : Nat} {G : PG} {M T : PH} {K : PV → PS → Prop} {l0 l1 : Int} (h1 : pm_ob G l0 11) : pm_Run d 133 4 [.inr (.inr (.inl l0)), .inl l1] [] (G, M, T) K ↔ if pm_sg l1 ≤ pm_sg (M l0.toNat 11) then pm_Run d 133 27 [.inr (.inr (.inl l0)), .inl l1] [] (G, M, T) K else pm_Run d 133 12 [.inr (.inr (.inl l0)), .inl l1] [] (G, M, T) K := by
  refine (px_go (by decide +kernel : pm_fe 133 4 = some (.iload_n 1, 1)) rfl).trans ?_
  refine (px_go (by decide +kernel : pm_fe 133 5 = some (.aload_n 0, 1)) rfl).trans ?_
  refine (px_get0 (idx := 86) (ci := 11) (k := 11) (by decide +kernel)).trans ((and_iff_right h1).trans ?_)
  refine (px_ic_le (off := 18) (tgt := 27) (by decide +kernel)).trans ?_
  exact Iff.rfl
theorem b133_12 {d : Nat} {G : PG} {M T : PH} {K : PV → PS → Prop} {l0 l1 : Int} (h1 : pm_ob G l0 11) : pm_Run d 133 12 [.inr (.inr (.inl l0)), .inl l1] [] (G, M, T) K ↔ pm_Call d 164 [.inr (.inr (.inl l0)), .inl 0] (G, M, T) (fun r S1 => pm_Run d 133 17 [.inr (.inr (.inl l0)), .inl l1] (pm_push r []) S1 K) := by
  refine (px_go (by decide +kernel : pm_fe 133 12 = some (.aload_n 0, 1)) rfl).trans ?_
  refine (px_go (by decide +kernel : pm_fe 133 13 = some (.iconst 0, 1)) rfl).trans ?_
  refine (px_v1 (idx := 89) (m' := 164) (ci := 11) (by decide +kernel)).trans ((and_iff_right ⟨h1, (by simp [pm_wl_n, pm_wl_c, pm_w] : pm_wl [] ≤ 8)⟩).trans ?_)
  exact Iff.rfl
theorem b133_17 {d : Nat} {G : PG} {M T : PH} {K : PV → PS → Prop} {l0 l1 s0 : Int} : pm_Run d 133 17 [.inr (.inr (.inl l0)), .inl l1] [.inl s0] (G, M, T) K ↔ if pm_sg s0 = pm_sg (-1) then pm_Run d 133 25 [.inr (.inr (.inl l0)), .inl l1] [] (G, M, T) K else pm_Run d 133 21 [.inr (.inr (.inl l0)), .inl l1] [] (G, M, T) K := by
  refine (px_go (by decide +kernel : pm_fe 133 17 = some (.iconst (-1), 1)) rfl).trans ?_
  refine (px_ic_eq (off := 7) (tgt := 25) (by decide +kernel)).trans ?_
  exact Iff.rfl
theorem b133_21 {d : Nat} {G : PG} {M T : PH} {K : PV → PS → Prop} {l0 l1 : Int} : pm_Run d 133 21 [.inr (.inr (.inl l0)), .inl l1] [] (G, M, T) K ↔ pm_Run d 133 26 [.inr (.inr (.inl l0)), .inl l1] [.inl 1] (G, M, T) K := by
  refine (px_go (by decide +kernel : pm_fe 133 21 = some (.iconst 1, 1)) rfl).trans ?_
  refine (px_goto (off := 4) (tgt := 26) (by decide +kernel)).trans ?_
  exact Iff.rfl
theorem b133_25 {d : Nat} {G : PG} {M T : PH} {K : PV → PS → Prop} {l0 l1 : Int} : pm_Run d 133 25 [.inr (.inr (.inl l0)), .inl l1] [] (G, M, T) K ↔ pm_Run d 133 26 [.inr (.inr (.inl l0)), .inl l1] [.inl 0] (G, M, T) K := by
  refine (px_go (by decide +kernel : pm_fe 133 25 = some (.iconst 0, 1)) rfl).trans ?_
  exact Iff.rfl
theorem b133_26 {d : Nat} {G : PG} {M T : PH} {K : PV → PS → Prop} {l0 l1 s0 : Int} (h1 : s0 = 0 ∨ s0 = 1) : pm_Run d 133 26 [.inr (.inr (.inl l0)), .inl l1] [.inl s0] (G, M, T) K ↔ K (.inl s0) (G, M, T) := by
  refine (px_rz (by decide +kernel)).trans ((and_iff_right h1).trans ?_)
  exact Iff.rfl
theorem b133_27 {d : Nat} {G : PG} {M T : PH} {K : PV → PS → Prop} {l0 l1 : Int} (h1 : pm_ob G l0 11) : pm_Run d 133 27 [.inr (.inr (.inl l0)), .inl l1] [] (G, M, T) K ↔ K (.inl 1) (G, pm_sa M l0.toNat (pm_up (M l0.toNat) 11 l1), T) := by
  refine (px_go (by decide +kernel : pm_fe 133 27 = some (.aload_n 0, 1)) rfl).trans ?_
  refine (px_go (by decide +kernel : pm_fe 133 28 = some (.iload_n 1, 1)) rfl).trans ?_
  refine (px_put0 (idx := 86) (ci := 11) (k := 11) (by decide +kernel)).trans ((and_iff_right h1).trans ?_)
  refine (px_go (by decide +kernel : pm_fe 133 32 = some (.iconst 1, 1)) rfl).trans ?_
  refine (px_rz (by decide +kernel)).trans ((and_iff_right (by decide : (1 : Int) = (0 : Int) ∨ (1 : Int) = (1 : Int))).trans ?_)
  exact Iff.rfl
-- X11_sea sea()I
theorem en134 {d : Nat} {a : Int} {S : PS} {K : PV → PS → Prop} : pm_Call (d + 1) 134 [.inr (.inr (.inl a))] S K ↔ pm_Run d 134 0 [.inr (.inr (.inl a)), PU] [] S K := pm_Call_s.trans (and_iff_right (show 1 ≤ pm_ml 134 from by decide +kernel))
theorem b134_0 {d : Nat} {G : PG} {M T : PH} {K : PV → PS → Prop} {l0 : Int} (h1 : pm_ob G l0 11) : pm_Run d 134 0 [.inr (.inr (.inl l0)), PU] [] (G, M, T) K ↔ pm_Call d 166 [.inr (.inr (.inl l0))] (G, M, T) (fun r S1 => pm_Run d 134 4 [.inr (.inr (.inl l0)), PU] (pm_push r []) S1 K) := by
  refine (px_go (by decide +kernel : pm_fe 134 0 = some (.aload_n 0, 1)) rfl).trans ?_
  refine (px_v0 (idx := 97) (m' := 166) (ci := 11) (by decide +kernel)).trans ((and_iff_right ⟨h1, (by simp [pm_wl_n, pm_wl_c, pm_w] : pm_wl [] ≤ 8)⟩).trans ?_)
  exact Iff.rfl
theorem b134_4 {d : Nat} {G : PG} {M T : PH} {K : PV → PS → Prop} {l0 s0 : Int} (h1 : pm_ob G l0 11) (h2 : pm_ob G (T l0.toNat 4) 6) : pm_Run d 134 4 [.inr (.inr (.inl l0)), PU] [.inl s0] (G, M, T) K ↔ pm_Call d 67 [.inr (.inr (.inl (T l0.toNat 4))), .inr (.inr (.inl (T l0.toNat 0))), .inl s0] (G, M, T) (fun r S1 => pm_Run d 134 17 [.inr (.inr (.inl l0)), .inl s0] (pm_push r []) S1 K) := by
  refine (px_go (by decide +kernel : pm_fe 134 4 = some (.istore_n 1, 1)) rfl).trans ?_
  refine (px_go (by decide +kernel : pm_fe 134 5 = some (.aload_n 0, 1)) rfl).trans ?_
  refine (px_get2 (idx := 34) (ci := 11) (k := 4) (by decide +kernel)).trans ((and_iff_right h1).trans ?_)
  refine (px_go (by decide +kernel : pm_fe 134 9 = some (.aload_n 0, 1)) rfl).trans ?_
  refine (px_get2 (idx := 9) (ci := 11) (k := 0) (by decide +kernel)).trans ((and_iff_right h1).trans ?_)
  refine (px_go (by decide +kernel : pm_fe 134 13 = some (.iload_n 1, 1)) rfl).trans ?_
  refine (px_v2 (idx := 101) (m' := 67) (ci := 6) (by decide +kernel)).trans ((and_iff_right ⟨h2, (by simp [pm_wl_n, pm_wl_c, pm_w] : pm_wl [] ≤ 8)⟩).trans ?_)
  exact Iff.rfl
theorem b134_17 {d : Nat} {G : PG} {M T : PH} {K : PV → PS → Prop} {l0 l1 s0 : Int} : pm_Run d 134 17 [.inr (.inr (.inl l0)), .inl l1] [.inl s0] (G, M, T) K ↔ if pm_sg s0 ≠ 0 then pm_Run d 134 26 [.inr (.inr (.inl l0)), .inl l1] [] (G, M, T) K else pm_Run d 134 20 [.inr (.inr (.inl l0)), .inl l1] [] (G, M, T) K := by
  refine (px_if_ne (off := 9) (tgt := 26) (by decide +kernel)).trans ?_
  exact Iff.rfl
theorem b134_20 {d : Nat} {G : PG} {M T : PH} {K : PV → PS → Prop} {l0 l1 : Int} (h1 : pm_ob G l0 11) : pm_Run d 134 20 [.inr (.inr (.inl l0)), .inl l1] [] (G, M, T) K ↔ pm_Call d 164 [.inr (.inr (.inl l0)), .inl 1] (G, M, T) (fun r S1 => pm_Run d 134 25 [.inr (.inr (.inl l0)), .inl l1] (pm_push r []) S1 K) := by
  refine (px_go (by decide +kernel : pm_fe 134 20 = some (.aload_n 0, 1)) rfl).trans ?_
  refine (px_go (by decide +kernel : pm_fe 134 21 = some (.iconst 1, 1)) rfl).trans ?_
  refine (px_v1 (idx := 89) (m' := 164) (ci := 11) (by decide +kernel)).trans ((and_iff_right ⟨h1, (by simp [pm_wl_n, pm_wl_c, pm_w] : pm_wl [] ≤ 8)⟩).trans ?_)
  exact Iff.rfl
theorem b134_25 {d : Nat} {G : PG} {M T : PH} {K : PV → PS → Prop} {l0 l1 s0 : Int} : pm_Run d 134 25 [.inr (.inr (.inl l0)), .inl l1] [.inl s0] (G, M, T) K ↔ K (.inl s0) (G, M, T) := by
  refine (px_ri (by decide +kernel)).trans ?_
  exact Iff.rfl
theorem b134_26 {d : Nat} {G : PG} {M T : PH} {K : PV → PS → Prop} {l0 l1 : Int} (h1 : pm_ob G l0 11) (h2 : pm_ob G (T l0.toNat 4) 6) : pm_Run d 134 26 [.inr (.inr (.inl l0)), .inl l1] [] (G, M, T) K ↔ pm_Call d 68 [.inr (.inr (.inl (T l0.toNat 4))), .inr (.inr (.inl (T l0.toNat 3)))] (G, M, T) (fun r S1 => pm_Run d 134 38 [.inr (.inr (.inl l0)), .inl l1] (pm_push r [.inr (.inr (.inl l0))]) S1 K) := by
  refine (px_go (by decide +kernel : pm_fe 134 26 = some (.aload_n 0, 1)) rfl).trans ?_
  refine (px_go (by decide +kernel : pm_fe 134 27 = some (.aload_n 0, 1)) rfl).trans ?_
  refine (px_get2 (idx := 34) (ci := 11) (k := 4) (by decide +kernel)).trans ((and_iff_right h1).trans ?_)
  refine (px_go (by decide +kernel : pm_fe 134 31 = some (.aload_n 0, 1)) rfl).trans ?_
  refine (px_get2 (idx := 27) (ci := 11) (k := 3) (by decide +kernel)).trans ((and_iff_right h1).trans ?_)
  refine (px_v1 (idx := 105) (m' := 68) (ci := 6) (by decide +kernel)).trans ((and_iff_right ⟨h2, (by simp [pm_wl_n, pm_wl_c, pm_w] : pm_wl [.inr (.inr (.inl l0))] ≤ 8)⟩).trans ?_)
  exact Iff.rfl
theorem b134_38 {d : Nat} {G : PG} {M T : PH} {K : PV → PS → Prop} {l0 l1 s0 s1 : Int} (h1 : pm_ob G s1 11) (h2 : 0 ≤ s0) (h3 : pm_ob G l0 11) (h4 : pm_ob G ((pm_sa T s1.toNat (pm_up (T s1.toNat) 3 s0)) l0.toNat 3) 1) (h5 : pm_ob G ((pm_sa T s1.toNat (pm_up (T s1.toNat) 3 s0)) l0.toNat 2) 5) : pm_Run d 134 38 [.inr (.inr (.inl l0)), .inl l1] [.inr (.inr (.inl s0)), .inr (.inr (.inl s1))] (G, M, T) K ↔ pm_Call d 56 [.inr (.inr (.inl ((pm_sa T s1.toNat (pm_up (T s1.toNat) 3 s0)) l0.toNat 2))), .inr (.inr (.inl ((pm_sa T s1.toNat (pm_up (T s1.toNat) 3 s0)) ((pm_sa T s1.toNat (pm_up (T s1.toNat) 3 s0)) l0.toNat 3).toNat 16)))] (G, M, pm_sa T s1.toNat (pm_up (T s1.toNat) 3 s0)) (fun r S1 => pm_Run d 134 55 [.inr (.inr (.inl l0)), .inl l1] (pm_push r []) S1 K) := by
  refine (px_put2 (idx := 27) (ci := 11) (k := 3) (by decide +kernel)).trans ((and_iff_right ⟨h1, h2⟩).trans ?_)
  refine (px_go (by decide +kernel : pm_fe 134 41 = some (.aload_n 0, 1)) rfl).trans ?_
  refine (px_get2 (idx := 20) (ci := 11) (k := 2) (by decide +kernel)).trans ((and_iff_right h3).trans ?_)
  refine (px_go (by decide +kernel : pm_fe 134 45 = some (.aload_n 0, 1)) rfl).trans ?_
  refine (px_get2 (idx := 27) (ci := 11) (k := 3) (by decide +kernel)).trans ((and_iff_right h3).trans ?_)
  refine (px_get2 (idx := 109) (ci := 1) (k := 16) (by decide +kernel)).trans ((and_iff_right h4).trans ?_)
  refine (px_v1 (idx := 112) (m' := 56) (ci := 5) (by decide +kernel)).trans ((and_iff_right ⟨h5, (by simp [pm_wl_n, pm_wl_c, pm_w] : pm_wl [] ≤ 8)⟩).trans ?_)
  exact Iff.rfl
theorem b134_55 {d : Nat} {G : PG} {M T : PH} {K : PV → PS → Prop} {l0 l1 : Int} (h1 : pm_ob G l0 11) (h2 : pm_ob G (T l0.toNat 9) 7) : pm_Run d 134 55 [.inr (.inr (.inl l0)), .inl l1] [] (G, M, T) K ↔ pm_Call d 100 [.inr (.inr (.inl (T l0.toNat 9)))] (G, M, T) (fun r S1 => pm_Run d 134 62 [.inr (.inr (.inl l0)), .inl l1] (pm_push r []) S1 K) := by
  refine (px_go (by decide +kernel : pm_fe 134 55 = some (.aload_n 0, 1)) rfl).trans ?_
  refine (px_get2 (idx := 71) (ci := 11) (k := 9) (by decide +kernel)).trans ((and_iff_right h1).trans ?_)
  refine (px_v0 (idx := 116) (m' := 100) (ci := 7) (by decide +kernel)).trans ((and_iff_right ⟨h2, (by simp [pm_wl_n, pm_wl_c, pm_w] : pm_wl [] ≤ 8)⟩).trans ?_)
  exact Iff.rfl
theorem b134_62 {d : Nat} {G : PG} {M T : PH} {K : PV → PS → Prop} {l0 l1 : Int} (h1 : pm_ob G l0 11) (h2 : pm_ob G (T l0.toNat 8) 10) : pm_Run d 134 62 [.inr (.inr (.inl l0)), .inl l1] [] (G, M, T) K ↔ pm_Call d 127 [.inr (.inr (.inl (T l0.toNat 8)))] (G, M, T) (fun r S1 => pm_Run d 134 69 [.inr (.inr (.inl l0)), .inl l1] (pm_push r []) S1 K) := by
  refine (px_go (by decide +kernel : pm_fe 134 62 = some (.aload_n 0, 1)) rfl).trans ?_
  refine (px_get2 (idx := 64) (ci := 11) (k := 8) (by decide +kernel)).trans ((and_iff_right h1).trans ?_)
  refine (px_v0 (idx := 119) (m' := 127) (ci := 10) (by decide +kernel)).trans ((and_iff_right ⟨h2, (by simp [pm_wl_n, pm_wl_c, pm_w] : pm_wl [] ≤ 8)⟩).trans ?_)
  exact Iff.rfl
theorem b134_69 {d : Nat} {G : PG} {M T : PH} {K : PV → PS → Prop} {l0 l1 : Int} (h1 : pm_ob G l0 11) : pm_Run d 134 69 [.inr (.inr (.inl l0)), .inl l1] [] (G, M, T) K ↔ pm_Call d 167 [.inr (.inr (.inl l0))] (G, M, T) (fun r S1 => pm_Run d 134 73 [.inr (.inr (.inl l0)), .inl l1] (pm_push r []) S1 K) := by
  refine (px_go (by decide +kernel : pm_fe 134 69 = some (.aload_n 0, 1)) rfl).trans ?_
  refine (px_v0 (idx := 120) (m' := 167) (ci := 11) (by decide +kernel)).trans ((and_iff_right ⟨h1, (by simp [pm_wl_n, pm_wl_c, pm_w] : pm_wl [] ≤ 8)⟩).trans ?_)
  exact Iff.rfl
theorem b134_73 {d : Nat} {G : PG} {M T : PH} {K : PV → PS → Prop} {l0 l1 : Int} (h1 : pm_ob G l0 11) (h2 : pm_ob G (T l0.toNat 3) 1) : pm_Run d 134 73 [.inr (.inr (.inl l0)), .inl l1] [] (G, M, T) K ↔ K (.inl (M (T l0.toNat 3).toNat 7)) (G, M, T) := by
  refine (px_go (by decide +kernel : pm_fe 134 73 = some (.aload_n 0, 1)) rfl).trans ?_
  refine (px_get2 (idx := 27) (ci := 11) (k := 3) (by decide +kernel)).trans ((and_iff_right h1).trans ?_)
  refine (px_get0 (idx := 123) (ci := 1) (k := 7) (by decide +kernel)).trans ((and_iff_right h2).trans ?_)
  refine (px_ri (by decide +kernel)).trans ?_
  exact Iff.rfl
-- X11_fault fault(I)I
theorem en135 {d : Nat} {a p0 : Int} {S : PS} {K : PV → PS → Prop} : pm_Call (d + 1) 135 [.inr (.inr (.inl a)), .inl p0] S K ↔ pm_Run d 135 0 [.inr (.inr (.inl a)), .inl p0] [] S K := pm_Call_s.trans (and_iff_right (show 2 ≤ pm_ml 135 from by decide +kernel))
theorem b135_0 {d : Nat} {G : PG} {M T : PH} {K : PV → PS → Prop} {l0 l1 : Int} : pm_Run d 135 0 [.inr (.inr (.inl l0)), .inl l1] [] (G, M, T) K ↔ if pm_sg l1 ≠ 0 then pm_Run d 135 12 [.inr (.inr (.inl l0)), .inl l1] [] (G, M, T) K else pm_Run d 135 4 [.inr (.inr (.inl l0)), .inl l1] [] (G, M, T) K := by
  refine (px_go (by decide +kernel : pm_fe 135 0 = some (.iload_n 1, 1)) rfl).trans ?_
  refine (px_if_ne (off := 11) (tgt := 12) (by decide +kernel)).trans ?_
  exact Iff.rfl
theorem b135_4 {d : Nat} {G : PG} {M T : PH} {K : PV → PS → Prop} {l0 l1 : Int} (h1 : pm_ob G l0 11) (h2 : pm_ob G (T l0.toNat 4) 6) : pm_Run d 135 4 [.inr (.inr (.inl l0)), .inl l1] [] (G, M, T) K ↔ K (.inl (M (T l0.toNat 4).toNat 3)) (G, M, T) := by
  refine (px_go (by decide +kernel : pm_fe 135 4 = some (.aload_n 0, 1)) rfl).trans ?_
  refine (px_get2 (idx := 34) (ci := 11) (k := 4) (by decide +kernel)).trans ((and_iff_right h1).trans ?_)
  refine (px_get0 (idx := 126) (ci := 6) (k := 3) (by decide +kernel)).trans ((and_iff_right h2).trans ?_)
  refine (px_ri (by decide +kernel)).trans ?_
  exact Iff.rfl
theorem b135_12 {d : Nat} {G : PG} {M T : PH} {K : PV → PS → Prop} {l0 l1 : Int} : pm_Run d 135 12 [.inr (.inr (.inl l0)), .inl l1] [] (G, M, T) K ↔ if pm_sg l1 ≠ pm_sg 1 then pm_Run d 135 27 [.inr (.inr (.inl l0)), .inl l1] [] (G, M, T) K else pm_Run d 135 17 [.inr (.inr (.inl l0)), .inl l1] [] (G, M, T) K := by
  refine (px_go (by decide +kernel : pm_fe 135 12 = some (.iload_n 1, 1)) rfl).trans ?_
  refine (px_go (by decide +kernel : pm_fe 135 13 = some (.iconst 1, 1)) rfl).trans ?_
  refine (px_ic_ne (off := 13) (tgt := 27) (by decide +kernel)).trans ?_
  exact Iff.rfl
theorem b135_17 {d : Nat} {G : PG} {M T : PH} {K : PV → PS → Prop} {l0 l1 : Int} (h1 : pm_ob G l0 11) (h2 : pm_ob G (T l0.toNat 4) 6) : pm_Run d 135 17 [.inr (.inr (.inl l0)), .inl l1] [] (G, M, T) K ↔ pm_Run d 135 28 [.inr (.inr (.inl l0)), .inl l1] [.inl (M (T l0.toNat 4).toNat 4)] (G, M, T) K := by
  refine (px_go (by decide +kernel : pm_fe 135 17 = some (.aload_n 0, 1)) rfl).trans ?_
  refine (px_get2 (idx := 34) (ci := 11) (k := 4) (by decide +kernel)).trans ((and_iff_right h1).trans ?_)
  refine (px_get0 (idx := 129) (ci := 6) (k := 4) (by decide +kernel)).trans ((and_iff_right h2).trans ?_)
  refine (px_goto (off := 4) (tgt := 28) (by decide +kernel)).trans ?_
  exact Iff.rfl
theorem b135_27 {d : Nat} {G : PG} {M T : PH} {K : PV → PS → Prop} {l0 l1 : Int} : pm_Run d 135 27 [.inr (.inr (.inl l0)), .inl l1] [] (G, M, T) K ↔ pm_Run d 135 28 [.inr (.inr (.inl l0)), .inl l1] [.inl (-1)] (G, M, T) K := by
  refine (px_go (by decide +kernel : pm_fe 135 27 = some (.iconst (-1), 1)) rfl).trans ?_
  exact Iff.rfl
theorem b135_28 {d : Nat} {G : PG} {M T : PH} {K : PV → PS → Prop} {l0 l1 s0 : Int} : pm_Run d 135 28 [.inr (.inr (.inl l0)), .inl l1] [.inl s0] (G, M, T) K ↔ K (.inl s0) (G, M, T) := by
  refine (px_ri (by decide +kernel)).trans ?_
  exact Iff.rfl
-- X11_has has(I)I
theorem en136 {d : Nat} {a p0 : Int} {S : PS} {K : PV → PS → Prop} : pm_Call (d + 1) 136 [.inr (.inr (.inl a)), .inl p0] S K ↔ pm_Run d 136 0 [.inr (.inr (.inl a)), .inl p0] [] S K := pm_Call_s.trans (and_iff_right (show 2 ≤ pm_ml 136 from by decide +kernel))
theorem b136_0 {d : Nat} {G : PG} {M T : PH} {K : PV → PS → Prop} {l0 l1 : Int} : pm_Run d 136 0 [.inr (.inr (.inl l0)), .inl l1] [] (G, M, T) K ↔ pm_Run d 136 (pm_tg 0 [64, 72, 80, 88, 96, 104, 112, 120, 128, 136, 144, 152] 157 (pm_sg l1)) [.inr (.inr (.inl l0)), .inl l1] [] (G, M, T) K := by
  refine (px_go (by decide +kernel : pm_fe 136 0 = some (.iload_n 1, 1)) rfl).trans ?_
  refine (px_tsw (lo := 0) (dt := 157) (tl := [64, 72, 80, 88, 96, 104, 112, 120, 128, 136, 144, 152]) (by decide +kernel : pm_fe 136 1 = some (.tableswitch 156 0 11 #[63, 71, 79, 87, 95, 103, 111, 119, 127, 135, 143, 151], 63) ∧ _)).trans ?_
  exact Iff.rfl
theorem b136_64 {d : Nat} {G : PG} {M T : PH} {K : PV → PS → Prop} {l0 l1 : Int} (h1 : pm_ob G l0 11) (h2 : pm_ob G (T l0.toNat 3) 1) : pm_Run d 136 64 [.inr (.inr (.inl l0)), .inl l1] [] (G, M, T) K ↔ K (.inl (M (T l0.toNat 3).toNat 0)) (G, M, T) := by
  refine (px_go (by decide +kernel : pm_fe 136 64 = some (.aload_n 0, 1)) rfl).trans ?_
  refine (px_get2 (idx := 27) (ci := 11) (k := 3) (by decide +kernel)).trans ((and_iff_right h1).trans ?_)
  refine (px_get0 (idx := 132) (ci := 1) (k := 0) (by decide +kernel)).trans ((and_iff_right h2).trans ?_)
  refine (px_ri (by decide +kernel)).trans ?_
  exact Iff.rfl
theorem b136_72 {d : Nat} {G : PG} {M T : PH} {K : PV → PS → Prop} {l0 l1 : Int} (h1 : pm_ob G l0 11) (h2 : pm_ob G (T l0.toNat 3) 1) : pm_Run d 136 72 [.inr (.inr (.inl l0)), .inl l1] [] (G, M, T) K ↔ K (.inl (M (T l0.toNat 3).toNat 1)) (G, M, T) := by
  refine (px_go (by decide +kernel : pm_fe 136 72 = some (.aload_n 0, 1)) rfl).trans ?_
  refine (px_get2 (idx := 27) (ci := 11) (k := 3) (by decide +kernel)).trans ((and_iff_right h1).trans ?_)
  refine (px_get0 (idx := 135) (ci := 1) (k := 1) (by decide +kernel)).trans ((and_iff_right h2).trans ?_)
  refine (px_ri (by decide +kernel)).trans ?_
  exact Iff.rfl
theorem b136_80 {d : Nat} {G : PG} {M T : PH} {K : PV → PS → Prop} {l0 l1 : Int} (h1 : pm_ob G l0 11) (h2 : pm_ob G (T l0.toNat 3) 1) : pm_Run d 136 80 [.inr (.inr (.inl l0)), .inl l1] [] (G, M, T) K ↔ K (.inl (M (T l0.toNat 3).toNat 2)) (G, M, T) := by
  refine (px_go (by decide +kernel : pm_fe 136 80 = some (.aload_n 0, 1)) rfl).trans ?_
  refine (px_get2 (idx := 27) (ci := 11) (k := 3) (by decide +kernel)).trans ((and_iff_right h1).trans ?_)
  refine (px_get0 (idx := 138) (ci := 1) (k := 2) (by decide +kernel)).trans ((and_iff_right h2).trans ?_)
  refine (px_ri (by decide +kernel)).trans ?_
  exact Iff.rfl
theorem b136_88 {d : Nat} {G : PG} {M T : PH} {K : PV → PS → Prop} {l0 l1 : Int} (h1 : pm_ob G l0 11) (h2 : pm_ob G (T l0.toNat 3) 1) : pm_Run d 136 88 [.inr (.inr (.inl l0)), .inl l1] [] (G, M, T) K ↔ K (.inl (M (T l0.toNat 3).toNat 3)) (G, M, T) := by
  refine (px_go (by decide +kernel : pm_fe 136 88 = some (.aload_n 0, 1)) rfl).trans ?_
  refine (px_get2 (idx := 27) (ci := 11) (k := 3) (by decide +kernel)).trans ((and_iff_right h1).trans ?_)
  refine (px_get0 (idx := 141) (ci := 1) (k := 3) (by decide +kernel)).trans ((and_iff_right h2).trans ?_)
  refine (px_ri (by decide +kernel)).trans ?_
  exact Iff.rfl
theorem b136_96 {d : Nat} {G : PG} {M T : PH} {K : PV → PS → Prop} {l0 l1 : Int} (h1 : pm_ob G l0 11) (h2 : pm_ob G (T l0.toNat 3) 1) : pm_Run d 136 96 [.inr (.inr (.inl l0)), .inl l1] [] (G, M, T) K ↔ K (.inl (M (T l0.toNat 3).toNat 4)) (G, M, T) := by
  refine (px_go (by decide +kernel : pm_fe 136 96 = some (.aload_n 0, 1)) rfl).trans ?_
  refine (px_get2 (idx := 27) (ci := 11) (k := 3) (by decide +kernel)).trans ((and_iff_right h1).trans ?_)
  refine (px_get0 (idx := 144) (ci := 1) (k := 4) (by decide +kernel)).trans ((and_iff_right h2).trans ?_)
  refine (px_ri (by decide +kernel)).trans ?_
  exact Iff.rfl
theorem b136_104 {d : Nat} {G : PG} {M T : PH} {K : PV → PS → Prop} {l0 l1 : Int} (h1 : pm_ob G l0 11) (h2 : pm_ob G (T l0.toNat 3) 1) : pm_Run d 136 104 [.inr (.inr (.inl l0)), .inl l1] [] (G, M, T) K ↔ K (.inl (M (T l0.toNat 3).toNat 5)) (G, M, T) := by
  refine (px_go (by decide +kernel : pm_fe 136 104 = some (.aload_n 0, 1)) rfl).trans ?_
  refine (px_get2 (idx := 27) (ci := 11) (k := 3) (by decide +kernel)).trans ((and_iff_right h1).trans ?_)
  refine (px_get0 (idx := 147) (ci := 1) (k := 5) (by decide +kernel)).trans ((and_iff_right h2).trans ?_)
  refine (px_ri (by decide +kernel)).trans ?_
  exact Iff.rfl
theorem b136_112 {d : Nat} {G : PG} {M T : PH} {K : PV → PS → Prop} {l0 l1 : Int} (h1 : pm_ob G l0 11) (h2 : pm_ob G (T l0.toNat 3) 1) : pm_Run d 136 112 [.inr (.inr (.inl l0)), .inl l1] [] (G, M, T) K ↔ K (.inl (M (T l0.toNat 3).toNat 6)) (G, M, T) := by
  refine (px_go (by decide +kernel : pm_fe 136 112 = some (.aload_n 0, 1)) rfl).trans ?_
  refine (px_get2 (idx := 27) (ci := 11) (k := 3) (by decide +kernel)).trans ((and_iff_right h1).trans ?_)
  refine (px_get0 (idx := 150) (ci := 1) (k := 6) (by decide +kernel)).trans ((and_iff_right h2).trans ?_)
  refine (px_ri (by decide +kernel)).trans ?_
  exact Iff.rfl
theorem b136_120 {d : Nat} {G : PG} {M T : PH} {K : PV → PS → Prop} {l0 l1 : Int} (h1 : pm_ob G l0 11) (h2 : pm_ob G (T l0.toNat 2) 5) : pm_Run d 136 120 [.inr (.inr (.inl l0)), .inl l1] [] (G, M, T) K ↔ K (.inl (M (T l0.toNat 2).toNat 0)) (G, M, T) := by
  refine (px_go (by decide +kernel : pm_fe 136 120 = some (.aload_n 0, 1)) rfl).trans ?_
  refine (px_get2 (idx := 20) (ci := 11) (k := 2) (by decide +kernel)).trans ((and_iff_right h1).trans ?_)
  refine (px_get0 (idx := 153) (ci := 5) (k := 0) (by decide +kernel)).trans ((and_iff_right h2).trans ?_)
  refine (px_ri (by decide +kernel)).trans ?_
  exact Iff.rfl
theorem b136_128 {d : Nat} {G : PG} {M T : PH} {K : PV → PS → Prop} {l0 l1 : Int} (h1 : pm_ob G l0 11) (h2 : pm_ob G (T l0.toNat 2) 5) : pm_Run d 136 128 [.inr (.inr (.inl l0)), .inl l1] [] (G, M, T) K ↔ pm_Call d 63 [.inr (.inr (.inl (T l0.toNat 2)))] (G, M, T) (fun r S1 => pm_Run d 136 135 [.inr (.inr (.inl l0)), .inl l1] (pm_push r []) S1 K) := by
  refine (px_go (by decide +kernel : pm_fe 136 128 = some (.aload_n 0, 1)) rfl).trans ?_
  refine (px_get2 (idx := 20) (ci := 11) (k := 2) (by decide +kernel)).trans ((and_iff_right h1).trans ?_)
  refine (px_v0 (idx := 156) (m' := 63) (ci := 5) (by decide +kernel)).trans ((and_iff_right ⟨h2, (by simp [pm_wl_n, pm_wl_c, pm_w] : pm_wl [] ≤ 8)⟩).trans ?_)
  exact Iff.rfl
theorem b136_135 {d : Nat} {G : PG} {M T : PH} {K : PV → PS → Prop} {l0 l1 s0 : Int} : pm_Run d 136 135 [.inr (.inr (.inl l0)), .inl l1] [.inl s0] (G, M, T) K ↔ K (.inl s0) (G, M, T) := by
  refine (px_ri (by decide +kernel)).trans ?_
  exact Iff.rfl
theorem b136_136 {d : Nat} {G : PG} {M T : PH} {K : PV → PS → Prop} {l0 l1 : Int} (h1 : pm_ob G l0 11) (h2 : pm_ob G (T l0.toNat 2) 5) : pm_Run d 136 136 [.inr (.inr (.inl l0)), .inl l1] [] (G, M, T) K ↔ pm_Call d 64 [.inr (.inr (.inl (T l0.toNat 2)))] (G, M, T) (fun r S1 => pm_Run d 136 143 [.inr (.inr (.inl l0)), .inl l1] (pm_push r []) S1 K) := by
  refine (px_go (by decide +kernel : pm_fe 136 136 = some (.aload_n 0, 1)) rfl).trans ?_
  refine (px_get2 (idx := 20) (ci := 11) (k := 2) (by decide +kernel)).trans ((and_iff_right h1).trans ?_)
  refine (px_v0 (idx := 159) (m' := 64) (ci := 5) (by decide +kernel)).trans ((and_iff_right ⟨h2, (by simp [pm_wl_n, pm_wl_c, pm_w] : pm_wl [] ≤ 8)⟩).trans ?_)
  exact Iff.rfl
theorem b136_143 {d : Nat} {G : PG} {M T : PH} {K : PV → PS → Prop} {l0 l1 s0 : Int} : pm_Run d 136 143 [.inr (.inr (.inl l0)), .inl l1] [.inl s0] (G, M, T) K ↔ K (.inl s0) (G, M, T) := by
  refine (px_ri (by decide +kernel)).trans ?_
  exact Iff.rfl
theorem b136_144 {d : Nat} {G : PG} {M T : PH} {K : PV → PS → Prop} {l0 l1 : Int} (h1 : pm_ob G l0 11) (h2 : pm_ob G (T l0.toNat 9) 7) : pm_Run d 136 144 [.inr (.inr (.inl l0)), .inl l1] [] (G, M, T) K ↔ K (.inl (M (T l0.toNat 9).toNat 2)) (G, M, T) := by
  refine (px_go (by decide +kernel : pm_fe 136 144 = some (.aload_n 0, 1)) rfl).trans ?_
  refine (px_get2 (idx := 71) (ci := 11) (k := 9) (by decide +kernel)).trans ((and_iff_right h1).trans ?_)
  refine (px_get0 (idx := 162) (ci := 7) (k := 2) (by decide +kernel)).trans ((and_iff_right h2).trans ?_)
  refine (px_ri (by decide +kernel)).trans ?_
  exact Iff.rfl
theorem b136_152 {d : Nat} {G : PG} {M T : PH} {K : PV → PS → Prop} {l0 l1 : Int} (h1 : pm_ob G l0 11) : pm_Run d 136 152 [.inr (.inr (.inl l0)), .inl l1] [] (G, M, T) K ↔ K (.inl (M l0.toNat 12)) (G, M, T) := by
  refine (px_go (by decide +kernel : pm_fe 136 152 = some (.aload_n 0, 1)) rfl).trans ?_
  refine (px_get0 (idx := 82) (ci := 11) (k := 12) (by decide +kernel)).trans ((and_iff_right h1).trans ?_)
  refine (px_ri (by decide +kernel)).trans ?_
  exact Iff.rfl
theorem b136_157 {d : Nat} {G : PG} {M T : PH} {K : PV → PS → Prop} {l0 l1 : Int} : pm_Run d 136 157 [.inr (.inr (.inl l0)), .inl l1] [] (G, M, T) K ↔ K (.inl (-1)) (G, M, T) := by
  refine (px_go (by decide +kernel : pm_fe 136 157 = some (.iconst (-1), 1)) rfl).trans ?_
  refine (px_ri (by decide +kernel)).trans ?_
  exact Iff.rfl
-- X11_letter letter(III)I
theorem en137 {d : Nat} {a p0 p1 p2 : Int} {S : PS} {K : PV → PS → Prop} : pm_Call (d + 1) 137 [.inr (.inr (.inl a)), .inl p0, .inl p1, .inl p2] S K ↔ pm_Run d 137 0 [.inr (.inr (.inl a)), .inl p0, .inl p1, .inl p2] [] S K := pm_Call_s.trans (and_iff_right (show 4 ≤ pm_ml 137 from by decide +kernel))
theorem b137_0 {d : Nat} {G : PG} {M T : PH} {K : PV → PS → Prop} {l0 l1 l2 l3 : Int} : pm_Run d 137 0 [.inr (.inr (.inl l0)), .inl l1, .inl l2, .inl l3] [] (G, M, T) K ↔ if pm_sg l3 < 0 then pm_Run d 137 10 [.inr (.inr (.inl l0)), .inl l1, .inl l2, .inl l3] [] (G, M, T) K else pm_Run d 137 4 [.inr (.inr (.inl l0)), .inl l1, .inl l2, .inl l3] [] (G, M, T) K := by
  refine (px_go (by decide +kernel : pm_fe 137 0 = some (.iload_n 3, 1)) rfl).trans ?_
  refine (px_if_lt (off := 9) (tgt := 10) (by decide +kernel)).trans ?_
  exact Iff.rfl
theorem b137_4 {d : Nat} {G : PG} {M T : PH} {K : PV → PS → Prop} {l0 l1 l2 l3 : Int} : pm_Run d 137 4 [.inr (.inr (.inl l0)), .inl l1, .inl l2, .inl l3] [] (G, M, T) K ↔ if pm_sg l3 < pm_sg 6 then pm_Run d 137 12 [.inr (.inr (.inl l0)), .inl l1, .inl l2, .inl l3] [] (G, M, T) K else pm_Run d 137 10 [.inr (.inr (.inl l0)), .inl l1, .inl l2, .inl l3] [] (G, M, T) K := by
  refine (px_go (by decide +kernel : pm_fe 137 4 = some (.iload_n 3, 1)) rfl).trans ?_
  refine (px_go (by decide +kernel : pm_fe 137 5 = some (.bipush 6, 2)) rfl).trans ?_
  refine (px_ic_lt (off := 5) (tgt := 12) (by decide +kernel)).trans ?_
  exact Iff.rfl
theorem b137_10 {d : Nat} {G : PG} {M T : PH} {K : PV → PS → Prop} {l0 l1 l2 l3 : Int} : pm_Run d 137 10 [.inr (.inr (.inl l0)), .inl l1, .inl l2, .inl l3] [] (G, M, T) K ↔ K (.inl (-1)) (G, M, T) := by
  refine (px_go (by decide +kernel : pm_fe 137 10 = some (.iconst (-1), 1)) rfl).trans ?_
  refine (px_ri (by decide +kernel)).trans ?_
  exact Iff.rfl
theorem b137_12 {d : Nat} {G : PG} {M T : PH} {K : PV → PS → Prop} {l0 l1 l2 l3 : Int} : pm_Run d 137 12 [.inr (.inr (.inl l0)), .inl l1, .inl l2, .inl l3] [] (G, M, T) K ↔ if pm_sg l1 ≠ 0 then pm_Run d 137 38 [.inr (.inr (.inl l0)), .inl l1, .inl l2, .inl l3] [] (G, M, T) K else pm_Run d 137 16 [.inr (.inr (.inl l0)), .inl l1, .inl l2, .inl l3] [] (G, M, T) K := by
  refine (px_go (by decide +kernel : pm_fe 137 12 = some (.iload_n 1, 1)) rfl).trans ?_
  refine (px_if_ne (off := 25) (tgt := 38) (by decide +kernel)).trans ?_
  exact Iff.rfl
theorem b137_16 {d : Nat} {G : PG} {M T : PH} {K : PV → PS → Prop} {l0 l1 l2 l3 : Int} (h1 : pm_ob G l0 11) : pm_Run d 137 16 [.inr (.inr (.inl l0)), .inl l1, .inl l2, .inl l3] [] (G, M, T) K ↔ pm_Call d 169 [.inr (.inr (.inl l0)), .inl l2] (G, M, T) (fun r S1 => pm_Run d 137 21 [.inr (.inr (.inl l0)), .inl l1, .inl l2, .inl l3] (pm_push r []) S1 K) := by
  refine (px_go (by decide +kernel : pm_fe 137 16 = some (.aload_n 0, 1)) rfl).trans ?_
  refine (px_go (by decide +kernel : pm_fe 137 17 = some (.iload_n 2, 1)) rfl).trans ?_
  refine (px_v1 (idx := 165) (m' := 169) (ci := 11) (by decide +kernel)).trans ((and_iff_right ⟨h1, (by simp [pm_wl_n, pm_wl_c, pm_w] : pm_wl [] ≤ 8)⟩).trans ?_)
  exact Iff.rfl
theorem b137_21 {d : Nat} {G : PG} {M T : PH} {K : PV → PS → Prop} {l0 l1 l2 l3 s0 : Int} : pm_Run d 137 21 [.inr (.inr (.inl l0)), .inl l1, .inl l2, .inl l3] [.inl s0] (G, M, T) K ↔ if pm_sg s0 = 0 then pm_Run d 137 38 [.inr (.inr (.inl l0)), .inl l1, .inl l2, .inl l3] [] (G, M, T) K else pm_Run d 137 24 [.inr (.inr (.inl l0)), .inl l1, .inl l2, .inl l3] [] (G, M, T) K := by
  refine (px_if_eq (off := 17) (tgt := 38) (by decide +kernel)).trans ?_
  exact Iff.rfl
theorem b137_24 {d : Nat} {G : PG} {M T : PH} {K : PV → PS → Prop} {l0 l1 l2 l3 : Int} (h1 : pm_ob G l0 11) (h2 : pm_ob G (T l0.toNat 3) 1) (h3 : pm_ar G (T (T l0.toNat 3).toNat 8) 100 l2) : pm_Run d 137 24 [.inr (.inr (.inl l0)), .inl l1, .inl l2, .inl l3] [] (G, M, T) K ↔ pm_Call d 49 [.inl (M (T (T l0.toNat 3).toNat 8).toNat (pm_sg l2).toNat), .inl l3] (G, M, T) (fun r S1 => pm_Run d 137 37 [.inr (.inr (.inl l0)), .inl l1, .inl l2, .inl l3] (pm_push r []) S1 K) := by
  refine (px_go (by decide +kernel : pm_fe 137 24 = some (.aload_n 0, 1)) rfl).trans ?_
  refine (px_get2 (idx := 27) (ci := 11) (k := 3) (by decide +kernel)).trans ((and_iff_right h1).trans ?_)
  refine (px_get2 (idx := 169) (ci := 1) (k := 8) (by decide +kernel)).trans ((and_iff_right h2).trans ?_)
  refine (px_go (by decide +kernel : pm_fe 137 31 = some (.iload_n 2, 1)) rfl).trans ?_
  refine (px_iaload (by decide +kernel) h3).trans ?_
  refine (px_go (by decide +kernel : pm_fe 137 33 = some (.iload_n 3, 1)) rfl).trans ?_
  refine (px_s2 (idx := 172) (m' := 49) (nest := 0) (by decide +kernel)).trans ((and_iff_right (by simp [pm_wl_n, pm_wl_c, pm_w] : pm_wl [] ≤ 8)).trans ?_)
  exact Iff.rfl
theorem b137_37 {d : Nat} {G : PG} {M T : PH} {K : PV → PS → Prop} {l0 l1 l2 l3 s0 : Int} : pm_Run d 137 37 [.inr (.inr (.inl l0)), .inl l1, .inl l2, .inl l3] [.inl s0] (G, M, T) K ↔ K (.inl s0) (G, M, T) := by
  refine (px_ri (by decide +kernel)).trans ?_
  exact Iff.rfl
theorem b137_38 {d : Nat} {G : PG} {M T : PH} {K : PV → PS → Prop} {l0 l1 l2 l3 : Int} : pm_Run d 137 38 [.inr (.inr (.inl l0)), .inl l1, .inl l2, .inl l3] [] (G, M, T) K ↔ if pm_sg l1 ≠ pm_sg 1 then pm_Run d 137 65 [.inr (.inr (.inl l0)), .inl l1, .inl l2, .inl l3] [] (G, M, T) K else pm_Run d 137 43 [.inr (.inr (.inl l0)), .inl l1, .inl l2, .inl l3] [] (G, M, T) K := by
  refine (px_go (by decide +kernel : pm_fe 137 38 = some (.iload_n 1, 1)) rfl).trans ?_
  refine (px_go (by decide +kernel : pm_fe 137 39 = some (.iconst 1, 1)) rfl).trans ?_
  refine (px_ic_ne (off := 25) (tgt := 65) (by decide +kernel)).trans ?_
  exact Iff.rfl
theorem b137_43 {d : Nat} {G : PG} {M T : PH} {K : PV → PS → Prop} {l0 l1 l2 l3 : Int} (h1 : pm_ob G l0 11) : pm_Run d 137 43 [.inr (.inr (.inl l0)), .inl l1, .inl l2, .inl l3] [] (G, M, T) K ↔ pm_Call d 170 [.inr (.inr (.inl l0)), .inl l2] (G, M, T) (fun r S1 => pm_Run d 137 48 [.inr (.inr (.inl l0)), .inl l1, .inl l2, .inl l3] (pm_push r []) S1 K) := by
  refine (px_go (by decide +kernel : pm_fe 137 43 = some (.aload_n 0, 1)) rfl).trans ?_
  refine (px_go (by decide +kernel : pm_fe 137 44 = some (.iload_n 2, 1)) rfl).trans ?_
  refine (px_v1 (idx := 178) (m' := 170) (ci := 11) (by decide +kernel)).trans ((and_iff_right ⟨h1, (by simp [pm_wl_n, pm_wl_c, pm_w] : pm_wl [] ≤ 8)⟩).trans ?_)
  exact Iff.rfl
theorem b137_48 {d : Nat} {G : PG} {M T : PH} {K : PV → PS → Prop} {l0 l1 l2 l3 s0 : Int} : pm_Run d 137 48 [.inr (.inr (.inl l0)), .inl l1, .inl l2, .inl l3] [.inl s0] (G, M, T) K ↔ if pm_sg s0 = 0 then pm_Run d 137 65 [.inr (.inr (.inl l0)), .inl l1, .inl l2, .inl l3] [] (G, M, T) K else pm_Run d 137 51 [.inr (.inr (.inl l0)), .inl l1, .inl l2, .inl l3] [] (G, M, T) K := by
  refine (px_if_eq (off := 17) (tgt := 65) (by decide +kernel)).trans ?_
  exact Iff.rfl
theorem b137_51 {d : Nat} {G : PG} {M T : PH} {K : PV → PS → Prop} {l0 l1 l2 l3 : Int} (h1 : pm_ob G l0 11) (h2 : pm_ob G (T l0.toNat 3) 1) (h3 : pm_ar G (T (T l0.toNat 3).toNat 10) 100 l2) : pm_Run d 137 51 [.inr (.inr (.inl l0)), .inl l1, .inl l2, .inl l3] [] (G, M, T) K ↔ pm_Call d 49 [.inl (M (T (T l0.toNat 3).toNat 10).toNat (pm_sg l2).toNat), .inl l3] (G, M, T) (fun r S1 => pm_Run d 137 64 [.inr (.inr (.inl l0)), .inl l1, .inl l2, .inl l3] (pm_push r []) S1 K) := by
  refine (px_go (by decide +kernel : pm_fe 137 51 = some (.aload_n 0, 1)) rfl).trans ?_
  refine (px_get2 (idx := 27) (ci := 11) (k := 3) (by decide +kernel)).trans ((and_iff_right h1).trans ?_)
  refine (px_get2 (idx := 181) (ci := 1) (k := 10) (by decide +kernel)).trans ((and_iff_right h2).trans ?_)
  refine (px_go (by decide +kernel : pm_fe 137 58 = some (.iload_n 2, 1)) rfl).trans ?_
  refine (px_iaload (by decide +kernel) h3).trans ?_
  refine (px_go (by decide +kernel : pm_fe 137 60 = some (.iload_n 3, 1)) rfl).trans ?_
  refine (px_s2 (idx := 172) (m' := 49) (nest := 0) (by decide +kernel)).trans ((and_iff_right (by simp [pm_wl_n, pm_wl_c, pm_w] : pm_wl [] ≤ 8)).trans ?_)
  exact Iff.rfl
theorem b137_64 {d : Nat} {G : PG} {M T : PH} {K : PV → PS → Prop} {l0 l1 l2 l3 s0 : Int} : pm_Run d 137 64 [.inr (.inr (.inl l0)), .inl l1, .inl l2, .inl l3] [.inl s0] (G, M, T) K ↔ K (.inl s0) (G, M, T) := by
  refine (px_ri (by decide +kernel)).trans ?_
  exact Iff.rfl
theorem b137_65 {d : Nat} {G : PG} {M T : PH} {K : PV → PS → Prop} {l0 l1 l2 l3 : Int} : pm_Run d 137 65 [.inr (.inr (.inl l0)), .inl l1, .inl l2, .inl l3] [] (G, M, T) K ↔ K (.inl (-1)) (G, M, T) := by
  refine (px_go (by decide +kernel : pm_fe 137 65 = some (.iconst (-1), 1)) rfl).trans ?_
  refine (px_ri (by decide +kernel)).trans ?_
  exact Iff.rfl
-- X11_moon moon(II)I
theorem en138 {d : Nat} {a p0 p1 : Int} {S : PS} {K : PV → PS → Prop} : pm_Call (d + 1) 138 [.inr (.inr (.inl a)), .inl p0, .inl p1] S K ↔ pm_Run d 138 0 [.inr (.inr (.inl a)), .inl p0, .inl p1] [] S K := pm_Call_s.trans (and_iff_right (show 3 ≤ pm_ml 138 from by decide +kernel))
theorem b138_0 {d : Nat} {G : PG} {M T : PH} {K : PV → PS → Prop} {l0 l1 l2 : Int} (h1 : pm_ob G l0 11) : pm_Run d 138 0 [.inr (.inr (.inl l0)), .inl l1, .inl l2] [] (G, M, T) K ↔ pm_Call d 169 [.inr (.inr (.inl l0)), .inl l1] (G, M, T) (fun r S1 => pm_Run d 138 5 [.inr (.inr (.inl l0)), .inl l1, .inl l2] (pm_push r []) S1 K) := by
  refine (px_go (by decide +kernel : pm_fe 138 0 = some (.aload_n 0, 1)) rfl).trans ?_
  refine (px_go (by decide +kernel : pm_fe 138 1 = some (.iload_n 1, 1)) rfl).trans ?_
  refine (px_v1 (idx := 165) (m' := 169) (ci := 11) (by decide +kernel)).trans ((and_iff_right ⟨h1, (by simp [pm_wl_n, pm_wl_c, pm_w] : pm_wl [] ≤ 8)⟩).trans ?_)
  exact Iff.rfl
theorem b138_5 {d : Nat} {G : PG} {M T : PH} {K : PV → PS → Prop} {l0 l1 l2 s0 : Int} : pm_Run d 138 5 [.inr (.inr (.inl l0)), .inl l1, .inl l2] [.inl s0] (G, M, T) K ↔ if pm_sg s0 ≠ 0 then pm_Run d 138 10 [.inr (.inr (.inl l0)), .inl l1, .inl l2] [] (G, M, T) K else pm_Run d 138 8 [.inr (.inr (.inl l0)), .inl l1, .inl l2] [] (G, M, T) K := by
  refine (px_if_ne (off := 5) (tgt := 10) (by decide +kernel)).trans ?_
  exact Iff.rfl
theorem b138_8 {d : Nat} {G : PG} {M T : PH} {K : PV → PS → Prop} {l0 l1 l2 : Int} : pm_Run d 138 8 [.inr (.inr (.inl l0)), .inl l1, .inl l2] [] (G, M, T) K ↔ K (.inl (-1)) (G, M, T) := by
  refine (px_go (by decide +kernel : pm_fe 138 8 = some (.iconst (-1), 1)) rfl).trans ?_
  refine (px_ri (by decide +kernel)).trans ?_
  exact Iff.rfl
theorem b138_10 {d : Nat} {G : PG} {M T : PH} {K : PV → PS → Prop} {l0 l1 l2 : Int} : pm_Run d 138 10 [.inr (.inr (.inl l0)), .inl l1, .inl l2] [] (G, M, T) K ↔ pm_Run d 138 (pm_tg 0 [48, 58, 68, 78, 87, 96] 120 (pm_sg l2)) [.inr (.inr (.inl l0)), .inl l1, .inl l2] [] (G, M, T) K := by
  refine (px_go (by decide +kernel : pm_fe 138 10 = some (.iload_n 2, 1)) rfl).trans ?_
  refine (px_tsw (lo := 0) (dt := 120) (tl := [48, 58, 68, 78, 87, 96]) (by decide +kernel : pm_fe 138 11 = some (.tableswitch 109 0 5 #[37, 47, 57, 67, 76, 85], 37) ∧ _)).trans ?_
  exact Iff.rfl
theorem b138_48 {d : Nat} {G : PG} {M T : PH} {K : PV → PS → Prop} {l0 l1 l2 : Int} (h1 : pm_ob G l0 11) (h2 : pm_ob G (T l0.toNat 2) 5) (h3 : pm_ar G (T (T l0.toNat 2).toNat 1) 100 l1) : pm_Run d 138 48 [.inr (.inr (.inl l0)), .inl l1, .inl l2] [] (G, M, T) K ↔ K (.inl (M (T (T l0.toNat 2).toNat 1).toNat (pm_sg l1).toNat)) (G, M, T) := by
  refine (px_go (by decide +kernel : pm_fe 138 48 = some (.aload_n 0, 1)) rfl).trans ?_
  refine (px_get2 (idx := 20) (ci := 11) (k := 2) (by decide +kernel)).trans ((and_iff_right h1).trans ?_)
  refine (px_get2 (idx := 184) (ci := 5) (k := 1) (by decide +kernel)).trans ((and_iff_right h2).trans ?_)
  refine (px_go (by decide +kernel : pm_fe 138 55 = some (.iload_n 1, 1)) rfl).trans ?_
  refine (px_iaload (by decide +kernel) h3).trans ?_
  refine (px_ri (by decide +kernel)).trans ?_
  exact Iff.rfl
theorem b138_58 {d : Nat} {G : PG} {M T : PH} {K : PV → PS → Prop} {l0 l1 l2 : Int} (h1 : pm_ob G l0 11) (h2 : pm_ob G (T l0.toNat 3) 1) (h3 : pm_ar G (T (T l0.toNat 3).toNat 9) 100 l1) : pm_Run d 138 58 [.inr (.inr (.inl l0)), .inl l1, .inl l2] [] (G, M, T) K ↔ K (.inl (M (T (T l0.toNat 3).toNat 9).toNat (pm_sg l1).toNat)) (G, M, T) := by
  refine (px_go (by decide +kernel : pm_fe 138 58 = some (.aload_n 0, 1)) rfl).trans ?_
  refine (px_get2 (idx := 27) (ci := 11) (k := 3) (by decide +kernel)).trans ((and_iff_right h1).trans ?_)
  refine (px_get2 (idx := 187) (ci := 1) (k := 9) (by decide +kernel)).trans ((and_iff_right h2).trans ?_)
  refine (px_go (by decide +kernel : pm_fe 138 65 = some (.iload_n 1, 1)) rfl).trans ?_
  refine (px_iaload (by decide +kernel) h3).trans ?_
  refine (px_ri (by decide +kernel)).trans ?_
  exact Iff.rfl
theorem b138_68 {d : Nat} {G : PG} {M T : PH} {K : PV → PS → Prop} {l0 l1 l2 : Int} (h1 : pm_ob G l0 11) (h2 : pm_ob G (T l0.toNat 2) 5) (h3 : pm_ar G (T (T l0.toNat 2).toNat 2) 100 l1) : pm_Run d 138 68 [.inr (.inr (.inl l0)), .inl l1, .inl l2] [] (G, M, T) K ↔ K (.inl (M (T (T l0.toNat 2).toNat 2).toNat (pm_sg l1).toNat)) (G, M, T) := by
  refine (px_go (by decide +kernel : pm_fe 138 68 = some (.aload_n 0, 1)) rfl).trans ?_
  refine (px_get2 (idx := 20) (ci := 11) (k := 2) (by decide +kernel)).trans ((and_iff_right h1).trans ?_)
  refine (px_get2 (idx := 190) (ci := 5) (k := 2) (by decide +kernel)).trans ((and_iff_right h2).trans ?_)
  refine (px_go (by decide +kernel : pm_fe 138 75 = some (.iload_n 1, 1)) rfl).trans ?_
  refine (px_iaload (by decide +kernel) h3).trans ?_
  refine (px_ri (by decide +kernel)).trans ?_
  exact Iff.rfl
theorem b138_78 {d : Nat} {G : PG} {M T : PH} {K : PV → PS → Prop} {l0 l1 l2 : Int} (h1 : pm_ob G l0 11) (h2 : pm_ob G (T l0.toNat 2) 5) : pm_Run d 138 78 [.inr (.inr (.inl l0)), .inl l1, .inl l2] [] (G, M, T) K ↔ pm_Call d 58 [.inr (.inr (.inl (T l0.toNat 2))), .inl l1] (G, M, T) (fun r S1 => pm_Run d 138 86 [.inr (.inr (.inl l0)), .inl l1, .inl l2] (pm_push r []) S1 K) := by
  refine (px_go (by decide +kernel : pm_fe 138 78 = some (.aload_n 0, 1)) rfl).trans ?_
  refine (px_get2 (idx := 20) (ci := 11) (k := 2) (by decide +kernel)).trans ((and_iff_right h1).trans ?_)
  refine (px_go (by decide +kernel : pm_fe 138 82 = some (.iload_n 1, 1)) rfl).trans ?_
  refine (px_v1 (idx := 193) (m' := 58) (ci := 5) (by decide +kernel)).trans ((and_iff_right ⟨h2, (by simp [pm_wl_n, pm_wl_c, pm_w] : pm_wl [] ≤ 8)⟩).trans ?_)
  exact Iff.rfl
theorem b138_86 {d : Nat} {G : PG} {M T : PH} {K : PV → PS → Prop} {l0 l1 l2 s0 : Int} : pm_Run d 138 86 [.inr (.inr (.inl l0)), .inl l1, .inl l2] [.inl s0] (G, M, T) K ↔ K (.inl s0) (G, M, T) := by
  refine (px_ri (by decide +kernel)).trans ?_
  exact Iff.rfl
theorem b138_87 {d : Nat} {G : PG} {M T : PH} {K : PV → PS → Prop} {l0 l1 l2 : Int} (h1 : pm_ob G l0 11) (h2 : pm_ob G (T l0.toNat 2) 5) : pm_Run d 138 87 [.inr (.inr (.inl l0)), .inl l1, .inl l2] [] (G, M, T) K ↔ pm_Call d 59 [.inr (.inr (.inl (T l0.toNat 2))), .inl l1] (G, M, T) (fun r S1 => pm_Run d 138 95 [.inr (.inr (.inl l0)), .inl l1, .inl l2] (pm_push r []) S1 K) := by
  refine (px_go (by decide +kernel : pm_fe 138 87 = some (.aload_n 0, 1)) rfl).trans ?_
  refine (px_get2 (idx := 20) (ci := 11) (k := 2) (by decide +kernel)).trans ((and_iff_right h1).trans ?_)
  refine (px_go (by decide +kernel : pm_fe 138 91 = some (.iload_n 1, 1)) rfl).trans ?_
  refine (px_v1 (idx := 196) (m' := 59) (ci := 5) (by decide +kernel)).trans ((and_iff_right ⟨h2, (by simp [pm_wl_n, pm_wl_c, pm_w] : pm_wl [] ≤ 8)⟩).trans ?_)
  exact Iff.rfl
theorem b138_95 {d : Nat} {G : PG} {M T : PH} {K : PV → PS → Prop} {l0 l1 l2 s0 : Int} : pm_Run d 138 95 [.inr (.inr (.inl l0)), .inl l1, .inl l2] [.inl s0] (G, M, T) K ↔ K (.inl s0) (G, M, T) := by
  refine (px_ri (by decide +kernel)).trans ?_
  exact Iff.rfl
theorem b138_96 {d : Nat} {G : PG} {M T : PH} {K : PV → PS → Prop} {l0 l1 l2 : Int} (h1 : pm_ob G l0 11) (h2 : pm_ob G (T l0.toNat 2) 5) : pm_Run d 138 96 [.inr (.inr (.inl l0)), .inl l1, .inl l2] [] (G, M, T) K ↔ pm_Call d 59 [.inr (.inr (.inl (T l0.toNat 2))), .inl l1] (G, M, T) (fun r S1 => pm_Run d 138 104 [.inr (.inr (.inl l0)), .inl l1, .inl l2] (pm_push r []) S1 K) := by
  refine (px_go (by decide +kernel : pm_fe 138 96 = some (.aload_n 0, 1)) rfl).trans ?_
  refine (px_get2 (idx := 20) (ci := 11) (k := 2) (by decide +kernel)).trans ((and_iff_right h1).trans ?_)
  refine (px_go (by decide +kernel : pm_fe 138 100 = some (.iload_n 1, 1)) rfl).trans ?_
  refine (px_v1 (idx := 196) (m' := 59) (ci := 5) (by decide +kernel)).trans ((and_iff_right ⟨h2, (by simp [pm_wl_n, pm_wl_c, pm_w] : pm_wl [] ≤ 8)⟩).trans ?_)
  exact Iff.rfl
theorem b138_104 {d : Nat} {G : PG} {M T : PH} {K : PV → PS → Prop} {l0 l1 l2 s0 : Int} (h1 : pm_ob G l0 11) (h2 : pm_ob G (T l0.toNat 3) 1) : pm_Run d 138 104 [.inr (.inr (.inl l0)), .inl l1, .inl l2] [.inl s0] (G, M, T) K ↔ if pm_sg s0 < pm_sg (M (T l0.toNat 3).toNat 6) then pm_Run d 138 118 [.inr (.inr (.inl l0)), .inl l1, .inl l2] [] (G, M, T) K else pm_Run d 138 114 [.inr (.inr (.inl l0)), .inl l1, .inl l2] [] (G, M, T) K := by
  refine (px_go (by decide +kernel : pm_fe 138 104 = some (.aload_n 0, 1)) rfl).trans ?_
  refine (px_get2 (idx := 27) (ci := 11) (k := 3) (by decide +kernel)).trans ((and_iff_right h1).trans ?_)
  refine (px_get0 (idx := 150) (ci := 1) (k := 6) (by decide +kernel)).trans ((and_iff_right h2).trans ?_)
  refine (px_ic_lt (off := 7) (tgt := 118) (by decide +kernel)).trans ?_
  exact Iff.rfl
theorem b138_114 {d : Nat} {G : PG} {M T : PH} {K : PV → PS → Prop} {l0 l1 l2 : Int} : pm_Run d 138 114 [.inr (.inr (.inl l0)), .inl l1, .inl l2] [] (G, M, T) K ↔ pm_Run d 138 119 [.inr (.inr (.inl l0)), .inl l1, .inl l2] [.inl 1] (G, M, T) K := by
  refine (px_go (by decide +kernel : pm_fe 138 114 = some (.iconst 1, 1)) rfl).trans ?_
  refine (px_goto (off := 4) (tgt := 119) (by decide +kernel)).trans ?_
  exact Iff.rfl
theorem b138_118 {d : Nat} {G : PG} {M T : PH} {K : PV → PS → Prop} {l0 l1 l2 : Int} : pm_Run d 138 118 [.inr (.inr (.inl l0)), .inl l1, .inl l2] [] (G, M, T) K ↔ pm_Run d 138 119 [.inr (.inr (.inl l0)), .inl l1, .inl l2] [.inl 0] (G, M, T) K := by
  refine (px_go (by decide +kernel : pm_fe 138 118 = some (.iconst 0, 1)) rfl).trans ?_
  exact Iff.rfl
theorem b138_119 {d : Nat} {G : PG} {M T : PH} {K : PV → PS → Prop} {l0 l1 l2 s0 : Int} : pm_Run d 138 119 [.inr (.inr (.inl l0)), .inl l1, .inl l2] [.inl s0] (G, M, T) K ↔ K (.inl s0) (G, M, T) := by
  refine (px_ri (by decide +kernel)).trans ?_
  exact Iff.rfl
theorem b138_120 {d : Nat} {G : PG} {M T : PH} {K : PV → PS → Prop} {l0 l1 l2 : Int} : pm_Run d 138 120 [.inr (.inr (.inl l0)), .inl l1, .inl l2] [] (G, M, T) K ↔ K (.inl (-1)) (G, M, T) := by
  refine (px_go (by decide +kernel : pm_fe 138 120 = some (.iconst (-1), 1)) rfl).trans ?_
  refine (px_ri (by decide +kernel)).trans ?_
  exact Iff.rfl
-- X11_harbor harbor(II)I
theorem en139 {d : Nat} {a p0 p1 : Int} {S : PS} {K : PV → PS → Prop} : pm_Call (d + 1) 139 [.inr (.inr (.inl a)), .inl p0, .inl p1] S K ↔ pm_Run d 139 0 [.inr (.inr (.inl a)), .inl p0, .inl p1] [] S K := pm_Call_s.trans (and_iff_right (show 3 ≤ pm_ml 139 from by decide +kernel))
theorem b139_0 {d : Nat} {G : PG} {M T : PH} {K : PV → PS → Prop} {l0 l1 l2 : Int} (h1 : pm_ob G l0 11) : pm_Run d 139 0 [.inr (.inr (.inl l0)), .inl l1, .inl l2] [] (G, M, T) K ↔ pm_Call d 170 [.inr (.inr (.inl l0)), .inl l1] (G, M, T) (fun r S1 => pm_Run d 139 5 [.inr (.inr (.inl l0)), .inl l1, .inl l2] (pm_push r []) S1 K) := by
  refine (px_go (by decide +kernel : pm_fe 139 0 = some (.aload_n 0, 1)) rfl).trans ?_
  refine (px_go (by decide +kernel : pm_fe 139 1 = some (.iload_n 1, 1)) rfl).trans ?_
  refine (px_v1 (idx := 178) (m' := 170) (ci := 11) (by decide +kernel)).trans ((and_iff_right ⟨h1, (by simp [pm_wl_n, pm_wl_c, pm_w] : pm_wl [] ≤ 8)⟩).trans ?_)
  exact Iff.rfl
theorem b139_5 {d : Nat} {G : PG} {M T : PH} {K : PV → PS → Prop} {l0 l1 l2 s0 : Int} : pm_Run d 139 5 [.inr (.inr (.inl l0)), .inl l1, .inl l2] [.inl s0] (G, M, T) K ↔ if pm_sg s0 ≠ 0 then pm_Run d 139 10 [.inr (.inr (.inl l0)), .inl l1, .inl l2] [] (G, M, T) K else pm_Run d 139 8 [.inr (.inr (.inl l0)), .inl l1, .inl l2] [] (G, M, T) K := by
  refine (px_if_ne (off := 5) (tgt := 10) (by decide +kernel)).trans ?_
  exact Iff.rfl
theorem b139_8 {d : Nat} {G : PG} {M T : PH} {K : PV → PS → Prop} {l0 l1 l2 : Int} : pm_Run d 139 8 [.inr (.inr (.inl l0)), .inl l1, .inl l2] [] (G, M, T) K ↔ K (.inl (-1)) (G, M, T) := by
  refine (px_go (by decide +kernel : pm_fe 139 8 = some (.iconst (-1), 1)) rfl).trans ?_
  refine (px_ri (by decide +kernel)).trans ?_
  exact Iff.rfl
theorem b139_10 {d : Nat} {G : PG} {M T : PH} {K : PV → PS → Prop} {l0 l1 l2 : Int} : pm_Run d 139 10 [.inr (.inr (.inl l0)), .inl l1, .inl l2] [] (G, M, T) K ↔ pm_Run d 139 (pm_tg 0 [64, 74, 84, 94, 103, 112, 126, 135, 145, 164] 197 (pm_sg l2)) [.inr (.inr (.inl l0)), .inl l1, .inl l2] [] (G, M, T) K := by
  refine (px_go (by decide +kernel : pm_fe 139 10 = some (.iload_n 2, 1)) rfl).trans ?_
  refine (px_tsw (lo := 0) (dt := 197) (tl := [64, 74, 84, 94, 103, 112, 126, 135, 145, 164]) (by decide +kernel : pm_fe 139 11 = some (.tableswitch 186 0 9 #[53, 63, 73, 83, 92, 101, 115, 124, 134, 153], 53) ∧ _)).trans ?_
  exact Iff.rfl
theorem b139_64 {d : Nat} {G : PG} {M T : PH} {K : PV → PS → Prop} {l0 l1 l2 : Int} (h1 : pm_ob G l0 11) (h2 : pm_ob G (T l0.toNat 3) 1) (h3 : pm_ar G (T (T l0.toNat 3).toNat 11) 100 l1) : pm_Run d 139 64 [.inr (.inr (.inl l0)), .inl l1, .inl l2] [] (G, M, T) K ↔ K (.inl (M (T (T l0.toNat 3).toNat 11).toNat (pm_sg l1).toNat)) (G, M, T) := by
  refine (px_go (by decide +kernel : pm_fe 139 64 = some (.aload_n 0, 1)) rfl).trans ?_
  refine (px_get2 (idx := 27) (ci := 11) (k := 3) (by decide +kernel)).trans ((and_iff_right h1).trans ?_)
  refine (px_get2 (idx := 199) (ci := 1) (k := 11) (by decide +kernel)).trans ((and_iff_right h2).trans ?_)
  refine (px_go (by decide +kernel : pm_fe 139 71 = some (.iload_n 1, 1)) rfl).trans ?_
  refine (px_iaload (by decide +kernel) h3).trans ?_
  refine (px_ri (by decide +kernel)).trans ?_
  exact Iff.rfl
theorem b139_74 {d : Nat} {G : PG} {M T : PH} {K : PV → PS → Prop} {l0 l1 l2 : Int} (h1 : pm_ob G l0 11) (h2 : pm_ob G (T l0.toNat 2) 5) (h3 : pm_ar G (T (T l0.toNat 2).toNat 3) 100 l1) : pm_Run d 139 74 [.inr (.inr (.inl l0)), .inl l1, .inl l2] [] (G, M, T) K ↔ K (.inl (M (T (T l0.toNat 2).toNat 3).toNat (pm_sg l1).toNat)) (G, M, T) := by
  refine (px_go (by decide +kernel : pm_fe 139 74 = some (.aload_n 0, 1)) rfl).trans ?_
  refine (px_get2 (idx := 20) (ci := 11) (k := 2) (by decide +kernel)).trans ((and_iff_right h1).trans ?_)
  refine (px_get2 (idx := 202) (ci := 5) (k := 3) (by decide +kernel)).trans ((and_iff_right h2).trans ?_)
  refine (px_go (by decide +kernel : pm_fe 139 81 = some (.iload_n 1, 1)) rfl).trans ?_
  refine (px_iaload (by decide +kernel) h3).trans ?_
  refine (px_ri (by decide +kernel)).trans ?_
  exact Iff.rfl
theorem b139_84 {d : Nat} {G : PG} {M T : PH} {K : PV → PS → Prop} {l0 l1 l2 : Int} (h1 : pm_ob G l0 11) (h2 : pm_ob G (T l0.toNat 3) 1) (h3 : pm_ar G (T (T l0.toNat 3).toNat 12) 100 l1) : pm_Run d 139 84 [.inr (.inr (.inl l0)), .inl l1, .inl l2] [] (G, M, T) K ↔ K (.inl (M (T (T l0.toNat 3).toNat 12).toNat (pm_sg l1).toNat)) (G, M, T) := by
  refine (px_go (by decide +kernel : pm_fe 139 84 = some (.aload_n 0, 1)) rfl).trans ?_
  refine (px_get2 (idx := 27) (ci := 11) (k := 3) (by decide +kernel)).trans ((and_iff_right h1).trans ?_)
  refine (px_get2 (idx := 205) (ci := 1) (k := 12) (by decide +kernel)).trans ((and_iff_right h2).trans ?_)
  refine (px_go (by decide +kernel : pm_fe 139 91 = some (.iload_n 1, 1)) rfl).trans ?_
  refine (px_iaload (by decide +kernel) h3).trans ?_
  refine (px_ri (by decide +kernel)).trans ?_
  exact Iff.rfl
theorem b139_94 {d : Nat} {G : PG} {M T : PH} {K : PV → PS → Prop} {l0 l1 l2 : Int} (h1 : pm_ob G l0 11) (h2 : pm_ob G (T l0.toNat 2) 5) : pm_Run d 139 94 [.inr (.inr (.inl l0)), .inl l1, .inl l2] [] (G, M, T) K ↔ pm_Call d 60 [.inr (.inr (.inl (T l0.toNat 2))), .inl l1] (G, M, T) (fun r S1 => pm_Run d 139 102 [.inr (.inr (.inl l0)), .inl l1, .inl l2] (pm_push r []) S1 K) := by
  refine (px_go (by decide +kernel : pm_fe 139 94 = some (.aload_n 0, 1)) rfl).trans ?_
  refine (px_get2 (idx := 20) (ci := 11) (k := 2) (by decide +kernel)).trans ((and_iff_right h1).trans ?_)
  refine (px_go (by decide +kernel : pm_fe 139 98 = some (.iload_n 1, 1)) rfl).trans ?_
  refine (px_v1 (idx := 208) (m' := 60) (ci := 5) (by decide +kernel)).trans ((and_iff_right ⟨h2, (by simp [pm_wl_n, pm_wl_c, pm_w] : pm_wl [] ≤ 8)⟩).trans ?_)
  exact Iff.rfl
theorem b139_102 {d : Nat} {G : PG} {M T : PH} {K : PV → PS → Prop} {l0 l1 l2 s0 : Int} : pm_Run d 139 102 [.inr (.inr (.inl l0)), .inl l1, .inl l2] [.inl s0] (G, M, T) K ↔ K (.inl s0) (G, M, T) := by
  refine (px_ri (by decide +kernel)).trans ?_
  exact Iff.rfl
theorem b139_103 {d : Nat} {G : PG} {M T : PH} {K : PV → PS → Prop} {l0 l1 l2 : Int} (h1 : pm_ob G l0 11) (h2 : pm_ob G (T l0.toNat 2) 5) : pm_Run d 139 103 [.inr (.inr (.inl l0)), .inl l1, .inl l2] [] (G, M, T) K ↔ pm_Call d 61 [.inr (.inr (.inl (T l0.toNat 2))), .inl l1] (G, M, T) (fun r S1 => pm_Run d 139 111 [.inr (.inr (.inl l0)), .inl l1, .inl l2] (pm_push r []) S1 K) := by
  refine (px_go (by decide +kernel : pm_fe 139 103 = some (.aload_n 0, 1)) rfl).trans ?_
  refine (px_get2 (idx := 20) (ci := 11) (k := 2) (by decide +kernel)).trans ((and_iff_right h1).trans ?_)
  refine (px_go (by decide +kernel : pm_fe 139 107 = some (.iload_n 1, 1)) rfl).trans ?_
  refine (px_v1 (idx := 211) (m' := 61) (ci := 5) (by decide +kernel)).trans ((and_iff_right ⟨h2, (by simp [pm_wl_n, pm_wl_c, pm_w] : pm_wl [] ≤ 8)⟩).trans ?_)
  exact Iff.rfl
theorem b139_111 {d : Nat} {G : PG} {M T : PH} {K : PV → PS → Prop} {l0 l1 l2 s0 : Int} : pm_Run d 139 111 [.inr (.inr (.inl l0)), .inl l1, .inl l2] [.inl s0] (G, M, T) K ↔ K (.inl s0) (G, M, T) := by
  refine (px_ri (by decide +kernel)).trans ?_
  exact Iff.rfl
theorem b139_112 {d : Nat} {G : PG} {M T : PH} {K : PV → PS → Prop} {l0 l1 l2 : Int} (h1 : pm_ob G l0 11) : pm_Run d 139 112 [.inr (.inr (.inl l0)), .inl l1, .inl l2] [] (G, M, T) K ↔ pm_Call d 172 [.inr (.inr (.inl l0)), .inl l1] (G, M, T) (fun r S1 => pm_Run d 139 117 [.inr (.inr (.inl l0)), .inl l1, .inl l2] (pm_push r []) S1 K) := by
  refine (px_go (by decide +kernel : pm_fe 139 112 = some (.aload_n 0, 1)) rfl).trans ?_
  refine (px_go (by decide +kernel : pm_fe 139 113 = some (.iload_n 1, 1)) rfl).trans ?_
  refine (px_v1 (idx := 214) (m' := 172) (ci := 11) (by decide +kernel)).trans ((and_iff_right ⟨h1, (by simp [pm_wl_n, pm_wl_c, pm_w] : pm_wl [] ≤ 8)⟩).trans ?_)
  exact Iff.rfl
theorem b139_117 {d : Nat} {G : PG} {M T : PH} {K : PV → PS → Prop} {l0 l1 l2 s0 : Int} : pm_Run d 139 117 [.inr (.inr (.inl l0)), .inl l1, .inl l2] [.inl s0] (G, M, T) K ↔ if pm_sg s0 = 0 then pm_Run d 139 124 [.inr (.inr (.inl l0)), .inl l1, .inl l2] [] (G, M, T) K else pm_Run d 139 120 [.inr (.inr (.inl l0)), .inl l1, .inl l2] [] (G, M, T) K := by
  refine (px_if_eq (off := 7) (tgt := 124) (by decide +kernel)).trans ?_
  exact Iff.rfl
theorem b139_120 {d : Nat} {G : PG} {M T : PH} {K : PV → PS → Prop} {l0 l1 l2 : Int} : pm_Run d 139 120 [.inr (.inr (.inl l0)), .inl l1, .inl l2] [] (G, M, T) K ↔ pm_Run d 139 125 [.inr (.inr (.inl l0)), .inl l1, .inl l2] [.inl 1] (G, M, T) K := by
  refine (px_go (by decide +kernel : pm_fe 139 120 = some (.iconst 1, 1)) rfl).trans ?_
  refine (px_goto (off := 4) (tgt := 125) (by decide +kernel)).trans ?_
  exact Iff.rfl
theorem b139_124 {d : Nat} {G : PG} {M T : PH} {K : PV → PS → Prop} {l0 l1 l2 : Int} : pm_Run d 139 124 [.inr (.inr (.inl l0)), .inl l1, .inl l2] [] (G, M, T) K ↔ pm_Run d 139 125 [.inr (.inr (.inl l0)), .inl l1, .inl l2] [.inl 0] (G, M, T) K := by
  refine (px_go (by decide +kernel : pm_fe 139 124 = some (.iconst 0, 1)) rfl).trans ?_
  exact Iff.rfl
theorem b139_125 {d : Nat} {G : PG} {M T : PH} {K : PV → PS → Prop} {l0 l1 l2 s0 : Int} : pm_Run d 139 125 [.inr (.inr (.inl l0)), .inl l1, .inl l2] [.inl s0] (G, M, T) K ↔ K (.inl s0) (G, M, T) := by
  refine (px_ri (by decide +kernel)).trans ?_
  exact Iff.rfl
theorem b139_126 {d : Nat} {G : PG} {M T : PH} {K : PV → PS → Prop} {l0 l1 l2 : Int} (h1 : pm_ob G l0 11) (h2 : pm_ob G (T l0.toNat 3) 1) : pm_Run d 139 126 [.inr (.inr (.inl l0)), .inl l1, .inl l2] [] (G, M, T) K ↔ pm_Call d 17 [.inr (.inr (.inl (T l0.toNat 3))), .inl l1] (G, M, T) (fun r S1 => pm_Run d 139 134 [.inr (.inr (.inl l0)), .inl l1, .inl l2] (pm_push r []) S1 K) := by
  refine (px_go (by decide +kernel : pm_fe 139 126 = some (.aload_n 0, 1)) rfl).trans ?_
  refine (px_get2 (idx := 27) (ci := 11) (k := 3) (by decide +kernel)).trans ((and_iff_right h1).trans ?_)
  refine (px_go (by decide +kernel : pm_fe 139 130 = some (.iload_n 1, 1)) rfl).trans ?_
  refine (px_v1 (idx := 217) (m' := 17) (ci := 1) (by decide +kernel)).trans ((and_iff_right ⟨h2, (by simp [pm_wl_n, pm_wl_c, pm_w] : pm_wl [] ≤ 8)⟩).trans ?_)
  exact Iff.rfl
theorem b139_134 {d : Nat} {G : PG} {M T : PH} {K : PV → PS → Prop} {l0 l1 l2 s0 : Int} : pm_Run d 139 134 [.inr (.inr (.inl l0)), .inl l1, .inl l2] [.inl s0] (G, M, T) K ↔ K (.inl s0) (G, M, T) := by
  refine (px_ri (by decide +kernel)).trans ?_
  exact Iff.rfl
theorem b139_135 {d : Nat} {G : PG} {M T : PH} {K : PV → PS → Prop} {l0 l1 l2 : Int} (h1 : pm_ob G l0 11) (h2 : pm_ob G (T l0.toNat 3) 1) : pm_Run d 139 135 [.inr (.inr (.inl l0)), .inl l1, .inl l2] [] (G, M, T) K ↔ pm_Call d 18 [.inr (.inr (.inl (T l0.toNat 3))), .inl l1, .inl 0] (G, M, T) (fun r S1 => pm_Run d 139 144 [.inr (.inr (.inl l0)), .inl l1, .inl l2] (pm_push r []) S1 K) := by
  refine (px_go (by decide +kernel : pm_fe 139 135 = some (.aload_n 0, 1)) rfl).trans ?_
  refine (px_get2 (idx := 27) (ci := 11) (k := 3) (by decide +kernel)).trans ((and_iff_right h1).trans ?_)
  refine (px_go (by decide +kernel : pm_fe 139 139 = some (.iload_n 1, 1)) rfl).trans ?_
  refine (px_go (by decide +kernel : pm_fe 139 140 = some (.iconst 0, 1)) rfl).trans ?_
  refine (px_v2 (idx := 220) (m' := 18) (ci := 1) (by decide +kernel)).trans ((and_iff_right ⟨h2, (by simp [pm_wl_n, pm_wl_c, pm_w] : pm_wl [] ≤ 8)⟩).trans ?_)
  exact Iff.rfl
theorem b139_144 {d : Nat} {G : PG} {M T : PH} {K : PV → PS → Prop} {l0 l1 l2 s0 : Int} : pm_Run d 139 144 [.inr (.inr (.inl l0)), .inl l1, .inl l2] [.inl s0] (G, M, T) K ↔ K (.inl s0) (G, M, T) := by
  refine (px_ri (by decide +kernel)).trans ?_
  exact Iff.rfl
theorem b139_145 {d : Nat} {G : PG} {M T : PH} {K : PV → PS → Prop} {l0 l1 l2 : Int} (h1 : pm_ob G l0 11) (h2 : pm_ob G (T l0.toNat 2) 5) (h3 : pm_ob G (T l0.toNat 3) 1) : pm_Run d 139 145 [.inr (.inr (.inl l0)), .inl l1, .inl l2] [] (G, M, T) K ↔ pm_Call d 19 [.inr (.inr (.inl (T l0.toNat 3))), .inr (.inr (.inl (T (T l0.toNat 2).toNat 3)))] (G, M, T) (fun r S1 => pm_Run d 139 159 [.inr (.inr (.inl l0)), .inl l1, .inl l2] (pm_push r []) S1 K) := by
  refine (px_go (by decide +kernel : pm_fe 139 145 = some (.aload_n 0, 1)) rfl).trans ?_
  refine (px_get2 (idx := 27) (ci := 11) (k := 3) (by decide +kernel)).trans ((and_iff_right h1).trans ?_)
  refine (px_go (by decide +kernel : pm_fe 139 149 = some (.aload_n 0, 1)) rfl).trans ?_
  refine (px_get2 (idx := 20) (ci := 11) (k := 2) (by decide +kernel)).trans ((and_iff_right h1).trans ?_)
  refine (px_get2 (idx := 202) (ci := 5) (k := 3) (by decide +kernel)).trans ((and_iff_right h2).trans ?_)
  refine (px_v1 (idx := 223) (m' := 19) (ci := 1) (by decide +kernel)).trans ((and_iff_right ⟨h3, (by simp [pm_wl_n, pm_wl_c, pm_w] : pm_wl [] ≤ 8)⟩).trans ?_)
  exact Iff.rfl
theorem b139_159 {d : Nat} {G : PG} {M T : PH} {K : PV → PS → Prop} {l0 l1 l2 s0 : Int} : pm_Run d 139 159 [.inr (.inr (.inl l0)), .inl l1, .inl l2] [.inl s0] (G, M, T) K ↔ K (.inl (pm_and (pm_shr s0 l1) 1)) (G, M, T) := by
  refine (px_go (by decide +kernel : pm_fe 139 159 = some (.iload_n 1, 1)) rfl).trans ?_
  refine (px_go (by decide +kernel : pm_fe 139 160 = some (.ishr, 1)) rfl).trans ?_
  refine (px_go (by decide +kernel : pm_fe 139 161 = some (.iconst 1, 1)) rfl).trans ?_
  refine (px_go (by decide +kernel : pm_fe 139 162 = some (.iand, 1)) rfl).trans ?_
  refine (px_ri (by decide +kernel)).trans ?_
  exact Iff.rfl
theorem b139_164 {d : Nat} {G : PG} {M T : PH} {K : PV → PS → Prop} {l0 l1 l2 : Int} (h1 : pm_ob G l0 11) (h2 : pm_ob G (T l0.toNat 3) 1) : pm_Run d 139 164 [.inr (.inr (.inl l0)), .inl l1, .inl l2] [] (G, M, T) K ↔ pm_Call d 17 [.inr (.inr (.inl (T l0.toNat 3))), .inl l1] (G, M, T) (fun r S1 => pm_Run d 139 173 [.inr (.inr (.inl l0)), .inl l1, .inl l2] (pm_push r [.inl 0]) S1 K) := by
  refine (px_go (by decide +kernel : pm_fe 139 164 = some (.iconst 0, 1)) rfl).trans ?_
  refine (px_go (by decide +kernel : pm_fe 139 165 = some (.aload_n 0, 1)) rfl).trans ?_
  refine (px_get2 (idx := 27) (ci := 11) (k := 3) (by decide +kernel)).trans ((and_iff_right h1).trans ?_)
  refine (px_go (by decide +kernel : pm_fe 139 169 = some (.iload_n 1, 1)) rfl).trans ?_
  refine (px_v1 (idx := 217) (m' := 17) (ci := 1) (by decide +kernel)).trans ((and_iff_right ⟨h2, (by simp [pm_wl_n, pm_wl_c, pm_w] : pm_wl [.inl 0] ≤ 8)⟩).trans ?_)
  exact Iff.rfl
theorem b139_173 {d : Nat} {G : PG} {M T : PH} {K : PV → PS → Prop} {l0 l1 l2 s0 s1 : Int} (h1 : pm_ob G l0 11) (h2 : pm_ob G (T l0.toNat 2) 5) (h3 : pm_ar G (T (T l0.toNat 2).toNat 3) 100 l1) (h4 : pm_ob G (T l0.toNat 3) 1) : pm_Run d 139 173 [.inr (.inr (.inl l0)), .inl l1, .inl l2] [.inl s0, .inl s1] (G, M, T) K ↔ pm_Call d 18 [.inr (.inr (.inl (T l0.toNat 3))), .inl l1, .inl 0] (G, M, T) (fun r S1 => pm_Run d 139 192 [.inr (.inr (.inl l0)), .inl l1, .inl l2] (pm_push r [.inl (s0 - (M (T (T l0.toNat 2).toNat 3).toNat (pm_sg l1).toNat)), .inl s1]) S1 K) := by
  refine (px_go (by decide +kernel : pm_fe 139 173 = some (.aload_n 0, 1)) rfl).trans ?_
  refine (px_get2 (idx := 20) (ci := 11) (k := 2) (by decide +kernel)).trans ((and_iff_right h1).trans ?_)
  refine (px_get2 (idx := 202) (ci := 5) (k := 3) (by decide +kernel)).trans ((and_iff_right h2).trans ?_)
  refine (px_go (by decide +kernel : pm_fe 139 180 = some (.iload_n 1, 1)) rfl).trans ?_
  refine (px_iaload (by decide +kernel) h3).trans ?_
  refine (px_go (by decide +kernel : pm_fe 139 182 = some (.isub, 1)) rfl).trans ?_
  refine (px_go (by decide +kernel : pm_fe 139 183 = some (.aload_n 0, 1)) rfl).trans ?_
  refine (px_get2 (idx := 27) (ci := 11) (k := 3) (by decide +kernel)).trans ((and_iff_right h1).trans ?_)
  refine (px_go (by decide +kernel : pm_fe 139 187 = some (.iload_n 1, 1)) rfl).trans ?_
  refine (px_go (by decide +kernel : pm_fe 139 188 = some (.iconst 0, 1)) rfl).trans ?_
  refine (px_v2 (idx := 220) (m' := 18) (ci := 1) (by decide +kernel)).trans ((and_iff_right ⟨h4, (by simp [pm_wl_n, pm_wl_c, pm_w] : pm_wl [.inl (s0 - (M (T (T l0.toNat 2).toNat 3).toNat (pm_sg l1).toNat)), .inl s1] ≤ 8)⟩).trans ?_)
  exact Iff.rfl
theorem b139_192 {d : Nat} {G : PG} {M T : PH} {K : PV → PS → Prop} {l0 l1 l2 s0 s1 s2 : Int} : pm_Run d 139 192 [.inr (.inr (.inl l0)), .inl l1, .inl l2] [.inl s0, .inl s1, .inl s2] (G, M, T) K ↔ K (.inl (pm_mx s2 (s1 - s0))) (G, M, T) := by
  refine (px_go (by decide +kernel : pm_fe 139 192 = some (.isub, 1)) rfl).trans ?_
  refine (px_m905 (idx := 227) (by decide +kernel)).trans ((and_iff_right (by simp [pm_wl_n, pm_wl_c, pm_w] : pm_wl [] ≤ 8)).trans ?_)
  refine (px_ri (by decide +kernel)).trans ?_
  exact Iff.rfl
theorem b139_197 {d : Nat} {G : PG} {M T : PH} {K : PV → PS → Prop} {l0 l1 l2 : Int} : pm_Run d 139 197 [.inr (.inr (.inl l0)), .inl l1, .inl l2] [] (G, M, T) K ↔ K (.inl (-1)) (G, M, T) := by
  refine (px_go (by decide +kernel : pm_fe 139 197 = some (.iconst (-1), 1)) rfl).trans ?_
  refine (px_ri (by decide +kernel)).trans ?_
  exact Iff.rfl
-- X11_bids bids(III)I
theorem en140 {d : Nat} {a p0 p1 p2 : Int} {S : PS} {K : PV → PS → Prop} : pm_Call (d + 1) 140 [.inr (.inr (.inl a)), .inl p0, .inl p1, .inl p2] S K ↔ pm_Run d 140 0 [.inr (.inr (.inl a)), .inl p0, .inl p1, .inl p2, PU] [] S K := pm_Call_s.trans (and_iff_right (show 4 ≤ pm_ml 140 from by decide +kernel))
theorem b140_0 {d : Nat} {G : PG} {M T : PH} {K : PV → PS → Prop} {l0 l1 l2 l3 : Int} (h1 : pm_ob G l0 11) : pm_Run d 140 0 [.inr (.inr (.inl l0)), .inl l1, .inl l2, .inl l3, PU] [] (G, M, T) K ↔ pm_Call d 170 [.inr (.inr (.inl l0)), .inl l1] (G, M, T) (fun r S1 => pm_Run d 140 5 [.inr (.inr (.inl l0)), .inl l1, .inl l2, .inl l3, PU] (pm_push r []) S1 K) := by
  refine (px_go (by decide +kernel : pm_fe 140 0 = some (.aload_n 0, 1)) rfl).trans ?_
  refine (px_go (by decide +kernel : pm_fe 140 1 = some (.iload_n 1, 1)) rfl).trans ?_
  refine (px_v1 (idx := 178) (m' := 170) (ci := 11) (by decide +kernel)).trans ((and_iff_right ⟨h1, (by simp [pm_wl_n, pm_wl_c, pm_w] : pm_wl [] ≤ 8)⟩).trans ?_)
  exact Iff.rfl
theorem b140_5 {d : Nat} {G : PG} {M T : PH} {K : PV → PS → Prop} {l0 l1 l2 l3 s0 : Int} : pm_Run d 140 5 [.inr (.inr (.inl l0)), .inl l1, .inl l2, .inl l3, PU] [.inl s0] (G, M, T) K ↔ if pm_sg s0 = 0 then pm_Run d 140 16 [.inr (.inr (.inl l0)), .inl l1, .inl l2, .inl l3, PU] [] (G, M, T) K else pm_Run d 140 8 [.inr (.inr (.inl l0)), .inl l1, .inl l2, .inl l3, PU] [] (G, M, T) K := by
  refine (px_if_eq (off := 11) (tgt := 16) (by decide +kernel)).trans ?_
  exact Iff.rfl
theorem b140_8 {d : Nat} {G : PG} {M T : PH} {K : PV → PS → Prop} {l0 l1 l2 l3 : Int} (h1 : pm_ob G l0 11) : pm_Run d 140 8 [.inr (.inr (.inl l0)), .inl l1, .inl l2, .inl l3, PU] [] (G, M, T) K ↔ pm_Call d 169 [.inr (.inr (.inl l0)), .inl l2] (G, M, T) (fun r S1 => pm_Run d 140 13 [.inr (.inr (.inl l0)), .inl l1, .inl l2, .inl l3, PU] (pm_push r []) S1 K) := by
  refine (px_go (by decide +kernel : pm_fe 140 8 = some (.aload_n 0, 1)) rfl).trans ?_
  refine (px_go (by decide +kernel : pm_fe 140 9 = some (.iload_n 2, 1)) rfl).trans ?_
  refine (px_v1 (idx := 165) (m' := 169) (ci := 11) (by decide +kernel)).trans ((and_iff_right ⟨h1, (by simp [pm_wl_n, pm_wl_c, pm_w] : pm_wl [] ≤ 8)⟩).trans ?_)
  exact Iff.rfl
theorem b140_13 {d : Nat} {G : PG} {M T : PH} {K : PV → PS → Prop} {l0 l1 l2 l3 s0 : Int} : pm_Run d 140 13 [.inr (.inr (.inl l0)), .inl l1, .inl l2, .inl l3, PU] [.inl s0] (G, M, T) K ↔ if pm_sg s0 ≠ 0 then pm_Run d 140 18 [.inr (.inr (.inl l0)), .inl l1, .inl l2, .inl l3, PU] [] (G, M, T) K else pm_Run d 140 16 [.inr (.inr (.inl l0)), .inl l1, .inl l2, .inl l3, PU] [] (G, M, T) K := by
  refine (px_if_ne (off := 5) (tgt := 18) (by decide +kernel)).trans ?_
  exact Iff.rfl
theorem b140_16 {d : Nat} {G : PG} {M T : PH} {K : PV → PS → Prop} {l0 l1 l2 l3 : Int} : pm_Run d 140 16 [.inr (.inr (.inl l0)), .inl l1, .inl l2, .inl l3, PU] [] (G, M, T) K ↔ K (.inl (-1)) (G, M, T) := by
  refine (px_go (by decide +kernel : pm_fe 140 16 = some (.iconst (-1), 1)) rfl).trans ?_
  refine (px_ri (by decide +kernel)).trans ?_
  exact Iff.rfl
theorem b140_18 {d : Nat} {G : PG} {M T : PH} {K : PV → PS → Prop} {l0 l1 l2 l3 : Int} : pm_Run d 140 18 [.inr (.inr (.inl l0)), .inl l1, .inl l2, .inl l3, PU] [] (G, M, T) K ↔ pm_Call d 55 [.inl l1, .inl l2] (G, M, T) (fun r S1 => pm_Run d 140 23 [.inr (.inr (.inl l0)), .inl l1, .inl l2, .inl l3, PU] (pm_push r []) S1 K) := by
  refine (px_go (by decide +kernel : pm_fe 140 18 = some (.iload_n 1, 1)) rfl).trans ?_
  refine (px_go (by decide +kernel : pm_fe 140 19 = some (.iload_n 2, 1)) rfl).trans ?_
  refine (px_s2 (idx := 232) (m' := 55) (nest := 0) (by decide +kernel)).trans ((and_iff_right (by simp [pm_wl_n, pm_wl_c, pm_w] : pm_wl [] ≤ 8)).trans ?_)
  exact Iff.rfl
theorem b140_23 {d : Nat} {G : PG} {M T : PH} {K : PV → PS → Prop} {l0 l1 l2 l3 s0 : Int} : pm_Run d 140 23 [.inr (.inr (.inl l0)), .inl l1, .inl l2, .inl l3, PU] [.inl s0] (G, M, T) K ↔ if pm_sg l3 ≠ 0 then pm_Run d 140 40 [.inr (.inr (.inl l0)), .inl l1, .inl l2, .inl l3, .inl s0] [] (G, M, T) K else pm_Run d 140 29 [.inr (.inr (.inl l0)), .inl l1, .inl l2, .inl l3, .inl s0] [] (G, M, T) K := by
  refine (px_go (by decide +kernel : pm_fe 140 23 = some (.istore 4, 2)) rfl).trans ?_
  refine (px_go (by decide +kernel : pm_fe 140 25 = some (.iload_n 3, 1)) rfl).trans ?_
  refine (px_if_ne (off := 14) (tgt := 40) (by decide +kernel)).trans ?_
  exact Iff.rfl
theorem b140_29 {d : Nat} {G : PG} {M T : PH} {K : PV → PS → Prop} {l0 l1 l2 l3 l4 : Int} (h1 : pm_ob G l0 11) (h2 : pm_ob G (T l0.toNat 2) 5) (h3 : pm_ar G (T (T l0.toNat 2).toNat 4) 100 l4) : pm_Run d 140 29 [.inr (.inr (.inl l0)), .inl l1, .inl l2, .inl l3, .inl l4] [] (G, M, T) K ↔ K (.inl (M (T (T l0.toNat 2).toNat 4).toNat (pm_sg l4).toNat)) (G, M, T) := by
  refine (px_go (by decide +kernel : pm_fe 140 29 = some (.aload_n 0, 1)) rfl).trans ?_
  refine (px_get2 (idx := 20) (ci := 11) (k := 2) (by decide +kernel)).trans ((and_iff_right h1).trans ?_)
  refine (px_get2 (idx := 235) (ci := 5) (k := 4) (by decide +kernel)).trans ((and_iff_right h2).trans ?_)
  refine (px_go (by decide +kernel : pm_fe 140 36 = some (.iload 4, 2)) rfl).trans ?_
  refine (px_iaload (by decide +kernel) h3).trans ?_
  refine (px_ri (by decide +kernel)).trans ?_
  exact Iff.rfl
theorem b140_40 {d : Nat} {G : PG} {M T : PH} {K : PV → PS → Prop} {l0 l1 l2 l3 l4 : Int} : pm_Run d 140 40 [.inr (.inr (.inl l0)), .inl l1, .inl l2, .inl l3, .inl l4] [] (G, M, T) K ↔ if pm_sg l3 ≠ pm_sg 1 then pm_Run d 140 58 [.inr (.inr (.inl l0)), .inl l1, .inl l2, .inl l3, .inl l4] [] (G, M, T) K else pm_Run d 140 45 [.inr (.inr (.inl l0)), .inl l1, .inl l2, .inl l3, .inl l4] [] (G, M, T) K := by
  refine (px_go (by decide +kernel : pm_fe 140 40 = some (.iload_n 3, 1)) rfl).trans ?_
  refine (px_go (by decide +kernel : pm_fe 140 41 = some (.iconst 1, 1)) rfl).trans ?_
  refine (px_ic_ne (off := 16) (tgt := 58) (by decide +kernel)).trans ?_
  exact Iff.rfl
theorem b140_45 {d : Nat} {G : PG} {M T : PH} {K : PV → PS → Prop} {l0 l1 l2 l3 l4 : Int} (h1 : pm_ob G l0 11) (h2 : pm_ob G (T l0.toNat 2) 5) (h3 : pm_ar G (T (T l0.toNat 2).toNat 5) 100 l4) : pm_Run d 140 45 [.inr (.inr (.inl l0)), .inl l1, .inl l2, .inl l3, .inl l4] [] (G, M, T) K ↔ pm_Run d 140 59 [.inr (.inr (.inl l0)), .inl l1, .inl l2, .inl l3, .inl l4] [.inl (M (T (T l0.toNat 2).toNat 5).toNat (pm_sg l4).toNat)] (G, M, T) K := by
  refine (px_go (by decide +kernel : pm_fe 140 45 = some (.aload_n 0, 1)) rfl).trans ?_
  refine (px_get2 (idx := 20) (ci := 11) (k := 2) (by decide +kernel)).trans ((and_iff_right h1).trans ?_)
  refine (px_get2 (idx := 238) (ci := 5) (k := 5) (by decide +kernel)).trans ((and_iff_right h2).trans ?_)
  refine (px_go (by decide +kernel : pm_fe 140 52 = some (.iload 4, 2)) rfl).trans ?_
  refine (px_iaload (by decide +kernel) h3).trans ?_
  refine (px_goto (off := 4) (tgt := 59) (by decide +kernel)).trans ?_
  exact Iff.rfl
theorem b140_58 {d : Nat} {G : PG} {M T : PH} {K : PV → PS → Prop} {l0 l1 l2 l3 l4 : Int} : pm_Run d 140 58 [.inr (.inr (.inl l0)), .inl l1, .inl l2, .inl l3, .inl l4] [] (G, M, T) K ↔ pm_Run d 140 59 [.inr (.inr (.inl l0)), .inl l1, .inl l2, .inl l3, .inl l4] [.inl (-1)] (G, M, T) K := by
  refine (px_go (by decide +kernel : pm_fe 140 58 = some (.iconst (-1), 1)) rfl).trans ?_
  exact Iff.rfl
theorem b140_59 {d : Nat} {G : PG} {M T : PH} {K : PV → PS → Prop} {l0 l1 l2 l3 l4 s0 : Int} : pm_Run d 140 59 [.inr (.inr (.inl l0)), .inl l1, .inl l2, .inl l3, .inl l4] [.inl s0] (G, M, T) K ↔ K (.inl s0) (G, M, T) := by
  refine (px_ri (by decide +kernel)).trans ?_
  exact Iff.rfl
-- X11_pull pull(II)I
theorem en141 {d : Nat} {a p0 p1 : Int} {S : PS} {K : PV → PS → Prop} : pm_Call (d + 1) 141 [.inr (.inr (.inl a)), .inl p0, .inl p1] S K ↔ pm_Run d 141 0 [.inr (.inr (.inl a)), .inl p0, .inl p1] [] S K := pm_Call_s.trans (and_iff_right (show 3 ≤ pm_ml 141 from by decide +kernel))
theorem b141_0 {d : Nat} {G : PG} {M T : PH} {K : PV → PS → Prop} {l0 l1 l2 : Int} (h1 : pm_ob G l0 11) : pm_Run d 141 0 [.inr (.inr (.inl l0)), .inl l1, .inl l2] [] (G, M, T) K ↔ pm_Call d 169 [.inr (.inr (.inl l0)), .inl l1] (G, M, T) (fun r S1 => pm_Run d 141 5 [.inr (.inr (.inl l0)), .inl l1, .inl l2] (pm_push r []) S1 K) := by
  refine (px_go (by decide +kernel : pm_fe 141 0 = some (.aload_n 0, 1)) rfl).trans ?_
  refine (px_go (by decide +kernel : pm_fe 141 1 = some (.iload_n 1, 1)) rfl).trans ?_
  refine (px_v1 (idx := 165) (m' := 169) (ci := 11) (by decide +kernel)).trans ((and_iff_right ⟨h1, (by simp [pm_wl_n, pm_wl_c, pm_w] : pm_wl [] ≤ 8)⟩).trans ?_)
  exact Iff.rfl
theorem b141_5 {d : Nat} {G : PG} {M T : PH} {K : PV → PS → Prop} {l0 l1 l2 s0 : Int} : pm_Run d 141 5 [.inr (.inr (.inl l0)), .inl l1, .inl l2] [.inl s0] (G, M, T) K ↔ if pm_sg s0 = 0 then pm_Run d 141 16 [.inr (.inr (.inl l0)), .inl l1, .inl l2] [] (G, M, T) K else pm_Run d 141 8 [.inr (.inr (.inl l0)), .inl l1, .inl l2] [] (G, M, T) K := by
  refine (px_if_eq (off := 11) (tgt := 16) (by decide +kernel)).trans ?_
  exact Iff.rfl
theorem b141_8 {d : Nat} {G : PG} {M T : PH} {K : PV → PS → Prop} {l0 l1 l2 : Int} (h1 : pm_ob G l0 11) : pm_Run d 141 8 [.inr (.inr (.inl l0)), .inl l1, .inl l2] [] (G, M, T) K ↔ pm_Call d 171 [.inr (.inr (.inl l0)), .inl l2] (G, M, T) (fun r S1 => pm_Run d 141 13 [.inr (.inr (.inl l0)), .inl l1, .inl l2] (pm_push r []) S1 K) := by
  refine (px_go (by decide +kernel : pm_fe 141 8 = some (.aload_n 0, 1)) rfl).trans ?_
  refine (px_go (by decide +kernel : pm_fe 141 9 = some (.iload_n 2, 1)) rfl).trans ?_
  refine (px_v1 (idx := 241) (m' := 171) (ci := 11) (by decide +kernel)).trans ((and_iff_right ⟨h1, (by simp [pm_wl_n, pm_wl_c, pm_w] : pm_wl [] ≤ 8)⟩).trans ?_)
  exact Iff.rfl
theorem b141_13 {d : Nat} {G : PG} {M T : PH} {K : PV → PS → Prop} {l0 l1 l2 s0 : Int} : pm_Run d 141 13 [.inr (.inr (.inl l0)), .inl l1, .inl l2] [.inl s0] (G, M, T) K ↔ if pm_sg s0 ≠ 0 then pm_Run d 141 19 [.inr (.inr (.inl l0)), .inl l1, .inl l2] [] (G, M, T) K else pm_Run d 141 16 [.inr (.inr (.inl l0)), .inl l1, .inl l2] [] (G, M, T) K := by
  refine (px_if_ne (off := 6) (tgt := 19) (by decide +kernel)).trans ?_
  exact Iff.rfl
theorem b141_16 {d : Nat} {G : PG} {M T : PH} {K : PV → PS → Prop} {l0 l1 l2 : Int} : pm_Run d 141 16 [.inr (.inr (.inl l0)), .inl l1, .inl l2] [] (G, M, T) K ↔ K (.inl (-1000000000)) (G, M, T) := by
  refine (px_ldcI (idx := 244) (n := 2) (x := (-1000000000)) (by decide +kernel)).trans ?_
  refine (px_ri (by decide +kernel)).trans ?_
  exact Iff.rfl
theorem b141_19 {d : Nat} {G : PG} {M T : PH} {K : PV → PS → Prop} {l0 l1 l2 : Int} (h1 : pm_ob G l0 11) (h2 : pm_ob G (T l0.toNat 6) 2) : pm_Run d 141 19 [.inr (.inr (.inl l0)), .inl l1, .inl l2] [] (G, M, T) K ↔ pm_Call d 25 [.inr (.inr (.inl (T l0.toNat 6))), .inl 0] (G, M, T) (fun r S1 => pm_Run d 141 27 [.inr (.inr (.inl l0)), .inl l1, .inl l2] (pm_push r []) S1 K) := by
  refine (px_go (by decide +kernel : pm_fe 141 19 = some (.aload_n 0, 1)) rfl).trans ?_
  refine (px_get2 (idx := 50) (ci := 11) (k := 6) (by decide +kernel)).trans ((and_iff_right h1).trans ?_)
  refine (px_go (by decide +kernel : pm_fe 141 23 = some (.iconst 0, 1)) rfl).trans ?_
  refine (px_v1 (idx := 245) (m' := 25) (ci := 2) (by decide +kernel)).trans ((and_iff_right ⟨h2, (by simp [pm_wl_n, pm_wl_c, pm_w] : pm_wl [] ≤ 8)⟩).trans ?_)
  exact Iff.rfl
theorem b141_27 {d : Nat} {G : PG} {M T : PH} {K : PV → PS → Prop} {l0 l1 l2 : Int} (h1 : pm_ob G l0 11) (h2 : pm_ob G (T l0.toNat 6) 2) : pm_Run d 141 27 [.inr (.inr (.inl l0)), .inl l1, .inl l2] [] (G, M, T) K ↔ pm_Call d 26 [.inr (.inr (.inl (T l0.toNat 6))), .inl l1, .inl l2] (G, M, T) (fun r S1 => pm_Run d 141 36 [.inr (.inr (.inl l0)), .inl l1, .inl l2] (pm_push r []) S1 K) := by
  refine (px_go (by decide +kernel : pm_fe 141 27 = some (.aload_n 0, 1)) rfl).trans ?_
  refine (px_get2 (idx := 50) (ci := 11) (k := 6) (by decide +kernel)).trans ((and_iff_right h1).trans ?_)
  refine (px_go (by decide +kernel : pm_fe 141 31 = some (.iload_n 1, 1)) rfl).trans ?_
  refine (px_go (by decide +kernel : pm_fe 141 32 = some (.iload_n 2, 1)) rfl).trans ?_
  refine (px_v2 (idx := 248) (m' := 26) (ci := 2) (by decide +kernel)).trans ((and_iff_right ⟨h2, (by simp [pm_wl_n, pm_wl_c, pm_w] : pm_wl [] ≤ 8)⟩).trans ?_)
  exact Iff.rfl
theorem b141_36 {d : Nat} {G : PG} {M T : PH} {K : PV → PS → Prop} {l0 l1 l2 s0 : Int} : pm_Run d 141 36 [.inr (.inr (.inl l0)), .inl l1, .inl l2] [.inl s0] (G, M, T) K ↔ K (.inl s0) (G, M, T) := by
  refine (px_ri (by decide +kernel)).trans ?_
  exact Iff.rfl
-- X11_height height(II)I
theorem en142 {d : Nat} {a p0 p1 : Int} {S : PS} {K : PV → PS → Prop} : pm_Call (d + 1) 142 [.inr (.inr (.inl a)), .inl p0, .inl p1] S K ↔ pm_Run d 142 0 [.inr (.inr (.inl a)), .inl p0, .inl p1] [] S K := pm_Call_s.trans (and_iff_right (show 3 ≤ pm_ml 142 from by decide +kernel))
theorem b142_0 {d : Nat} {G : PG} {M T : PH} {K : PV → PS → Prop} {l0 l1 l2 : Int} (h1 : pm_ob G l0 11) : pm_Run d 142 0 [.inr (.inr (.inl l0)), .inl l1, .inl l2] [] (G, M, T) K ↔ pm_Call d 171 [.inr (.inr (.inl l0)), .inl l1] (G, M, T) (fun r S1 => pm_Run d 142 5 [.inr (.inr (.inl l0)), .inl l1, .inl l2] (pm_push r []) S1 K) := by
  refine (px_go (by decide +kernel : pm_fe 142 0 = some (.aload_n 0, 1)) rfl).trans ?_
  refine (px_go (by decide +kernel : pm_fe 142 1 = some (.iload_n 1, 1)) rfl).trans ?_
  refine (px_v1 (idx := 241) (m' := 171) (ci := 11) (by decide +kernel)).trans ((and_iff_right ⟨h1, (by simp [pm_wl_n, pm_wl_c, pm_w] : pm_wl [] ≤ 8)⟩).trans ?_)
  exact Iff.rfl
theorem b142_5 {d : Nat} {G : PG} {M T : PH} {K : PV → PS → Prop} {l0 l1 l2 s0 : Int} : pm_Run d 142 5 [.inr (.inr (.inl l0)), .inl l1, .inl l2] [.inl s0] (G, M, T) K ↔ if pm_sg s0 = 0 then pm_Run d 142 19 [.inr (.inr (.inl l0)), .inl l1, .inl l2] [] (G, M, T) K else pm_Run d 142 8 [.inr (.inr (.inl l0)), .inl l1, .inl l2] [] (G, M, T) K := by
  refine (px_if_eq (off := 14) (tgt := 19) (by decide +kernel)).trans ?_
  exact Iff.rfl
theorem b142_8 {d : Nat} {G : PG} {M T : PH} {K : PV → PS → Prop} {l0 l1 l2 : Int} (h1 : pm_ob G l0 11) (h2 : pm_ob G (T l0.toNat 6) 2) : pm_Run d 142 8 [.inr (.inr (.inl l0)), .inl l1, .inl l2] [] (G, M, T) K ↔ pm_Call d 24 [.inr (.inr (.inl (T l0.toNat 6))), .inl l2] (G, M, T) (fun r S1 => pm_Run d 142 16 [.inr (.inr (.inl l0)), .inl l1, .inl l2] (pm_push r []) S1 K) := by
  refine (px_go (by decide +kernel : pm_fe 142 8 = some (.aload_n 0, 1)) rfl).trans ?_
  refine (px_get2 (idx := 50) (ci := 11) (k := 6) (by decide +kernel)).trans ((and_iff_right h1).trans ?_)
  refine (px_go (by decide +kernel : pm_fe 142 12 = some (.iload_n 2, 1)) rfl).trans ?_
  refine (px_v1 (idx := 251) (m' := 24) (ci := 2) (by decide +kernel)).trans ((and_iff_right ⟨h2, (by simp [pm_wl_n, pm_wl_c, pm_w] : pm_wl [] ≤ 8)⟩).trans ?_)
  exact Iff.rfl
theorem b142_16 {d : Nat} {G : PG} {M T : PH} {K : PV → PS → Prop} {l0 l1 l2 s0 : Int} : pm_Run d 142 16 [.inr (.inr (.inl l0)), .inl l1, .inl l2] [.inl s0] (G, M, T) K ↔ if pm_sg s0 ≠ 0 then pm_Run d 142 22 [.inr (.inr (.inl l0)), .inl l1, .inl l2] [] (G, M, T) K else pm_Run d 142 19 [.inr (.inr (.inl l0)), .inl l1, .inl l2] [] (G, M, T) K := by
  refine (px_if_ne (off := 6) (tgt := 22) (by decide +kernel)).trans ?_
  exact Iff.rfl
theorem b142_19 {d : Nat} {G : PG} {M T : PH} {K : PV → PS → Prop} {l0 l1 l2 : Int} : pm_Run d 142 19 [.inr (.inr (.inl l0)), .inl l1, .inl l2] [] (G, M, T) K ↔ K (.inl (-1000000000)) (G, M, T) := by
  refine (px_ldcI (idx := 244) (n := 2) (x := (-1000000000)) (by decide +kernel)).trans ?_
  refine (px_ri (by decide +kernel)).trans ?_
  exact Iff.rfl
theorem b142_22 {d : Nat} {G : PG} {M T : PH} {K : PV → PS → Prop} {l0 l1 l2 : Int} (h1 : pm_ob G l0 11) (h2 : pm_ob G (T l0.toNat 6) 2) : pm_Run d 142 22 [.inr (.inr (.inl l0)), .inl l1, .inl l2] [] (G, M, T) K ↔ pm_Call d 25 [.inr (.inr (.inl (T l0.toNat 6))), .inl l2] (G, M, T) (fun r S1 => pm_Run d 142 30 [.inr (.inr (.inl l0)), .inl l1, .inl l2] (pm_push r []) S1 K) := by
  refine (px_go (by decide +kernel : pm_fe 142 22 = some (.aload_n 0, 1)) rfl).trans ?_
  refine (px_get2 (idx := 50) (ci := 11) (k := 6) (by decide +kernel)).trans ((and_iff_right h1).trans ?_)
  refine (px_go (by decide +kernel : pm_fe 142 26 = some (.iload_n 2, 1)) rfl).trans ?_
  refine (px_v1 (idx := 245) (m' := 25) (ci := 2) (by decide +kernel)).trans ((and_iff_right ⟨h2, (by simp [pm_wl_n, pm_wl_c, pm_w] : pm_wl [] ≤ 8)⟩).trans ?_)
  exact Iff.rfl
theorem b142_30 {d : Nat} {G : PG} {M T : PH} {K : PV → PS → Prop} {l0 l1 l2 : Int} (h1 : pm_ob G l0 11) (h2 : pm_ob G (T l0.toNat 6) 2) : pm_Run d 142 30 [.inr (.inr (.inl l0)), .inl l1, .inl l2] [] (G, M, T) K ↔ pm_Call d 27 [.inr (.inr (.inl (T l0.toNat 6))), .inl l1, .inl l2] (G, M, T) (fun r S1 => pm_Run d 142 39 [.inr (.inr (.inl l0)), .inl l1, .inl l2] (pm_push r []) S1 K) := by
  refine (px_go (by decide +kernel : pm_fe 142 30 = some (.aload_n 0, 1)) rfl).trans ?_
  refine (px_get2 (idx := 50) (ci := 11) (k := 6) (by decide +kernel)).trans ((and_iff_right h1).trans ?_)
  refine (px_go (by decide +kernel : pm_fe 142 34 = some (.iload_n 1, 1)) rfl).trans ?_
  refine (px_go (by decide +kernel : pm_fe 142 35 = some (.iload_n 2, 1)) rfl).trans ?_
  refine (px_v2 (idx := 254) (m' := 27) (ci := 2) (by decide +kernel)).trans ((and_iff_right ⟨h2, (by simp [pm_wl_n, pm_wl_c, pm_w] : pm_wl [] ≤ 8)⟩).trans ?_)
  exact Iff.rfl
theorem b142_39 {d : Nat} {G : PG} {M T : PH} {K : PV → PS → Prop} {l0 l1 l2 s0 : Int} : pm_Run d 142 39 [.inr (.inr (.inl l0)), .inl l1, .inl l2] [.inl s0] (G, M, T) K ↔ K (.inl s0) (G, M, T) := by
  refine (px_ri (by decide +kernel)).trans ?_
  exact Iff.rfl
-- X11_ahead ahead(III)I
theorem en143 {d : Nat} {a p0 p1 p2 : Int} {S : PS} {K : PV → PS → Prop} : pm_Call (d + 1) 143 [.inr (.inr (.inl a)), .inl p0, .inl p1, .inl p2] S K ↔ pm_Run d 143 0 [.inr (.inr (.inl a)), .inl p0, .inl p1, .inl p2] [] S K := pm_Call_s.trans (and_iff_right (show 4 ≤ pm_ml 143 from by decide +kernel))
theorem b143_0 {d : Nat} {G : PG} {M T : PH} {K : PV → PS → Prop} {l0 l1 l2 l3 : Int} (h1 : pm_ob G l0 11) : pm_Run d 143 0 [.inr (.inr (.inl l0)), .inl l1, .inl l2, .inl l3] [] (G, M, T) K ↔ pm_Call d 170 [.inr (.inr (.inl l0)), .inl l1] (G, M, T) (fun r S1 => pm_Run d 143 5 [.inr (.inr (.inl l0)), .inl l1, .inl l2, .inl l3] (pm_push r []) S1 K) := by
  refine (px_go (by decide +kernel : pm_fe 143 0 = some (.aload_n 0, 1)) rfl).trans ?_
  refine (px_go (by decide +kernel : pm_fe 143 1 = some (.iload_n 1, 1)) rfl).trans ?_
  refine (px_v1 (idx := 178) (m' := 170) (ci := 11) (by decide +kernel)).trans ((and_iff_right ⟨h1, (by simp [pm_wl_n, pm_wl_c, pm_w] : pm_wl [] ≤ 8)⟩).trans ?_)
  exact Iff.rfl
theorem b143_5 {d : Nat} {G : PG} {M T : PH} {K : PV → PS → Prop} {l0 l1 l2 l3 s0 : Int} : pm_Run d 143 5 [.inr (.inr (.inl l0)), .inl l1, .inl l2, .inl l3] [.inl s0] (G, M, T) K ↔ if pm_sg s0 = 0 then pm_Run d 143 19 [.inr (.inr (.inl l0)), .inl l1, .inl l2, .inl l3] [] (G, M, T) K else pm_Run d 143 8 [.inr (.inr (.inl l0)), .inl l1, .inl l2, .inl l3] [] (G, M, T) K := by
  refine (px_if_eq (off := 14) (tgt := 19) (by decide +kernel)).trans ?_
  exact Iff.rfl
theorem b143_8 {d : Nat} {G : PG} {M T : PH} {K : PV → PS → Prop} {l0 l1 l2 l3 : Int} (h1 : pm_ob G l0 11) (h2 : pm_ob G (T l0.toNat 6) 2) : pm_Run d 143 8 [.inr (.inr (.inl l0)), .inl l1, .inl l2, .inl l3] [] (G, M, T) K ↔ pm_Call d 24 [.inr (.inr (.inl (T l0.toNat 6))), .inl l2] (G, M, T) (fun r S1 => pm_Run d 143 16 [.inr (.inr (.inl l0)), .inl l1, .inl l2, .inl l3] (pm_push r []) S1 K) := by
  refine (px_go (by decide +kernel : pm_fe 143 8 = some (.aload_n 0, 1)) rfl).trans ?_
  refine (px_get2 (idx := 50) (ci := 11) (k := 6) (by decide +kernel)).trans ((and_iff_right h1).trans ?_)
  refine (px_go (by decide +kernel : pm_fe 143 12 = some (.iload_n 2, 1)) rfl).trans ?_
  refine (px_v1 (idx := 251) (m' := 24) (ci := 2) (by decide +kernel)).trans ((and_iff_right ⟨h2, (by simp [pm_wl_n, pm_wl_c, pm_w] : pm_wl [] ≤ 8)⟩).trans ?_)
  exact Iff.rfl
theorem b143_16 {d : Nat} {G : PG} {M T : PH} {K : PV → PS → Prop} {l0 l1 l2 l3 s0 : Int} : pm_Run d 143 16 [.inr (.inr (.inl l0)), .inl l1, .inl l2, .inl l3] [.inl s0] (G, M, T) K ↔ if pm_sg s0 ≠ 0 then pm_Run d 143 21 [.inr (.inr (.inl l0)), .inl l1, .inl l2, .inl l3] [] (G, M, T) K else pm_Run d 143 19 [.inr (.inr (.inl l0)), .inl l1, .inl l2, .inl l3] [] (G, M, T) K := by
  refine (px_if_ne (off := 5) (tgt := 21) (by decide +kernel)).trans ?_
  exact Iff.rfl
theorem b143_19 {d : Nat} {G : PG} {M T : PH} {K : PV → PS → Prop} {l0 l1 l2 l3 : Int} : pm_Run d 143 19 [.inr (.inr (.inl l0)), .inl l1, .inl l2, .inl l3] [] (G, M, T) K ↔ K (.inl (-1)) (G, M, T) := by
  refine (px_go (by decide +kernel : pm_fe 143 19 = some (.iconst (-1), 1)) rfl).trans ?_
  refine (px_ri (by decide +kernel)).trans ?_
  exact Iff.rfl
theorem b143_21 {d : Nat} {G : PG} {M T : PH} {K : PV → PS → Prop} {l0 l1 l2 l3 : Int} (h1 : pm_ob G l0 11) (h2 : pm_ob G (T l0.toNat 6) 2) : pm_Run d 143 21 [.inr (.inr (.inl l0)), .inl l1, .inl l2, .inl l3] [] (G, M, T) K ↔ pm_Call d 25 [.inr (.inr (.inl (T l0.toNat 6))), .inl l2] (G, M, T) (fun r S1 => pm_Run d 143 29 [.inr (.inr (.inl l0)), .inl l1, .inl l2, .inl l3] (pm_push r []) S1 K) := by
  refine (px_go (by decide +kernel : pm_fe 143 21 = some (.aload_n 0, 1)) rfl).trans ?_
  refine (px_get2 (idx := 50) (ci := 11) (k := 6) (by decide +kernel)).trans ((and_iff_right h1).trans ?_)
  refine (px_go (by decide +kernel : pm_fe 143 25 = some (.iload_n 2, 1)) rfl).trans ?_
  refine (px_v1 (idx := 245) (m' := 25) (ci := 2) (by decide +kernel)).trans ((and_iff_right ⟨h2, (by simp [pm_wl_n, pm_wl_c, pm_w] : pm_wl [] ≤ 8)⟩).trans ?_)
  exact Iff.rfl
theorem b143_29 {d : Nat} {G : PG} {M T : PH} {K : PV → PS → Prop} {l0 l1 l2 l3 : Int} : pm_Run d 143 29 [.inr (.inr (.inl l0)), .inl l1, .inl l2, .inl l3] [] (G, M, T) K ↔ pm_Run d 143 (pm_tg 0 [56, 66, 84] 94 (pm_sg l3)) [.inr (.inr (.inl l0)), .inl l1, .inl l2, .inl l3] [] (G, M, T) K := by
  refine (px_go (by decide +kernel : pm_fe 143 29 = some (.iload_n 3, 1)) rfl).trans ?_
  refine (px_tsw (lo := 0) (dt := 94) (tl := [56, 66, 84]) (by decide +kernel : pm_fe 143 30 = some (.tableswitch 64 0 2 #[26, 36, 54], 26) ∧ _)).trans ?_
  exact Iff.rfl
theorem b143_56 {d : Nat} {G : PG} {M T : PH} {K : PV → PS → Prop} {l0 l1 l2 l3 : Int} (h1 : pm_ob G l0 11) (h2 : pm_ob G (T l0.toNat 6) 2) : pm_Run d 143 56 [.inr (.inr (.inl l0)), .inl l1, .inl l2, .inl l3] [] (G, M, T) K ↔ pm_Call d 28 [.inr (.inr (.inl (T l0.toNat 6))), .inl l1, .inl l2] (G, M, T) (fun r S1 => pm_Run d 143 65 [.inr (.inr (.inl l0)), .inl l1, .inl l2, .inl l3] (pm_push r []) S1 K) := by
  refine (px_go (by decide +kernel : pm_fe 143 56 = some (.aload_n 0, 1)) rfl).trans ?_
  refine (px_get2 (idx := 50) (ci := 11) (k := 6) (by decide +kernel)).trans ((and_iff_right h1).trans ?_)
  refine (px_go (by decide +kernel : pm_fe 143 60 = some (.iload_n 1, 1)) rfl).trans ?_
  refine (px_go (by decide +kernel : pm_fe 143 61 = some (.iload_n 2, 1)) rfl).trans ?_
  refine (px_v2 (idx := 257) (m' := 28) (ci := 2) (by decide +kernel)).trans ((and_iff_right ⟨h2, (by simp [pm_wl_n, pm_wl_c, pm_w] : pm_wl [] ≤ 8)⟩).trans ?_)
  exact Iff.rfl
theorem b143_65 {d : Nat} {G : PG} {M T : PH} {K : PV → PS → Prop} {l0 l1 l2 l3 s0 : Int} : pm_Run d 143 65 [.inr (.inr (.inl l0)), .inl l1, .inl l2, .inl l3] [.inl s0] (G, M, T) K ↔ K (.inl s0) (G, M, T) := by
  refine (px_ri (by decide +kernel)).trans ?_
  exact Iff.rfl
theorem b143_66 {d : Nat} {G : PG} {M T : PH} {K : PV → PS → Prop} {l0 l1 l2 l3 : Int} (h1 : pm_ob G l0 11) (h2 : pm_ob G (T l0.toNat 6) 2) : pm_Run d 143 66 [.inr (.inr (.inl l0)), .inl l1, .inl l2, .inl l3] [] (G, M, T) K ↔ pm_Call d 30 [.inr (.inr (.inl (T l0.toNat 6))), .inl l1, .inl l2] (G, M, T) (fun r S1 => pm_Run d 143 75 [.inr (.inr (.inl l0)), .inl l1, .inl l2, .inl l3] (pm_push r []) S1 K) := by
  refine (px_go (by decide +kernel : pm_fe 143 66 = some (.aload_n 0, 1)) rfl).trans ?_
  refine (px_get2 (idx := 50) (ci := 11) (k := 6) (by decide +kernel)).trans ((and_iff_right h1).trans ?_)
  refine (px_go (by decide +kernel : pm_fe 143 70 = some (.iload_n 1, 1)) rfl).trans ?_
  refine (px_go (by decide +kernel : pm_fe 143 71 = some (.iload_n 2, 1)) rfl).trans ?_
  refine (px_v2 (idx := 260) (m' := 30) (ci := 2) (by decide +kernel)).trans ((and_iff_right ⟨h2, (by simp [pm_wl_n, pm_wl_c, pm_w] : pm_wl [] ≤ 8)⟩).trans ?_)
  exact Iff.rfl
theorem b143_75 {d : Nat} {G : PG} {M T : PH} {K : PV → PS → Prop} {l0 l1 l2 l3 s0 : Int} : pm_Run d 143 75 [.inr (.inr (.inl l0)), .inl l1, .inl l2, .inl l3] [.inl s0] (G, M, T) K ↔ if pm_sg s0 = 0 then pm_Run d 143 82 [.inr (.inr (.inl l0)), .inl l1, .inl l2, .inl l3] [] (G, M, T) K else pm_Run d 143 78 [.inr (.inr (.inl l0)), .inl l1, .inl l2, .inl l3] [] (G, M, T) K := by
  refine (px_if_eq (off := 7) (tgt := 82) (by decide +kernel)).trans ?_
  exact Iff.rfl
theorem b143_78 {d : Nat} {G : PG} {M T : PH} {K : PV → PS → Prop} {l0 l1 l2 l3 : Int} : pm_Run d 143 78 [.inr (.inr (.inl l0)), .inl l1, .inl l2, .inl l3] [] (G, M, T) K ↔ pm_Run d 143 83 [.inr (.inr (.inl l0)), .inl l1, .inl l2, .inl l3] [.inl 1] (G, M, T) K := by
  refine (px_go (by decide +kernel : pm_fe 143 78 = some (.iconst 1, 1)) rfl).trans ?_
  refine (px_goto (off := 4) (tgt := 83) (by decide +kernel)).trans ?_
  exact Iff.rfl
theorem b143_82 {d : Nat} {G : PG} {M T : PH} {K : PV → PS → Prop} {l0 l1 l2 l3 : Int} : pm_Run d 143 82 [.inr (.inr (.inl l0)), .inl l1, .inl l2, .inl l3] [] (G, M, T) K ↔ pm_Run d 143 83 [.inr (.inr (.inl l0)), .inl l1, .inl l2, .inl l3] [.inl 0] (G, M, T) K := by
  refine (px_go (by decide +kernel : pm_fe 143 82 = some (.iconst 0, 1)) rfl).trans ?_
  exact Iff.rfl
theorem b143_83 {d : Nat} {G : PG} {M T : PH} {K : PV → PS → Prop} {l0 l1 l2 l3 s0 : Int} : pm_Run d 143 83 [.inr (.inr (.inl l0)), .inl l1, .inl l2, .inl l3] [.inl s0] (G, M, T) K ↔ K (.inl s0) (G, M, T) := by
  refine (px_ri (by decide +kernel)).trans ?_
  exact Iff.rfl
theorem b143_84 {d : Nat} {G : PG} {M T : PH} {K : PV → PS → Prop} {l0 l1 l2 l3 : Int} (h1 : pm_ob G l0 11) (h2 : pm_ob G (T l0.toNat 6) 2) : pm_Run d 143 84 [.inr (.inr (.inl l0)), .inl l1, .inl l2, .inl l3] [] (G, M, T) K ↔ pm_Call d 29 [.inr (.inr (.inl (T l0.toNat 6))), .inl l1, .inl l2] (G, M, T) (fun r S1 => pm_Run d 143 93 [.inr (.inr (.inl l0)), .inl l1, .inl l2, .inl l3] (pm_push r []) S1 K) := by
  refine (px_go (by decide +kernel : pm_fe 143 84 = some (.aload_n 0, 1)) rfl).trans ?_
  refine (px_get2 (idx := 50) (ci := 11) (k := 6) (by decide +kernel)).trans ((and_iff_right h1).trans ?_)
  refine (px_go (by decide +kernel : pm_fe 143 88 = some (.iload_n 1, 1)) rfl).trans ?_
  refine (px_go (by decide +kernel : pm_fe 143 89 = some (.iload_n 2, 1)) rfl).trans ?_
  refine (px_v2 (idx := 264) (m' := 29) (ci := 2) (by decide +kernel)).trans ((and_iff_right ⟨h2, (by simp [pm_wl_n, pm_wl_c, pm_w] : pm_wl [] ≤ 8)⟩).trans ?_)
  exact Iff.rfl
theorem b143_93 {d : Nat} {G : PG} {M T : PH} {K : PV → PS → Prop} {l0 l1 l2 l3 s0 : Int} : pm_Run d 143 93 [.inr (.inr (.inl l0)), .inl l1, .inl l2, .inl l3] [.inl s0] (G, M, T) K ↔ K (.inl s0) (G, M, T) := by
  refine (px_ri (by decide +kernel)).trans ?_
  exact Iff.rfl
theorem b143_94 {d : Nat} {G : PG} {M T : PH} {K : PV → PS → Prop} {l0 l1 l2 l3 : Int} : pm_Run d 143 94 [.inr (.inr (.inl l0)), .inl l1, .inl l2, .inl l3] [] (G, M, T) K ↔ K (.inl (-1)) (G, M, T) := by
  refine (px_go (by decide +kernel : pm_fe 143 94 = some (.iconst (-1), 1)) rfl).trans ?_
  refine (px_ri (by decide +kernel)).trans ?_
  exact Iff.rfl
-- X11_broken broken(I)I
theorem en144 {d : Nat} {a p0 : Int} {S : PS} {K : PV → PS → Prop} : pm_Call (d + 1) 144 [.inr (.inr (.inl a)), .inl p0] S K ↔ pm_Run d 144 0 [.inr (.inr (.inl a)), .inl p0] [] S K := pm_Call_s.trans (and_iff_right (show 2 ≤ pm_ml 144 from by decide +kernel))
theorem b144_0 {d : Nat} {G : PG} {M T : PH} {K : PV → PS → Prop} {l0 l1 : Int} : pm_Run d 144 0 [.inr (.inr (.inl l0)), .inl l1] [] (G, M, T) K ↔ if pm_sg l1 < 0 then pm_Run d 144 19 [.inr (.inr (.inl l0)), .inl l1] [] (G, M, T) K else pm_Run d 144 4 [.inr (.inr (.inl l0)), .inl l1] [] (G, M, T) K := by
  refine (px_go (by decide +kernel : pm_fe 144 0 = some (.iload_n 1, 1)) rfl).trans ?_
  refine (px_if_lt (off := 18) (tgt := 19) (by decide +kernel)).trans ?_
  exact Iff.rfl
theorem b144_4 {d : Nat} {G : PG} {M T : PH} {K : PV → PS → Prop} {l0 l1 : Int} : pm_Run d 144 4 [.inr (.inr (.inl l0)), .inl l1] [] (G, M, T) K ↔ if pm_sg 2 < pm_sg l1 then pm_Run d 144 19 [.inr (.inr (.inl l0)), .inl l1] [] (G, M, T) K else pm_Run d 144 9 [.inr (.inr (.inl l0)), .inl l1] [] (G, M, T) K := by
  refine (px_go (by decide +kernel : pm_fe 144 4 = some (.iload_n 1, 1)) rfl).trans ?_
  refine (px_go (by decide +kernel : pm_fe 144 5 = some (.iconst 2, 1)) rfl).trans ?_
  refine (px_ic_gt (off := 13) (tgt := 19) (by decide +kernel)).trans ?_
  exact Iff.rfl
theorem b144_9 {d : Nat} {G : PG} {M T : PH} {K : PV → PS → Prop} {l0 l1 : Int} (h1 : pm_ob G l0 11) (h2 : pm_ob G (T l0.toNat 6) 2) : pm_Run d 144 9 [.inr (.inr (.inl l0)), .inl l1] [] (G, M, T) K ↔ pm_Call d 33 [.inr (.inr (.inl (T l0.toNat 6)))] (G, M, T) (fun r S1 => pm_Run d 144 16 [.inr (.inr (.inl l0)), .inl l1] (pm_push r []) S1 K) := by
  refine (px_go (by decide +kernel : pm_fe 144 9 = some (.aload_n 0, 1)) rfl).trans ?_
  refine (px_get2 (idx := 50) (ci := 11) (k := 6) (by decide +kernel)).trans ((and_iff_right h1).trans ?_)
  refine (px_v0 (idx := 266) (m' := 33) (ci := 2) (by decide +kernel)).trans ((and_iff_right ⟨h2, (by simp [pm_wl_n, pm_wl_c, pm_w] : pm_wl [] ≤ 8)⟩).trans ?_)
  exact Iff.rfl
theorem b144_16 {d : Nat} {G : PG} {M T : PH} {K : PV → PS → Prop} {l0 l1 s0 : Int} : pm_Run d 144 16 [.inr (.inr (.inl l0)), .inl l1] [.inl s0] (G, M, T) K ↔ if pm_sg s0 ≠ 0 then pm_Run d 144 21 [.inr (.inr (.inl l0)), .inl l1] [] (G, M, T) K else pm_Run d 144 19 [.inr (.inr (.inl l0)), .inl l1] [] (G, M, T) K := by
  refine (px_if_ne (off := 5) (tgt := 21) (by decide +kernel)).trans ?_
  exact Iff.rfl
theorem b144_19 {d : Nat} {G : PG} {M T : PH} {K : PV → PS → Prop} {l0 l1 : Int} : pm_Run d 144 19 [.inr (.inr (.inl l0)), .inl l1] [] (G, M, T) K ↔ K (.inl (-1)) (G, M, T) := by
  refine (px_go (by decide +kernel : pm_fe 144 19 = some (.iconst (-1), 1)) rfl).trans ?_
  refine (px_ri (by decide +kernel)).trans ?_
  exact Iff.rfl
theorem b144_21 {d : Nat} {G : PG} {M T : PH} {K : PV → PS → Prop} {l0 l1 : Int} : pm_Run d 144 21 [.inr (.inr (.inl l0)), .inl l1] [] (G, M, T) K ↔ if pm_sg l1 ≠ 0 then pm_Run d 144 33 [.inr (.inr (.inl l0)), .inl l1] [] (G, M, T) K else pm_Run d 144 25 [.inr (.inr (.inl l0)), .inl l1] [] (G, M, T) K := by
  refine (px_go (by decide +kernel : pm_fe 144 21 = some (.iload_n 1, 1)) rfl).trans ?_
  refine (px_if_ne (off := 11) (tgt := 33) (by decide +kernel)).trans ?_
  exact Iff.rfl
theorem b144_25 {d : Nat} {G : PG} {M T : PH} {K : PV → PS → Prop} {l0 l1 : Int} (h1 : pm_ob G l0 11) (h2 : pm_ob G (T l0.toNat 6) 2) : pm_Run d 144 25 [.inr (.inr (.inl l0)), .inl l1] [] (G, M, T) K ↔ K (.inl (M (T l0.toNat 6).toNat 10)) (G, M, T) := by
  refine (px_go (by decide +kernel : pm_fe 144 25 = some (.aload_n 0, 1)) rfl).trans ?_
  refine (px_get2 (idx := 50) (ci := 11) (k := 6) (by decide +kernel)).trans ((and_iff_right h1).trans ?_)
  refine (px_get0 (idx := 270) (ci := 2) (k := 10) (by decide +kernel)).trans ((and_iff_right h2).trans ?_)
  refine (px_ri (by decide +kernel)).trans ?_
  exact Iff.rfl
theorem b144_33 {d : Nat} {G : PG} {M T : PH} {K : PV → PS → Prop} {l0 l1 : Int} : pm_Run d 144 33 [.inr (.inr (.inl l0)), .inl l1] [] (G, M, T) K ↔ if pm_sg l1 ≠ pm_sg 1 then pm_Run d 144 48 [.inr (.inr (.inl l0)), .inl l1] [] (G, M, T) K else pm_Run d 144 38 [.inr (.inr (.inl l0)), .inl l1] [] (G, M, T) K := by
  refine (px_go (by decide +kernel : pm_fe 144 33 = some (.iload_n 1, 1)) rfl).trans ?_
  refine (px_go (by decide +kernel : pm_fe 144 34 = some (.iconst 1, 1)) rfl).trans ?_
  refine (px_ic_ne (off := 13) (tgt := 48) (by decide +kernel)).trans ?_
  exact Iff.rfl
theorem b144_38 {d : Nat} {G : PG} {M T : PH} {K : PV → PS → Prop} {l0 l1 : Int} (h1 : pm_ob G l0 11) (h2 : pm_ob G (T l0.toNat 6) 2) : pm_Run d 144 38 [.inr (.inr (.inl l0)), .inl l1] [] (G, M, T) K ↔ pm_Run d 144 55 [.inr (.inr (.inl l0)), .inl l1] [.inl (M (T l0.toNat 6).toNat 11)] (G, M, T) K := by
  refine (px_go (by decide +kernel : pm_fe 144 38 = some (.aload_n 0, 1)) rfl).trans ?_
  refine (px_get2 (idx := 50) (ci := 11) (k := 6) (by decide +kernel)).trans ((and_iff_right h1).trans ?_)
  refine (px_get0 (idx := 273) (ci := 2) (k := 11) (by decide +kernel)).trans ((and_iff_right h2).trans ?_)
  refine (px_goto (off := 10) (tgt := 55) (by decide +kernel)).trans ?_
  exact Iff.rfl
theorem b144_48 {d : Nat} {G : PG} {M T : PH} {K : PV → PS → Prop} {l0 l1 : Int} (h1 : pm_ob G l0 11) (h2 : pm_ob G (T l0.toNat 6) 2) : pm_Run d 144 48 [.inr (.inr (.inl l0)), .inl l1] [] (G, M, T) K ↔ pm_Run d 144 55 [.inr (.inr (.inl l0)), .inl l1] [.inl (M (T l0.toNat 6).toNat 12)] (G, M, T) K := by
  refine (px_go (by decide +kernel : pm_fe 144 48 = some (.aload_n 0, 1)) rfl).trans ?_
  refine (px_get2 (idx := 50) (ci := 11) (k := 6) (by decide +kernel)).trans ((and_iff_right h1).trans ?_)
  refine (px_get0 (idx := 276) (ci := 2) (k := 12) (by decide +kernel)).trans ((and_iff_right h2).trans ?_)
  exact Iff.rfl
theorem b144_55 {d : Nat} {G : PG} {M T : PH} {K : PV → PS → Prop} {l0 l1 s0 : Int} : pm_Run d 144 55 [.inr (.inr (.inl l0)), .inl l1] [.inl s0] (G, M, T) K ↔ K (.inl s0) (G, M, T) := by
  refine (px_ri (by decide +kernel)).trans ?_
  exact Iff.rfl
-- X11_stranded stranded(II)I
theorem en145 {d : Nat} {a p0 p1 : Int} {S : PS} {K : PV → PS → Prop} : pm_Call (d + 1) 145 [.inr (.inr (.inl a)), .inl p0, .inl p1] S K ↔ pm_Run d 145 0 [.inr (.inr (.inl a)), .inl p0, .inl p1] [] S K := pm_Call_s.trans (and_iff_right (show 3 ≤ pm_ml 145 from by decide +kernel))
theorem b145_0 {d : Nat} {G : PG} {M T : PH} {K : PV → PS → Prop} {l0 l1 l2 : Int} (h1 : pm_ob G l0 11) (h2 : pm_ob G (T l0.toNat 6) 2) : pm_Run d 145 0 [.inr (.inr (.inl l0)), .inl l1, .inl l2] [] (G, M, T) K ↔ pm_Call d 24 [.inr (.inr (.inl (T l0.toNat 6))), .inl l1] (G, M, T) (fun r S1 => pm_Run d 145 8 [.inr (.inr (.inl l0)), .inl l1, .inl l2] (pm_push r []) S1 K) := by
  refine (px_go (by decide +kernel : pm_fe 145 0 = some (.aload_n 0, 1)) rfl).trans ?_
  refine (px_get2 (idx := 50) (ci := 11) (k := 6) (by decide +kernel)).trans ((and_iff_right h1).trans ?_)
  refine (px_go (by decide +kernel : pm_fe 145 4 = some (.iload_n 1, 1)) rfl).trans ?_
  refine (px_v1 (idx := 251) (m' := 24) (ci := 2) (by decide +kernel)).trans ((and_iff_right ⟨h2, (by simp [pm_wl_n, pm_wl_c, pm_w] : pm_wl [] ≤ 8)⟩).trans ?_)
  exact Iff.rfl
theorem b145_8 {d : Nat} {G : PG} {M T : PH} {K : PV → PS → Prop} {l0 l1 l2 s0 : Int} : pm_Run d 145 8 [.inr (.inr (.inl l0)), .inl l1, .inl l2] [.inl s0] (G, M, T) K ↔ if pm_sg s0 ≠ 0 then pm_Run d 145 13 [.inr (.inr (.inl l0)), .inl l1, .inl l2] [] (G, M, T) K else pm_Run d 145 11 [.inr (.inr (.inl l0)), .inl l1, .inl l2] [] (G, M, T) K := by
  refine (px_if_ne (off := 5) (tgt := 13) (by decide +kernel)).trans ?_
  exact Iff.rfl
theorem b145_11 {d : Nat} {G : PG} {M T : PH} {K : PV → PS → Prop} {l0 l1 l2 : Int} : pm_Run d 145 11 [.inr (.inr (.inl l0)), .inl l1, .inl l2] [] (G, M, T) K ↔ K (.inl (-1)) (G, M, T) := by
  refine (px_go (by decide +kernel : pm_fe 145 11 = some (.iconst (-1), 1)) rfl).trans ?_
  refine (px_ri (by decide +kernel)).trans ?_
  exact Iff.rfl
theorem b145_13 {d : Nat} {G : PG} {M T : PH} {K : PV → PS → Prop} {l0 l1 l2 : Int} : pm_Run d 145 13 [.inr (.inr (.inl l0)), .inl l1, .inl l2] [] (G, M, T) K ↔ if pm_sg l2 ≠ 0 then pm_Run d 145 34 [.inr (.inr (.inl l0)), .inl l1, .inl l2] [] (G, M, T) K else pm_Run d 145 17 [.inr (.inr (.inl l0)), .inl l1, .inl l2] [] (G, M, T) K := by
  refine (px_go (by decide +kernel : pm_fe 145 13 = some (.iload_n 2, 1)) rfl).trans ?_
  refine (px_if_ne (off := 20) (tgt := 34) (by decide +kernel)).trans ?_
  exact Iff.rfl
theorem b145_17 {d : Nat} {G : PG} {M T : PH} {K : PV → PS → Prop} {l0 l1 l2 : Int} (h1 : pm_ob G l0 11) (h2 : pm_ob G (T l0.toNat 6) 2) : pm_Run d 145 17 [.inr (.inr (.inl l0)), .inl l1, .inl l2] [] (G, M, T) K ↔ pm_Call d 25 [.inr (.inr (.inl (T l0.toNat 6))), .inl l1] (G, M, T) (fun r S1 => pm_Run d 145 25 [.inr (.inr (.inl l0)), .inl l1, .inl l2] (pm_push r []) S1 K) := by
  refine (px_go (by decide +kernel : pm_fe 145 17 = some (.aload_n 0, 1)) rfl).trans ?_
  refine (px_get2 (idx := 50) (ci := 11) (k := 6) (by decide +kernel)).trans ((and_iff_right h1).trans ?_)
  refine (px_go (by decide +kernel : pm_fe 145 21 = some (.iload_n 1, 1)) rfl).trans ?_
  refine (px_v1 (idx := 245) (m' := 25) (ci := 2) (by decide +kernel)).trans ((and_iff_right ⟨h2, (by simp [pm_wl_n, pm_wl_c, pm_w] : pm_wl [] ≤ 8)⟩).trans ?_)
  exact Iff.rfl
theorem b145_25 {d : Nat} {G : PG} {M T : PH} {K : PV → PS → Prop} {l0 l1 l2 : Int} (h1 : pm_ob G l0 11) (h2 : pm_ob G (T l0.toNat 6) 2) : pm_Run d 145 25 [.inr (.inr (.inl l0)), .inl l1, .inl l2] [] (G, M, T) K ↔ pm_Call d 31 [.inr (.inr (.inl (T l0.toNat 6))), .inl l1] (G, M, T) (fun r S1 => pm_Run d 145 33 [.inr (.inr (.inl l0)), .inl l1, .inl l2] (pm_push r []) S1 K) := by
  refine (px_go (by decide +kernel : pm_fe 145 25 = some (.aload_n 0, 1)) rfl).trans ?_
  refine (px_get2 (idx := 50) (ci := 11) (k := 6) (by decide +kernel)).trans ((and_iff_right h1).trans ?_)
  refine (px_go (by decide +kernel : pm_fe 145 29 = some (.iload_n 1, 1)) rfl).trans ?_
  refine (px_v1 (idx := 279) (m' := 31) (ci := 2) (by decide +kernel)).trans ((and_iff_right ⟨h2, (by simp [pm_wl_n, pm_wl_c, pm_w] : pm_wl [] ≤ 8)⟩).trans ?_)
  exact Iff.rfl
theorem b145_33 {d : Nat} {G : PG} {M T : PH} {K : PV → PS → Prop} {l0 l1 l2 s0 : Int} : pm_Run d 145 33 [.inr (.inr (.inl l0)), .inl l1, .inl l2] [.inl s0] (G, M, T) K ↔ K (.inl s0) (G, M, T) := by
  refine (px_ri (by decide +kernel)).trans ?_
  exact Iff.rfl
theorem b145_34 {d : Nat} {G : PG} {M T : PH} {K : PV → PS → Prop} {l0 l1 l2 : Int} : pm_Run d 145 34 [.inr (.inr (.inl l0)), .inl l1, .inl l2] [] (G, M, T) K ↔ if pm_sg l2 ≠ pm_sg 1 then pm_Run d 145 50 [.inr (.inr (.inl l0)), .inl l1, .inl l2] [] (G, M, T) K else pm_Run d 145 39 [.inr (.inr (.inl l0)), .inl l1, .inl l2] [] (G, M, T) K := by
  refine (px_go (by decide +kernel : pm_fe 145 34 = some (.iload_n 2, 1)) rfl).trans ?_
  refine (px_go (by decide +kernel : pm_fe 145 35 = some (.iconst 1, 1)) rfl).trans ?_
  refine (px_ic_ne (off := 14) (tgt := 50) (by decide +kernel)).trans ?_
  exact Iff.rfl
theorem b145_39 {d : Nat} {G : PG} {M T : PH} {K : PV → PS → Prop} {l0 l1 l2 : Int} (h1 : pm_ob G l0 11) (h2 : pm_ob G (T l0.toNat 6) 2) : pm_Run d 145 39 [.inr (.inr (.inl l0)), .inl l1, .inl l2] [] (G, M, T) K ↔ pm_Call d 32 [.inr (.inr (.inl (T l0.toNat 6))), .inl l1] (G, M, T) (fun r S1 => pm_Run d 145 47 [.inr (.inr (.inl l0)), .inl l1, .inl l2] (pm_push r []) S1 K) := by
  refine (px_go (by decide +kernel : pm_fe 145 39 = some (.aload_n 0, 1)) rfl).trans ?_
  refine (px_get2 (idx := 50) (ci := 11) (k := 6) (by decide +kernel)).trans ((and_iff_right h1).trans ?_)
  refine (px_go (by decide +kernel : pm_fe 145 43 = some (.iload_n 1, 1)) rfl).trans ?_
  refine (px_v1 (idx := 282) (m' := 32) (ci := 2) (by decide +kernel)).trans ((and_iff_right ⟨h2, (by simp [pm_wl_n, pm_wl_c, pm_w] : pm_wl [] ≤ 8)⟩).trans ?_)
  exact Iff.rfl
theorem b145_47 {d : Nat} {G : PG} {M T : PH} {K : PV → PS → Prop} {l0 l1 l2 s0 : Int} : pm_Run d 145 47 [.inr (.inr (.inl l0)), .inl l1, .inl l2] [.inl s0] (G, M, T) K ↔ pm_Run d 145 51 [.inr (.inr (.inl l0)), .inl l1, .inl l2] [.inl s0] (G, M, T) K := by
  refine (px_goto (off := 4) (tgt := 51) (by decide +kernel)).trans ?_
  exact Iff.rfl
theorem b145_50 {d : Nat} {G : PG} {M T : PH} {K : PV → PS → Prop} {l0 l1 l2 : Int} : pm_Run d 145 50 [.inr (.inr (.inl l0)), .inl l1, .inl l2] [] (G, M, T) K ↔ pm_Run d 145 51 [.inr (.inr (.inl l0)), .inl l1, .inl l2] [.inl (-1)] (G, M, T) K := by
  refine (px_go (by decide +kernel : pm_fe 145 50 = some (.iconst (-1), 1)) rfl).trans ?_
  exact Iff.rfl
theorem b145_51 {d : Nat} {G : PG} {M T : PH} {K : PV → PS → Prop} {l0 l1 l2 s0 : Int} : pm_Run d 145 51 [.inr (.inr (.inl l0)), .inl l1, .inl l2] [.inl s0] (G, M, T) K ↔ K (.inl s0) (G, M, T) := by
  refine (px_ri (by decide +kernel)).trans ?_
  exact Iff.rfl
-- X11_bid bid(III)I
theorem en146 {d : Nat} {a p0 p1 p2 : Int} {S : PS} {K : PV → PS → Prop} : pm_Call (d + 1) 146 [.inr (.inr (.inl a)), .inl p0, .inl p1, .inl p2] S K ↔ pm_Run d 146 0 [.inr (.inr (.inl a)), .inl p0, .inl p1, .inl p2, PU, PU] [] S K := pm_Call_s.trans (and_iff_right (show 4 ≤ pm_ml 146 from by decide +kernel))
theorem b146_0 {d : Nat} {G : PG} {M T : PH} {K : PV → PS → Prop} {l0 l1 l2 l3 : Int} (h1 : pm_ob G l0 11) : pm_Run d 146 0 [.inr (.inr (.inl l0)), .inl l1, .inl l2, .inl l3, PU, PU] [] (G, M, T) K ↔ pm_Call d 170 [.inr (.inr (.inl l0)), .inl l1] (G, M, T) (fun r S1 => pm_Run d 146 5 [.inr (.inr (.inl l0)), .inl l1, .inl l2, .inl l3, PU, PU] (pm_push r []) S1 K) := by
  refine (px_go (by decide +kernel : pm_fe 146 0 = some (.aload_n 0, 1)) rfl).trans ?_
  refine (px_go (by decide +kernel : pm_fe 146 1 = some (.iload_n 1, 1)) rfl).trans ?_
  refine (px_v1 (idx := 178) (m' := 170) (ci := 11) (by decide +kernel)).trans ((and_iff_right ⟨h1, (by simp [pm_wl_n, pm_wl_c, pm_w] : pm_wl [] ≤ 8)⟩).trans ?_)
  exact Iff.rfl
theorem b146_5 {d : Nat} {G : PG} {M T : PH} {K : PV → PS → Prop} {l0 l1 l2 l3 s0 : Int} : pm_Run d 146 5 [.inr (.inr (.inl l0)), .inl l1, .inl l2, .inl l3, PU, PU] [.inl s0] (G, M, T) K ↔ if pm_sg s0 = 0 then pm_Run d 146 26 [.inr (.inr (.inl l0)), .inl l1, .inl l2, .inl l3, PU, PU] [] (G, M, T) K else pm_Run d 146 8 [.inr (.inr (.inl l0)), .inl l1, .inl l2, .inl l3, PU, PU] [] (G, M, T) K := by
  refine (px_if_eq (off := 21) (tgt := 26) (by decide +kernel)).trans ?_
  exact Iff.rfl
theorem b146_8 {d : Nat} {G : PG} {M T : PH} {K : PV → PS → Prop} {l0 l1 l2 l3 : Int} (h1 : pm_ob G l0 11) : pm_Run d 146 8 [.inr (.inr (.inl l0)), .inl l1, .inl l2, .inl l3, PU, PU] [] (G, M, T) K ↔ pm_Call d 169 [.inr (.inr (.inl l0)), .inl l2] (G, M, T) (fun r S1 => pm_Run d 146 13 [.inr (.inr (.inl l0)), .inl l1, .inl l2, .inl l3, PU, PU] (pm_push r []) S1 K) := by
  refine (px_go (by decide +kernel : pm_fe 146 8 = some (.aload_n 0, 1)) rfl).trans ?_
  refine (px_go (by decide +kernel : pm_fe 146 9 = some (.iload_n 2, 1)) rfl).trans ?_
  refine (px_v1 (idx := 165) (m' := 169) (ci := 11) (by decide +kernel)).trans ((and_iff_right ⟨h1, (by simp [pm_wl_n, pm_wl_c, pm_w] : pm_wl [] ≤ 8)⟩).trans ?_)
  exact Iff.rfl
theorem b146_13 {d : Nat} {G : PG} {M T : PH} {K : PV → PS → Prop} {l0 l1 l2 l3 s0 : Int} : pm_Run d 146 13 [.inr (.inr (.inl l0)), .inl l1, .inl l2, .inl l3, PU, PU] [.inl s0] (G, M, T) K ↔ if pm_sg s0 = 0 then pm_Run d 146 26 [.inr (.inr (.inl l0)), .inl l1, .inl l2, .inl l3, PU, PU] [] (G, M, T) K else pm_Run d 146 16 [.inr (.inr (.inl l0)), .inl l1, .inl l2, .inl l3, PU, PU] [] (G, M, T) K := by
  refine (px_if_eq (off := 13) (tgt := 26) (by decide +kernel)).trans ?_
  exact Iff.rfl
theorem b146_16 {d : Nat} {G : PG} {M T : PH} {K : PV → PS → Prop} {l0 l1 l2 l3 : Int} : pm_Run d 146 16 [.inr (.inr (.inl l0)), .inl l1, .inl l2, .inl l3, PU, PU] [] (G, M, T) K ↔ if pm_sg l3 < 0 then pm_Run d 146 26 [.inr (.inr (.inl l0)), .inl l1, .inl l2, .inl l3, PU, PU] [] (G, M, T) K else pm_Run d 146 20 [.inr (.inr (.inl l0)), .inl l1, .inl l2, .inl l3, PU, PU] [] (G, M, T) K := by
  refine (px_go (by decide +kernel : pm_fe 146 16 = some (.iload_n 3, 1)) rfl).trans ?_
  refine (px_if_lt (off := 9) (tgt := 26) (by decide +kernel)).trans ?_
  exact Iff.rfl
theorem b146_20 {d : Nat} {G : PG} {M T : PH} {K : PV → PS → Prop} {l0 l1 l2 l3 : Int} : pm_Run d 146 20 [.inr (.inr (.inl l0)), .inl l1, .inl l2, .inl l3, PU, PU] [] (G, M, T) K ↔ if pm_sg l3 ≤ pm_sg 20 then pm_Run d 146 32 [.inr (.inr (.inl l0)), .inl l1, .inl l2, .inl l3, PU, PU] [] (G, M, T) K else pm_Run d 146 26 [.inr (.inr (.inl l0)), .inl l1, .inl l2, .inl l3, PU, PU] [] (G, M, T) K := by
  refine (px_go (by decide +kernel : pm_fe 146 20 = some (.iload_n 3, 1)) rfl).trans ?_
  refine (px_go (by decide +kernel : pm_fe 146 21 = some (.bipush 20, 2)) rfl).trans ?_
  refine (px_ic_le (off := 9) (tgt := 32) (by decide +kernel)).trans ?_
  exact Iff.rfl
theorem b146_26 {d : Nat} {G : PG} {M T : PH} {K : PV → PS → Prop} {l0 l1 l2 l3 : Int} (h1 : pm_ob G l0 11) : pm_Run d 146 26 [.inr (.inr (.inl l0)), .inl l1, .inl l2, .inl l3, PU, PU] [] (G, M, T) K ↔ pm_Call d 164 [.inr (.inr (.inl l0)), .inl 2] (G, M, T) (fun r S1 => pm_Run d 146 31 [.inr (.inr (.inl l0)), .inl l1, .inl l2, .inl l3, PU, PU] (pm_push r []) S1 K) := by
  refine (px_go (by decide +kernel : pm_fe 146 26 = some (.aload_n 0, 1)) rfl).trans ?_
  refine (px_go (by decide +kernel : pm_fe 146 27 = some (.iconst 2, 1)) rfl).trans ?_
  refine (px_v1 (idx := 89) (m' := 164) (ci := 11) (by decide +kernel)).trans ((and_iff_right ⟨h1, (by simp [pm_wl_n, pm_wl_c, pm_w] : pm_wl [] ≤ 8)⟩).trans ?_)
  exact Iff.rfl
theorem b146_31 {d : Nat} {G : PG} {M T : PH} {K : PV → PS → Prop} {l0 l1 l2 l3 s0 : Int} : pm_Run d 146 31 [.inr (.inr (.inl l0)), .inl l1, .inl l2, .inl l3, PU, PU] [.inl s0] (G, M, T) K ↔ K (.inl s0) (G, M, T) := by
  refine (px_ri (by decide +kernel)).trans ?_
  exact Iff.rfl
theorem b146_32 {d : Nat} {G : PG} {M T : PH} {K : PV → PS → Prop} {l0 l1 l2 l3 : Int} : pm_Run d 146 32 [.inr (.inr (.inl l0)), .inl l1, .inl l2, .inl l3, PU, PU] [] (G, M, T) K ↔ pm_Call d 55 [.inl l1, .inl l2] (G, M, T) (fun r S1 => pm_Run d 146 37 [.inr (.inr (.inl l0)), .inl l1, .inl l2, .inl l3, PU, PU] (pm_push r []) S1 K) := by
  refine (px_go (by decide +kernel : pm_fe 146 32 = some (.iload_n 1, 1)) rfl).trans ?_
  refine (px_go (by decide +kernel : pm_fe 146 33 = some (.iload_n 2, 1)) rfl).trans ?_
  refine (px_s2 (idx := 232) (m' := 55) (nest := 0) (by decide +kernel)).trans ((and_iff_right (by simp [pm_wl_n, pm_wl_c, pm_w] : pm_wl [] ≤ 8)).trans ?_)
  exact Iff.rfl
theorem b146_37 {d : Nat} {G : PG} {M T : PH} {K : PV → PS → Prop} {l0 l1 l2 l3 s0 : Int} (h1 : pm_ob G l0 11) (h2 : pm_ob G (T l0.toNat 2) 5) (h3 : pm_ar G (T (T l0.toNat 2).toNat 4) 100 s0) (h4 : pm_ob G (T l0.toNat 9) 7) : pm_Run d 146 37 [.inr (.inr (.inl l0)), .inl l1, .inl l2, .inl l3, PU, PU] [.inl s0] (G, M, T) K ↔ pm_Call d 101 [.inr (.inr (.inl (T l0.toNat 9))), .inr (.inr (.inl (T l0.toNat 2)))] (G, M, T) (fun r S1 => pm_Run d 146 62 [.inr (.inr (.inl l0)), .inl l1, .inl l2, .inl l3, .inl s0, .inl (M (T (T l0.toNat 2).toNat 4).toNat (pm_sg s0).toNat)] (pm_push r []) S1 K) := by
  refine (px_go (by decide +kernel : pm_fe 146 37 = some (.istore 4, 2)) rfl).trans ?_
  refine (px_go (by decide +kernel : pm_fe 146 39 = some (.aload_n 0, 1)) rfl).trans ?_
  refine (px_get2 (idx := 20) (ci := 11) (k := 2) (by decide +kernel)).trans ((and_iff_right h1).trans ?_)
  refine (px_get2 (idx := 235) (ci := 5) (k := 4) (by decide +kernel)).trans ((and_iff_right h2).trans ?_)
  refine (px_go (by decide +kernel : pm_fe 146 46 = some (.iload 4, 2)) rfl).trans ?_
  refine (px_iaload (by decide +kernel) h3).trans ?_
  refine (px_go (by decide +kernel : pm_fe 146 49 = some (.istore 5, 2)) rfl).trans ?_
  refine (px_go (by decide +kernel : pm_fe 146 51 = some (.aload_n 0, 1)) rfl).trans ?_
  refine (px_get2 (idx := 71) (ci := 11) (k := 9) (by decide +kernel)).trans ((and_iff_right h1).trans ?_)
  refine (px_go (by decide +kernel : pm_fe 146 55 = some (.aload_n 0, 1)) rfl).trans ?_
  refine (px_get2 (idx := 20) (ci := 11) (k := 2) (by decide +kernel)).trans ((and_iff_right h1).trans ?_)
  refine (px_v1 (idx := 285) (m' := 101) (ci := 7) (by decide +kernel)).trans ((and_iff_right ⟨h4, (by simp [pm_wl_n, pm_wl_c, pm_w] : pm_wl [] ≤ 8)⟩).trans ?_)
  exact Iff.rfl
theorem b146_62 {d : Nat} {G : PG} {M T : PH} {K : PV → PS → Prop} {l0 l1 l2 l3 l4 l5 : Int} (h1 : pm_ob G l0 11) (h2 : pm_ob G (T l0.toNat 2) 5) (h3 : pm_ar G (T (T l0.toNat 2).toNat 4) 100 l4) : pm_Run d 146 62 [.inr (.inr (.inl l0)), .inl l1, .inl l2, .inl l3, .inl l4, .inl l5] [] (G, M, T) K ↔ pm_Call d 167 [.inr (.inr (.inl l0))] (G, pm_sa M (T (T l0.toNat 2).toNat 4).toNat (pm_up (M (T (T l0.toNat 2).toNat 4).toNat) (pm_sg l4).toNat l3), T) (fun r S1 => pm_Run d 146 77 [.inr (.inr (.inl l0)), .inl l1, .inl l2, .inl l3, .inl l4, .inl l5] (pm_push r []) S1 K) := by
  refine (px_go (by decide +kernel : pm_fe 146 62 = some (.aload_n 0, 1)) rfl).trans ?_
  refine (px_get2 (idx := 20) (ci := 11) (k := 2) (by decide +kernel)).trans ((and_iff_right h1).trans ?_)
  refine (px_get2 (idx := 235) (ci := 5) (k := 4) (by decide +kernel)).trans ((and_iff_right h2).trans ?_)
  refine (px_go (by decide +kernel : pm_fe 146 69 = some (.iload 4, 2)) rfl).trans ?_
  refine (px_go (by decide +kernel : pm_fe 146 71 = some (.iload_n 3, 1)) rfl).trans ?_
  refine (px_iastore (by decide +kernel)).trans ((and_iff_right h3).trans ?_)
  refine (px_go (by decide +kernel : pm_fe 146 73 = some (.aload_n 0, 1)) rfl).trans ?_
  refine (px_v0 (idx := 120) (m' := 167) (ci := 11) (by decide +kernel)).trans ((and_iff_right ⟨h1, (by simp [pm_wl_n, pm_wl_c, pm_w] : pm_wl [] ≤ 8)⟩).trans ?_)
  exact Iff.rfl
theorem b146_77 {d : Nat} {G : PG} {M T : PH} {K : PV → PS → Prop} {l0 l1 l2 l3 l4 l5 : Int} : pm_Run d 146 77 [.inr (.inr (.inl l0)), .inl l1, .inl l2, .inl l3, .inl l4, .inl l5] [] (G, M, T) K ↔ K (.inl l5) (G, M, T) := by
  refine (px_go (by decide +kernel : pm_fe 146 77 = some (.iload 5, 2)) rfl).trans ?_
  refine (px_ri (by decide +kernel)).trans ?_
  exact Iff.rfl
-- X11_give give(III)Z
theorem en147 {d : Nat} {a p0 p1 p2 : Int} {S : PS} {K : PV → PS → Prop} : pm_Call (d + 1) 147 [.inr (.inr (.inl a)), .inl p0, .inl p1, .inl p2] S K ↔ pm_Run d 147 0 [.inr (.inr (.inl a)), .inl p0, .inl p1, .inl p2] [] S K := pm_Call_s.trans (and_iff_right (show 4 ≤ pm_ml 147 from by decide +kernel))
theorem b147_0 {d : Nat} {G : PG} {M T : PH} {K : PV → PS → Prop} {l0 l1 l2 l3 : Int} (h1 : pm_ob G l0 11) : pm_Run d 147 0 [.inr (.inr (.inl l0)), .inl l1, .inl l2, .inl l3] [] (G, M, T) K ↔ pm_Call d 170 [.inr (.inr (.inl l0)), .inl l1] (G, M, T) (fun r S1 => pm_Run d 147 5 [.inr (.inr (.inl l0)), .inl l1, .inl l2, .inl l3] (pm_push r []) S1 K) := by
  refine (px_go (by decide +kernel : pm_fe 147 0 = some (.aload_n 0, 1)) rfl).trans ?_
  refine (px_go (by decide +kernel : pm_fe 147 1 = some (.iload_n 1, 1)) rfl).trans ?_
  refine (px_v1 (idx := 178) (m' := 170) (ci := 11) (by decide +kernel)).trans ((and_iff_right ⟨h1, (by simp [pm_wl_n, pm_wl_c, pm_w] : pm_wl [] ≤ 8)⟩).trans ?_)
  exact Iff.rfl
theorem b147_5 {d : Nat} {G : PG} {M T : PH} {K : PV → PS → Prop} {l0 l1 l2 l3 s0 : Int} : pm_Run d 147 5 [.inr (.inr (.inl l0)), .inl l1, .inl l2, .inl l3] [.inl s0] (G, M, T) K ↔ if pm_sg s0 = 0 then pm_Run d 147 56 [.inr (.inr (.inl l0)), .inl l1, .inl l2, .inl l3] [] (G, M, T) K else pm_Run d 147 8 [.inr (.inr (.inl l0)), .inl l1, .inl l2, .inl l3] [] (G, M, T) K := by
  refine (px_if_eq (off := 51) (tgt := 56) (by decide +kernel)).trans ?_
  exact Iff.rfl
theorem b147_8 {d : Nat} {G : PG} {M T : PH} {K : PV → PS → Prop} {l0 l1 l2 l3 : Int} (h1 : pm_ob G l0 11) : pm_Run d 147 8 [.inr (.inr (.inl l0)), .inl l1, .inl l2, .inl l3] [] (G, M, T) K ↔ pm_Call d 170 [.inr (.inr (.inl l0)), .inl l2] (G, M, T) (fun r S1 => pm_Run d 147 13 [.inr (.inr (.inl l0)), .inl l1, .inl l2, .inl l3] (pm_push r []) S1 K) := by
  refine (px_go (by decide +kernel : pm_fe 147 8 = some (.aload_n 0, 1)) rfl).trans ?_
  refine (px_go (by decide +kernel : pm_fe 147 9 = some (.iload_n 2, 1)) rfl).trans ?_
  refine (px_v1 (idx := 178) (m' := 170) (ci := 11) (by decide +kernel)).trans ((and_iff_right ⟨h1, (by simp [pm_wl_n, pm_wl_c, pm_w] : pm_wl [] ≤ 8)⟩).trans ?_)
  exact Iff.rfl
theorem b147_13 {d : Nat} {G : PG} {M T : PH} {K : PV → PS → Prop} {l0 l1 l2 l3 s0 : Int} : pm_Run d 147 13 [.inr (.inr (.inl l0)), .inl l1, .inl l2, .inl l3] [.inl s0] (G, M, T) K ↔ if pm_sg s0 = 0 then pm_Run d 147 56 [.inr (.inr (.inl l0)), .inl l1, .inl l2, .inl l3] [] (G, M, T) K else pm_Run d 147 16 [.inr (.inr (.inl l0)), .inl l1, .inl l2, .inl l3] [] (G, M, T) K := by
  refine (px_if_eq (off := 43) (tgt := 56) (by decide +kernel)).trans ?_
  exact Iff.rfl
theorem b147_16 {d : Nat} {G : PG} {M T : PH} {K : PV → PS → Prop} {l0 l1 l2 l3 : Int} : pm_Run d 147 16 [.inr (.inr (.inl l0)), .inl l1, .inl l2, .inl l3] [] (G, M, T) K ↔ if pm_sg l1 = pm_sg l2 then pm_Run d 147 56 [.inr (.inr (.inl l0)), .inl l1, .inl l2, .inl l3] [] (G, M, T) K else pm_Run d 147 21 [.inr (.inr (.inl l0)), .inl l1, .inl l2, .inl l3] [] (G, M, T) K := by
  refine (px_go (by decide +kernel : pm_fe 147 16 = some (.iload_n 1, 1)) rfl).trans ?_
  refine (px_go (by decide +kernel : pm_fe 147 17 = some (.iload_n 2, 1)) rfl).trans ?_
  refine (px_ic_eq (off := 38) (tgt := 56) (by decide +kernel)).trans ?_
  exact Iff.rfl
theorem b147_21 {d : Nat} {G : PG} {M T : PH} {K : PV → PS → Prop} {l0 l1 l2 l3 : Int} : pm_Run d 147 21 [.inr (.inr (.inl l0)), .inl l1, .inl l2, .inl l3] [] (G, M, T) K ↔ if pm_sg l3 < pm_sg 1 then pm_Run d 147 56 [.inr (.inr (.inl l0)), .inl l1, .inl l2, .inl l3] [] (G, M, T) K else pm_Run d 147 26 [.inr (.inr (.inl l0)), .inl l1, .inl l2, .inl l3] [] (G, M, T) K := by
  refine (px_go (by decide +kernel : pm_fe 147 21 = some (.iload_n 3, 1)) rfl).trans ?_
  refine (px_go (by decide +kernel : pm_fe 147 22 = some (.iconst 1, 1)) rfl).trans ?_
  refine (px_ic_lt (off := 33) (tgt := 56) (by decide +kernel)).trans ?_
  exact Iff.rfl
theorem b147_26 {d : Nat} {G : PG} {M T : PH} {K : PV → PS → Prop} {l0 l1 l2 l3 : Int} (h1 : pm_ob G l0 11) (h2 : pm_ob G (T l0.toNat 2) 5) (h3 : pm_ar G (T (T l0.toNat 2).toNat 3) 100 l1) : pm_Run d 147 26 [.inr (.inr (.inl l0)), .inl l1, .inl l2, .inl l3] [] (G, M, T) K ↔ if pm_sg (M (T (T l0.toNat 2).toNat 3).toNat (pm_sg l1).toNat) < pm_sg l3 then pm_Run d 147 56 [.inr (.inr (.inl l0)), .inl l1, .inl l2, .inl l3] [] (G, M, T) K else pm_Run d 147 39 [.inr (.inr (.inl l0)), .inl l1, .inl l2, .inl l3] [] (G, M, T) K := by
  refine (px_go (by decide +kernel : pm_fe 147 26 = some (.iload_n 3, 1)) rfl).trans ?_
  refine (px_go (by decide +kernel : pm_fe 147 27 = some (.aload_n 0, 1)) rfl).trans ?_
  refine (px_get2 (idx := 20) (ci := 11) (k := 2) (by decide +kernel)).trans ((and_iff_right h1).trans ?_)
  refine (px_get2 (idx := 202) (ci := 5) (k := 3) (by decide +kernel)).trans ((and_iff_right h2).trans ?_)
  refine (px_go (by decide +kernel : pm_fe 147 34 = some (.iload_n 1, 1)) rfl).trans ?_
  refine (px_iaload (by decide +kernel) h3).trans ?_
  refine (px_ic_gt (off := 20) (tgt := 56) (by decide +kernel)).trans ?_
  exact Iff.rfl
theorem b147_39 {d : Nat} {G : PG} {M T : PH} {K : PV → PS → Prop} {l0 l1 l2 l3 : Int} (h1 : pm_ob G l0 11) (h2 : pm_ob G (T l0.toNat 2) 5) (h3 : pm_ar G (T (T l0.toNat 2).toNat 3) 100 l2) : pm_Run d 147 39 [.inr (.inr (.inl l0)), .inl l1, .inl l2, .inl l3] [] (G, M, T) K ↔ if pm_sg l3 ≤ pm_sg (9999 - (M (T (T l0.toNat 2).toNat 3).toNat (pm_sg l2).toNat)) then pm_Run d 147 71 [.inr (.inr (.inl l0)), .inl l1, .inl l2, .inl l3] [] (G, M, T) K else pm_Run d 147 56 [.inr (.inr (.inl l0)), .inl l1, .inl l2, .inl l3] [] (G, M, T) K := by
  refine (px_go (by decide +kernel : pm_fe 147 39 = some (.iload_n 3, 1)) rfl).trans ?_
  refine (px_go (by decide +kernel : pm_fe 147 40 = some (.sipush 9999, 3)) rfl).trans ?_
  refine (px_go (by decide +kernel : pm_fe 147 43 = some (.aload_n 0, 1)) rfl).trans ?_
  refine (px_get2 (idx := 20) (ci := 11) (k := 2) (by decide +kernel)).trans ((and_iff_right h1).trans ?_)
  refine (px_get2 (idx := 202) (ci := 5) (k := 3) (by decide +kernel)).trans ((and_iff_right h2).trans ?_)
  refine (px_go (by decide +kernel : pm_fe 147 50 = some (.iload_n 2, 1)) rfl).trans ?_
  refine (px_iaload (by decide +kernel) h3).trans ?_
  refine (px_go (by decide +kernel : pm_fe 147 52 = some (.isub, 1)) rfl).trans ?_
  refine (px_ic_le (off := 18) (tgt := 71) (by decide +kernel)).trans ?_
  exact Iff.rfl
theorem b147_56 {d : Nat} {G : PG} {M T : PH} {K : PV → PS → Prop} {l0 l1 l2 l3 : Int} (h1 : pm_ob G l0 11) : pm_Run d 147 56 [.inr (.inr (.inl l0)), .inl l1, .inl l2, .inl l3] [] (G, M, T) K ↔ pm_Call d 164 [.inr (.inr (.inl l0)), .inl 2] (G, M, T) (fun r S1 => pm_Run d 147 61 [.inr (.inr (.inl l0)), .inl l1, .inl l2, .inl l3] (pm_push r []) S1 K) := by
  refine (px_go (by decide +kernel : pm_fe 147 56 = some (.aload_n 0, 1)) rfl).trans ?_
  refine (px_go (by decide +kernel : pm_fe 147 57 = some (.iconst 2, 1)) rfl).trans ?_
  refine (px_v1 (idx := 89) (m' := 164) (ci := 11) (by decide +kernel)).trans ((and_iff_right ⟨h1, (by simp [pm_wl_n, pm_wl_c, pm_w] : pm_wl [] ≤ 8)⟩).trans ?_)
  exact Iff.rfl
theorem b147_61 {d : Nat} {G : PG} {M T : PH} {K : PV → PS → Prop} {l0 l1 l2 l3 s0 : Int} : pm_Run d 147 61 [.inr (.inr (.inl l0)), .inl l1, .inl l2, .inl l3] [.inl s0] (G, M, T) K ↔ if pm_sg s0 = pm_sg (-1) then pm_Run d 147 69 [.inr (.inr (.inl l0)), .inl l1, .inl l2, .inl l3] [] (G, M, T) K else pm_Run d 147 65 [.inr (.inr (.inl l0)), .inl l1, .inl l2, .inl l3] [] (G, M, T) K := by
  refine (px_go (by decide +kernel : pm_fe 147 61 = some (.iconst (-1), 1)) rfl).trans ?_
  refine (px_ic_eq (off := 7) (tgt := 69) (by decide +kernel)).trans ?_
  exact Iff.rfl
theorem b147_65 {d : Nat} {G : PG} {M T : PH} {K : PV → PS → Prop} {l0 l1 l2 l3 : Int} : pm_Run d 147 65 [.inr (.inr (.inl l0)), .inl l1, .inl l2, .inl l3] [] (G, M, T) K ↔ pm_Run d 147 70 [.inr (.inr (.inl l0)), .inl l1, .inl l2, .inl l3] [.inl 1] (G, M, T) K := by
  refine (px_go (by decide +kernel : pm_fe 147 65 = some (.iconst 1, 1)) rfl).trans ?_
  refine (px_goto (off := 4) (tgt := 70) (by decide +kernel)).trans ?_
  exact Iff.rfl
theorem b147_69 {d : Nat} {G : PG} {M T : PH} {K : PV → PS → Prop} {l0 l1 l2 l3 : Int} : pm_Run d 147 69 [.inr (.inr (.inl l0)), .inl l1, .inl l2, .inl l3] [] (G, M, T) K ↔ pm_Run d 147 70 [.inr (.inr (.inl l0)), .inl l1, .inl l2, .inl l3] [.inl 0] (G, M, T) K := by
  refine (px_go (by decide +kernel : pm_fe 147 69 = some (.iconst 0, 1)) rfl).trans ?_
  exact Iff.rfl
theorem b147_70 {d : Nat} {G : PG} {M T : PH} {K : PV → PS → Prop} {l0 l1 l2 l3 s0 : Int} (h1 : s0 = 0 ∨ s0 = 1) : pm_Run d 147 70 [.inr (.inr (.inl l0)), .inl l1, .inl l2, .inl l3] [.inl s0] (G, M, T) K ↔ K (.inl s0) (G, M, T) := by
  refine (px_rz (by decide +kernel)).trans ((and_iff_right h1).trans ?_)
  exact Iff.rfl
theorem b147_71 {d : Nat} {G : PG} {M T : PH} {K : PV → PS → Prop} {l0 l1 l2 l3 : Int} (h1 : pm_ob G l0 11) (h2 : pm_ob G (T l0.toNat 9) 7) : pm_Run d 147 71 [.inr (.inr (.inl l0)), .inl l1, .inl l2, .inl l3] [] (G, M, T) K ↔ pm_Call d 101 [.inr (.inr (.inl (T l0.toNat 9))), .inr (.inr (.inl (T l0.toNat 2)))] (G, M, T) (fun r S1 => pm_Run d 147 82 [.inr (.inr (.inl l0)), .inl l1, .inl l2, .inl l3] (pm_push r []) S1 K) := by
  refine (px_go (by decide +kernel : pm_fe 147 71 = some (.aload_n 0, 1)) rfl).trans ?_
  refine (px_get2 (idx := 71) (ci := 11) (k := 9) (by decide +kernel)).trans ((and_iff_right h1).trans ?_)
  refine (px_go (by decide +kernel : pm_fe 147 75 = some (.aload_n 0, 1)) rfl).trans ?_
  refine (px_get2 (idx := 20) (ci := 11) (k := 2) (by decide +kernel)).trans ((and_iff_right h1).trans ?_)
  refine (px_v1 (idx := 285) (m' := 101) (ci := 7) (by decide +kernel)).trans ((and_iff_right ⟨h2, (by simp [pm_wl_n, pm_wl_c, pm_w] : pm_wl [] ≤ 8)⟩).trans ?_)
  exact Iff.rfl
theorem b147_82 {d : Nat} {G : PG} {M T : PH} {K : PV → PS → Prop} {l0 l1 l2 l3 : Int} (h1 : pm_ob G l0 11) (h2 : pm_ob G (T l0.toNat 2) 5) (h3 : pm_ar G (T (T l0.toNat 2).toNat 3) 100 l1) (h4 : pm_ar G (T (T l0.toNat 2).toNat 3) 100 l2) : pm_Run d 147 82 [.inr (.inr (.inl l0)), .inl l1, .inl l2, .inl l3] [] (G, M, T) K ↔ pm_Run d 147 108 [.inr (.inr (.inl l0)), .inl l1, .inl l2, .inl l3] [] (G, pm_sa (pm_sa M (T (T l0.toNat 2).toNat 3).toNat (pm_up (M (T (T l0.toNat 2).toNat 3).toNat) (pm_sg l1).toNat ((M (T (T l0.toNat 2).toNat 3).toNat (pm_sg l1).toNat) - l3))) (T (T l0.toNat 2).toNat 3).toNat (pm_up ((pm_sa M (T (T l0.toNat 2).toNat 3).toNat (pm_up (M (T (T l0.toNat 2).toNat 3).toNat) (pm_sg l1).toNat ((M (T (T l0.toNat 2).toNat 3).toNat (pm_sg l1).toNat) - l3))) (T (T l0.toNat 2).toNat 3).toNat) (pm_sg l2).toNat (((pm_sa M (T (T l0.toNat 2).toNat 3).toNat (pm_up (M (T (T l0.toNat 2).toNat 3).toNat) (pm_sg l1).toNat ((M (T (T l0.toNat 2).toNat 3).toNat (pm_sg l1).toNat) - l3))) (T (T l0.toNat 2).toNat 3).toNat (pm_sg l2).toNat) + l3)), T) K := by
  refine (px_go (by decide +kernel : pm_fe 147 82 = some (.aload_n 0, 1)) rfl).trans ?_
  refine (px_get2 (idx := 20) (ci := 11) (k := 2) (by decide +kernel)).trans ((and_iff_right h1).trans ?_)
  refine (px_get2 (idx := 202) (ci := 5) (k := 3) (by decide +kernel)).trans ((and_iff_right h2).trans ?_)
  refine (px_go (by decide +kernel : pm_fe 147 89 = some (.iload_n 1, 1)) rfl).trans ?_
  refine (px_go (by decide +kernel : pm_fe 147 90 = some (.dup2, 1)) rfl).trans ?_
  refine (px_iaload (by decide +kernel) h3).trans ?_
  refine (px_go (by decide +kernel : pm_fe 147 92 = some (.iload_n 3, 1)) rfl).trans ?_
  refine (px_go (by decide +kernel : pm_fe 147 93 = some (.isub, 1)) rfl).trans ?_
  refine (px_iastore (by decide +kernel)).trans ((and_iff_right h3).trans ?_)
  refine (px_go (by decide +kernel : pm_fe 147 95 = some (.aload_n 0, 1)) rfl).trans ?_
  refine (px_get2 (idx := 20) (ci := 11) (k := 2) (by decide +kernel)).trans ((and_iff_right h1).trans ?_)
  refine (px_get2 (idx := 202) (ci := 5) (k := 3) (by decide +kernel)).trans ((and_iff_right h2).trans ?_)
  refine (px_go (by decide +kernel : pm_fe 147 102 = some (.iload_n 2, 1)) rfl).trans ?_
  refine (px_go (by decide +kernel : pm_fe 147 103 = some (.dup2, 1)) rfl).trans ?_
  refine (px_iaload (by decide +kernel) h4).trans ?_
  refine (px_go (by decide +kernel : pm_fe 147 105 = some (.iload_n 3, 1)) rfl).trans ?_
  refine (px_go (by decide +kernel : pm_fe 147 106 = some (.iadd, 1)) rfl).trans ?_
  refine (px_iastore (by decide +kernel)).trans ((and_iff_right h4).trans ?_)
  exact Iff.rfl
theorem b147_108 {d : Nat} {G : PG} {M T : PH} {K : PV → PS → Prop} {l0 l1 l2 l3 : Int} (h1 : pm_ob G l0 11) : pm_Run d 147 108 [.inr (.inr (.inl l0)), .inl l1, .inl l2, .inl l3] [] (G, M, T) K ↔ pm_Call d 167 [.inr (.inr (.inl l0))] (G, M, T) (fun r S1 => pm_Run d 147 112 [.inr (.inr (.inl l0)), .inl l1, .inl l2, .inl l3] (pm_push r []) S1 K) := by
  refine (px_go (by decide +kernel : pm_fe 147 108 = some (.aload_n 0, 1)) rfl).trans ?_
  refine (px_v0 (idx := 120) (m' := 167) (ci := 11) (by decide +kernel)).trans ((and_iff_right ⟨h1, (by simp [pm_wl_n, pm_wl_c, pm_w] : pm_wl [] ≤ 8)⟩).trans ?_)
  exact Iff.rfl
theorem b147_112 {d : Nat} {G : PG} {M T : PH} {K : PV → PS → Prop} {l0 l1 l2 l3 : Int} : pm_Run d 147 112 [.inr (.inr (.inl l0)), .inl l1, .inl l2, .inl l3] [] (G, M, T) K ↔ K (.inl 1) (G, M, T) := by
  refine (px_go (by decide +kernel : pm_fe 147 112 = some (.iconst 1, 1)) rfl).trans ?_
  refine (px_rz (by decide +kernel)).trans ((and_iff_right (by decide : (1 : Int) = (0 : Int) ∨ (1 : Int) = (1 : Int))).trans ?_)
  exact Iff.rfl
-- X11_soothe soothe(II)I
theorem en148 {d : Nat} {a p0 p1 : Int} {S : PS} {K : PV → PS → Prop} : pm_Call (d + 1) 148 [.inr (.inr (.inl a)), .inl p0, .inl p1] S K ↔ pm_Run d 148 0 [.inr (.inr (.inl a)), .inl p0, .inl p1, PU] [] S K := pm_Call_s.trans (and_iff_right (show 3 ≤ pm_ml 148 from by decide +kernel))
theorem b148_0 {d : Nat} {G : PG} {M T : PH} {K : PV → PS → Prop} {l0 l1 l2 : Int} (h1 : pm_ob G l0 11) : pm_Run d 148 0 [.inr (.inr (.inl l0)), .inl l1, .inl l2, PU] [] (G, M, T) K ↔ pm_Call d 169 [.inr (.inr (.inl l0)), .inl l1] (G, M, T) (fun r S1 => pm_Run d 148 5 [.inr (.inr (.inl l0)), .inl l1, .inl l2, PU] (pm_push r []) S1 K) := by
  refine (px_go (by decide +kernel : pm_fe 148 0 = some (.aload_n 0, 1)) rfl).trans ?_
  refine (px_go (by decide +kernel : pm_fe 148 1 = some (.iload_n 1, 1)) rfl).trans ?_
  refine (px_v1 (idx := 165) (m' := 169) (ci := 11) (by decide +kernel)).trans ((and_iff_right ⟨h1, (by simp [pm_wl_n, pm_wl_c, pm_w] : pm_wl [] ≤ 8)⟩).trans ?_)
  exact Iff.rfl
theorem b148_5 {d : Nat} {G : PG} {M T : PH} {K : PV → PS → Prop} {l0 l1 l2 s0 : Int} : pm_Run d 148 5 [.inr (.inr (.inl l0)), .inl l1, .inl l2, PU] [.inl s0] (G, M, T) K ↔ if pm_sg s0 = 0 then pm_Run d 148 18 [.inr (.inr (.inl l0)), .inl l1, .inl l2, PU] [] (G, M, T) K else pm_Run d 148 8 [.inr (.inr (.inl l0)), .inl l1, .inl l2, PU] [] (G, M, T) K := by
  refine (px_if_eq (off := 13) (tgt := 18) (by decide +kernel)).trans ?_
  exact Iff.rfl
theorem b148_8 {d : Nat} {G : PG} {M T : PH} {K : PV → PS → Prop} {l0 l1 l2 : Int} : pm_Run d 148 8 [.inr (.inr (.inl l0)), .inl l1, .inl l2, PU] [] (G, M, T) K ↔ if pm_sg l2 < 0 then pm_Run d 148 18 [.inr (.inr (.inl l0)), .inl l1, .inl l2, PU] [] (G, M, T) K else pm_Run d 148 12 [.inr (.inr (.inl l0)), .inl l1, .inl l2, PU] [] (G, M, T) K := by
  refine (px_go (by decide +kernel : pm_fe 148 8 = some (.iload_n 2, 1)) rfl).trans ?_
  refine (px_if_lt (off := 9) (tgt := 18) (by decide +kernel)).trans ?_
  exact Iff.rfl
theorem b148_12 {d : Nat} {G : PG} {M T : PH} {K : PV → PS → Prop} {l0 l1 l2 : Int} : pm_Run d 148 12 [.inr (.inr (.inl l0)), .inl l1, .inl l2, PU] [] (G, M, T) K ↔ if pm_sg l2 ≤ pm_sg 9 then pm_Run d 148 24 [.inr (.inr (.inl l0)), .inl l1, .inl l2, PU] [] (G, M, T) K else pm_Run d 148 18 [.inr (.inr (.inl l0)), .inl l1, .inl l2, PU] [] (G, M, T) K := by
  refine (px_go (by decide +kernel : pm_fe 148 12 = some (.iload_n 2, 1)) rfl).trans ?_
  refine (px_go (by decide +kernel : pm_fe 148 13 = some (.bipush 9, 2)) rfl).trans ?_
  refine (px_ic_le (off := 9) (tgt := 24) (by decide +kernel)).trans ?_
  exact Iff.rfl
theorem b148_18 {d : Nat} {G : PG} {M T : PH} {K : PV → PS → Prop} {l0 l1 l2 : Int} (h1 : pm_ob G l0 11) : pm_Run d 148 18 [.inr (.inr (.inl l0)), .inl l1, .inl l2, PU] [] (G, M, T) K ↔ pm_Call d 164 [.inr (.inr (.inl l0)), .inl 2] (G, M, T) (fun r S1 => pm_Run d 148 23 [.inr (.inr (.inl l0)), .inl l1, .inl l2, PU] (pm_push r []) S1 K) := by
  refine (px_go (by decide +kernel : pm_fe 148 18 = some (.aload_n 0, 1)) rfl).trans ?_
  refine (px_go (by decide +kernel : pm_fe 148 19 = some (.iconst 2, 1)) rfl).trans ?_
  refine (px_v1 (idx := 89) (m' := 164) (ci := 11) (by decide +kernel)).trans ((and_iff_right ⟨h1, (by simp [pm_wl_n, pm_wl_c, pm_w] : pm_wl [] ≤ 8)⟩).trans ?_)
  exact Iff.rfl
theorem b148_23 {d : Nat} {G : PG} {M T : PH} {K : PV → PS → Prop} {l0 l1 l2 s0 : Int} : pm_Run d 148 23 [.inr (.inr (.inl l0)), .inl l1, .inl l2, PU] [.inl s0] (G, M, T) K ↔ K (.inl s0) (G, M, T) := by
  refine (px_ri (by decide +kernel)).trans ?_
  exact Iff.rfl
theorem b148_24 {d : Nat} {G : PG} {M T : PH} {K : PV → PS → Prop} {l0 l1 l2 : Int} (h1 : pm_ob G l0 11) (h2 : pm_ob G (T l0.toNat 2) 5) (h3 : pm_ar G (T (T l0.toNat 2).toNat 2) 100 l1) (h4 : pm_ob G (T l0.toNat 9) 7) : pm_Run d 148 24 [.inr (.inr (.inl l0)), .inl l1, .inl l2, PU] [] (G, M, T) K ↔ pm_Call d 101 [.inr (.inr (.inl (T l0.toNat 9))), .inr (.inr (.inl (T l0.toNat 2)))] (G, M, T) (fun r S1 => pm_Run d 148 45 [.inr (.inr (.inl l0)), .inl l1, .inl l2, .inl (M (T (T l0.toNat 2).toNat 2).toNat (pm_sg l1).toNat)] (pm_push r []) S1 K) := by
  refine (px_go (by decide +kernel : pm_fe 148 24 = some (.aload_n 0, 1)) rfl).trans ?_
  refine (px_get2 (idx := 20) (ci := 11) (k := 2) (by decide +kernel)).trans ((and_iff_right h1).trans ?_)
  refine (px_get2 (idx := 190) (ci := 5) (k := 2) (by decide +kernel)).trans ((and_iff_right h2).trans ?_)
  refine (px_go (by decide +kernel : pm_fe 148 31 = some (.iload_n 1, 1)) rfl).trans ?_
  refine (px_iaload (by decide +kernel) h3).trans ?_
  refine (px_go (by decide +kernel : pm_fe 148 33 = some (.istore_n 3, 1)) rfl).trans ?_
  refine (px_go (by decide +kernel : pm_fe 148 34 = some (.aload_n 0, 1)) rfl).trans ?_
  refine (px_get2 (idx := 71) (ci := 11) (k := 9) (by decide +kernel)).trans ((and_iff_right h1).trans ?_)
  refine (px_go (by decide +kernel : pm_fe 148 38 = some (.aload_n 0, 1)) rfl).trans ?_
  refine (px_get2 (idx := 20) (ci := 11) (k := 2) (by decide +kernel)).trans ((and_iff_right h1).trans ?_)
  refine (px_v1 (idx := 285) (m' := 101) (ci := 7) (by decide +kernel)).trans ((and_iff_right ⟨h4, (by simp [pm_wl_n, pm_wl_c, pm_w] : pm_wl [] ≤ 8)⟩).trans ?_)
  exact Iff.rfl
theorem b148_45 {d : Nat} {G : PG} {M T : PH} {K : PV → PS → Prop} {l0 l1 l2 l3 : Int} (h1 : pm_ob G l0 11) (h2 : pm_ob G (T l0.toNat 2) 5) (h3 : pm_ar G (T (T l0.toNat 2).toNat 2) 100 l1) : pm_Run d 148 45 [.inr (.inr (.inl l0)), .inl l1, .inl l2, .inl l3] [] (G, M, T) K ↔ pm_Call d 167 [.inr (.inr (.inl l0))] (G, pm_sa M (T (T l0.toNat 2).toNat 2).toNat (pm_up (M (T (T l0.toNat 2).toNat 2).toNat) (pm_sg l1).toNat l2), T) (fun r S1 => pm_Run d 148 59 [.inr (.inr (.inl l0)), .inl l1, .inl l2, .inl l3] (pm_push r []) S1 K) := by
  refine (px_go (by decide +kernel : pm_fe 148 45 = some (.aload_n 0, 1)) rfl).trans ?_
  refine (px_get2 (idx := 20) (ci := 11) (k := 2) (by decide +kernel)).trans ((and_iff_right h1).trans ?_)
  refine (px_get2 (idx := 190) (ci := 5) (k := 2) (by decide +kernel)).trans ((and_iff_right h2).trans ?_)
  refine (px_go (by decide +kernel : pm_fe 148 52 = some (.iload_n 1, 1)) rfl).trans ?_
  refine (px_go (by decide +kernel : pm_fe 148 53 = some (.iload_n 2, 1)) rfl).trans ?_
  refine (px_iastore (by decide +kernel)).trans ((and_iff_right h3).trans ?_)
  refine (px_go (by decide +kernel : pm_fe 148 55 = some (.aload_n 0, 1)) rfl).trans ?_
  refine (px_v0 (idx := 120) (m' := 167) (ci := 11) (by decide +kernel)).trans ((and_iff_right ⟨h1, (by simp [pm_wl_n, pm_wl_c, pm_w] : pm_wl [] ≤ 8)⟩).trans ?_)
  exact Iff.rfl
theorem b148_59 {d : Nat} {G : PG} {M T : PH} {K : PV → PS → Prop} {l0 l1 l2 l3 : Int} : pm_Run d 148 59 [.inr (.inr (.inl l0)), .inl l1, .inl l2, .inl l3] [] (G, M, T) K ↔ K (.inl l3) (G, M, T) := by
  refine (px_go (by decide +kernel : pm_fe 148 59 = some (.iload_n 3, 1)) rfl).trans ?_
  refine (px_ri (by decide +kernel)).trans ?_
  exact Iff.rfl
-- X11_hours hours(I)I
theorem en149 {d : Nat} {a p0 : Int} {S : PS} {K : PV → PS → Prop} : pm_Call (d + 1) 149 [.inr (.inr (.inl a)), .inl p0] S K ↔ pm_Run d 149 0 [.inr (.inr (.inl a)), .inl p0, PU] [] S K := pm_Call_s.trans (and_iff_right (show 2 ≤ pm_ml 149 from by decide +kernel))
theorem b149_0 {d : Nat} {G : PG} {M T : PH} {K : PV → PS → Prop} {l0 l1 : Int} (h1 : pm_ob G l0 11) : pm_Run d 149 0 [.inr (.inr (.inl l0)), .inl l1, PU] [] (G, M, T) K ↔ pm_Call d 174 [.inr (.inr (.inl l0)), .inl l1, .inl 200] (G, M, T) (fun r S1 => pm_Run d 149 8 [.inr (.inr (.inl l0)), .inl l1, PU] (pm_push r []) S1 K) := by
  refine (px_go (by decide +kernel : pm_fe 149 0 = some (.aload_n 0, 1)) rfl).trans ?_
  refine (px_go (by decide +kernel : pm_fe 149 1 = some (.iload_n 1, 1)) rfl).trans ?_
  refine (px_go (by decide +kernel : pm_fe 149 2 = some (.sipush 200, 3)) rfl).trans ?_
  refine (px_v2 (idx := 288) (m' := 174) (ci := 11) (by decide +kernel)).trans ((and_iff_right ⟨h1, (by simp [pm_wl_n, pm_wl_c, pm_w] : pm_wl [] ≤ 8)⟩).trans ?_)
  exact Iff.rfl
theorem b149_8 {d : Nat} {G : PG} {M T : PH} {K : PV → PS → Prop} {l0 l1 s0 : Int} : pm_Run d 149 8 [.inr (.inr (.inl l0)), .inl l1, PU] [.inl s0] (G, M, T) K ↔ if pm_sg s0 ≠ 0 then pm_Run d 149 17 [.inr (.inr (.inl l0)), .inl l1, PU] [] (G, M, T) K else pm_Run d 149 11 [.inr (.inr (.inl l0)), .inl l1, PU] [] (G, M, T) K := by
  refine (px_if_ne (off := 9) (tgt := 17) (by decide +kernel)).trans ?_
  exact Iff.rfl
theorem b149_11 {d : Nat} {G : PG} {M T : PH} {K : PV → PS → Prop} {l0 l1 : Int} (h1 : pm_ob G l0 11) : pm_Run d 149 11 [.inr (.inr (.inl l0)), .inl l1, PU] [] (G, M, T) K ↔ pm_Call d 164 [.inr (.inr (.inl l0)), .inl 3] (G, M, T) (fun r S1 => pm_Run d 149 16 [.inr (.inr (.inl l0)), .inl l1, PU] (pm_push r []) S1 K) := by
  refine (px_go (by decide +kernel : pm_fe 149 11 = some (.aload_n 0, 1)) rfl).trans ?_
  refine (px_go (by decide +kernel : pm_fe 149 12 = some (.iconst 3, 1)) rfl).trans ?_
  refine (px_v1 (idx := 89) (m' := 164) (ci := 11) (by decide +kernel)).trans ((and_iff_right ⟨h1, (by simp [pm_wl_n, pm_wl_c, pm_w] : pm_wl [] ≤ 8)⟩).trans ?_)
  exact Iff.rfl
theorem b149_16 {d : Nat} {G : PG} {M T : PH} {K : PV → PS → Prop} {l0 l1 s0 : Int} : pm_Run d 149 16 [.inr (.inr (.inl l0)), .inl l1, PU] [.inl s0] (G, M, T) K ↔ K (.inl s0) (G, M, T) := by
  refine (px_ri (by decide +kernel)).trans ?_
  exact Iff.rfl
theorem b149_17 {d : Nat} {G : PG} {M T : PH} {K : PV → PS → Prop} {l0 l1 : Int} (h1 : pm_ob G l0 11) (h2 : pm_ob G (T l0.toNat 9) 7) : pm_Run d 149 17 [.inr (.inr (.inl l0)), .inl l1, PU] [] (G, M, T) K ↔ pm_Call d 101 [.inr (.inr (.inl (T l0.toNat 9))), .inr (.inr (.inl (T l0.toNat 2)))] (G, M, T) (fun r S1 => pm_Run d 149 28 [.inr (.inr (.inl l0)), .inl l1, PU] (pm_push r []) S1 K) := by
  refine (px_go (by decide +kernel : pm_fe 149 17 = some (.aload_n 0, 1)) rfl).trans ?_
  refine (px_get2 (idx := 71) (ci := 11) (k := 9) (by decide +kernel)).trans ((and_iff_right h1).trans ?_)
  refine (px_go (by decide +kernel : pm_fe 149 21 = some (.aload_n 0, 1)) rfl).trans ?_
  refine (px_get2 (idx := 20) (ci := 11) (k := 2) (by decide +kernel)).trans ((and_iff_right h1).trans ?_)
  refine (px_v1 (idx := 285) (m' := 101) (ci := 7) (by decide +kernel)).trans ((and_iff_right ⟨h2, (by simp [pm_wl_n, pm_wl_c, pm_w] : pm_wl [] ≤ 8)⟩).trans ?_)
  exact Iff.rfl
theorem b149_28 {d : Nat} {G : PG} {M T : PH} {K : PV → PS → Prop} {l0 l1 : Int} : pm_Run d 149 28 [.inr (.inr (.inl l0)), .inl l1, PU] [] (G, M, T) K ↔ pm_Run d 149 30 [.inr (.inr (.inl l0)), .inl l1, .inl 0] [] (G, M, T) K := by
  refine (px_go (by decide +kernel : pm_fe 149 28 = some (.iconst 0, 1)) rfl).trans ?_
  refine (px_go (by decide +kernel : pm_fe 149 29 = some (.istore_n 2, 1)) rfl).trans ?_
  exact Iff.rfl
theorem b149_30 {d : Nat} {G : PG} {M T : PH} {K : PV → PS → Prop} {l0 l1 l2 : Int} : pm_Run d 149 30 [.inr (.inr (.inl l0)), .inl l1, .inl l2] [] (G, M, T) K ↔ if pm_sg l1 ≤ pm_sg l2 then pm_Run d 149 56 [.inr (.inr (.inl l0)), .inl l1, .inl l2] [] (G, M, T) K else pm_Run d 149 35 [.inr (.inr (.inl l0)), .inl l1, .inl l2] [] (G, M, T) K := by
  refine (px_go (by decide +kernel : pm_fe 149 30 = some (.iload_n 2, 1)) rfl).trans ?_
  refine (px_go (by decide +kernel : pm_fe 149 31 = some (.iload_n 1, 1)) rfl).trans ?_
  refine (px_ic_ge (off := 24) (tgt := 56) (by decide +kernel)).trans ?_
  exact Iff.rfl
theorem b149_35 {d : Nat} {G : PG} {M T : PH} {K : PV → PS → Prop} {l0 l1 l2 : Int} (h1 : pm_ob G l0 11) (h2 : pm_ob G (T l0.toNat 5) 9) : pm_Run d 149 35 [.inr (.inr (.inl l0)), .inl l1, .inl l2] [] (G, M, T) K ↔ pm_Call d 121 [.inr (.inr (.inl (T l0.toNat 5))), .inr (.inr (.inl (T l0.toNat 3))), .inr (.inr (.inl (T l0.toNat 2)))] (G, M, T) (fun r S1 => pm_Run d 149 50 [.inr (.inr (.inl l0)), .inl l1, .inl l2] (pm_push r []) S1 K) := by
  refine (px_go (by decide +kernel : pm_fe 149 35 = some (.aload_n 0, 1)) rfl).trans ?_
  refine (px_get2 (idx := 41) (ci := 11) (k := 5) (by decide +kernel)).trans ((and_iff_right h1).trans ?_)
  refine (px_go (by decide +kernel : pm_fe 149 39 = some (.aload_n 0, 1)) rfl).trans ?_
  refine (px_get2 (idx := 27) (ci := 11) (k := 3) (by decide +kernel)).trans ((and_iff_right h1).trans ?_)
  refine (px_go (by decide +kernel : pm_fe 149 43 = some (.aload_n 0, 1)) rfl).trans ?_
  refine (px_get2 (idx := 20) (ci := 11) (k := 2) (by decide +kernel)).trans ((and_iff_right h1).trans ?_)
  refine (px_v2 (idx := 291) (m' := 121) (ci := 9) (by decide +kernel)).trans ((and_iff_right ⟨h2, (by simp [pm_wl_n, pm_wl_c, pm_w] : pm_wl [] ≤ 8)⟩).trans ?_)
  exact Iff.rfl
theorem b149_50 {d : Nat} {G : PG} {M T : PH} {K : PV → PS → Prop} {l0 l1 l2 : Int} : pm_Run d 149 50 [.inr (.inr (.inl l0)), .inl l1, .inl l2] [] (G, M, T) K ↔ pm_Run d 149 30 [.inr (.inr (.inl l0)), .inl l1, .inl (l2 + 1)] [] (G, M, T) K := by
  refine (px_go (by decide +kernel : pm_fe 149 50 = some (.iinc 2 1, 3)) rfl).trans ?_
  refine (px_goto (off := (-23)) (tgt := 30) (by decide +kernel)).trans ?_
  exact Iff.rfl
theorem b149_56 {d : Nat} {G : PG} {M T : PH} {K : PV → PS → Prop} {l0 l1 l2 : Int} (h1 : pm_ob G l0 11) : pm_Run d 149 56 [.inr (.inr (.inl l0)), .inl l1, .inl l2] [] (G, M, T) K ↔ pm_Call d 167 [.inr (.inr (.inl l0))] (G, M, T) (fun r S1 => pm_Run d 149 60 [.inr (.inr (.inl l0)), .inl l1, .inl l2] (pm_push r []) S1 K) := by
  refine (px_go (by decide +kernel : pm_fe 149 56 = some (.aload_n 0, 1)) rfl).trans ?_
  refine (px_v0 (idx := 120) (m' := 167) (ci := 11) (by decide +kernel)).trans ((and_iff_right ⟨h1, (by simp [pm_wl_n, pm_wl_c, pm_w] : pm_wl [] ≤ 8)⟩).trans ?_)
  exact Iff.rfl
theorem b149_60 {d : Nat} {G : PG} {M T : PH} {K : PV → PS → Prop} {l0 l1 l2 : Int} (h1 : pm_ob G l0 11) (h2 : pm_ob G (T l0.toNat 2) 5) : pm_Run d 149 60 [.inr (.inr (.inl l0)), .inl l1, .inl l2] [] (G, M, T) K ↔ K (.inl (M (T l0.toNat 2).toNat 0)) (G, M, T) := by
  refine (px_go (by decide +kernel : pm_fe 149 60 = some (.aload_n 0, 1)) rfl).trans ?_
  refine (px_get2 (idx := 20) (ci := 11) (k := 2) (by decide +kernel)).trans ((and_iff_right h1).trans ?_)
  refine (px_get0 (idx := 153) (ci := 5) (k := 0) (by decide +kernel)).trans ((and_iff_right h2).trans ?_)
  refine (px_ri (by decide +kernel)).trans ?_
  exact Iff.rfl
-- X11_storms storms(I)I
theorem en150 {d : Nat} {a p0 : Int} {S : PS} {K : PV → PS → Prop} : pm_Call (d + 1) 150 [.inr (.inr (.inl a)), .inl p0] S K ↔ pm_Run d 150 0 [.inr (.inr (.inl a)), .inl p0, PU] [] S K := pm_Call_s.trans (and_iff_right (show 2 ≤ pm_ml 150 from by decide +kernel))
theorem b150_0 {d : Nat} {G : PG} {M T : PH} {K : PV → PS → Prop} {l0 l1 : Int} (h1 : pm_ob G l0 11) : pm_Run d 150 0 [.inr (.inr (.inl l0)), .inl l1, PU] [] (G, M, T) K ↔ pm_Call d 174 [.inr (.inr (.inl l0)), .inl l1, .inl 100] (G, M, T) (fun r S1 => pm_Run d 150 7 [.inr (.inr (.inl l0)), .inl l1, PU] (pm_push r []) S1 K) := by
  refine (px_go (by decide +kernel : pm_fe 150 0 = some (.aload_n 0, 1)) rfl).trans ?_
  refine (px_go (by decide +kernel : pm_fe 150 1 = some (.iload_n 1, 1)) rfl).trans ?_
  refine (px_go (by decide +kernel : pm_fe 150 2 = some (.bipush 100, 2)) rfl).trans ?_
  refine (px_v2 (idx := 288) (m' := 174) (ci := 11) (by decide +kernel)).trans ((and_iff_right ⟨h1, (by simp [pm_wl_n, pm_wl_c, pm_w] : pm_wl [] ≤ 8)⟩).trans ?_)
  exact Iff.rfl
theorem b150_7 {d : Nat} {G : PG} {M T : PH} {K : PV → PS → Prop} {l0 l1 s0 : Int} : pm_Run d 150 7 [.inr (.inr (.inl l0)), .inl l1, PU] [.inl s0] (G, M, T) K ↔ if pm_sg s0 ≠ 0 then pm_Run d 150 16 [.inr (.inr (.inl l0)), .inl l1, PU] [] (G, M, T) K else pm_Run d 150 10 [.inr (.inr (.inl l0)), .inl l1, PU] [] (G, M, T) K := by
  refine (px_if_ne (off := 9) (tgt := 16) (by decide +kernel)).trans ?_
  exact Iff.rfl
theorem b150_10 {d : Nat} {G : PG} {M T : PH} {K : PV → PS → Prop} {l0 l1 : Int} (h1 : pm_ob G l0 11) : pm_Run d 150 10 [.inr (.inr (.inl l0)), .inl l1, PU] [] (G, M, T) K ↔ pm_Call d 164 [.inr (.inr (.inl l0)), .inl 3] (G, M, T) (fun r S1 => pm_Run d 150 15 [.inr (.inr (.inl l0)), .inl l1, PU] (pm_push r []) S1 K) := by
  refine (px_go (by decide +kernel : pm_fe 150 10 = some (.aload_n 0, 1)) rfl).trans ?_
  refine (px_go (by decide +kernel : pm_fe 150 11 = some (.iconst 3, 1)) rfl).trans ?_
  refine (px_v1 (idx := 89) (m' := 164) (ci := 11) (by decide +kernel)).trans ((and_iff_right ⟨h1, (by simp [pm_wl_n, pm_wl_c, pm_w] : pm_wl [] ≤ 8)⟩).trans ?_)
  exact Iff.rfl
theorem b150_15 {d : Nat} {G : PG} {M T : PH} {K : PV → PS → Prop} {l0 l1 s0 : Int} : pm_Run d 150 15 [.inr (.inr (.inl l0)), .inl l1, PU] [.inl s0] (G, M, T) K ↔ K (.inl s0) (G, M, T) := by
  refine (px_ri (by decide +kernel)).trans ?_
  exact Iff.rfl
theorem b150_16 {d : Nat} {G : PG} {M T : PH} {K : PV → PS → Prop} {l0 l1 : Int} (h1 : pm_ob G l0 11) (h2 : pm_ob G (T l0.toNat 9) 7) : pm_Run d 150 16 [.inr (.inr (.inl l0)), .inl l1, PU] [] (G, M, T) K ↔ pm_Call d 101 [.inr (.inr (.inl (T l0.toNat 9))), .inr (.inr (.inl (T l0.toNat 2)))] (G, M, T) (fun r S1 => pm_Run d 150 27 [.inr (.inr (.inl l0)), .inl l1, PU] (pm_push r []) S1 K) := by
  refine (px_go (by decide +kernel : pm_fe 150 16 = some (.aload_n 0, 1)) rfl).trans ?_
  refine (px_get2 (idx := 71) (ci := 11) (k := 9) (by decide +kernel)).trans ((and_iff_right h1).trans ?_)
  refine (px_go (by decide +kernel : pm_fe 150 20 = some (.aload_n 0, 1)) rfl).trans ?_
  refine (px_get2 (idx := 20) (ci := 11) (k := 2) (by decide +kernel)).trans ((and_iff_right h1).trans ?_)
  refine (px_v1 (idx := 285) (m' := 101) (ci := 7) (by decide +kernel)).trans ((and_iff_right ⟨h2, (by simp [pm_wl_n, pm_wl_c, pm_w] : pm_wl [] ≤ 8)⟩).trans ?_)
  exact Iff.rfl
theorem b150_27 {d : Nat} {G : PG} {M T : PH} {K : PV → PS → Prop} {l0 l1 : Int} : pm_Run d 150 27 [.inr (.inr (.inl l0)), .inl l1, PU] [] (G, M, T) K ↔ pm_Run d 150 29 [.inr (.inr (.inl l0)), .inl l1, .inl 0] [] (G, M, T) K := by
  refine (px_go (by decide +kernel : pm_fe 150 27 = some (.iconst 0, 1)) rfl).trans ?_
  refine (px_go (by decide +kernel : pm_fe 150 28 = some (.istore_n 2, 1)) rfl).trans ?_
  exact Iff.rfl
theorem b150_29 {d : Nat} {G : PG} {M T : PH} {K : PV → PS → Prop} {l0 l1 l2 : Int} : pm_Run d 150 29 [.inr (.inr (.inl l0)), .inl l1, .inl l2] [] (G, M, T) K ↔ if pm_sg l1 ≤ pm_sg l2 then pm_Run d 150 59 [.inr (.inr (.inl l0)), .inl l1, .inl l2] [] (G, M, T) K else pm_Run d 150 34 [.inr (.inr (.inl l0)), .inl l1, .inl l2] [] (G, M, T) K := by
  refine (px_go (by decide +kernel : pm_fe 150 29 = some (.iload_n 2, 1)) rfl).trans ?_
  refine (px_go (by decide +kernel : pm_fe 150 30 = some (.iload_n 1, 1)) rfl).trans ?_
  refine (px_ic_ge (off := 28) (tgt := 59) (by decide +kernel)).trans ?_
  exact Iff.rfl
theorem b150_34 {d : Nat} {G : PG} {M T : PH} {K : PV → PS → Prop} {l0 l1 l2 : Int} (h1 : pm_ob G l0 11) : pm_Run d 150 34 [.inr (.inr (.inl l0)), .inl l1, .inl l2] [] (G, M, T) K ↔ pm_Call d 175 [.inr (.inr (.inl l0))] (G, M, T) (fun r S1 => pm_Run d 150 38 [.inr (.inr (.inl l0)), .inl l1, .inl l2] (pm_push r []) S1 K) := by
  refine (px_go (by decide +kernel : pm_fe 150 34 = some (.aload_n 0, 1)) rfl).trans ?_
  refine (px_v0 (idx := 294) (m' := 175) (ci := 11) (by decide +kernel)).trans ((and_iff_right ⟨h1, (by simp [pm_wl_n, pm_wl_c, pm_w] : pm_wl [] ≤ 8)⟩).trans ?_)
  exact Iff.rfl
theorem b150_38 {d : Nat} {G : PG} {M T : PH} {K : PV → PS → Prop} {l0 l1 l2 : Int} (h1 : pm_ob G l0 11) (h2 : pm_ob G (T l0.toNat 5) 9) : pm_Run d 150 38 [.inr (.inr (.inl l0)), .inl l1, .inl l2] [] (G, M, T) K ↔ pm_Call d 121 [.inr (.inr (.inl (T l0.toNat 5))), .inr (.inr (.inl (T l0.toNat 3))), .inr (.inr (.inl (T l0.toNat 2)))] (G, M, T) (fun r S1 => pm_Run d 150 53 [.inr (.inr (.inl l0)), .inl l1, .inl l2] (pm_push r []) S1 K) := by
  refine (px_go (by decide +kernel : pm_fe 150 38 = some (.aload_n 0, 1)) rfl).trans ?_
  refine (px_get2 (idx := 41) (ci := 11) (k := 5) (by decide +kernel)).trans ((and_iff_right h1).trans ?_)
  refine (px_go (by decide +kernel : pm_fe 150 42 = some (.aload_n 0, 1)) rfl).trans ?_
  refine (px_get2 (idx := 27) (ci := 11) (k := 3) (by decide +kernel)).trans ((and_iff_right h1).trans ?_)
  refine (px_go (by decide +kernel : pm_fe 150 46 = some (.aload_n 0, 1)) rfl).trans ?_
  refine (px_get2 (idx := 20) (ci := 11) (k := 2) (by decide +kernel)).trans ((and_iff_right h1).trans ?_)
  refine (px_v2 (idx := 291) (m' := 121) (ci := 9) (by decide +kernel)).trans ((and_iff_right ⟨h2, (by simp [pm_wl_n, pm_wl_c, pm_w] : pm_wl [] ≤ 8)⟩).trans ?_)
  exact Iff.rfl
theorem b150_53 {d : Nat} {G : PG} {M T : PH} {K : PV → PS → Prop} {l0 l1 l2 : Int} : pm_Run d 150 53 [.inr (.inr (.inl l0)), .inl l1, .inl l2] [] (G, M, T) K ↔ pm_Run d 150 29 [.inr (.inr (.inl l0)), .inl l1, .inl (l2 + 1)] [] (G, M, T) K := by
  refine (px_go (by decide +kernel : pm_fe 150 53 = some (.iinc 2 1, 3)) rfl).trans ?_
  refine (px_goto (off := (-27)) (tgt := 29) (by decide +kernel)).trans ?_
  exact Iff.rfl
theorem b150_59 {d : Nat} {G : PG} {M T : PH} {K : PV → PS → Prop} {l0 l1 l2 : Int} (h1 : pm_ob G l0 11) : pm_Run d 150 59 [.inr (.inr (.inl l0)), .inl l1, .inl l2] [] (G, M, T) K ↔ pm_Call d 167 [.inr (.inr (.inl l0))] (G, M, T) (fun r S1 => pm_Run d 150 63 [.inr (.inr (.inl l0)), .inl l1, .inl l2] (pm_push r []) S1 K) := by
  refine (px_go (by decide +kernel : pm_fe 150 59 = some (.aload_n 0, 1)) rfl).trans ?_
  refine (px_v0 (idx := 120) (m' := 167) (ci := 11) (by decide +kernel)).trans ((and_iff_right ⟨h1, (by simp [pm_wl_n, pm_wl_c, pm_w] : pm_wl [] ≤ 8)⟩).trans ?_)
  exact Iff.rfl
theorem b150_63 {d : Nat} {G : PG} {M T : PH} {K : PV → PS → Prop} {l0 l1 l2 : Int} (h1 : pm_ob G l0 11) (h2 : pm_ob G (T l0.toNat 2) 5) : pm_Run d 150 63 [.inr (.inr (.inl l0)), .inl l1, .inl l2] [] (G, M, T) K ↔ K (.inl (M (T l0.toNat 2).toNat 0)) (G, M, T) := by
  refine (px_go (by decide +kernel : pm_fe 150 63 = some (.aload_n 0, 1)) rfl).trans ?_
  refine (px_get2 (idx := 20) (ci := 11) (k := 2) (by decide +kernel)).trans ((and_iff_right h1).trans ?_)
  refine (px_get0 (idx := 153) (ci := 5) (k := 0) (by decide +kernel)).trans ((and_iff_right h2).trans ?_)
  refine (px_ri (by decide +kernel)).trans ?_
  exact Iff.rfl
-- X11_undo undo()Z
theorem en151 {d : Nat} {a : Int} {S : PS} {K : PV → PS → Prop} : pm_Call (d + 1) 151 [.inr (.inr (.inl a))] S K ↔ pm_Run d 151 0 [.inr (.inr (.inl a))] [] S K := pm_Call_s.trans (and_iff_right (show 1 ≤ pm_ml 151 from by decide +kernel))
theorem b151_0 {d : Nat} {G : PG} {M T : PH} {K : PV → PS → Prop} {l0 : Int} (h1 : pm_ob G l0 11) (h2 : pm_ob G (T l0.toNat 9) 7) : pm_Run d 151 0 [.inr (.inr (.inl l0))] [] (G, M, T) K ↔ if pm_sg (M (T l0.toNat 9).toNat 2) ≠ 0 then pm_Run d 151 25 [.inr (.inr (.inl l0))] [] (G, M, T) K else pm_Run d 151 10 [.inr (.inr (.inl l0))] [] (G, M, T) K := by
  refine (px_go (by decide +kernel : pm_fe 151 0 = some (.aload_n 0, 1)) rfl).trans ?_
  refine (px_get2 (idx := 71) (ci := 11) (k := 9) (by decide +kernel)).trans ((and_iff_right h1).trans ?_)
  refine (px_get0 (idx := 162) (ci := 7) (k := 2) (by decide +kernel)).trans ((and_iff_right h2).trans ?_)
  refine (px_if_ne (off := 18) (tgt := 25) (by decide +kernel)).trans ?_
  exact Iff.rfl
theorem b151_10 {d : Nat} {G : PG} {M T : PH} {K : PV → PS → Prop} {l0 : Int} (h1 : pm_ob G l0 11) : pm_Run d 151 10 [.inr (.inr (.inl l0))] [] (G, M, T) K ↔ pm_Call d 164 [.inr (.inr (.inl l0)), .inl 4] (G, M, T) (fun r S1 => pm_Run d 151 15 [.inr (.inr (.inl l0))] (pm_push r []) S1 K) := by
  refine (px_go (by decide +kernel : pm_fe 151 10 = some (.aload_n 0, 1)) rfl).trans ?_
  refine (px_go (by decide +kernel : pm_fe 151 11 = some (.iconst 4, 1)) rfl).trans ?_
  refine (px_v1 (idx := 89) (m' := 164) (ci := 11) (by decide +kernel)).trans ((and_iff_right ⟨h1, (by simp [pm_wl_n, pm_wl_c, pm_w] : pm_wl [] ≤ 8)⟩).trans ?_)
  exact Iff.rfl
theorem b151_15 {d : Nat} {G : PG} {M T : PH} {K : PV → PS → Prop} {l0 s0 : Int} : pm_Run d 151 15 [.inr (.inr (.inl l0))] [.inl s0] (G, M, T) K ↔ if pm_sg s0 = pm_sg (-1) then pm_Run d 151 23 [.inr (.inr (.inl l0))] [] (G, M, T) K else pm_Run d 151 19 [.inr (.inr (.inl l0))] [] (G, M, T) K := by
  refine (px_go (by decide +kernel : pm_fe 151 15 = some (.iconst (-1), 1)) rfl).trans ?_
  refine (px_ic_eq (off := 7) (tgt := 23) (by decide +kernel)).trans ?_
  exact Iff.rfl
theorem b151_19 {d : Nat} {G : PG} {M T : PH} {K : PV → PS → Prop} {l0 : Int} : pm_Run d 151 19 [.inr (.inr (.inl l0))] [] (G, M, T) K ↔ pm_Run d 151 24 [.inr (.inr (.inl l0))] [.inl 1] (G, M, T) K := by
  refine (px_go (by decide +kernel : pm_fe 151 19 = some (.iconst 1, 1)) rfl).trans ?_
  refine (px_goto (off := 4) (tgt := 24) (by decide +kernel)).trans ?_
  exact Iff.rfl
theorem b151_23 {d : Nat} {G : PG} {M T : PH} {K : PV → PS → Prop} {l0 : Int} : pm_Run d 151 23 [.inr (.inr (.inl l0))] [] (G, M, T) K ↔ pm_Run d 151 24 [.inr (.inr (.inl l0))] [.inl 0] (G, M, T) K := by
  refine (px_go (by decide +kernel : pm_fe 151 23 = some (.iconst 0, 1)) rfl).trans ?_
  exact Iff.rfl
theorem b151_24 {d : Nat} {G : PG} {M T : PH} {K : PV → PS → Prop} {l0 s0 : Int} (h1 : s0 = 0 ∨ s0 = 1) : pm_Run d 151 24 [.inr (.inr (.inl l0))] [.inl s0] (G, M, T) K ↔ K (.inl s0) (G, M, T) := by
  refine (px_rz (by decide +kernel)).trans ((and_iff_right h1).trans ?_)
  exact Iff.rfl
theorem b151_25 {d : Nat} {G : PG} {M T : PH} {K : PV → PS → Prop} {l0 : Int} (h1 : pm_ob G l0 11) (h2 : pm_ob G (T l0.toNat 9) 7) : pm_Run d 151 25 [.inr (.inr (.inl l0))] [] (G, M, T) K ↔ pm_Call d 102 [.inr (.inr (.inl (T l0.toNat 9))), .inr (.inr (.inl (T l0.toNat 2)))] (G, M, T) (fun r S1 => pm_Run d 151 36 [.inr (.inr (.inl l0))] (pm_push r []) S1 K) := by
  refine (px_go (by decide +kernel : pm_fe 151 25 = some (.aload_n 0, 1)) rfl).trans ?_
  refine (px_get2 (idx := 71) (ci := 11) (k := 9) (by decide +kernel)).trans ((and_iff_right h1).trans ?_)
  refine (px_go (by decide +kernel : pm_fe 151 29 = some (.aload_n 0, 1)) rfl).trans ?_
  refine (px_get2 (idx := 20) (ci := 11) (k := 2) (by decide +kernel)).trans ((and_iff_right h1).trans ?_)
  refine (px_v1 (idx := 297) (m' := 102) (ci := 7) (by decide +kernel)).trans ((and_iff_right ⟨h2, (by simp [pm_wl_n, pm_wl_c, pm_w] : pm_wl [] ≤ 8)⟩).trans ?_)
  exact Iff.rfl
theorem b151_36 {d : Nat} {G : PG} {M T : PH} {K : PV → PS → Prop} {l0 : Int} (h1 : pm_ob G l0 11) : pm_Run d 151 36 [.inr (.inr (.inl l0))] [] (G, M, T) K ↔ pm_Call d 167 [.inr (.inr (.inl l0))] (G, M, T) (fun r S1 => pm_Run d 151 40 [.inr (.inr (.inl l0))] (pm_push r []) S1 K) := by
  refine (px_go (by decide +kernel : pm_fe 151 36 = some (.aload_n 0, 1)) rfl).trans ?_
  refine (px_v0 (idx := 120) (m' := 167) (ci := 11) (by decide +kernel)).trans ((and_iff_right ⟨h1, (by simp [pm_wl_n, pm_wl_c, pm_w] : pm_wl [] ≤ 8)⟩).trans ?_)
  exact Iff.rfl
theorem b151_40 {d : Nat} {G : PG} {M T : PH} {K : PV → PS → Prop} {l0 : Int} : pm_Run d 151 40 [.inr (.inr (.inl l0))] [] (G, M, T) K ↔ K (.inl 1) (G, M, T) := by
  refine (px_go (by decide +kernel : pm_fe 151 40 = some (.iconst 1, 1)) rfl).trans ?_
  refine (px_rz (by decide +kernel)).trans ((and_iff_right (by decide : (1 : Int) = (0 : Int) ∨ (1 : Int) = (1 : Int))).trans ?_)
  exact Iff.rfl
-- X11_seed seed(I)Z
theorem en152 {d : Nat} {a p0 : Int} {S : PS} {K : PV → PS → Prop} : pm_Call (d + 1) 152 [.inr (.inr (.inl a)), .inl p0] S K ↔ pm_Run d 152 0 [.inr (.inr (.inl a)), .inl p0] [] S K := pm_Call_s.trans (and_iff_right (show 2 ≤ pm_ml 152 from by decide +kernel))
theorem b152_0 {d : Nat} {G : PG} {M T : PH} {K : PV → PS → Prop} {l0 l1 : Int} : pm_Run d 152 0 [.inr (.inr (.inl l0)), .inl l1] [] (G, M, T) K ↔ if 0 ≤ pm_sg l1 then pm_Run d 152 19 [.inr (.inr (.inl l0)), .inl l1] [] (G, M, T) K else pm_Run d 152 4 [.inr (.inr (.inl l0)), .inl l1] [] (G, M, T) K := by
  refine (px_go (by decide +kernel : pm_fe 152 0 = some (.iload_n 1, 1)) rfl).trans ?_
  refine (px_if_ge (off := 18) (tgt := 19) (by decide +kernel)).trans ?_
  exact Iff.rfl
theorem b152_4 {d : Nat} {G : PG} {M T : PH} {K : PV → PS → Prop} {l0 l1 : Int} (h1 : pm_ob G l0 11) : pm_Run d 152 4 [.inr (.inr (.inl l0)), .inl l1] [] (G, M, T) K ↔ pm_Call d 164 [.inr (.inr (.inl l0)), .inl 5] (G, M, T) (fun r S1 => pm_Run d 152 9 [.inr (.inr (.inl l0)), .inl l1] (pm_push r []) S1 K) := by
  refine (px_go (by decide +kernel : pm_fe 152 4 = some (.aload_n 0, 1)) rfl).trans ?_
  refine (px_go (by decide +kernel : pm_fe 152 5 = some (.iconst 5, 1)) rfl).trans ?_
  refine (px_v1 (idx := 89) (m' := 164) (ci := 11) (by decide +kernel)).trans ((and_iff_right ⟨h1, (by simp [pm_wl_n, pm_wl_c, pm_w] : pm_wl [] ≤ 8)⟩).trans ?_)
  exact Iff.rfl
theorem b152_9 {d : Nat} {G : PG} {M T : PH} {K : PV → PS → Prop} {l0 l1 s0 : Int} : pm_Run d 152 9 [.inr (.inr (.inl l0)), .inl l1] [.inl s0] (G, M, T) K ↔ if pm_sg s0 = pm_sg (-1) then pm_Run d 152 17 [.inr (.inr (.inl l0)), .inl l1] [] (G, M, T) K else pm_Run d 152 13 [.inr (.inr (.inl l0)), .inl l1] [] (G, M, T) K := by
  refine (px_go (by decide +kernel : pm_fe 152 9 = some (.iconst (-1), 1)) rfl).trans ?_
  refine (px_ic_eq (off := 7) (tgt := 17) (by decide +kernel)).trans ?_
  exact Iff.rfl
theorem b152_13 {d : Nat} {G : PG} {M T : PH} {K : PV → PS → Prop} {l0 l1 : Int} : pm_Run d 152 13 [.inr (.inr (.inl l0)), .inl l1] [] (G, M, T) K ↔ pm_Run d 152 18 [.inr (.inr (.inl l0)), .inl l1] [.inl 1] (G, M, T) K := by
  refine (px_go (by decide +kernel : pm_fe 152 13 = some (.iconst 1, 1)) rfl).trans ?_
  refine (px_goto (off := 4) (tgt := 18) (by decide +kernel)).trans ?_
  exact Iff.rfl
theorem b152_17 {d : Nat} {G : PG} {M T : PH} {K : PV → PS → Prop} {l0 l1 : Int} : pm_Run d 152 17 [.inr (.inr (.inl l0)), .inl l1] [] (G, M, T) K ↔ pm_Run d 152 18 [.inr (.inr (.inl l0)), .inl l1] [.inl 0] (G, M, T) K := by
  refine (px_go (by decide +kernel : pm_fe 152 17 = some (.iconst 0, 1)) rfl).trans ?_
  exact Iff.rfl
theorem b152_18 {d : Nat} {G : PG} {M T : PH} {K : PV → PS → Prop} {l0 l1 s0 : Int} (h1 : s0 = 0 ∨ s0 = 1) : pm_Run d 152 18 [.inr (.inr (.inl l0)), .inl l1] [.inl s0] (G, M, T) K ↔ K (.inl s0) (G, M, T) := by
  refine (px_rz (by decide +kernel)).trans ((and_iff_right h1).trans ?_)
  exact Iff.rfl
theorem b152_19 {d : Nat} {G : PG} {M T : PH} {K : PV → PS → Prop} {l0 l1 : Int} (h1 : pm_ob G l0 11) : pm_Run d 152 19 [.inr (.inr (.inl l0)), .inl l1] [] (G, M, T) K ↔ K (.inl 1) (G, pm_sa M l0.toNat (pm_up (M l0.toNat) 12 l1), T) := by
  refine (px_go (by decide +kernel : pm_fe 152 19 = some (.aload_n 0, 1)) rfl).trans ?_
  refine (px_go (by decide +kernel : pm_fe 152 20 = some (.iload_n 1, 1)) rfl).trans ?_
  refine (px_put0 (idx := 82) (ci := 11) (k := 12) (by decide +kernel)).trans ((and_iff_right h1).trans ?_)
  refine (px_go (by decide +kernel : pm_fe 152 24 = some (.iconst 1, 1)) rfl).trans ?_
  refine (px_rz (by decide +kernel)).trans ((and_iff_right (by decide : (1 : Int) = (0 : Int) ∨ (1 : Int) = (1 : Int))).trans ?_)
  exact Iff.rfl
-- X11_wished wished(III)I
theorem en153 {d : Nat} {a p0 p1 p2 : Int} {S : PS} {K : PV → PS → Prop} : pm_Call (d + 1) 153 [.inr (.inr (.inl a)), .inl p0, .inl p1, .inl p2] S K ↔ pm_Run d 153 0 [.inr (.inr (.inl a)), .inl p0, .inl p1, .inl p2] [] S K := pm_Call_s.trans (and_iff_right (show 4 ≤ pm_ml 153 from by decide +kernel))
theorem b153_0 {d : Nat} {G : PG} {M T : PH} {K : PV → PS → Prop} {l0 l1 l2 l3 : Int} (h1 : pm_ob G l0 11) : pm_Run d 153 0 [.inr (.inr (.inl l0)), .inl l1, .inl l2, .inl l3] [] (G, M, T) K ↔ pm_Call d 170 [.inr (.inr (.inl l0)), .inl l1] (G, M, T) (fun r S1 => pm_Run d 153 5 [.inr (.inr (.inl l0)), .inl l1, .inl l2, .inl l3] (pm_push r []) S1 K) := by
  refine (px_go (by decide +kernel : pm_fe 153 0 = some (.aload_n 0, 1)) rfl).trans ?_
  refine (px_go (by decide +kernel : pm_fe 153 1 = some (.iload_n 1, 1)) rfl).trans ?_
  refine (px_v1 (idx := 178) (m' := 170) (ci := 11) (by decide +kernel)).trans ((and_iff_right ⟨h1, (by simp [pm_wl_n, pm_wl_c, pm_w] : pm_wl [] ≤ 8)⟩).trans ?_)
  exact Iff.rfl
theorem b153_5 {d : Nat} {G : PG} {M T : PH} {K : PV → PS → Prop} {l0 l1 l2 l3 s0 : Int} : pm_Run d 153 5 [.inr (.inr (.inl l0)), .inl l1, .inl l2, .inl l3] [.inl s0] (G, M, T) K ↔ if pm_sg s0 = 0 then pm_Run d 153 35 [.inr (.inr (.inl l0)), .inl l1, .inl l2, .inl l3] [] (G, M, T) K else pm_Run d 153 8 [.inr (.inr (.inl l0)), .inl l1, .inl l2, .inl l3] [] (G, M, T) K := by
  refine (px_if_eq (off := 30) (tgt := 35) (by decide +kernel)).trans ?_
  exact Iff.rfl
theorem b153_8 {d : Nat} {G : PG} {M T : PH} {K : PV → PS → Prop} {l0 l1 l2 l3 : Int} : pm_Run d 153 8 [.inr (.inr (.inl l0)), .inl l1, .inl l2, .inl l3] [] (G, M, T) K ↔ if pm_sg l2 < pm_sg (-999) then pm_Run d 153 35 [.inr (.inr (.inl l0)), .inl l1, .inl l2, .inl l3] [] (G, M, T) K else pm_Run d 153 15 [.inr (.inr (.inl l0)), .inl l1, .inl l2, .inl l3] [] (G, M, T) K := by
  refine (px_go (by decide +kernel : pm_fe 153 8 = some (.iload_n 2, 1)) rfl).trans ?_
  refine (px_go (by decide +kernel : pm_fe 153 9 = some (.sipush (-999), 3)) rfl).trans ?_
  refine (px_ic_lt (off := 23) (tgt := 35) (by decide +kernel)).trans ?_
  exact Iff.rfl
theorem b153_15 {d : Nat} {G : PG} {M T : PH} {K : PV → PS → Prop} {l0 l1 l2 l3 : Int} : pm_Run d 153 15 [.inr (.inr (.inl l0)), .inl l1, .inl l2, .inl l3] [] (G, M, T) K ↔ if pm_sg 999 < pm_sg l2 then pm_Run d 153 35 [.inr (.inr (.inl l0)), .inl l1, .inl l2, .inl l3] [] (G, M, T) K else pm_Run d 153 22 [.inr (.inr (.inl l0)), .inl l1, .inl l2, .inl l3] [] (G, M, T) K := by
  refine (px_go (by decide +kernel : pm_fe 153 15 = some (.iload_n 2, 1)) rfl).trans ?_
  refine (px_go (by decide +kernel : pm_fe 153 16 = some (.sipush 999, 3)) rfl).trans ?_
  refine (px_ic_gt (off := 16) (tgt := 35) (by decide +kernel)).trans ?_
  exact Iff.rfl
theorem b153_22 {d : Nat} {G : PG} {M T : PH} {K : PV → PS → Prop} {l0 l1 l2 l3 : Int} : pm_Run d 153 22 [.inr (.inr (.inl l0)), .inl l1, .inl l2, .inl l3] [] (G, M, T) K ↔ if pm_sg l3 = pm_sg (-1) then pm_Run d 153 37 [.inr (.inr (.inl l0)), .inl l1, .inl l2, .inl l3] [] (G, M, T) K else pm_Run d 153 27 [.inr (.inr (.inl l0)), .inl l1, .inl l2, .inl l3] [] (G, M, T) K := by
  refine (px_go (by decide +kernel : pm_fe 153 22 = some (.iload_n 3, 1)) rfl).trans ?_
  refine (px_go (by decide +kernel : pm_fe 153 23 = some (.iconst (-1), 1)) rfl).trans ?_
  refine (px_ic_eq (off := 13) (tgt := 37) (by decide +kernel)).trans ?_
  exact Iff.rfl
theorem b153_27 {d : Nat} {G : PG} {M T : PH} {K : PV → PS → Prop} {l0 l1 l2 l3 : Int} (h1 : pm_ob G l0 11) : pm_Run d 153 27 [.inr (.inr (.inl l0)), .inl l1, .inl l2, .inl l3] [] (G, M, T) K ↔ pm_Call d 169 [.inr (.inr (.inl l0)), .inl l3] (G, M, T) (fun r S1 => pm_Run d 153 32 [.inr (.inr (.inl l0)), .inl l1, .inl l2, .inl l3] (pm_push r []) S1 K) := by
  refine (px_go (by decide +kernel : pm_fe 153 27 = some (.aload_n 0, 1)) rfl).trans ?_
  refine (px_go (by decide +kernel : pm_fe 153 28 = some (.iload_n 3, 1)) rfl).trans ?_
  refine (px_v1 (idx := 165) (m' := 169) (ci := 11) (by decide +kernel)).trans ((and_iff_right ⟨h1, (by simp [pm_wl_n, pm_wl_c, pm_w] : pm_wl [] ≤ 8)⟩).trans ?_)
  exact Iff.rfl
theorem b153_32 {d : Nat} {G : PG} {M T : PH} {K : PV → PS → Prop} {l0 l1 l2 l3 s0 : Int} : pm_Run d 153 32 [.inr (.inr (.inl l0)), .inl l1, .inl l2, .inl l3] [.inl s0] (G, M, T) K ↔ if pm_sg s0 ≠ 0 then pm_Run d 153 37 [.inr (.inr (.inl l0)), .inl l1, .inl l2, .inl l3] [] (G, M, T) K else pm_Run d 153 35 [.inr (.inr (.inl l0)), .inl l1, .inl l2, .inl l3] [] (G, M, T) K := by
  refine (px_if_ne (off := 5) (tgt := 37) (by decide +kernel)).trans ?_
  exact Iff.rfl
theorem b153_35 {d : Nat} {G : PG} {M T : PH} {K : PV → PS → Prop} {l0 l1 l2 l3 : Int} : pm_Run d 153 35 [.inr (.inr (.inl l0)), .inl l1, .inl l2, .inl l3] [] (G, M, T) K ↔ K (.inl (-1)) (G, M, T) := by
  refine (px_go (by decide +kernel : pm_fe 153 35 = some (.iconst (-1), 1)) rfl).trans ?_
  refine (px_ri (by decide +kernel)).trans ?_
  exact Iff.rfl
theorem b153_37 {d : Nat} {G : PG} {M T : PH} {K : PV → PS → Prop} {l0 l1 l2 l3 : Int} (h1 : pm_ob G l0 11) (h2 : pm_ob G (T l0.toNat 7) 0) : pm_Run d 153 37 [.inr (.inr (.inl l0)), .inl l1, .inl l2, .inl l3] [] (G, M, T) K ↔ pm_Call d 2 [.inr (.inr (.inl (T l0.toNat 7))), .inl l1, .inl l2] (G, M, T) (fun r S1 => pm_Run d 153 46 [.inr (.inr (.inl l0)), .inl l1, .inl l2, .inl l3] (pm_push r []) S1 K) := by
  refine (px_go (by decide +kernel : pm_fe 153 37 = some (.aload_n 0, 1)) rfl).trans ?_
  refine (px_get2 (idx := 57) (ci := 11) (k := 7) (by decide +kernel)).trans ((and_iff_right h1).trans ?_)
  refine (px_go (by decide +kernel : pm_fe 153 41 = some (.iload_n 1, 1)) rfl).trans ?_
  refine (px_go (by decide +kernel : pm_fe 153 42 = some (.iload_n 2, 1)) rfl).trans ?_
  refine (px_v2 (idx := 300) (m' := 2) (ci := 0) (by decide +kernel)).trans ((and_iff_right ⟨h2, (by simp [pm_wl_n, pm_wl_c, pm_w] : pm_wl [] ≤ 8)⟩).trans ?_)
  exact Iff.rfl
theorem b153_46 {d : Nat} {G : PG} {M T : PH} {K : PV → PS → Prop} {l0 l1 l2 l3 s0 : Int} : pm_Run d 153 46 [.inr (.inr (.inl l0)), .inl l1, .inl l2, .inl l3] [.inl s0] (G, M, T) K ↔ if pm_sg s0 ≠ 0 then pm_Run d 153 51 [.inr (.inr (.inl l0)), .inl l1, .inl l2, .inl l3] [] (G, M, T) K else pm_Run d 153 49 [.inr (.inr (.inl l0)), .inl l1, .inl l2, .inl l3] [] (G, M, T) K := by
  refine (px_if_ne (off := 5) (tgt := 51) (by decide +kernel)).trans ?_
  exact Iff.rfl
theorem b153_49 {d : Nat} {G : PG} {M T : PH} {K : PV → PS → Prop} {l0 l1 l2 l3 : Int} : pm_Run d 153 49 [.inr (.inr (.inl l0)), .inl l1, .inl l2, .inl l3] [] (G, M, T) K ↔ K (.inl (-1)) (G, M, T) := by
  refine (px_go (by decide +kernel : pm_fe 153 49 = some (.iconst (-1), 1)) rfl).trans ?_
  refine (px_ri (by decide +kernel)).trans ?_
  exact Iff.rfl
theorem b153_51 {d : Nat} {G : PG} {M T : PH} {K : PV → PS → Prop} {l0 l1 l2 l3 : Int} : pm_Run d 153 51 [.inr (.inr (.inl l0)), .inl l1, .inl l2, .inl l3] [] (G, M, T) K ↔ if pm_sg l3 ≠ pm_sg (-1) then pm_Run d 153 66 [.inr (.inr (.inl l0)), .inl l1, .inl l2, .inl l3] [] (G, M, T) K else pm_Run d 153 56 [.inr (.inr (.inl l0)), .inl l1, .inl l2, .inl l3] [] (G, M, T) K := by
  refine (px_go (by decide +kernel : pm_fe 153 51 = some (.iload_n 3, 1)) rfl).trans ?_
  refine (px_go (by decide +kernel : pm_fe 153 52 = some (.iconst (-1), 1)) rfl).trans ?_
  refine (px_ic_ne (off := 13) (tgt := 66) (by decide +kernel)).trans ?_
  exact Iff.rfl
theorem b153_56 {d : Nat} {G : PG} {M T : PH} {K : PV → PS → Prop} {l0 l1 l2 l3 : Int} (h1 : pm_ob G l0 11) (h2 : pm_ob G (T l0.toNat 7) 0) : pm_Run d 153 56 [.inr (.inr (.inl l0)), .inl l1, .inl l2, .inl l3] [] (G, M, T) K ↔ pm_Run d 153 75 [.inr (.inr (.inl l0)), .inl l1, .inl l2, .inl l3] [.inl (M (T l0.toNat 7).toNat 13)] (G, M, T) K := by
  refine (px_go (by decide +kernel : pm_fe 153 56 = some (.aload_n 0, 1)) rfl).trans ?_
  refine (px_get2 (idx := 57) (ci := 11) (k := 7) (by decide +kernel)).trans ((and_iff_right h1).trans ?_)
  refine (px_get0 (idx := 303) (ci := 0) (k := 13) (by decide +kernel)).trans ((and_iff_right h2).trans ?_)
  refine (px_goto (off := 12) (tgt := 75) (by decide +kernel)).trans ?_
  exact Iff.rfl
theorem b153_66 {d : Nat} {G : PG} {M T : PH} {K : PV → PS → Prop} {l0 l1 l2 l3 : Int} (h1 : pm_ob G l0 11) (h2 : pm_ob G (T l0.toNat 7) 0) (h3 : pm_ar G (T (T l0.toNat 7).toNat 14) 100 l3) : pm_Run d 153 66 [.inr (.inr (.inl l0)), .inl l1, .inl l2, .inl l3] [] (G, M, T) K ↔ pm_Run d 153 75 [.inr (.inr (.inl l0)), .inl l1, .inl l2, .inl l3] [.inl (M (T (T l0.toNat 7).toNat 14).toNat (pm_sg l3).toNat)] (G, M, T) K := by
  refine (px_go (by decide +kernel : pm_fe 153 66 = some (.aload_n 0, 1)) rfl).trans ?_
  refine (px_get2 (idx := 57) (ci := 11) (k := 7) (by decide +kernel)).trans ((and_iff_right h1).trans ?_)
  refine (px_get2 (idx := 306) (ci := 0) (k := 14) (by decide +kernel)).trans ((and_iff_right h2).trans ?_)
  refine (px_go (by decide +kernel : pm_fe 153 73 = some (.iload_n 3, 1)) rfl).trans ?_
  refine (px_iaload (by decide +kernel) h3).trans ?_
  exact Iff.rfl
theorem b153_75 {d : Nat} {G : PG} {M T : PH} {K : PV → PS → Prop} {l0 l1 l2 l3 s0 : Int} : pm_Run d 153 75 [.inr (.inr (.inl l0)), .inl l1, .inl l2, .inl l3] [.inl s0] (G, M, T) K ↔ K (.inl s0) (G, M, T) := by
  refine (px_ri (by decide +kernel)).trans ?_
  exact Iff.rfl
-- X11_rest rest(I)I
theorem en154 {d : Nat} {a p0 : Int} {S : PS} {K : PV → PS → Prop} : pm_Call (d + 1) 154 [.inr (.inr (.inl a)), .inl p0] S K ↔ pm_Run d 154 0 [.inr (.inr (.inl a)), .inl p0] [] S K := pm_Call_s.trans (and_iff_right (show 2 ≤ pm_ml 154 from by decide +kernel))
theorem b154_0 {d : Nat} {G : PG} {M T : PH} {K : PV → PS → Prop} {l0 l1 : Int} (h1 : pm_ob G l0 11) : pm_Run d 154 0 [.inr (.inr (.inl l0)), .inl l1] [] (G, M, T) K ↔ pm_Call d 168 [.inr (.inr (.inl l0))] (G, M, T) (fun r S1 => pm_Run d 154 4 [.inr (.inr (.inl l0)), .inl l1] (pm_push r []) S1 K) := by
  refine (px_go (by decide +kernel : pm_fe 154 0 = some (.aload_n 0, 1)) rfl).trans ?_
  refine (px_v0 (idx := 309) (m' := 168) (ci := 11) (by decide +kernel)).trans ((and_iff_right ⟨h1, (by simp [pm_wl_n, pm_wl_c, pm_w] : pm_wl [] ≤ 8)⟩).trans ?_)
  exact Iff.rfl
theorem b154_4 {d : Nat} {G : PG} {M T : PH} {K : PV → PS → Prop} {l0 l1 s0 : Int} : pm_Run d 154 4 [.inr (.inr (.inl l0)), .inl l1] [.inl s0] (G, M, T) K ↔ if pm_sg s0 = 0 then pm_Run d 154 12 [.inr (.inr (.inl l0)), .inl l1] [] (G, M, T) K else pm_Run d 154 7 [.inr (.inr (.inl l0)), .inl l1] [] (G, M, T) K := by
  refine (px_if_eq (off := 8) (tgt := 12) (by decide +kernel)).trans ?_
  exact Iff.rfl
theorem b154_7 {d : Nat} {G : PG} {M T : PH} {K : PV → PS → Prop} {l0 l1 : Int} : pm_Run d 154 7 [.inr (.inr (.inl l0)), .inl l1] [] (G, M, T) K ↔ if pm_sg (-1) ≤ pm_sg l1 then pm_Run d 154 14 [.inr (.inr (.inl l0)), .inl l1] [] (G, M, T) K else pm_Run d 154 12 [.inr (.inr (.inl l0)), .inl l1] [] (G, M, T) K := by
  refine (px_go (by decide +kernel : pm_fe 154 7 = some (.iload_n 1, 1)) rfl).trans ?_
  refine (px_go (by decide +kernel : pm_fe 154 8 = some (.iconst (-1), 1)) rfl).trans ?_
  refine (px_ic_ge (off := 5) (tgt := 14) (by decide +kernel)).trans ?_
  exact Iff.rfl
theorem b154_12 {d : Nat} {G : PG} {M T : PH} {K : PV → PS → Prop} {l0 l1 : Int} : pm_Run d 154 12 [.inr (.inr (.inl l0)), .inl l1] [] (G, M, T) K ↔ K (.inl (-1)) (G, M, T) := by
  refine (px_go (by decide +kernel : pm_fe 154 12 = some (.iconst (-1), 1)) rfl).trans ?_
  refine (px_ri (by decide +kernel)).trans ?_
  exact Iff.rfl
theorem b154_14 {d : Nat} {G : PG} {M T : PH} {K : PV → PS → Prop} {l0 l1 : Int} : pm_Run d 154 14 [.inr (.inr (.inl l0)), .inl l1] [] (G, M, T) K ↔ if pm_sg l1 ≠ pm_sg (-1) then pm_Run d 154 34 [.inr (.inr (.inl l0)), .inl l1] [] (G, M, T) K else pm_Run d 154 19 [.inr (.inr (.inl l0)), .inl l1] [] (G, M, T) K := by
  refine (px_go (by decide +kernel : pm_fe 154 14 = some (.iload_n 1, 1)) rfl).trans ?_
  refine (px_go (by decide +kernel : pm_fe 154 15 = some (.iconst (-1), 1)) rfl).trans ?_
  refine (px_ic_ne (off := 18) (tgt := 34) (by decide +kernel)).trans ?_
  exact Iff.rfl
theorem b154_19 {d : Nat} {G : PG} {M T : PH} {K : PV → PS → Prop} {l0 l1 : Int} (h1 : pm_ob G l0 11) (h2 : pm_ob G (T l0.toNat 7) 0) : pm_Run d 154 19 [.inr (.inr (.inl l0)), .inl l1] [] (G, M, T) K ↔ pm_Call d 4 [.inr (.inr (.inl (T l0.toNat 7)))] (G, M, T) (fun r S1 => pm_Run d 154 26 [.inr (.inr (.inl l0)), .inl l1] (pm_push r []) S1 K) := by
  refine (px_go (by decide +kernel : pm_fe 154 19 = some (.aload_n 0, 1)) rfl).trans ?_
  refine (px_get2 (idx := 57) (ci := 11) (k := 7) (by decide +kernel)).trans ((and_iff_right h1).trans ?_)
  refine (px_v0 (idx := 312) (m' := 4) (ci := 0) (by decide +kernel)).trans ((and_iff_right ⟨h2, (by simp [pm_wl_n, pm_wl_c, pm_w] : pm_wl [] ≤ 8)⟩).trans ?_)
  exact Iff.rfl
theorem b154_26 {d : Nat} {G : PG} {M T : PH} {K : PV → PS → Prop} {l0 l1 : Int} (h1 : pm_ob G l0 11) (h2 : pm_ob G (T l0.toNat 7) 0) : pm_Run d 154 26 [.inr (.inr (.inl l0)), .inl l1] [] (G, M, T) K ↔ K (.inl (M (T l0.toNat 7).toNat 16)) (G, M, T) := by
  refine (px_go (by decide +kernel : pm_fe 154 26 = some (.aload_n 0, 1)) rfl).trans ?_
  refine (px_get2 (idx := 57) (ci := 11) (k := 7) (by decide +kernel)).trans ((and_iff_right h1).trans ?_)
  refine (px_get0 (idx := 315) (ci := 0) (k := 16) (by decide +kernel)).trans ((and_iff_right h2).trans ?_)
  refine (px_ri (by decide +kernel)).trans ?_
  exact Iff.rfl
theorem b154_34 {d : Nat} {G : PG} {M T : PH} {K : PV → PS → Prop} {l0 l1 : Int} (h1 : pm_ob G l0 11) : pm_Run d 154 34 [.inr (.inr (.inl l0)), .inl l1] [] (G, M, T) K ↔ pm_Call d 170 [.inr (.inr (.inl l0)), .inl (pm_div l1 10)] (G, M, T) (fun r S1 => pm_Run d 154 42 [.inr (.inr (.inl l0)), .inl l1] (pm_push r []) S1 K) := by
  refine (px_go (by decide +kernel : pm_fe 154 34 = some (.aload_n 0, 1)) rfl).trans ?_
  refine (px_go (by decide +kernel : pm_fe 154 35 = some (.iload_n 1, 1)) rfl).trans ?_
  refine (px_go (by decide +kernel : pm_fe 154 36 = some (.bipush 10, 2)) rfl).trans ?_
  refine (px_idiv (by decide +kernel)).trans ((and_iff_right (by decide : pm_sg (10 : Int) ≠ (0 : Int))).trans ?_)
  refine (px_v1 (idx := 178) (m' := 170) (ci := 11) (by decide +kernel)).trans ((and_iff_right ⟨h1, (by simp [pm_wl_n, pm_wl_c, pm_w] : pm_wl [] ≤ 8)⟩).trans ?_)
  exact Iff.rfl
theorem b154_42 {d : Nat} {G : PG} {M T : PH} {K : PV → PS → Prop} {l0 l1 s0 : Int} : pm_Run d 154 42 [.inr (.inr (.inl l0)), .inl l1] [.inl s0] (G, M, T) K ↔ if pm_sg s0 = 0 then pm_Run d 154 56 [.inr (.inr (.inl l0)), .inl l1] [] (G, M, T) K else pm_Run d 154 45 [.inr (.inr (.inl l0)), .inl l1] [] (G, M, T) K := by
  refine (px_if_eq (off := 14) (tgt := 56) (by decide +kernel)).trans ?_
  exact Iff.rfl
theorem b154_45 {d : Nat} {G : PG} {M T : PH} {K : PV → PS → Prop} {l0 l1 : Int} (h1 : pm_ob G l0 11) : pm_Run d 154 45 [.inr (.inr (.inl l0)), .inl l1] [] (G, M, T) K ↔ pm_Call d 169 [.inr (.inr (.inl l0)), .inl (pm_rem l1 10)] (G, M, T) (fun r S1 => pm_Run d 154 53 [.inr (.inr (.inl l0)), .inl l1] (pm_push r []) S1 K) := by
  refine (px_go (by decide +kernel : pm_fe 154 45 = some (.aload_n 0, 1)) rfl).trans ?_
  refine (px_go (by decide +kernel : pm_fe 154 46 = some (.iload_n 1, 1)) rfl).trans ?_
  refine (px_go (by decide +kernel : pm_fe 154 47 = some (.bipush 10, 2)) rfl).trans ?_
  refine (px_irem (by decide +kernel)).trans ((and_iff_right (by decide : pm_sg (10 : Int) ≠ (0 : Int))).trans ?_)
  refine (px_v1 (idx := 165) (m' := 169) (ci := 11) (by decide +kernel)).trans ((and_iff_right ⟨h1, (by simp [pm_wl_n, pm_wl_c, pm_w] : pm_wl [] ≤ 8)⟩).trans ?_)
  exact Iff.rfl
theorem b154_53 {d : Nat} {G : PG} {M T : PH} {K : PV → PS → Prop} {l0 l1 s0 : Int} : pm_Run d 154 53 [.inr (.inr (.inl l0)), .inl l1] [.inl s0] (G, M, T) K ↔ if pm_sg s0 ≠ 0 then pm_Run d 154 58 [.inr (.inr (.inl l0)), .inl l1] [] (G, M, T) K else pm_Run d 154 56 [.inr (.inr (.inl l0)), .inl l1] [] (G, M, T) K := by
  refine (px_if_ne (off := 5) (tgt := 58) (by decide +kernel)).trans ?_
  exact Iff.rfl
theorem b154_56 {d : Nat} {G : PG} {M T : PH} {K : PV → PS → Prop} {l0 l1 : Int} : pm_Run d 154 56 [.inr (.inr (.inl l0)), .inl l1] [] (G, M, T) K ↔ K (.inl (-1)) (G, M, T) := by
  refine (px_go (by decide +kernel : pm_fe 154 56 = some (.iconst (-1), 1)) rfl).trans ?_
  refine (px_ri (by decide +kernel)).trans ?_
  exact Iff.rfl
theorem b154_58 {d : Nat} {G : PG} {M T : PH} {K : PV → PS → Prop} {l0 l1 : Int} (h1 : pm_ob G l0 11) (h2 : pm_ob G (T l0.toNat 7) 0) : pm_Run d 154 58 [.inr (.inr (.inl l0)), .inl l1] [] (G, M, T) K ↔ pm_Call d 4 [.inr (.inr (.inl (T l0.toNat 7)))] (G, M, T) (fun r S1 => pm_Run d 154 65 [.inr (.inr (.inl l0)), .inl l1] (pm_push r []) S1 K) := by
  refine (px_go (by decide +kernel : pm_fe 154 58 = some (.aload_n 0, 1)) rfl).trans ?_
  refine (px_get2 (idx := 57) (ci := 11) (k := 7) (by decide +kernel)).trans ((and_iff_right h1).trans ?_)
  refine (px_v0 (idx := 312) (m' := 4) (ci := 0) (by decide +kernel)).trans ((and_iff_right ⟨h2, (by simp [pm_wl_n, pm_wl_c, pm_w] : pm_wl [] ≤ 8)⟩).trans ?_)
  exact Iff.rfl
theorem b154_65 {d : Nat} {G : PG} {M T : PH} {K : PV → PS → Prop} {l0 l1 : Int} (h1 : pm_ob G l0 11) (h2 : pm_ob G (T l0.toNat 7) 0) (h3 : pm_ob G (T (T l0.toNat 7).toNat 15) 5) : pm_Run d 154 65 [.inr (.inr (.inl l0)), .inl l1] [] (G, M, T) K ↔ pm_Call d 55 [.inl (pm_div l1 10), .inl (pm_rem l1 10)] (G, M, T) (fun r S1 => pm_Run d 154 86 [.inr (.inr (.inl l0)), .inl l1] (pm_push r [.inr (.inr (.inl (T (T (T l0.toNat 7).toNat 15).toNat 4)))]) S1 K) := by
  refine (px_go (by decide +kernel : pm_fe 154 65 = some (.aload_n 0, 1)) rfl).trans ?_
  refine (px_get2 (idx := 57) (ci := 11) (k := 7) (by decide +kernel)).trans ((and_iff_right h1).trans ?_)
  refine (px_get2 (idx := 318) (ci := 0) (k := 15) (by decide +kernel)).trans ((and_iff_right h2).trans ?_)
  refine (px_get2 (idx := 235) (ci := 5) (k := 4) (by decide +kernel)).trans ((and_iff_right h3).trans ?_)
  refine (px_go (by decide +kernel : pm_fe 154 75 = some (.iload_n 1, 1)) rfl).trans ?_
  refine (px_go (by decide +kernel : pm_fe 154 76 = some (.bipush 10, 2)) rfl).trans ?_
  refine (px_idiv (by decide +kernel)).trans ((and_iff_right (by decide : pm_sg (10 : Int) ≠ (0 : Int))).trans ?_)
  refine (px_go (by decide +kernel : pm_fe 154 79 = some (.iload_n 1, 1)) rfl).trans ?_
  refine (px_go (by decide +kernel : pm_fe 154 80 = some (.bipush 10, 2)) rfl).trans ?_
  refine (px_irem (by decide +kernel)).trans ((and_iff_right (by decide : pm_sg (10 : Int) ≠ (0 : Int))).trans ?_)
  refine (px_s2 (idx := 232) (m' := 55) (nest := 0) (by decide +kernel)).trans ((and_iff_right (by simp [pm_wl_n, pm_wl_c, pm_w] : pm_wl [.inr (.inr (.inl (T (T (T l0.toNat 7).toNat 15).toNat 4)))] ≤ 8)).trans ?_)
  exact Iff.rfl
theorem b154_86 {d : Nat} {G : PG} {M T : PH} {K : PV → PS → Prop} {l0 l1 s0 s1 : Int} (h1 : pm_ar G s1 100 s0) : pm_Run d 154 86 [.inr (.inr (.inl l0)), .inl l1] [.inl s0, .inr (.inr (.inl s1))] (G, M, T) K ↔ K (.inl (M s1.toNat (pm_sg s0).toNat)) (G, M, T) := by
  refine (px_iaload (by decide +kernel) h1).trans ?_
  refine (px_ri (by decide +kernel)).trans ?_
  exact Iff.rfl
-- X11_across across(III)I
theorem en155 {d : Nat} {a p0 p1 p2 : Int} {S : PS} {K : PV → PS → Prop} : pm_Call (d + 1) 155 [.inr (.inr (.inl a)), .inl p0, .inl p1, .inl p2] S K ↔ pm_Run d 155 0 [.inr (.inr (.inl a)), .inl p0, .inl p1, .inl p2] [] S K := pm_Call_s.trans (and_iff_right (show 4 ≤ pm_ml 155 from by decide +kernel))
theorem b155_0 {d : Nat} {G : PG} {M T : PH} {K : PV → PS → Prop} {l0 l1 l2 l3 : Int} (h1 : pm_ob G l0 11) : pm_Run d 155 0 [.inr (.inr (.inl l0)), .inl l1, .inl l2, .inl l3] [] (G, M, T) K ↔ pm_Call d 173 [.inr (.inr (.inl l0)), .inl l1, .inl l2, .inl l3] (G, M, T) (fun r S1 => pm_Run d 155 7 [.inr (.inr (.inl l0)), .inl l1, .inl l2, .inl l3] (pm_push r []) S1 K) := by
  refine (px_go (by decide +kernel : pm_fe 155 0 = some (.aload_n 0, 1)) rfl).trans ?_
  refine (px_go (by decide +kernel : pm_fe 155 1 = some (.iload_n 1, 1)) rfl).trans ?_
  refine (px_go (by decide +kernel : pm_fe 155 2 = some (.iload_n 2, 1)) rfl).trans ?_
  refine (px_go (by decide +kernel : pm_fe 155 3 = some (.iload_n 3, 1)) rfl).trans ?_
  refine (px_v3 (idx := 321) (m' := 173) (ci := 11) (by decide +kernel)).trans ((and_iff_right ⟨h1, (by simp [pm_wl_n, pm_wl_c, pm_w] : pm_wl [] ≤ 8)⟩).trans ?_)
  exact Iff.rfl
theorem b155_7 {d : Nat} {G : PG} {M T : PH} {K : PV → PS → Prop} {l0 l1 l2 l3 s0 : Int} : pm_Run d 155 7 [.inr (.inr (.inl l0)), .inl l1, .inl l2, .inl l3] [.inl s0] (G, M, T) K ↔ if pm_sg s0 = 0 then pm_Run d 155 39 [.inr (.inr (.inl l0)), .inl l1, .inl l2, .inl l3] [] (G, M, T) K else pm_Run d 155 10 [.inr (.inr (.inl l0)), .inl l1, .inl l2, .inl l3] [] (G, M, T) K := by
  refine (px_if_eq (off := 32) (tgt := 39) (by decide +kernel)).trans ?_
  exact Iff.rfl
theorem b155_10 {d : Nat} {G : PG} {M T : PH} {K : PV → PS → Prop} {l0 l1 l2 l3 : Int} (h1 : pm_ob G l0 11) (h2 : pm_ob G (T l0.toNat 3) 1) (h3 : pm_ar G (T (T l0.toNat 3).toNat 11) 100 l1) (h4 : pm_ar G (T (T l0.toNat 3).toNat 11) 100 l2) (h5 : pm_ob G (T l0.toNat 6) 2) : pm_Run d 155 10 [.inr (.inr (.inl l0)), .inl l1, .inl l2, .inl l3] [] (G, M, T) K ↔ pm_Call d 34 [.inr (.inr (.inl (T l0.toNat 6))), .inl (M (T (T l0.toNat 3).toNat 11).toNat (pm_sg l1).toNat), .inl (M (T (T l0.toNat 3).toNat 11).toNat (pm_sg l2).toNat), .inl l3] (G, M, T) (fun r S1 => pm_Run d 155 36 [.inr (.inr (.inl l0)), .inl l1, .inl l2, .inl l3] (pm_push r []) S1 K) := by
  refine (px_go (by decide +kernel : pm_fe 155 10 = some (.aload_n 0, 1)) rfl).trans ?_
  refine (px_get2 (idx := 50) (ci := 11) (k := 6) (by decide +kernel)).trans ((and_iff_right h1).trans ?_)
  refine (px_go (by decide +kernel : pm_fe 155 14 = some (.aload_n 0, 1)) rfl).trans ?_
  refine (px_get2 (idx := 27) (ci := 11) (k := 3) (by decide +kernel)).trans ((and_iff_right h1).trans ?_)
  refine (px_get2 (idx := 199) (ci := 1) (k := 11) (by decide +kernel)).trans ((and_iff_right h2).trans ?_)
  refine (px_go (by decide +kernel : pm_fe 155 21 = some (.iload_n 1, 1)) rfl).trans ?_
  refine (px_iaload (by decide +kernel) h3).trans ?_
  refine (px_go (by decide +kernel : pm_fe 155 23 = some (.aload_n 0, 1)) rfl).trans ?_
  refine (px_get2 (idx := 27) (ci := 11) (k := 3) (by decide +kernel)).trans ((and_iff_right h1).trans ?_)
  refine (px_get2 (idx := 199) (ci := 1) (k := 11) (by decide +kernel)).trans ((and_iff_right h2).trans ?_)
  refine (px_go (by decide +kernel : pm_fe 155 30 = some (.iload_n 2, 1)) rfl).trans ?_
  refine (px_iaload (by decide +kernel) h4).trans ?_
  refine (px_go (by decide +kernel : pm_fe 155 32 = some (.iload_n 3, 1)) rfl).trans ?_
  refine (px_v3 (idx := 325) (m' := 34) (ci := 2) (by decide +kernel)).trans ((and_iff_right ⟨h5, (by simp [pm_wl_n, pm_wl_c, pm_w] : pm_wl [] ≤ 8)⟩).trans ?_)
  exact Iff.rfl
theorem b155_36 {d : Nat} {G : PG} {M T : PH} {K : PV → PS → Prop} {l0 l1 l2 l3 s0 : Int} : pm_Run d 155 36 [.inr (.inr (.inl l0)), .inl l1, .inl l2, .inl l3] [.inl s0] (G, M, T) K ↔ pm_Run d 155 40 [.inr (.inr (.inl l0)), .inl l1, .inl l2, .inl l3] [.inl s0] (G, M, T) K := by
  refine (px_goto (off := 4) (tgt := 40) (by decide +kernel)).trans ?_
  exact Iff.rfl
theorem b155_39 {d : Nat} {G : PG} {M T : PH} {K : PV → PS → Prop} {l0 l1 l2 l3 : Int} : pm_Run d 155 39 [.inr (.inr (.inl l0)), .inl l1, .inl l2, .inl l3] [] (G, M, T) K ↔ pm_Run d 155 40 [.inr (.inr (.inl l0)), .inl l1, .inl l2, .inl l3] [.inl (-1)] (G, M, T) K := by
  refine (px_go (by decide +kernel : pm_fe 155 39 = some (.iconst (-1), 1)) rfl).trans ?_
  exact Iff.rfl
theorem b155_40 {d : Nat} {G : PG} {M T : PH} {K : PV → PS → Prop} {l0 l1 l2 l3 s0 : Int} : pm_Run d 155 40 [.inr (.inr (.inl l0)), .inl l1, .inl l2, .inl l3] [.inl s0] (G, M, T) K ↔ K (.inl s0) (G, M, T) := by
  refine (px_ri (by decide +kernel)).trans ?_
  exact Iff.rfl
-- X11_latest latest(III)I
theorem en156 {d : Nat} {a p0 p1 p2 : Int} {S : PS} {K : PV → PS → Prop} : pm_Call (d + 1) 156 [.inr (.inr (.inl a)), .inl p0, .inl p1, .inl p2] S K ↔ pm_Run d 156 0 [.inr (.inr (.inl a)), .inl p0, .inl p1, .inl p2] [] S K := pm_Call_s.trans (and_iff_right (show 4 ≤ pm_ml 156 from by decide +kernel))
theorem b156_0 {d : Nat} {G : PG} {M T : PH} {K : PV → PS → Prop} {l0 l1 l2 l3 : Int} (h1 : pm_ob G l0 11) : pm_Run d 156 0 [.inr (.inr (.inl l0)), .inl l1, .inl l2, .inl l3] [] (G, M, T) K ↔ pm_Call d 173 [.inr (.inr (.inl l0)), .inl l1, .inl l2, .inl l3] (G, M, T) (fun r S1 => pm_Run d 156 7 [.inr (.inr (.inl l0)), .inl l1, .inl l2, .inl l3] (pm_push r []) S1 K) := by
  refine (px_go (by decide +kernel : pm_fe 156 0 = some (.aload_n 0, 1)) rfl).trans ?_
  refine (px_go (by decide +kernel : pm_fe 156 1 = some (.iload_n 1, 1)) rfl).trans ?_
  refine (px_go (by decide +kernel : pm_fe 156 2 = some (.iload_n 2, 1)) rfl).trans ?_
  refine (px_go (by decide +kernel : pm_fe 156 3 = some (.iload_n 3, 1)) rfl).trans ?_
  refine (px_v3 (idx := 321) (m' := 173) (ci := 11) (by decide +kernel)).trans ((and_iff_right ⟨h1, (by simp [pm_wl_n, pm_wl_c, pm_w] : pm_wl [] ≤ 8)⟩).trans ?_)
  exact Iff.rfl
theorem b156_7 {d : Nat} {G : PG} {M T : PH} {K : PV → PS → Prop} {l0 l1 l2 l3 s0 : Int} : pm_Run d 156 7 [.inr (.inr (.inl l0)), .inl l1, .inl l2, .inl l3] [.inl s0] (G, M, T) K ↔ if pm_sg s0 = 0 then pm_Run d 156 39 [.inr (.inr (.inl l0)), .inl l1, .inl l2, .inl l3] [] (G, M, T) K else pm_Run d 156 10 [.inr (.inr (.inl l0)), .inl l1, .inl l2, .inl l3] [] (G, M, T) K := by
  refine (px_if_eq (off := 32) (tgt := 39) (by decide +kernel)).trans ?_
  exact Iff.rfl
theorem b156_10 {d : Nat} {G : PG} {M T : PH} {K : PV → PS → Prop} {l0 l1 l2 l3 : Int} (h1 : pm_ob G l0 11) (h2 : pm_ob G (T l0.toNat 3) 1) (h3 : pm_ar G (T (T l0.toNat 3).toNat 11) 100 l1) (h4 : pm_ar G (T (T l0.toNat 3).toNat 11) 100 l2) (h5 : pm_ob G (T l0.toNat 6) 2) : pm_Run d 156 10 [.inr (.inr (.inl l0)), .inl l1, .inl l2, .inl l3] [] (G, M, T) K ↔ pm_Call d 35 [.inr (.inr (.inl (T l0.toNat 6))), .inl (M (T (T l0.toNat 3).toNat 11).toNat (pm_sg l1).toNat), .inl (M (T (T l0.toNat 3).toNat 11).toNat (pm_sg l2).toNat), .inl l3] (G, M, T) (fun r S1 => pm_Run d 156 36 [.inr (.inr (.inl l0)), .inl l1, .inl l2, .inl l3] (pm_push r []) S1 K) := by
  refine (px_go (by decide +kernel : pm_fe 156 10 = some (.aload_n 0, 1)) rfl).trans ?_
  refine (px_get2 (idx := 50) (ci := 11) (k := 6) (by decide +kernel)).trans ((and_iff_right h1).trans ?_)
  refine (px_go (by decide +kernel : pm_fe 156 14 = some (.aload_n 0, 1)) rfl).trans ?_
  refine (px_get2 (idx := 27) (ci := 11) (k := 3) (by decide +kernel)).trans ((and_iff_right h1).trans ?_)
  refine (px_get2 (idx := 199) (ci := 1) (k := 11) (by decide +kernel)).trans ((and_iff_right h2).trans ?_)
  refine (px_go (by decide +kernel : pm_fe 156 21 = some (.iload_n 1, 1)) rfl).trans ?_
  refine (px_iaload (by decide +kernel) h3).trans ?_
  refine (px_go (by decide +kernel : pm_fe 156 23 = some (.aload_n 0, 1)) rfl).trans ?_
  refine (px_get2 (idx := 27) (ci := 11) (k := 3) (by decide +kernel)).trans ((and_iff_right h1).trans ?_)
  refine (px_get2 (idx := 199) (ci := 1) (k := 11) (by decide +kernel)).trans ((and_iff_right h2).trans ?_)
  refine (px_go (by decide +kernel : pm_fe 156 30 = some (.iload_n 2, 1)) rfl).trans ?_
  refine (px_iaload (by decide +kernel) h4).trans ?_
  refine (px_go (by decide +kernel : pm_fe 156 32 = some (.iload_n 3, 1)) rfl).trans ?_
  refine (px_v3 (idx := 329) (m' := 35) (ci := 2) (by decide +kernel)).trans ((and_iff_right ⟨h5, (by simp [pm_wl_n, pm_wl_c, pm_w] : pm_wl [] ≤ 8)⟩).trans ?_)
  exact Iff.rfl
theorem b156_36 {d : Nat} {G : PG} {M T : PH} {K : PV → PS → Prop} {l0 l1 l2 l3 s0 : Int} : pm_Run d 156 36 [.inr (.inr (.inl l0)), .inl l1, .inl l2, .inl l3] [.inl s0] (G, M, T) K ↔ pm_Run d 156 40 [.inr (.inr (.inl l0)), .inl l1, .inl l2, .inl l3] [.inl s0] (G, M, T) K := by
  refine (px_goto (off := 4) (tgt := 40) (by decide +kernel)).trans ?_
  exact Iff.rfl
theorem b156_39 {d : Nat} {G : PG} {M T : PH} {K : PV → PS → Prop} {l0 l1 l2 l3 : Int} : pm_Run d 156 39 [.inr (.inr (.inl l0)), .inl l1, .inl l2, .inl l3] [] (G, M, T) K ↔ pm_Run d 156 40 [.inr (.inr (.inl l0)), .inl l1, .inl l2, .inl l3] [.inl (-1)] (G, M, T) K := by
  refine (px_go (by decide +kernel : pm_fe 156 39 = some (.iconst (-1), 1)) rfl).trans ?_
  exact Iff.rfl
theorem b156_40 {d : Nat} {G : PG} {M T : PH} {K : PV → PS → Prop} {l0 l1 l2 l3 s0 : Int} : pm_Run d 156 40 [.inr (.inr (.inl l0)), .inl l1, .inl l2, .inl l3] [.inl s0] (G, M, T) K ↔ K (.inl s0) (G, M, T) := by
  refine (px_ri (by decide +kernel)).trans ?_
  exact Iff.rfl
-- X11_meet meet(I)I
theorem en157 {d : Nat} {a p0 : Int} {S : PS} {K : PV → PS → Prop} : pm_Call (d + 1) 157 [.inr (.inr (.inl a)), .inl p0] S K ↔ pm_Run d 157 0 [.inr (.inr (.inl a)), .inl p0, PU] [] S K := pm_Call_s.trans (and_iff_right (show 2 ≤ pm_ml 157 from by decide +kernel))
theorem b157_0 {d : Nat} {G : PG} {M T : PH} {K : PV → PS → Prop} {l0 l1 : Int} (h1 : pm_ob G l0 11) (h2 : pm_ob G (T l0.toNat 3) 1) : pm_Run d 157 0 [.inr (.inr (.inl l0)), .inl l1, PU] [] (G, M, T) K ↔ pm_Call d 21 [.inr (.inr (.inl (T l0.toNat 3))), .inr (.inr (.inl (T l0.toNat 2)))] (G, M, T) (fun r S1 => pm_Run d 157 11 [.inr (.inr (.inl l0)), .inl l1, PU] (pm_push r []) S1 K) := by
  refine (px_go (by decide +kernel : pm_fe 157 0 = some (.aload_n 0, 1)) rfl).trans ?_
  refine (px_get2 (idx := 27) (ci := 11) (k := 3) (by decide +kernel)).trans ((and_iff_right h1).trans ?_)
  refine (px_go (by decide +kernel : pm_fe 157 4 = some (.aload_n 0, 1)) rfl).trans ?_
  refine (px_get2 (idx := 20) (ci := 11) (k := 2) (by decide +kernel)).trans ((and_iff_right h1).trans ?_)
  refine (px_v1 (idx := 332) (m' := 21) (ci := 1) (by decide +kernel)).trans ((and_iff_right ⟨h2, (by simp [pm_wl_n, pm_wl_c, pm_w] : pm_wl [] ≤ 8)⟩).trans ?_)
  exact Iff.rfl
theorem b157_11 {d : Nat} {G : PG} {M T : PH} {K : PV → PS → Prop} {l0 l1 s0 : Int} : pm_Run d 157 11 [.inr (.inr (.inl l0)), .inl l1, PU] [.inl s0] (G, M, T) K ↔ if pm_sg s0 ≠ pm_sg (-1) then pm_Run d 157 19 [.inr (.inr (.inl l0)), .inl l1, .inl s0] [] (G, M, T) K else pm_Run d 157 17 [.inr (.inr (.inl l0)), .inl l1, .inl s0] [] (G, M, T) K := by
  refine (px_go (by decide +kernel : pm_fe 157 11 = some (.istore_n 2, 1)) rfl).trans ?_
  refine (px_go (by decide +kernel : pm_fe 157 12 = some (.iload_n 2, 1)) rfl).trans ?_
  refine (px_go (by decide +kernel : pm_fe 157 13 = some (.iconst (-1), 1)) rfl).trans ?_
  refine (px_ic_ne (off := 5) (tgt := 19) (by decide +kernel)).trans ?_
  exact Iff.rfl
theorem b157_17 {d : Nat} {G : PG} {M T : PH} {K : PV → PS → Prop} {l0 l1 l2 : Int} : pm_Run d 157 17 [.inr (.inr (.inl l0)), .inl l1, .inl l2] [] (G, M, T) K ↔ K (.inl (-1)) (G, M, T) := by
  refine (px_go (by decide +kernel : pm_fe 157 17 = some (.iconst (-1), 1)) rfl).trans ?_
  refine (px_ri (by decide +kernel)).trans ?_
  exact Iff.rfl
theorem b157_19 {d : Nat} {G : PG} {M T : PH} {K : PV → PS → Prop} {l0 l1 l2 : Int} : pm_Run d 157 19 [.inr (.inr (.inl l0)), .inl l1, .inl l2] [] (G, M, T) K ↔ if pm_sg l1 ≠ 0 then pm_Run d 157 33 [.inr (.inr (.inl l0)), .inl l1, .inl l2] [] (G, M, T) K else pm_Run d 157 23 [.inr (.inr (.inl l0)), .inl l1, .inl l2] [] (G, M, T) K := by
  refine (px_go (by decide +kernel : pm_fe 157 19 = some (.iload_n 1, 1)) rfl).trans ?_
  refine (px_if_ne (off := 13) (tgt := 33) (by decide +kernel)).trans ?_
  exact Iff.rfl
theorem b157_23 {d : Nat} {G : PG} {M T : PH} {K : PV → PS → Prop} {l0 l1 l2 : Int} (h1 : pm_ob G l0 11) (h2 : pm_ob G (T l0.toNat 2) 5) : pm_Run d 157 23 [.inr (.inr (.inl l0)), .inl l1, .inl l2] [] (G, M, T) K ↔ K (.inl ((M (T l0.toNat 2).toNat 0) + l2)) (G, M, T) := by
  refine (px_go (by decide +kernel : pm_fe 157 23 = some (.aload_n 0, 1)) rfl).trans ?_
  refine (px_get2 (idx := 20) (ci := 11) (k := 2) (by decide +kernel)).trans ((and_iff_right h1).trans ?_)
  refine (px_get0 (idx := 153) (ci := 5) (k := 0) (by decide +kernel)).trans ((and_iff_right h2).trans ?_)
  refine (px_go (by decide +kernel : pm_fe 157 30 = some (.iload_n 2, 1)) rfl).trans ?_
  refine (px_go (by decide +kernel : pm_fe 157 31 = some (.iadd, 1)) rfl).trans ?_
  refine (px_ri (by decide +kernel)).trans ?_
  exact Iff.rfl
theorem b157_33 {d : Nat} {G : PG} {M T : PH} {K : PV → PS → Prop} {l0 l1 l2 : Int} : pm_Run d 157 33 [.inr (.inr (.inl l0)), .inl l1, .inl l2] [] (G, M, T) K ↔ if pm_sg l1 ≠ pm_sg 1 then pm_Run d 157 54 [.inr (.inr (.inl l0)), .inl l1, .inl l2] [] (G, M, T) K else pm_Run d 157 38 [.inr (.inr (.inl l0)), .inl l1, .inl l2] [] (G, M, T) K := by
  refine (px_go (by decide +kernel : pm_fe 157 33 = some (.iload_n 1, 1)) rfl).trans ?_
  refine (px_go (by decide +kernel : pm_fe 157 34 = some (.iconst 1, 1)) rfl).trans ?_
  refine (px_ic_ne (off := 19) (tgt := 54) (by decide +kernel)).trans ?_
  exact Iff.rfl
theorem b157_38 {d : Nat} {G : PG} {M T : PH} {K : PV → PS → Prop} {l0 l1 l2 : Int} (h1 : pm_ob G l0 11) (h2 : pm_ob G (T l0.toNat 3) 1) : pm_Run d 157 38 [.inr (.inr (.inl l0)), .inl l1, .inl l2] [] (G, M, T) K ↔ pm_Call d 20 [.inr (.inr (.inl (T l0.toNat 3))), .inr (.inr (.inl (T l0.toNat 2))), .inl 0, .inl l2] (G, M, T) (fun r S1 => pm_Run d 157 51 [.inr (.inr (.inl l0)), .inl l1, .inl l2] (pm_push r []) S1 K) := by
  refine (px_go (by decide +kernel : pm_fe 157 38 = some (.aload_n 0, 1)) rfl).trans ?_
  refine (px_get2 (idx := 27) (ci := 11) (k := 3) (by decide +kernel)).trans ((and_iff_right h1).trans ?_)
  refine (px_go (by decide +kernel : pm_fe 157 42 = some (.aload_n 0, 1)) rfl).trans ?_
  refine (px_get2 (idx := 20) (ci := 11) (k := 2) (by decide +kernel)).trans ((and_iff_right h1).trans ?_)
  refine (px_go (by decide +kernel : pm_fe 157 46 = some (.iconst 0, 1)) rfl).trans ?_
  refine (px_go (by decide +kernel : pm_fe 157 47 = some (.iload_n 2, 1)) rfl).trans ?_
  refine (px_v3 (idx := 336) (m' := 20) (ci := 1) (by decide +kernel)).trans ((and_iff_right ⟨h2, (by simp [pm_wl_n, pm_wl_c, pm_w] : pm_wl [] ≤ 8)⟩).trans ?_)
  exact Iff.rfl
theorem b157_51 {d : Nat} {G : PG} {M T : PH} {K : PV → PS → Prop} {l0 l1 l2 s0 : Int} : pm_Run d 157 51 [.inr (.inr (.inl l0)), .inl l1, .inl l2] [.inl s0] (G, M, T) K ↔ pm_Run d 157 55 [.inr (.inr (.inl l0)), .inl l1, .inl l2] [.inl s0] (G, M, T) K := by
  refine (px_goto (off := 4) (tgt := 55) (by decide +kernel)).trans ?_
  exact Iff.rfl
theorem b157_54 {d : Nat} {G : PG} {M T : PH} {K : PV → PS → Prop} {l0 l1 l2 : Int} : pm_Run d 157 54 [.inr (.inr (.inl l0)), .inl l1, .inl l2] [] (G, M, T) K ↔ pm_Run d 157 55 [.inr (.inr (.inl l0)), .inl l1, .inl l2] [.inl (-1)] (G, M, T) K := by
  refine (px_go (by decide +kernel : pm_fe 157 54 = some (.iconst (-1), 1)) rfl).trans ?_
  exact Iff.rfl
theorem b157_55 {d : Nat} {G : PG} {M T : PH} {K : PV → PS → Prop} {l0 l1 l2 s0 : Int} : pm_Run d 157 55 [.inr (.inr (.inl l0)), .inl l1, .inl l2] [.inl s0] (G, M, T) K ↔ K (.inl s0) (G, M, T) := by
  refine (px_ri (by decide +kernel)).trans ?_
  exact Iff.rfl
-- X11_see see()I
theorem en158 {d : Nat} {a : Int} {S : PS} {K : PV → PS → Prop} : pm_Call (d + 1) 158 [.inr (.inr (.inl a))] S K ↔ pm_Run d 158 0 [.inr (.inr (.inl a)), PU] [] S K := pm_Call_s.trans (and_iff_right (show 1 ≤ pm_ml 158 from by decide +kernel))
theorem b158_0 {d : Nat} {G : PG} {M T : PH} {K : PV → PS → Prop} {l0 : Int} (h1 : pm_ob G l0 11) : pm_Run d 158 0 [.inr (.inr (.inl l0)), PU] [] (G, M, T) K ↔ pm_Call d 166 [.inr (.inr (.inl l0))] (G, M, T) (fun r S1 => pm_Run d 158 4 [.inr (.inr (.inl l0)), PU] (pm_push r []) S1 K) := by
  refine (px_go (by decide +kernel : pm_fe 158 0 = some (.aload_n 0, 1)) rfl).trans ?_
  refine (px_v0 (idx := 97) (m' := 166) (ci := 11) (by decide +kernel)).trans ((and_iff_right ⟨h1, (by simp [pm_wl_n, pm_wl_c, pm_w] : pm_wl [] ≤ 8)⟩).trans ?_)
  exact Iff.rfl
theorem b158_4 {d : Nat} {G : PG} {M T : PH} {K : PV → PS → Prop} {l0 s0 : Int} (h1 : pm_ob G l0 11) (h2 : pm_ob G (T l0.toNat 3) 1) (h3 : pm_ob G (T l0.toNat 8) 10) : pm_Run d 158 4 [.inr (.inr (.inl l0)), PU] [.inl s0] (G, M, T) K ↔ pm_Call d 128 [.inr (.inr (.inl (T l0.toNat 8))), .inr (.inr (.inl (T l0.toNat 0))), .inl s0, .inl (M (T l0.toNat 3).toNat 0)] (G, M, T) (fun r S1 => pm_Run d 158 24 [.inr (.inr (.inl l0)), .inl s0] (pm_push r []) S1 K) := by
  refine (px_go (by decide +kernel : pm_fe 158 4 = some (.istore_n 1, 1)) rfl).trans ?_
  refine (px_go (by decide +kernel : pm_fe 158 5 = some (.aload_n 0, 1)) rfl).trans ?_
  refine (px_get2 (idx := 64) (ci := 11) (k := 8) (by decide +kernel)).trans ((and_iff_right h1).trans ?_)
  refine (px_go (by decide +kernel : pm_fe 158 9 = some (.aload_n 0, 1)) rfl).trans ?_
  refine (px_get2 (idx := 9) (ci := 11) (k := 0) (by decide +kernel)).trans ((and_iff_right h1).trans ?_)
  refine (px_go (by decide +kernel : pm_fe 158 13 = some (.iload_n 1, 1)) rfl).trans ?_
  refine (px_go (by decide +kernel : pm_fe 158 14 = some (.aload_n 0, 1)) rfl).trans ?_
  refine (px_get2 (idx := 27) (ci := 11) (k := 3) (by decide +kernel)).trans ((and_iff_right h1).trans ?_)
  refine (px_get0 (idx := 132) (ci := 1) (k := 0) (by decide +kernel)).trans ((and_iff_right h2).trans ?_)
  refine (px_v3 (idx := 340) (m' := 128) (ci := 10) (by decide +kernel)).trans ((and_iff_right ⟨h3, (by simp [pm_wl_n, pm_wl_c, pm_w] : pm_wl [] ≤ 8)⟩).trans ?_)
  exact Iff.rfl
theorem b158_24 {d : Nat} {G : PG} {M T : PH} {K : PV → PS → Prop} {l0 l1 s0 : Int} : pm_Run d 158 24 [.inr (.inr (.inl l0)), .inl l1] [.inl s0] (G, M, T) K ↔ if pm_sg s0 ≠ 0 then pm_Run d 158 33 [.inr (.inr (.inl l0)), .inl l1] [] (G, M, T) K else pm_Run d 158 27 [.inr (.inr (.inl l0)), .inl l1] [] (G, M, T) K := by
  refine (px_if_ne (off := 9) (tgt := 33) (by decide +kernel)).trans ?_
  exact Iff.rfl
theorem b158_27 {d : Nat} {G : PG} {M T : PH} {K : PV → PS → Prop} {l0 l1 : Int} (h1 : pm_ob G l0 11) : pm_Run d 158 27 [.inr (.inr (.inl l0)), .inl l1] [] (G, M, T) K ↔ pm_Call d 164 [.inr (.inr (.inl l0)), .inl 5] (G, M, T) (fun r S1 => pm_Run d 158 32 [.inr (.inr (.inl l0)), .inl l1] (pm_push r []) S1 K) := by
  refine (px_go (by decide +kernel : pm_fe 158 27 = some (.aload_n 0, 1)) rfl).trans ?_
  refine (px_go (by decide +kernel : pm_fe 158 28 = some (.iconst 5, 1)) rfl).trans ?_
  refine (px_v1 (idx := 89) (m' := 164) (ci := 11) (by decide +kernel)).trans ((and_iff_right ⟨h1, (by simp [pm_wl_n, pm_wl_c, pm_w] : pm_wl [] ≤ 8)⟩).trans ?_)
  exact Iff.rfl
theorem b158_32 {d : Nat} {G : PG} {M T : PH} {K : PV → PS → Prop} {l0 l1 s0 : Int} : pm_Run d 158 32 [.inr (.inr (.inl l0)), .inl l1] [.inl s0] (G, M, T) K ↔ K (.inl s0) (G, M, T) := by
  refine (px_ri (by decide +kernel)).trans ?_
  exact Iff.rfl
theorem b158_33 {d : Nat} {G : PG} {M T : PH} {K : PV → PS → Prop} {l0 l1 : Int} (h1 : pm_ob G l0 11) (h2 : pm_ob G (T l0.toNat 8) 10) : pm_Run d 158 33 [.inr (.inr (.inl l0)), .inl l1] [] (G, M, T) K ↔ K (.inl (M (T l0.toNat 8).toNat 7)) (G, M, T) := by
  refine (px_go (by decide +kernel : pm_fe 158 33 = some (.aload_n 0, 1)) rfl).trans ?_
  refine (px_get2 (idx := 64) (ci := 11) (k := 8) (by decide +kernel)).trans ((and_iff_right h1).trans ?_)
  refine (px_get0 (idx := 344) (ci := 10) (k := 7) (by decide +kernel)).trans ((and_iff_right h2).trans ?_)
  refine (px_ri (by decide +kernel)).trans ?_
  exact Iff.rfl
-- X11_payers payers(I)I
theorem en159 {d : Nat} {a p0 : Int} {S : PS} {K : PV → PS → Prop} : pm_Call (d + 1) 159 [.inr (.inr (.inl a)), .inl p0] S K ↔ pm_Run d 159 0 [.inr (.inr (.inl a)), .inl p0] [] S K := pm_Call_s.trans (and_iff_right (show 2 ≤ pm_ml 159 from by decide +kernel))
theorem b159_0 {d : Nat} {G : PG} {M T : PH} {K : PV → PS → Prop} {l0 l1 : Int} (h1 : pm_ob G l0 11) (h2 : pm_ob G (T l0.toNat 8) 10) : pm_Run d 159 0 [.inr (.inr (.inl l0)), .inl l1] [] (G, M, T) K ↔ if pm_sg (M (T l0.toNat 8).toNat 7) = 0 then pm_Run d 159 19 [.inr (.inr (.inl l0)), .inl l1] [] (G, M, T) K else pm_Run d 159 10 [.inr (.inr (.inl l0)), .inl l1] [] (G, M, T) K := by
  refine (px_go (by decide +kernel : pm_fe 159 0 = some (.aload_n 0, 1)) rfl).trans ?_
  refine (px_get2 (idx := 64) (ci := 11) (k := 8) (by decide +kernel)).trans ((and_iff_right h1).trans ?_)
  refine (px_get0 (idx := 344) (ci := 10) (k := 7) (by decide +kernel)).trans ((and_iff_right h2).trans ?_)
  refine (px_if_eq (off := 12) (tgt := 19) (by decide +kernel)).trans ?_
  exact Iff.rfl
theorem b159_10 {d : Nat} {G : PG} {M T : PH} {K : PV → PS → Prop} {l0 l1 : Int} : pm_Run d 159 10 [.inr (.inr (.inl l0)), .inl l1] [] (G, M, T) K ↔ if pm_sg l1 < 0 then pm_Run d 159 19 [.inr (.inr (.inl l0)), .inl l1] [] (G, M, T) K else pm_Run d 159 14 [.inr (.inr (.inl l0)), .inl l1] [] (G, M, T) K := by
  refine (px_go (by decide +kernel : pm_fe 159 10 = some (.iload_n 1, 1)) rfl).trans ?_
  refine (px_if_lt (off := 8) (tgt := 19) (by decide +kernel)).trans ?_
  exact Iff.rfl
theorem b159_14 {d : Nat} {G : PG} {M T : PH} {K : PV → PS → Prop} {l0 l1 : Int} : pm_Run d 159 14 [.inr (.inr (.inl l0)), .inl l1] [] (G, M, T) K ↔ if pm_sg l1 ≤ pm_sg 2 then pm_Run d 159 21 [.inr (.inr (.inl l0)), .inl l1] [] (G, M, T) K else pm_Run d 159 19 [.inr (.inr (.inl l0)), .inl l1] [] (G, M, T) K := by
  refine (px_go (by decide +kernel : pm_fe 159 14 = some (.iload_n 1, 1)) rfl).trans ?_
  refine (px_go (by decide +kernel : pm_fe 159 15 = some (.iconst 2, 1)) rfl).trans ?_
  refine (px_ic_le (off := 5) (tgt := 21) (by decide +kernel)).trans ?_
  exact Iff.rfl
theorem b159_19 {d : Nat} {G : PG} {M T : PH} {K : PV → PS → Prop} {l0 l1 : Int} : pm_Run d 159 19 [.inr (.inr (.inl l0)), .inl l1] [] (G, M, T) K ↔ K (.inl (-1)) (G, M, T) := by
  refine (px_go (by decide +kernel : pm_fe 159 19 = some (.iconst (-1), 1)) rfl).trans ?_
  refine (px_ri (by decide +kernel)).trans ?_
  exact Iff.rfl
theorem b159_21 {d : Nat} {G : PG} {M T : PH} {K : PV → PS → Prop} {l0 l1 : Int} (h1 : pm_ob G l0 11) (h2 : pm_ob G (T l0.toNat 8) 10) : pm_Run d 159 21 [.inr (.inr (.inl l0)), .inl l1] [] (G, M, T) K ↔ pm_Call d 129 [.inr (.inr (.inl (T l0.toNat 8)))] (G, M, T) (fun r S1 => pm_Run d 159 28 [.inr (.inr (.inl l0)), .inl l1] (pm_push r []) S1 K) := by
  refine (px_go (by decide +kernel : pm_fe 159 21 = some (.aload_n 0, 1)) rfl).trans ?_
  refine (px_get2 (idx := 64) (ci := 11) (k := 8) (by decide +kernel)).trans ((and_iff_right h1).trans ?_)
  refine (px_v0 (idx := 347) (m' := 129) (ci := 10) (by decide +kernel)).trans ((and_iff_right ⟨h2, (by simp [pm_wl_n, pm_wl_c, pm_w] : pm_wl [] ≤ 8)⟩).trans ?_)
  exact Iff.rfl
theorem b159_28 {d : Nat} {G : PG} {M T : PH} {K : PV → PS → Prop} {l0 l1 : Int} : pm_Run d 159 28 [.inr (.inr (.inl l0)), .inl l1] [] (G, M, T) K ↔ if pm_sg l1 ≠ 0 then pm_Run d 159 40 [.inr (.inr (.inl l0)), .inl l1] [] (G, M, T) K else pm_Run d 159 32 [.inr (.inr (.inl l0)), .inl l1] [] (G, M, T) K := by
  refine (px_go (by decide +kernel : pm_fe 159 28 = some (.iload_n 1, 1)) rfl).trans ?_
  refine (px_if_ne (off := 11) (tgt := 40) (by decide +kernel)).trans ?_
  exact Iff.rfl
theorem b159_32 {d : Nat} {G : PG} {M T : PH} {K : PV → PS → Prop} {l0 l1 : Int} (h1 : pm_ob G l0 11) (h2 : pm_ob G (T l0.toNat 8) 10) : pm_Run d 159 32 [.inr (.inr (.inl l0)), .inl l1] [] (G, M, T) K ↔ K (.inl (M (T l0.toNat 8).toNat 8)) (G, M, T) := by
  refine (px_go (by decide +kernel : pm_fe 159 32 = some (.aload_n 0, 1)) rfl).trans ?_
  refine (px_get2 (idx := 64) (ci := 11) (k := 8) (by decide +kernel)).trans ((and_iff_right h1).trans ?_)
  refine (px_get0 (idx := 350) (ci := 10) (k := 8) (by decide +kernel)).trans ((and_iff_right h2).trans ?_)
  refine (px_ri (by decide +kernel)).trans ?_
  exact Iff.rfl
theorem b159_40 {d : Nat} {G : PG} {M T : PH} {K : PV → PS → Prop} {l0 l1 : Int} : pm_Run d 159 40 [.inr (.inr (.inl l0)), .inl l1] [] (G, M, T) K ↔ if pm_sg l1 ≠ pm_sg 1 then pm_Run d 159 55 [.inr (.inr (.inl l0)), .inl l1] [] (G, M, T) K else pm_Run d 159 45 [.inr (.inr (.inl l0)), .inl l1] [] (G, M, T) K := by
  refine (px_go (by decide +kernel : pm_fe 159 40 = some (.iload_n 1, 1)) rfl).trans ?_
  refine (px_go (by decide +kernel : pm_fe 159 41 = some (.iconst 1, 1)) rfl).trans ?_
  refine (px_ic_ne (off := 13) (tgt := 55) (by decide +kernel)).trans ?_
  exact Iff.rfl
theorem b159_45 {d : Nat} {G : PG} {M T : PH} {K : PV → PS → Prop} {l0 l1 : Int} (h1 : pm_ob G l0 11) (h2 : pm_ob G (T l0.toNat 8) 10) : pm_Run d 159 45 [.inr (.inr (.inl l0)), .inl l1] [] (G, M, T) K ↔ pm_Run d 159 62 [.inr (.inr (.inl l0)), .inl l1] [.inl (M (T l0.toNat 8).toNat 9)] (G, M, T) K := by
  refine (px_go (by decide +kernel : pm_fe 159 45 = some (.aload_n 0, 1)) rfl).trans ?_
  refine (px_get2 (idx := 64) (ci := 11) (k := 8) (by decide +kernel)).trans ((and_iff_right h1).trans ?_)
  refine (px_get0 (idx := 353) (ci := 10) (k := 9) (by decide +kernel)).trans ((and_iff_right h2).trans ?_)
  refine (px_goto (off := 10) (tgt := 62) (by decide +kernel)).trans ?_
  exact Iff.rfl
theorem b159_55 {d : Nat} {G : PG} {M T : PH} {K : PV → PS → Prop} {l0 l1 : Int} (h1 : pm_ob G l0 11) (h2 : pm_ob G (T l0.toNat 8) 10) : pm_Run d 159 55 [.inr (.inr (.inl l0)), .inl l1] [] (G, M, T) K ↔ pm_Run d 159 62 [.inr (.inr (.inl l0)), .inl l1] [.inl (M (T l0.toNat 8).toNat 10)] (G, M, T) K := by
  refine (px_go (by decide +kernel : pm_fe 159 55 = some (.aload_n 0, 1)) rfl).trans ?_
  refine (px_get2 (idx := 64) (ci := 11) (k := 8) (by decide +kernel)).trans ((and_iff_right h1).trans ?_)
  refine (px_get0 (idx := 356) (ci := 10) (k := 10) (by decide +kernel)).trans ((and_iff_right h2).trans ?_)
  exact Iff.rfl
theorem b159_62 {d : Nat} {G : PG} {M T : PH} {K : PV → PS → Prop} {l0 l1 s0 : Int} : pm_Run d 159 62 [.inr (.inr (.inl l0)), .inl l1] [.inl s0] (G, M, T) K ↔ K (.inl s0) (G, M, T) := by
  refine (px_ri (by decide +kernel)).trans ?_
  exact Iff.rfl
-- X11_image image()I
theorem en160 {d : Nat} {a : Int} {S : PS} {K : PV → PS → Prop} : pm_Call (d + 1) 160 [.inr (.inr (.inl a))] S K ↔ pm_Run d 160 0 [.inr (.inr (.inl a))] [] S K := pm_Call_s.trans (and_iff_right (show 1 ≤ pm_ml 160 from by decide +kernel))
theorem b160_0 {d : Nat} {G : PG} {M T : PH} {K : PV → PS → Prop} {l0 : Int} (h1 : pm_ob G l0 11) (h2 : pm_ob G (T l0.toNat 10) 8) : pm_Run d 160 0 [.inr (.inr (.inl l0))] [] (G, M, T) K ↔ pm_Call d 104 [.inr (.inr (.inl (T l0.toNat 10))), .inr (.inr (.inl (T l0.toNat 3))), .inr (.inr (.inl (T l0.toNat 2)))] (G, M, T) (fun r S1 => pm_Run d 160 15 [.inr (.inr (.inl l0))] (pm_push r []) S1 K) := by
  refine (px_go (by decide +kernel : pm_fe 160 0 = some (.aload_n 0, 1)) rfl).trans ?_
  refine (px_get2 (idx := 78) (ci := 11) (k := 10) (by decide +kernel)).trans ((and_iff_right h1).trans ?_)
  refine (px_go (by decide +kernel : pm_fe 160 4 = some (.aload_n 0, 1)) rfl).trans ?_
  refine (px_get2 (idx := 27) (ci := 11) (k := 3) (by decide +kernel)).trans ((and_iff_right h1).trans ?_)
  refine (px_go (by decide +kernel : pm_fe 160 8 = some (.aload_n 0, 1)) rfl).trans ?_
  refine (px_get2 (idx := 20) (ci := 11) (k := 2) (by decide +kernel)).trans ((and_iff_right h1).trans ?_)
  refine (px_v2 (idx := 359) (m' := 104) (ci := 8) (by decide +kernel)).trans ((and_iff_right ⟨h2, (by simp [pm_wl_n, pm_wl_c, pm_w] : pm_wl [] ≤ 8)⟩).trans ?_)
  exact Iff.rfl
theorem b160_15 {d : Nat} {G : PG} {M T : PH} {K : PV → PS → Prop} {l0 : Int} (h1 : pm_ob G l0 11) (h2 : pm_ob G (T l0.toNat 10) 8) : pm_Run d 160 15 [.inr (.inr (.inl l0))] [] (G, M, T) K ↔ K (.inl (M (T l0.toNat 10).toNat 2)) (G, M, T) := by
  refine (px_go (by decide +kernel : pm_fe 160 15 = some (.aload_n 0, 1)) rfl).trans ?_
  refine (px_get2 (idx := 78) (ci := 11) (k := 10) (by decide +kernel)).trans ((and_iff_right h1).trans ?_)
  refine (px_get0 (idx := 362) (ci := 8) (k := 2) (by decide +kernel)).trans ((and_iff_right h2).trans ?_)
  refine (px_ri (by decide +kernel)).trans ?_
  exact Iff.rfl
-- X11_octet octet(I)I
theorem en161 {d : Nat} {a p0 : Int} {S : PS} {K : PV → PS → Prop} : pm_Call (d + 1) 161 [.inr (.inr (.inl a)), .inl p0] S K ↔ pm_Run d 161 0 [.inr (.inr (.inl a)), .inl p0] [] S K := pm_Call_s.trans (and_iff_right (show 2 ≤ pm_ml 161 from by decide +kernel))
theorem b161_0 {d : Nat} {G : PG} {M T : PH} {K : PV → PS → Prop} {l0 l1 : Int} : pm_Run d 161 0 [.inr (.inr (.inl l0)), .inl l1] [] (G, M, T) K ↔ if pm_sg l1 < 0 then pm_Run d 161 31 [.inr (.inr (.inl l0)), .inl l1] [] (G, M, T) K else pm_Run d 161 4 [.inr (.inr (.inl l0)), .inl l1] [] (G, M, T) K := by
  refine (px_go (by decide +kernel : pm_fe 161 0 = some (.iload_n 1, 1)) rfl).trans ?_
  refine (px_if_lt (off := 30) (tgt := 31) (by decide +kernel)).trans ?_
  exact Iff.rfl
theorem b161_4 {d : Nat} {G : PG} {M T : PH} {K : PV → PS → Prop} {l0 l1 : Int} (h1 : pm_ob G l0 11) (h2 : pm_ob G (T l0.toNat 10) 8) : pm_Run d 161 4 [.inr (.inr (.inl l0)), .inl l1] [] (G, M, T) K ↔ if pm_sg (M (T l0.toNat 10).toNat 2) ≤ pm_sg l1 then pm_Run d 161 31 [.inr (.inr (.inl l0)), .inl l1] [] (G, M, T) K else pm_Run d 161 15 [.inr (.inr (.inl l0)), .inl l1] [] (G, M, T) K := by
  refine (px_go (by decide +kernel : pm_fe 161 4 = some (.iload_n 1, 1)) rfl).trans ?_
  refine (px_go (by decide +kernel : pm_fe 161 5 = some (.aload_n 0, 1)) rfl).trans ?_
  refine (px_get2 (idx := 78) (ci := 11) (k := 10) (by decide +kernel)).trans ((and_iff_right h1).trans ?_)
  refine (px_get0 (idx := 362) (ci := 8) (k := 2) (by decide +kernel)).trans ((and_iff_right h2).trans ?_)
  refine (px_ic_ge (off := 19) (tgt := 31) (by decide +kernel)).trans ?_
  exact Iff.rfl
theorem b161_15 {d : Nat} {G : PG} {M T : PH} {K : PV → PS → Prop} {l0 l1 : Int} (h1 : pm_ob G l0 11) (h2 : pm_ob G (T l0.toNat 10) 8) (h3 : pm_ar G (T (T l0.toNat 10).toNat 0) 101 l1 ∨ pm_ar G (T (T l0.toNat 10).toNat 0) 102 l1) : pm_Run d 161 15 [.inr (.inr (.inl l0)), .inl l1] [] (G, M, T) K ↔ pm_Run d 161 32 [.inr (.inr (.inl l0)), .inl l1] [.inl (pm_and (M (T (T l0.toNat 10).toNat 0).toNat (pm_sg l1).toNat) 255)] (G, M, T) K := by
  refine (px_go (by decide +kernel : pm_fe 161 15 = some (.aload_n 0, 1)) rfl).trans ?_
  refine (px_get2 (idx := 78) (ci := 11) (k := 10) (by decide +kernel)).trans ((and_iff_right h1).trans ?_)
  refine (px_get2 (idx := 365) (ci := 8) (k := 0) (by decide +kernel)).trans ((and_iff_right h2).trans ?_)
  refine (px_go (by decide +kernel : pm_fe 161 22 = some (.iload_n 1, 1)) rfl).trans ?_
  refine (px_baload (by decide +kernel)).trans ((and_iff_right h3).trans ?_)
  refine (px_go (by decide +kernel : pm_fe 161 24 = some (.sipush 255, 3)) rfl).trans ?_
  refine (px_go (by decide +kernel : pm_fe 161 27 = some (.iand, 1)) rfl).trans ?_
  refine (px_goto (off := 4) (tgt := 32) (by decide +kernel)).trans ?_
  exact Iff.rfl
theorem b161_31 {d : Nat} {G : PG} {M T : PH} {K : PV → PS → Prop} {l0 l1 : Int} : pm_Run d 161 31 [.inr (.inr (.inl l0)), .inl l1] [] (G, M, T) K ↔ pm_Run d 161 32 [.inr (.inr (.inl l0)), .inl l1] [.inl (-1)] (G, M, T) K := by
  refine (px_go (by decide +kernel : pm_fe 161 31 = some (.iconst (-1), 1)) rfl).trans ?_
  exact Iff.rfl
theorem b161_32 {d : Nat} {G : PG} {M T : PH} {K : PV → PS → Prop} {l0 l1 s0 : Int} : pm_Run d 161 32 [.inr (.inr (.inl l0)), .inl l1] [.inl s0] (G, M, T) K ↔ K (.inl s0) (G, M, T) := by
  refine (px_ri (by decide +kernel)).trans ?_
  exact Iff.rfl
-- X11_on on()Z
theorem en162 {d : Nat} {a : Int} {S : PS} {K : PV → PS → Prop} : pm_Call (d + 1) 162 [.inr (.inr (.inl a))] S K ↔ pm_Run d 162 0 [.inr (.inr (.inl a)), PU] [] S K := pm_Call_s.trans (and_iff_right (show 1 ≤ pm_ml 162 from by decide +kernel))
theorem b162_0 {d : Nat} {G : PG} {M T : PH} {K : PV → PS → Prop} {l0 : Int} (h1 : pm_ob G l0 11) : pm_Run d 162 0 [.inr (.inr (.inl l0)), PU] [] (G, M, T) K ↔ pm_Call d 166 [.inr (.inr (.inl l0))] (G, M, T) (fun r S1 => pm_Run d 162 4 [.inr (.inr (.inl l0)), PU] (pm_push r []) S1 K) := by
  refine (px_go (by decide +kernel : pm_fe 162 0 = some (.aload_n 0, 1)) rfl).trans ?_
  refine (px_v0 (idx := 97) (m' := 166) (ci := 11) (by decide +kernel)).trans ((and_iff_right ⟨h1, (by simp [pm_wl_n, pm_wl_c, pm_w] : pm_wl [] ≤ 8)⟩).trans ?_)
  exact Iff.rfl
theorem b162_4 {d : Nat} {G : PG} {M T : PH} {K : PV → PS → Prop} {l0 s0 : Int} (h1 : pm_ob G l0 11) : pm_Run d 162 4 [.inr (.inr (.inl l0)), PU] [.inl s0] (G, M, T) K ↔ pm_Call d 168 [.inr (.inr (.inl l0))] (G, M, T) (fun r S1 => pm_Run d 162 9 [.inr (.inr (.inl l0)), .inl s0] (pm_push r []) S1 K) := by
  refine (px_go (by decide +kernel : pm_fe 162 4 = some (.istore_n 1, 1)) rfl).trans ?_
  refine (px_go (by decide +kernel : pm_fe 162 5 = some (.aload_n 0, 1)) rfl).trans ?_
  refine (px_v0 (idx := 309) (m' := 168) (ci := 11) (by decide +kernel)).trans ((and_iff_right ⟨h1, (by simp [pm_wl_n, pm_wl_c, pm_w] : pm_wl [] ≤ 8)⟩).trans ?_)
  exact Iff.rfl
theorem b162_9 {d : Nat} {G : PG} {M T : PH} {K : PV → PS → Prop} {l0 l1 s0 : Int} : pm_Run d 162 9 [.inr (.inr (.inl l0)), .inl l1] [.inl s0] (G, M, T) K ↔ if pm_sg s0 = 0 then pm_Run d 162 31 [.inr (.inr (.inl l0)), .inl l1] [] (G, M, T) K else pm_Run d 162 12 [.inr (.inr (.inl l0)), .inl l1] [] (G, M, T) K := by
  refine (px_if_eq (off := 22) (tgt := 31) (by decide +kernel)).trans ?_
  exact Iff.rfl
theorem b162_12 {d : Nat} {G : PG} {M T : PH} {K : PV → PS → Prop} {l0 l1 : Int} (h1 : pm_ob G l0 11) (h2 : pm_ob G (T l0.toNat 10) 8) : pm_Run d 162 12 [.inr (.inr (.inl l0)), .inl l1] [] (G, M, T) K ↔ pm_Call d 105 [.inr (.inr (.inl (T l0.toNat 10))), .inr (.inr (.inl (T l0.toNat 3))), .inr (.inr (.inl (T l0.toNat 0))), .inl l1] (G, M, T) (fun r S1 => pm_Run d 162 28 [.inr (.inr (.inl l0)), .inl l1] (pm_push r []) S1 K) := by
  refine (px_go (by decide +kernel : pm_fe 162 12 = some (.aload_n 0, 1)) rfl).trans ?_
  refine (px_get2 (idx := 78) (ci := 11) (k := 10) (by decide +kernel)).trans ((and_iff_right h1).trans ?_)
  refine (px_go (by decide +kernel : pm_fe 162 16 = some (.aload_n 0, 1)) rfl).trans ?_
  refine (px_get2 (idx := 27) (ci := 11) (k := 3) (by decide +kernel)).trans ((and_iff_right h1).trans ?_)
  refine (px_go (by decide +kernel : pm_fe 162 20 = some (.aload_n 0, 1)) rfl).trans ?_
  refine (px_get2 (idx := 9) (ci := 11) (k := 0) (by decide +kernel)).trans ((and_iff_right h1).trans ?_)
  refine (px_go (by decide +kernel : pm_fe 162 24 = some (.iload_n 1, 1)) rfl).trans ?_
  refine (px_v3 (idx := 368) (m' := 105) (ci := 8) (by decide +kernel)).trans ((and_iff_right ⟨h2, (by simp [pm_wl_n, pm_wl_c, pm_w] : pm_wl [] ≤ 8)⟩).trans ?_)
  exact Iff.rfl
theorem b162_28 {d : Nat} {G : PG} {M T : PH} {K : PV → PS → Prop} {l0 l1 s0 : Int} : pm_Run d 162 28 [.inr (.inr (.inl l0)), .inl l1] [.inl s0] (G, M, T) K ↔ if pm_sg s0 ≠ 0 then pm_Run d 162 46 [.inr (.inr (.inl l0)), .inl l1] [] (G, M, T) K else pm_Run d 162 31 [.inr (.inr (.inl l0)), .inl l1] [] (G, M, T) K := by
  refine (px_if_ne (off := 18) (tgt := 46) (by decide +kernel)).trans ?_
  exact Iff.rfl
theorem b162_31 {d : Nat} {G : PG} {M T : PH} {K : PV → PS → Prop} {l0 l1 : Int} (h1 : pm_ob G l0 11) : pm_Run d 162 31 [.inr (.inr (.inl l0)), .inl l1] [] (G, M, T) K ↔ pm_Call d 164 [.inr (.inr (.inl l0)), .inl 5] (G, M, T) (fun r S1 => pm_Run d 162 36 [.inr (.inr (.inl l0)), .inl l1] (pm_push r []) S1 K) := by
  refine (px_go (by decide +kernel : pm_fe 162 31 = some (.aload_n 0, 1)) rfl).trans ?_
  refine (px_go (by decide +kernel : pm_fe 162 32 = some (.iconst 5, 1)) rfl).trans ?_
  refine (px_v1 (idx := 89) (m' := 164) (ci := 11) (by decide +kernel)).trans ((and_iff_right ⟨h1, (by simp [pm_wl_n, pm_wl_c, pm_w] : pm_wl [] ≤ 8)⟩).trans ?_)
  exact Iff.rfl
theorem b162_36 {d : Nat} {G : PG} {M T : PH} {K : PV → PS → Prop} {l0 l1 s0 : Int} : pm_Run d 162 36 [.inr (.inr (.inl l0)), .inl l1] [.inl s0] (G, M, T) K ↔ if pm_sg s0 = pm_sg (-1) then pm_Run d 162 44 [.inr (.inr (.inl l0)), .inl l1] [] (G, M, T) K else pm_Run d 162 40 [.inr (.inr (.inl l0)), .inl l1] [] (G, M, T) K := by
  refine (px_go (by decide +kernel : pm_fe 162 36 = some (.iconst (-1), 1)) rfl).trans ?_
  refine (px_ic_eq (off := 7) (tgt := 44) (by decide +kernel)).trans ?_
  exact Iff.rfl
theorem b162_40 {d : Nat} {G : PG} {M T : PH} {K : PV → PS → Prop} {l0 l1 : Int} : pm_Run d 162 40 [.inr (.inr (.inl l0)), .inl l1] [] (G, M, T) K ↔ pm_Run d 162 45 [.inr (.inr (.inl l0)), .inl l1] [.inl 1] (G, M, T) K := by
  refine (px_go (by decide +kernel : pm_fe 162 40 = some (.iconst 1, 1)) rfl).trans ?_
  refine (px_goto (off := 4) (tgt := 45) (by decide +kernel)).trans ?_
  exact Iff.rfl
theorem b162_44 {d : Nat} {G : PG} {M T : PH} {K : PV → PS → Prop} {l0 l1 : Int} : pm_Run d 162 44 [.inr (.inr (.inl l0)), .inl l1] [] (G, M, T) K ↔ pm_Run d 162 45 [.inr (.inr (.inl l0)), .inl l1] [.inl 0] (G, M, T) K := by
  refine (px_go (by decide +kernel : pm_fe 162 44 = some (.iconst 0, 1)) rfl).trans ?_
  exact Iff.rfl
theorem b162_45 {d : Nat} {G : PG} {M T : PH} {K : PV → PS → Prop} {l0 l1 s0 : Int} (h1 : s0 = 0 ∨ s0 = 1) : pm_Run d 162 45 [.inr (.inr (.inl l0)), .inl l1] [.inl s0] (G, M, T) K ↔ K (.inl s0) (G, M, T) := by
  refine (px_rz (by decide +kernel)).trans ((and_iff_right h1).trans ?_)
  exact Iff.rfl
theorem b162_46 {d : Nat} {G : PG} {M T : PH} {K : PV → PS → Prop} {l0 l1 : Int} (h1 : pm_ob G l0 11) (h2 : pm_ob G (T l0.toNat 10) 8) (h3 : pm_ob G (T l0.toNat 2) 5) : pm_Run d 162 46 [.inr (.inr (.inl l0)), .inl l1] [] (G, M, T) K ↔ pm_Call d 56 [.inr (.inr (.inl (T l0.toNat 2))), .inr (.inr (.inl (T (T l0.toNat 10).toNat 1)))] (G, M, T) (fun r S1 => pm_Run d 162 60 [.inr (.inr (.inl l0)), .inl l1] (pm_push r []) S1 K) := by
  refine (px_go (by decide +kernel : pm_fe 162 46 = some (.aload_n 0, 1)) rfl).trans ?_
  refine (px_get2 (idx := 20) (ci := 11) (k := 2) (by decide +kernel)).trans ((and_iff_right h1).trans ?_)
  refine (px_go (by decide +kernel : pm_fe 162 50 = some (.aload_n 0, 1)) rfl).trans ?_
  refine (px_get2 (idx := 78) (ci := 11) (k := 10) (by decide +kernel)).trans ((and_iff_right h1).trans ?_)
  refine (px_get2 (idx := 372) (ci := 8) (k := 1) (by decide +kernel)).trans ((and_iff_right h2).trans ?_)
  refine (px_v1 (idx := 112) (m' := 56) (ci := 5) (by decide +kernel)).trans ((and_iff_right ⟨h3, (by simp [pm_wl_n, pm_wl_c, pm_w] : pm_wl [] ≤ 8)⟩).trans ?_)
  exact Iff.rfl
theorem b162_60 {d : Nat} {G : PG} {M T : PH} {K : PV → PS → Prop} {l0 l1 : Int} (h1 : pm_ob G l0 11) (h2 : pm_ob G (T l0.toNat 9) 7) : pm_Run d 162 60 [.inr (.inr (.inl l0)), .inl l1] [] (G, M, T) K ↔ pm_Call d 100 [.inr (.inr (.inl (T l0.toNat 9)))] (G, M, T) (fun r S1 => pm_Run d 162 67 [.inr (.inr (.inl l0)), .inl l1] (pm_push r []) S1 K) := by
  refine (px_go (by decide +kernel : pm_fe 162 60 = some (.aload_n 0, 1)) rfl).trans ?_
  refine (px_get2 (idx := 71) (ci := 11) (k := 9) (by decide +kernel)).trans ((and_iff_right h1).trans ?_)
  refine (px_v0 (idx := 116) (m' := 100) (ci := 7) (by decide +kernel)).trans ((and_iff_right ⟨h2, (by simp [pm_wl_n, pm_wl_c, pm_w] : pm_wl [] ≤ 8)⟩).trans ?_)
  exact Iff.rfl
theorem b162_67 {d : Nat} {G : PG} {M T : PH} {K : PV → PS → Prop} {l0 l1 : Int} (h1 : pm_ob G l0 11) : pm_Run d 162 67 [.inr (.inr (.inl l0)), .inl l1] [] (G, M, T) K ↔ pm_Call d 167 [.inr (.inr (.inl l0))] (G, M, T) (fun r S1 => pm_Run d 162 71 [.inr (.inr (.inl l0)), .inl l1] (pm_push r []) S1 K) := by
  refine (px_go (by decide +kernel : pm_fe 162 67 = some (.aload_n 0, 1)) rfl).trans ?_
  refine (px_v0 (idx := 120) (m' := 167) (ci := 11) (by decide +kernel)).trans ((and_iff_right ⟨h1, (by simp [pm_wl_n, pm_wl_c, pm_w] : pm_wl [] ≤ 8)⟩).trans ?_)
  exact Iff.rfl
theorem b162_71 {d : Nat} {G : PG} {M T : PH} {K : PV → PS → Prop} {l0 l1 : Int} : pm_Run d 162 71 [.inr (.inr (.inl l0)), .inl l1] [] (G, M, T) K ↔ K (.inl 1) (G, M, T) := by
  refine (px_go (by decide +kernel : pm_fe 162 71 = some (.iconst 1, 1)) rfl).trans ?_
  refine (px_rz (by decide +kernel)).trans ((and_iff_right (by decide : (1 : Int) = (0 : Int) ∨ (1 : Int) = (1 : Int))).trans ?_)
  exact Iff.rfl
-- X11_status status(I)I
theorem en163 {d : Nat} {a p0 : Int} {S : PS} {K : PV → PS → Prop} : pm_Call (d + 1) 163 [.inr (.inr (.inl a)), .inl p0] S K ↔ pm_Run d 163 0 [.inr (.inr (.inl a)), .inl p0] [] S K := pm_Call_s.trans (and_iff_right (show 2 ≤ pm_ml 163 from by decide +kernel))
theorem b163_0 {d : Nat} {G : PG} {M T : PH} {K : PV → PS → Prop} {l0 l1 : Int} : pm_Run d 163 0 [.inr (.inr (.inl l0)), .inl l1] [] (G, M, T) K ↔ if pm_sg l1 < 0 then pm_Run d 163 22 [.inr (.inr (.inl l0)), .inl l1] [] (G, M, T) K else pm_Run d 163 4 [.inr (.inr (.inl l0)), .inl l1] [] (G, M, T) K := by
  refine (px_go (by decide +kernel : pm_fe 163 0 = some (.iload_n 1, 1)) rfl).trans ?_
  refine (px_if_lt (off := 21) (tgt := 22) (by decide +kernel)).trans ?_
  exact Iff.rfl
theorem b163_4 {d : Nat} {G : PG} {M T : PH} {K : PV → PS → Prop} {l0 l1 : Int} (h1 : pm_ob G l0 11) (h2 : 0 ≤ T l0.toNat 1 ∧ (T l0.toNat 1).toNat < G.1 ∧ 100 ≤ (G.2.2.1 (T l0.toNat 1).toNat).1 ∧ (G.2.2.1 (T l0.toNat 1).toNat).1 ≤ 104) : pm_Run d 163 4 [.inr (.inr (.inl l0)), .inl l1] [] (G, M, T) K ↔ if pm_sg ((G.2.2.1 (T l0.toNat 1).toNat).2 : Int) ≤ pm_sg l1 then pm_Run d 163 22 [.inr (.inr (.inl l0)), .inl l1] [] (G, M, T) K else pm_Run d 163 13 [.inr (.inr (.inl l0)), .inl l1] [] (G, M, T) K := by
  refine (px_go (by decide +kernel : pm_fe 163 4 = some (.iload_n 1, 1)) rfl).trans ?_
  refine (px_go (by decide +kernel : pm_fe 163 5 = some (.aload_n 0, 1)) rfl).trans ?_
  refine (px_get2 (idx := 13) (ci := 11) (k := 1) (by decide +kernel)).trans ((and_iff_right h1).trans ?_)
  refine (px_alen (by decide +kernel) h2).trans ?_
  refine (px_ic_ge (off := 12) (tgt := 22) (by decide +kernel)).trans ?_
  exact Iff.rfl
theorem b163_13 {d : Nat} {G : PG} {M T : PH} {K : PV → PS → Prop} {l0 l1 : Int} (h1 : pm_ob G l0 11) (h2 : pm_ar G (T l0.toNat 1) 100 l1) : pm_Run d 163 13 [.inr (.inr (.inl l0)), .inl l1] [] (G, M, T) K ↔ pm_Run d 163 23 [.inr (.inr (.inl l0)), .inl l1] [.inl (M (T l0.toNat 1).toNat (pm_sg l1).toNat)] (G, M, T) K := by
  refine (px_go (by decide +kernel : pm_fe 163 13 = some (.aload_n 0, 1)) rfl).trans ?_
  refine (px_get2 (idx := 13) (ci := 11) (k := 1) (by decide +kernel)).trans ((and_iff_right h1).trans ?_)
  refine (px_go (by decide +kernel : pm_fe 163 17 = some (.iload_n 1, 1)) rfl).trans ?_
  refine (px_iaload (by decide +kernel) h2).trans ?_
  refine (px_goto (off := 4) (tgt := 23) (by decide +kernel)).trans ?_
  exact Iff.rfl
theorem b163_22 {d : Nat} {G : PG} {M T : PH} {K : PV → PS → Prop} {l0 l1 : Int} : pm_Run d 163 22 [.inr (.inr (.inl l0)), .inl l1] [] (G, M, T) K ↔ pm_Run d 163 23 [.inr (.inr (.inl l0)), .inl l1] [.inl (-1)] (G, M, T) K := by
  refine (px_go (by decide +kernel : pm_fe 163 22 = some (.iconst (-1), 1)) rfl).trans ?_
  exact Iff.rfl
theorem b163_23 {d : Nat} {G : PG} {M T : PH} {K : PV → PS → Prop} {l0 l1 s0 : Int} : pm_Run d 163 23 [.inr (.inr (.inl l0)), .inl l1] [.inl s0] (G, M, T) K ↔ K (.inl s0) (G, M, T) := by
  refine (px_ri (by decide +kernel)).trans ?_
  exact Iff.rfl
-- X11_refusal refusal(I)I
theorem en164 {d : Nat} {a p0 : Int} {S : PS} {K : PV → PS → Prop} : pm_Call (d + 1) 164 [.inr (.inr (.inl a)), .inl p0] S K ↔ pm_Run d 164 0 [.inr (.inr (.inl a)), .inl p0] [] S K := pm_Call_s.trans (and_iff_right (show 2 ≤ pm_ml 164 from by decide +kernel))
theorem b164_0 {d : Nat} {G : PG} {M T : PH} {K : PV → PS → Prop} {l0 l1 : Int} : pm_Run d 164 0 [.inr (.inr (.inl l0)), .inl l1] [] (G, M, T) K ↔ if pm_sg l1 < 0 then pm_Run d 164 23 [.inr (.inr (.inl l0)), .inl l1] [] (G, M, T) K else pm_Run d 164 4 [.inr (.inr (.inl l0)), .inl l1] [] (G, M, T) K := by
  refine (px_go (by decide +kernel : pm_fe 164 0 = some (.iload_n 1, 1)) rfl).trans ?_
  refine (px_if_lt (off := 22) (tgt := 23) (by decide +kernel)).trans ?_
  exact Iff.rfl
theorem b164_4 {d : Nat} {G : PG} {M T : PH} {K : PV → PS → Prop} {l0 l1 : Int} (h1 : pm_ob G l0 11) (h2 : 0 ≤ T l0.toNat 1 ∧ (T l0.toNat 1).toNat < G.1 ∧ 100 ≤ (G.2.2.1 (T l0.toNat 1).toNat).1 ∧ (G.2.2.1 (T l0.toNat 1).toNat).1 ≤ 104) : pm_Run d 164 4 [.inr (.inr (.inl l0)), .inl l1] [] (G, M, T) K ↔ if pm_sg ((G.2.2.1 (T l0.toNat 1).toNat).2 : Int) ≤ pm_sg l1 then pm_Run d 164 23 [.inr (.inr (.inl l0)), .inl l1] [] (G, M, T) K else pm_Run d 164 13 [.inr (.inr (.inl l0)), .inl l1] [] (G, M, T) K := by
  refine (px_go (by decide +kernel : pm_fe 164 4 = some (.iload_n 1, 1)) rfl).trans ?_
  refine (px_go (by decide +kernel : pm_fe 164 5 = some (.aload_n 0, 1)) rfl).trans ?_
  refine (px_get2 (idx := 13) (ci := 11) (k := 1) (by decide +kernel)).trans ((and_iff_right h1).trans ?_)
  refine (px_alen (by decide +kernel) h2).trans ?_
  refine (px_ic_ge (off := 13) (tgt := 23) (by decide +kernel)).trans ?_
  exact Iff.rfl
theorem b164_13 {d : Nat} {G : PG} {M T : PH} {K : PV → PS → Prop} {l0 l1 : Int} (h1 : pm_ob G l0 11) (h2 : pm_ar G (T l0.toNat 1) 100 l1) : pm_Run d 164 13 [.inr (.inr (.inl l0)), .inl l1] [] (G, M, T) K ↔ pm_Run d 164 23 [.inr (.inr (.inl l0)), .inl l1] [] (G, pm_sa M (T l0.toNat 1).toNat (pm_up (M (T l0.toNat 1).toNat) (pm_sg l1).toNat ((M (T l0.toNat 1).toNat (pm_sg l1).toNat) + 1)), T) K := by
  refine (px_go (by decide +kernel : pm_fe 164 13 = some (.aload_n 0, 1)) rfl).trans ?_
  refine (px_get2 (idx := 13) (ci := 11) (k := 1) (by decide +kernel)).trans ((and_iff_right h1).trans ?_)
  refine (px_go (by decide +kernel : pm_fe 164 17 = some (.iload_n 1, 1)) rfl).trans ?_
  refine (px_go (by decide +kernel : pm_fe 164 18 = some (.dup2, 1)) rfl).trans ?_
  refine (px_iaload (by decide +kernel) h2).trans ?_
  refine (px_go (by decide +kernel : pm_fe 164 20 = some (.iconst 1, 1)) rfl).trans ?_
  refine (px_go (by decide +kernel : pm_fe 164 21 = some (.iadd, 1)) rfl).trans ?_
  refine (px_iastore (by decide +kernel)).trans ((and_iff_right h2).trans ?_)
  exact Iff.rfl
theorem b164_23 {d : Nat} {G : PG} {M T : PH} {K : PV → PS → Prop} {l0 l1 : Int} : pm_Run d 164 23 [.inr (.inr (.inl l0)), .inl l1] [] (G, M, T) K ↔ K (.inl (-1)) (G, M, T) := by
  refine (px_go (by decide +kernel : pm_fe 164 23 = some (.iconst (-1), 1)) rfl).trans ?_
  refine (px_ri (by decide +kernel)).trans ?_
  exact Iff.rfl
-- X11_append append(I)V
theorem en165 {d : Nat} {a p0 : Int} {S : PS} {K : PV → PS → Prop} : pm_Call (d + 1) 165 [.inr (.inr (.inl a)), .inl p0] S K ↔ pm_Run d 165 0 [.inr (.inr (.inl a)), .inl p0, PU] [] S K := pm_Call_s.trans (and_iff_right (show 2 ≤ pm_ml 165 from by decide +kernel))
theorem b165_0 {d : Nat} {G : PG} {M T : PH} {K : PV → PS → Prop} {l0 l1 : Int} : pm_Run d 165 0 [.inr (.inr (.inl l0)), .inl l1, PU] [] (G, M, T) K ↔ pm_Run d 165 3 [.inr (.inr (.inl l0)), .inl l1, .inl 24] [] (G, M, T) K := by
  refine (px_go (by decide +kernel : pm_fe 165 0 = some (.bipush 24, 2)) rfl).trans ?_
  refine (px_go (by decide +kernel : pm_fe 165 2 = some (.istore_n 2, 1)) rfl).trans ?_
  exact Iff.rfl
theorem b165_3 {d : Nat} {G : PG} {M T : PH} {K : PV → PS → Prop} {l0 l1 l2 : Int} : pm_Run d 165 3 [.inr (.inr (.inl l0)), .inl l1, .inl l2] [] (G, M, T) K ↔ if pm_sg l2 < 0 then pm_Run d 165 46 [.inr (.inr (.inl l0)), .inl l1, .inl l2] [] (G, M, T) K else pm_Run d 165 7 [.inr (.inr (.inl l0)), .inl l1, .inl l2] [] (G, M, T) K := by
  refine (px_go (by decide +kernel : pm_fe 165 3 = some (.iload_n 2, 1)) rfl).trans ?_
  refine (px_if_lt (off := 42) (tgt := 46) (by decide +kernel)).trans ?_
  exact Iff.rfl
theorem b165_7 {d : Nat} {G : PG} {M T : PH} {K : PV → PS → Prop} {l0 l1 l2 : Int} (h1 : pm_ob G l0 11) : pm_Run d 165 7 [.inr (.inr (.inl l0)), .inl l1, .inl l2] [] (G, M, T) K ↔ if pm_sg 1600 ≤ pm_sg (M l0.toNat 11) then pm_Run d 165 40 [.inr (.inr (.inl l0)), .inl l1, .inl l2] [] (G, M, T) K else pm_Run d 165 17 [.inr (.inr (.inl l0)), .inl l1, .inl l2] [] (G, M, T) K := by
  refine (px_go (by decide +kernel : pm_fe 165 7 = some (.aload_n 0, 1)) rfl).trans ?_
  refine (px_get0 (idx := 86) (ci := 11) (k := 11) (by decide +kernel)).trans ((and_iff_right h1).trans ?_)
  refine (px_go (by decide +kernel : pm_fe 165 11 = some (.sipush 1600, 3)) rfl).trans ?_
  refine (px_ic_ge (off := 26) (tgt := 40) (by decide +kernel)).trans ?_
  exact Iff.rfl
theorem b165_17 {d : Nat} {G : PG} {M T : PH} {K : PV → PS → Prop} {l0 l1 l2 : Int} (h1 : pm_ob G l0 11) (h2 : pm_ar G (T l0.toNat 0) 101 (M l0.toNat 11)) : pm_Run d 165 17 [.inr (.inr (.inl l0)), .inl l1, .inl l2] [] (G, M, T) K ↔ pm_Run d 165 40 [.inr (.inr (.inl l0)), .inl l1, .inl l2] [] (G, pm_sa (pm_sa M (T l0.toNat 0).toNat (pm_up (M (T l0.toNat 0).toNat) (pm_sg (M l0.toNat 11)).toNat (pm_b8 (pm_b8 (pm_shr l1 l2))))) l0.toNat (pm_up ((pm_sa M (T l0.toNat 0).toNat (pm_up (M (T l0.toNat 0).toNat) (pm_sg (M l0.toNat 11)).toNat (pm_b8 (pm_b8 (pm_shr l1 l2))))) l0.toNat) 11 (((pm_sa M (T l0.toNat 0).toNat (pm_up (M (T l0.toNat 0).toNat) (pm_sg (M l0.toNat 11)).toNat (pm_b8 (pm_b8 (pm_shr l1 l2))))) l0.toNat 11) + 1)), T) K := by
  refine (px_go (by decide +kernel : pm_fe 165 17 = some (.aload_n 0, 1)) rfl).trans ?_
  refine (px_get2 (idx := 9) (ci := 11) (k := 0) (by decide +kernel)).trans ((and_iff_right h1).trans ?_)
  refine (px_go (by decide +kernel : pm_fe 165 21 = some (.aload_n 0, 1)) rfl).trans ?_
  refine (px_get0 (idx := 86) (ci := 11) (k := 11) (by decide +kernel)).trans ((and_iff_right h1).trans ?_)
  refine (px_go (by decide +kernel : pm_fe 165 25 = some (.iload_n 1, 1)) rfl).trans ?_
  refine (px_go (by decide +kernel : pm_fe 165 26 = some (.iload_n 2, 1)) rfl).trans ?_
  refine (px_go (by decide +kernel : pm_fe 165 27 = some (.ishr, 1)) rfl).trans ?_
  refine (px_go (by decide +kernel : pm_fe 165 28 = some (.i2b, 1)) rfl).trans ?_
  refine (px_bastore (by decide +kernel) h2).trans ?_
  refine (px_go (by decide +kernel : pm_fe 165 30 = some (.aload_n 0, 1)) rfl).trans ?_
  refine (px_go (by decide +kernel : pm_fe 165 31 = some (.dup, 1)) rfl).trans ?_
  refine (px_get0 (idx := 86) (ci := 11) (k := 11) (by decide +kernel)).trans ((and_iff_right h1).trans ?_)
  refine (px_go (by decide +kernel : pm_fe 165 35 = some (.iconst 1, 1)) rfl).trans ?_
  refine (px_go (by decide +kernel : pm_fe 165 36 = some (.iadd, 1)) rfl).trans ?_
  refine (px_put0 (idx := 86) (ci := 11) (k := 11) (by decide +kernel)).trans ((and_iff_right h1).trans ?_)
  exact Iff.rfl
theorem b165_40 {d : Nat} {G : PG} {M T : PH} {K : PV → PS → Prop} {l0 l1 l2 : Int} : pm_Run d 165 40 [.inr (.inr (.inl l0)), .inl l1, .inl l2] [] (G, M, T) K ↔ pm_Run d 165 3 [.inr (.inr (.inl l0)), .inl l1, .inl (l2 + (-8))] [] (G, M, T) K := by
  refine (px_go (by decide +kernel : pm_fe 165 40 = some (.iinc 2 (-8), 3)) rfl).trans ?_
  refine (px_goto (off := (-40)) (tgt := 3) (by decide +kernel)).trans ?_
  exact Iff.rfl
theorem b165_46 {d : Nat} {G : PG} {M T : PH} {K : PV → PS → Prop} {l0 l1 l2 : Int} : pm_Run d 165 46 [.inr (.inr (.inl l0)), .inl l1, .inl l2] [] (G, M, T) K ↔ K PU (G, M, T) := by
  refine (px_rv (by decide +kernel)).trans ?_
  exact Iff.rfl
-- X11_takeTape takeTape()I
theorem en166 {d : Nat} {a : Int} {S : PS} {K : PV → PS → Prop} : pm_Call (d + 1) 166 [.inr (.inr (.inl a))] S K ↔ pm_Run d 166 0 [.inr (.inr (.inl a)), PU] [] S K := pm_Call_s.trans (and_iff_right (show 1 ≤ pm_ml 166 from by decide +kernel))
theorem b166_0 {d : Nat} {G : PG} {M T : PH} {K : PV → PS → Prop} {l0 : Int} (h1 : pm_ob G l0 11) : pm_Run d 166 0 [.inr (.inr (.inl l0)), PU] [] (G, M, T) K ↔ K (.inl (M l0.toNat 11)) (G, pm_sa M l0.toNat (pm_up (M l0.toNat) 11 0), T) := by
  refine (px_go (by decide +kernel : pm_fe 166 0 = some (.aload_n 0, 1)) rfl).trans ?_
  refine (px_get0 (idx := 86) (ci := 11) (k := 11) (by decide +kernel)).trans ((and_iff_right h1).trans ?_)
  refine (px_go (by decide +kernel : pm_fe 166 4 = some (.istore_n 1, 1)) rfl).trans ?_
  refine (px_go (by decide +kernel : pm_fe 166 5 = some (.aload_n 0, 1)) rfl).trans ?_
  refine (px_go (by decide +kernel : pm_fe 166 6 = some (.iconst 0, 1)) rfl).trans ?_
  refine (px_put0 (idx := 86) (ci := 11) (k := 11) (by decide +kernel)).trans ((and_iff_right h1).trans ?_)
  refine (px_go (by decide +kernel : pm_fe 166 10 = some (.iload_n 1, 1)) rfl).trans ?_
  refine (px_ri (by decide +kernel)).trans ?_
  exact Iff.rfl
-- X11_changed changed()V
theorem en167 {d : Nat} {a : Int} {S : PS} {K : PV → PS → Prop} : pm_Call (d + 1) 167 [.inr (.inr (.inl a))] S K ↔ pm_Run d 167 0 [.inr (.inr (.inl a))] [] S K := pm_Call_s.trans (and_iff_right (show 1 ≤ pm_ml 167 from by decide +kernel))
theorem b167_0 {d : Nat} {G : PG} {M T : PH} {K : PV → PS → Prop} {l0 : Int} (h1 : pm_ob G l0 11) (h2 : pm_ob G (T l0.toNat 6) 2) : pm_Run d 167 0 [.inr (.inr (.inl l0))] [] (G, M, T) K ↔ pm_Call d 23 [.inr (.inr (.inl (T l0.toNat 6))), .inr (.inr (.inl (T l0.toNat 3)))] (G, M, T) (fun r S1 => pm_Run d 167 11 [.inr (.inr (.inl l0))] (pm_push r []) S1 K) := by
  refine (px_go (by decide +kernel : pm_fe 167 0 = some (.aload_n 0, 1)) rfl).trans ?_
  refine (px_get2 (idx := 50) (ci := 11) (k := 6) (by decide +kernel)).trans ((and_iff_right h1).trans ?_)
  refine (px_go (by decide +kernel : pm_fe 167 4 = some (.aload_n 0, 1)) rfl).trans ?_
  refine (px_get2 (idx := 27) (ci := 11) (k := 3) (by decide +kernel)).trans ((and_iff_right h1).trans ?_)
  refine (px_v1 (idx := 375) (m' := 23) (ci := 2) (by decide +kernel)).trans ((and_iff_right ⟨h2, (by simp [pm_wl_n, pm_wl_c, pm_w] : pm_wl [] ≤ 8)⟩).trans ?_)
  exact Iff.rfl
theorem b167_11 {d : Nat} {G : PG} {M T : PH} {K : PV → PS → Prop} {l0 : Int} (h1 : pm_ob G l0 11) (h2 : pm_ob G (T l0.toNat 7) 0) : pm_Run d 167 11 [.inr (.inr (.inl l0))] [] (G, M, T) K ↔ pm_Call d 1 [.inr (.inr (.inl (T l0.toNat 7))), .inr (.inr (.inl (T l0.toNat 3)))] (G, M, T) (fun r S1 => pm_Run d 167 22 [.inr (.inr (.inl l0))] (pm_push r []) S1 K) := by
  refine (px_go (by decide +kernel : pm_fe 167 11 = some (.aload_n 0, 1)) rfl).trans ?_
  refine (px_get2 (idx := 57) (ci := 11) (k := 7) (by decide +kernel)).trans ((and_iff_right h1).trans ?_)
  refine (px_go (by decide +kernel : pm_fe 167 15 = some (.aload_n 0, 1)) rfl).trans ?_
  refine (px_get2 (idx := 27) (ci := 11) (k := 3) (by decide +kernel)).trans ((and_iff_right h1).trans ?_)
  refine (px_v1 (idx := 379) (m' := 1) (ci := 0) (by decide +kernel)).trans ((and_iff_right ⟨h2, (by simp [pm_wl_n, pm_wl_c, pm_w] : pm_wl [] ≤ 8)⟩).trans ?_)
  exact Iff.rfl
theorem b167_22 {d : Nat} {G : PG} {M T : PH} {K : PV → PS → Prop} {l0 : Int} (h1 : pm_ob G l0 11) (h2 : pm_ob G (T l0.toNat 8) 10) : pm_Run d 167 22 [.inr (.inr (.inl l0))] [] (G, M, T) K ↔ pm_Call d 126 [.inr (.inr (.inl (T l0.toNat 8))), .inr (.inr (.inl (T l0.toNat 3)))] (G, M, T) (fun r S1 => pm_Run d 167 33 [.inr (.inr (.inl l0))] (pm_push r []) S1 K) := by
  refine (px_go (by decide +kernel : pm_fe 167 22 = some (.aload_n 0, 1)) rfl).trans ?_
  refine (px_get2 (idx := 64) (ci := 11) (k := 8) (by decide +kernel)).trans ((and_iff_right h1).trans ?_)
  refine (px_go (by decide +kernel : pm_fe 167 26 = some (.aload_n 0, 1)) rfl).trans ?_
  refine (px_get2 (idx := 27) (ci := 11) (k := 3) (by decide +kernel)).trans ((and_iff_right h1).trans ?_)
  refine (px_v1 (idx := 380) (m' := 126) (ci := 10) (by decide +kernel)).trans ((and_iff_right ⟨h2, (by simp [pm_wl_n, pm_wl_c, pm_w] : pm_wl [] ≤ 8)⟩).trans ?_)
  exact Iff.rfl
theorem b167_33 {d : Nat} {G : PG} {M T : PH} {K : PV → PS → Prop} {l0 : Int} : pm_Run d 167 33 [.inr (.inr (.inl l0))] [] (G, M, T) K ↔ K PU (G, M, T) := by
  refine (px_rv (by decide +kernel)).trans ?_
  exact Iff.rfl
-- X11_isSea isSea()Z
theorem en168 {d : Nat} {a : Int} {S : PS} {K : PV → PS → Prop} : pm_Call (d + 1) 168 [.inr (.inr (.inl a))] S K ↔ pm_Run d 168 0 [.inr (.inr (.inl a))] [] S K := pm_Call_s.trans (and_iff_right (show 1 ≤ pm_ml 168 from by decide +kernel))
theorem b168_0 {d : Nat} {G : PG} {M T : PH} {K : PV → PS → Prop} {l0 : Int} (h1 : pm_ob G l0 11) (h2 : pm_ob G (T l0.toNat 3) 1) : pm_Run d 168 0 [.inr (.inr (.inl l0))] [] (G, M, T) K ↔ if pm_sg (M (T l0.toNat 3).toNat 0) ≤ 0 then pm_Run d 168 14 [.inr (.inr (.inl l0))] [] (G, M, T) K else pm_Run d 168 10 [.inr (.inr (.inl l0))] [] (G, M, T) K := by
  refine (px_go (by decide +kernel : pm_fe 168 0 = some (.aload_n 0, 1)) rfl).trans ?_
  refine (px_get2 (idx := 27) (ci := 11) (k := 3) (by decide +kernel)).trans ((and_iff_right h1).trans ?_)
  refine (px_get0 (idx := 132) (ci := 1) (k := 0) (by decide +kernel)).trans ((and_iff_right h2).trans ?_)
  refine (px_if_le (off := 7) (tgt := 14) (by decide +kernel)).trans ?_
  exact Iff.rfl
theorem b168_10 {d : Nat} {G : PG} {M T : PH} {K : PV → PS → Prop} {l0 : Int} : pm_Run d 168 10 [.inr (.inr (.inl l0))] [] (G, M, T) K ↔ pm_Run d 168 15 [.inr (.inr (.inl l0))] [.inl 1] (G, M, T) K := by
  refine (px_go (by decide +kernel : pm_fe 168 10 = some (.iconst 1, 1)) rfl).trans ?_
  refine (px_goto (off := 4) (tgt := 15) (by decide +kernel)).trans ?_
  exact Iff.rfl
theorem b168_14 {d : Nat} {G : PG} {M T : PH} {K : PV → PS → Prop} {l0 : Int} : pm_Run d 168 14 [.inr (.inr (.inl l0))] [] (G, M, T) K ↔ pm_Run d 168 15 [.inr (.inr (.inl l0))] [.inl 0] (G, M, T) K := by
  refine (px_go (by decide +kernel : pm_fe 168 14 = some (.iconst 0, 1)) rfl).trans ?_
  exact Iff.rfl
theorem b168_15 {d : Nat} {G : PG} {M T : PH} {K : PV → PS → Prop} {l0 s0 : Int} (h1 : s0 = 0 ∨ s0 = 1) : pm_Run d 168 15 [.inr (.inr (.inl l0))] [.inl s0] (G, M, T) K ↔ K (.inl s0) (G, M, T) := by
  refine (px_rz (by decide +kernel)).trans ((and_iff_right h1).trans ?_)
  exact Iff.rfl
-- X11_isMoon isMoon(I)Z
theorem en169 {d : Nat} {a p0 : Int} {S : PS} {K : PV → PS → Prop} : pm_Call (d + 1) 169 [.inr (.inr (.inl a)), .inl p0] S K ↔ pm_Run d 169 0 [.inr (.inr (.inl a)), .inl p0] [] S K := pm_Call_s.trans (and_iff_right (show 2 ≤ pm_ml 169 from by decide +kernel))
theorem b169_0 {d : Nat} {G : PG} {M T : PH} {K : PV → PS → Prop} {l0 l1 : Int} : pm_Run d 169 0 [.inr (.inr (.inl l0)), .inl l1] [] (G, M, T) K ↔ if pm_sg l1 < 0 then pm_Run d 169 19 [.inr (.inr (.inl l0)), .inl l1] [] (G, M, T) K else pm_Run d 169 4 [.inr (.inr (.inl l0)), .inl l1] [] (G, M, T) K := by
  refine (px_go (by decide +kernel : pm_fe 169 0 = some (.iload_n 1, 1)) rfl).trans ?_
  refine (px_if_lt (off := 18) (tgt := 19) (by decide +kernel)).trans ?_
  exact Iff.rfl
theorem b169_4 {d : Nat} {G : PG} {M T : PH} {K : PV → PS → Prop} {l0 l1 : Int} (h1 : pm_ob G l0 11) (h2 : pm_ob G (T l0.toNat 3) 1) : pm_Run d 169 4 [.inr (.inr (.inl l0)), .inl l1] [] (G, M, T) K ↔ if pm_sg (M (T l0.toNat 3).toNat 1) ≤ pm_sg l1 then pm_Run d 169 19 [.inr (.inr (.inl l0)), .inl l1] [] (G, M, T) K else pm_Run d 169 15 [.inr (.inr (.inl l0)), .inl l1] [] (G, M, T) K := by
  refine (px_go (by decide +kernel : pm_fe 169 4 = some (.iload_n 1, 1)) rfl).trans ?_
  refine (px_go (by decide +kernel : pm_fe 169 5 = some (.aload_n 0, 1)) rfl).trans ?_
  refine (px_get2 (idx := 27) (ci := 11) (k := 3) (by decide +kernel)).trans ((and_iff_right h1).trans ?_)
  refine (px_get0 (idx := 135) (ci := 1) (k := 1) (by decide +kernel)).trans ((and_iff_right h2).trans ?_)
  refine (px_ic_ge (off := 7) (tgt := 19) (by decide +kernel)).trans ?_
  exact Iff.rfl
theorem b169_15 {d : Nat} {G : PG} {M T : PH} {K : PV → PS → Prop} {l0 l1 : Int} : pm_Run d 169 15 [.inr (.inr (.inl l0)), .inl l1] [] (G, M, T) K ↔ pm_Run d 169 20 [.inr (.inr (.inl l0)), .inl l1] [.inl 1] (G, M, T) K := by
  refine (px_go (by decide +kernel : pm_fe 169 15 = some (.iconst 1, 1)) rfl).trans ?_
  refine (px_goto (off := 4) (tgt := 20) (by decide +kernel)).trans ?_
  exact Iff.rfl
theorem b169_19 {d : Nat} {G : PG} {M T : PH} {K : PV → PS → Prop} {l0 l1 : Int} : pm_Run d 169 19 [.inr (.inr (.inl l0)), .inl l1] [] (G, M, T) K ↔ pm_Run d 169 20 [.inr (.inr (.inl l0)), .inl l1] [.inl 0] (G, M, T) K := by
  refine (px_go (by decide +kernel : pm_fe 169 19 = some (.iconst 0, 1)) rfl).trans ?_
  exact Iff.rfl
theorem b169_20 {d : Nat} {G : PG} {M T : PH} {K : PV → PS → Prop} {l0 l1 s0 : Int} (h1 : s0 = 0 ∨ s0 = 1) : pm_Run d 169 20 [.inr (.inr (.inl l0)), .inl l1] [.inl s0] (G, M, T) K ↔ K (.inl s0) (G, M, T) := by
  refine (px_rz (by decide +kernel)).trans ((and_iff_right h1).trans ?_)
  exact Iff.rfl
-- X11_isHarbor isHarbor(I)Z
theorem en170 {d : Nat} {a p0 : Int} {S : PS} {K : PV → PS → Prop} : pm_Call (d + 1) 170 [.inr (.inr (.inl a)), .inl p0] S K ↔ pm_Run d 170 0 [.inr (.inr (.inl a)), .inl p0] [] S K := pm_Call_s.trans (and_iff_right (show 2 ≤ pm_ml 170 from by decide +kernel))
theorem b170_0 {d : Nat} {G : PG} {M T : PH} {K : PV → PS → Prop} {l0 l1 : Int} : pm_Run d 170 0 [.inr (.inr (.inl l0)), .inl l1] [] (G, M, T) K ↔ if pm_sg l1 < 0 then pm_Run d 170 19 [.inr (.inr (.inl l0)), .inl l1] [] (G, M, T) K else pm_Run d 170 4 [.inr (.inr (.inl l0)), .inl l1] [] (G, M, T) K := by
  refine (px_go (by decide +kernel : pm_fe 170 0 = some (.iload_n 1, 1)) rfl).trans ?_
  refine (px_if_lt (off := 18) (tgt := 19) (by decide +kernel)).trans ?_
  exact Iff.rfl
theorem b170_4 {d : Nat} {G : PG} {M T : PH} {K : PV → PS → Prop} {l0 l1 : Int} (h1 : pm_ob G l0 11) (h2 : pm_ob G (T l0.toNat 3) 1) : pm_Run d 170 4 [.inr (.inr (.inl l0)), .inl l1] [] (G, M, T) K ↔ if pm_sg (M (T l0.toNat 3).toNat 2) ≤ pm_sg l1 then pm_Run d 170 19 [.inr (.inr (.inl l0)), .inl l1] [] (G, M, T) K else pm_Run d 170 15 [.inr (.inr (.inl l0)), .inl l1] [] (G, M, T) K := by
  refine (px_go (by decide +kernel : pm_fe 170 4 = some (.iload_n 1, 1)) rfl).trans ?_
  refine (px_go (by decide +kernel : pm_fe 170 5 = some (.aload_n 0, 1)) rfl).trans ?_
  refine (px_get2 (idx := 27) (ci := 11) (k := 3) (by decide +kernel)).trans ((and_iff_right h1).trans ?_)
  refine (px_get0 (idx := 138) (ci := 1) (k := 2) (by decide +kernel)).trans ((and_iff_right h2).trans ?_)
  refine (px_ic_ge (off := 7) (tgt := 19) (by decide +kernel)).trans ?_
  exact Iff.rfl
theorem b170_15 {d : Nat} {G : PG} {M T : PH} {K : PV → PS → Prop} {l0 l1 : Int} : pm_Run d 170 15 [.inr (.inr (.inl l0)), .inl l1] [] (G, M, T) K ↔ pm_Run d 170 20 [.inr (.inr (.inl l0)), .inl l1] [.inl 1] (G, M, T) K := by
  refine (px_go (by decide +kernel : pm_fe 170 15 = some (.iconst 1, 1)) rfl).trans ?_
  refine (px_goto (off := 4) (tgt := 20) (by decide +kernel)).trans ?_
  exact Iff.rfl
theorem b170_19 {d : Nat} {G : PG} {M T : PH} {K : PV → PS → Prop} {l0 l1 : Int} : pm_Run d 170 19 [.inr (.inr (.inl l0)), .inl l1] [] (G, M, T) K ↔ pm_Run d 170 20 [.inr (.inr (.inl l0)), .inl l1] [.inl 0] (G, M, T) K := by
  refine (px_go (by decide +kernel : pm_fe 170 19 = some (.iconst 0, 1)) rfl).trans ?_
  exact Iff.rfl
theorem b170_20 {d : Nat} {G : PG} {M T : PH} {K : PV → PS → Prop} {l0 l1 s0 : Int} (h1 : s0 = 0 ∨ s0 = 1) : pm_Run d 170 20 [.inr (.inr (.inl l0)), .inl l1] [.inl s0] (G, M, T) K ↔ K (.inl s0) (G, M, T) := by
  refine (px_rz (by decide +kernel)).trans ((and_iff_right h1).trans ?_)
  exact Iff.rfl
-- X11_isPlace isPlace(I)Z
theorem en171 {d : Nat} {a p0 : Int} {S : PS} {K : PV → PS → Prop} : pm_Call (d + 1) 171 [.inr (.inr (.inl a)), .inl p0] S K ↔ pm_Run d 171 0 [.inr (.inr (.inl a)), .inl p0] [] S K := pm_Call_s.trans (and_iff_right (show 2 ≤ pm_ml 171 from by decide +kernel))
theorem b171_0 {d : Nat} {G : PG} {M T : PH} {K : PV → PS → Prop} {l0 l1 : Int} : pm_Run d 171 0 [.inr (.inr (.inl l0)), .inl l1] [] (G, M, T) K ↔ if pm_sg l1 < 0 then pm_Run d 171 19 [.inr (.inr (.inl l0)), .inl l1] [] (G, M, T) K else pm_Run d 171 4 [.inr (.inr (.inl l0)), .inl l1] [] (G, M, T) K := by
  refine (px_go (by decide +kernel : pm_fe 171 0 = some (.iload_n 1, 1)) rfl).trans ?_
  refine (px_if_lt (off := 18) (tgt := 19) (by decide +kernel)).trans ?_
  exact Iff.rfl
theorem b171_4 {d : Nat} {G : PG} {M T : PH} {K : PV → PS → Prop} {l0 l1 : Int} (h1 : pm_ob G l0 11) (h2 : pm_ob G (T l0.toNat 3) 1) : pm_Run d 171 4 [.inr (.inr (.inl l0)), .inl l1] [] (G, M, T) K ↔ if pm_sg (M (T l0.toNat 3).toNat 0) ≤ pm_sg l1 then pm_Run d 171 19 [.inr (.inr (.inl l0)), .inl l1] [] (G, M, T) K else pm_Run d 171 15 [.inr (.inr (.inl l0)), .inl l1] [] (G, M, T) K := by
  refine (px_go (by decide +kernel : pm_fe 171 4 = some (.iload_n 1, 1)) rfl).trans ?_
  refine (px_go (by decide +kernel : pm_fe 171 5 = some (.aload_n 0, 1)) rfl).trans ?_
  refine (px_get2 (idx := 27) (ci := 11) (k := 3) (by decide +kernel)).trans ((and_iff_right h1).trans ?_)
  refine (px_get0 (idx := 132) (ci := 1) (k := 0) (by decide +kernel)).trans ((and_iff_right h2).trans ?_)
  refine (px_ic_ge (off := 7) (tgt := 19) (by decide +kernel)).trans ?_
  exact Iff.rfl
theorem b171_15 {d : Nat} {G : PG} {M T : PH} {K : PV → PS → Prop} {l0 l1 : Int} : pm_Run d 171 15 [.inr (.inr (.inl l0)), .inl l1] [] (G, M, T) K ↔ pm_Run d 171 20 [.inr (.inr (.inl l0)), .inl l1] [.inl 1] (G, M, T) K := by
  refine (px_go (by decide +kernel : pm_fe 171 15 = some (.iconst 1, 1)) rfl).trans ?_
  refine (px_goto (off := 4) (tgt := 20) (by decide +kernel)).trans ?_
  exact Iff.rfl
theorem b171_19 {d : Nat} {G : PG} {M T : PH} {K : PV → PS → Prop} {l0 l1 : Int} : pm_Run d 171 19 [.inr (.inr (.inl l0)), .inl l1] [] (G, M, T) K ↔ pm_Run d 171 20 [.inr (.inr (.inl l0)), .inl l1] [.inl 0] (G, M, T) K := by
  refine (px_go (by decide +kernel : pm_fe 171 19 = some (.iconst 0, 1)) rfl).trans ?_
  exact Iff.rfl
theorem b171_20 {d : Nat} {G : PG} {M T : PH} {K : PV → PS → Prop} {l0 l1 s0 : Int} (h1 : s0 = 0 ∨ s0 = 1) : pm_Run d 171 20 [.inr (.inr (.inl l0)), .inl l1] [.inl s0] (G, M, T) K ↔ K (.inl s0) (G, M, T) := by
  refine (px_rz (by decide +kernel)).trans ((and_iff_right h1).trans ?_)
  exact Iff.rfl
-- X11_isStranded isStranded(I)Z
theorem en172 {d : Nat} {a p0 : Int} {S : PS} {K : PV → PS → Prop} : pm_Call (d + 1) 172 [.inr (.inr (.inl a)), .inl p0] S K ↔ pm_Run d 172 0 [.inr (.inr (.inl a)), .inl p0] [] S K := pm_Call_s.trans (and_iff_right (show 2 ≤ pm_ml 172 from by decide +kernel))
theorem b172_0 {d : Nat} {G : PG} {M T : PH} {K : PV → PS → Prop} {l0 l1 : Int} (h1 : pm_ob G l0 11) (h2 : pm_ob G (T l0.toNat 6) 2) : pm_Run d 172 0 [.inr (.inr (.inl l0)), .inl l1] [] (G, M, T) K ↔ pm_Call d 25 [.inr (.inr (.inl (T l0.toNat 6))), .inl 0] (G, M, T) (fun r S1 => pm_Run d 172 8 [.inr (.inr (.inl l0)), .inl l1] (pm_push r []) S1 K) := by
  refine (px_go (by decide +kernel : pm_fe 172 0 = some (.aload_n 0, 1)) rfl).trans ?_
  refine (px_get2 (idx := 50) (ci := 11) (k := 6) (by decide +kernel)).trans ((and_iff_right h1).trans ?_)
  refine (px_go (by decide +kernel : pm_fe 172 4 = some (.iconst 0, 1)) rfl).trans ?_
  refine (px_v1 (idx := 245) (m' := 25) (ci := 2) (by decide +kernel)).trans ((and_iff_right ⟨h2, (by simp [pm_wl_n, pm_wl_c, pm_w] : pm_wl [] ≤ 8)⟩).trans ?_)
  exact Iff.rfl
theorem b172_8 {d : Nat} {G : PG} {M T : PH} {K : PV → PS → Prop} {l0 l1 : Int} (h1 : pm_ob G l0 11) (h2 : pm_ob G (T l0.toNat 6) 2) : pm_Run d 172 8 [.inr (.inr (.inl l0)), .inl l1] [] (G, M, T) K ↔ pm_Call d 30 [.inr (.inr (.inl (T l0.toNat 6))), .inl l1, .inl 0] (G, M, T) (fun r S1 => pm_Run d 172 17 [.inr (.inr (.inl l0)), .inl l1] (pm_push r []) S1 K) := by
  refine (px_go (by decide +kernel : pm_fe 172 8 = some (.aload_n 0, 1)) rfl).trans ?_
  refine (px_get2 (idx := 50) (ci := 11) (k := 6) (by decide +kernel)).trans ((and_iff_right h1).trans ?_)
  refine (px_go (by decide +kernel : pm_fe 172 12 = some (.iload_n 1, 1)) rfl).trans ?_
  refine (px_go (by decide +kernel : pm_fe 172 13 = some (.iconst 0, 1)) rfl).trans ?_
  refine (px_v2 (idx := 260) (m' := 30) (ci := 2) (by decide +kernel)).trans ((and_iff_right ⟨h2, (by simp [pm_wl_n, pm_wl_c, pm_w] : pm_wl [] ≤ 8)⟩).trans ?_)
  exact Iff.rfl
theorem b172_17 {d : Nat} {G : PG} {M T : PH} {K : PV → PS → Prop} {l0 l1 s0 : Int} (h1 : s0 = 0 ∨ s0 = 1) : pm_Run d 172 17 [.inr (.inr (.inl l0)), .inl l1] [.inl s0] (G, M, T) K ↔ K (.inl s0) (G, M, T) := by
  refine (px_rz (by decide +kernel)).trans ((and_iff_right h1).trans ?_)
  exact Iff.rfl
-- X11_isVoyage isVoyage(III)Z
theorem en173 {d : Nat} {a p0 p1 p2 : Int} {S : PS} {K : PV → PS → Prop} : pm_Call (d + 1) 173 [.inr (.inr (.inl a)), .inl p0, .inl p1, .inl p2] S K ↔ pm_Run d 173 0 [.inr (.inr (.inl a)), .inl p0, .inl p1, .inl p2] [] S K := pm_Call_s.trans (and_iff_right (show 4 ≤ pm_ml 173 from by decide +kernel))
theorem b173_0 {d : Nat} {G : PG} {M T : PH} {K : PV → PS → Prop} {l0 l1 l2 l3 : Int} (h1 : pm_ob G l0 11) : pm_Run d 173 0 [.inr (.inr (.inl l0)), .inl l1, .inl l2, .inl l3] [] (G, M, T) K ↔ pm_Call d 170 [.inr (.inr (.inl l0)), .inl l1] (G, M, T) (fun r S1 => pm_Run d 173 5 [.inr (.inr (.inl l0)), .inl l1, .inl l2, .inl l3] (pm_push r []) S1 K) := by
  refine (px_go (by decide +kernel : pm_fe 173 0 = some (.aload_n 0, 1)) rfl).trans ?_
  refine (px_go (by decide +kernel : pm_fe 173 1 = some (.iload_n 1, 1)) rfl).trans ?_
  refine (px_v1 (idx := 178) (m' := 170) (ci := 11) (by decide +kernel)).trans ((and_iff_right ⟨h1, (by simp [pm_wl_n, pm_wl_c, pm_w] : pm_wl [] ≤ 8)⟩).trans ?_)
  exact Iff.rfl
theorem b173_5 {d : Nat} {G : PG} {M T : PH} {K : PV → PS → Prop} {l0 l1 l2 l3 s0 : Int} : pm_Run d 173 5 [.inr (.inr (.inl l0)), .inl l1, .inl l2, .inl l3] [.inl s0] (G, M, T) K ↔ if pm_sg s0 = 0 then pm_Run d 173 30 [.inr (.inr (.inl l0)), .inl l1, .inl l2, .inl l3] [] (G, M, T) K else pm_Run d 173 8 [.inr (.inr (.inl l0)), .inl l1, .inl l2, .inl l3] [] (G, M, T) K := by
  refine (px_if_eq (off := 25) (tgt := 30) (by decide +kernel)).trans ?_
  exact Iff.rfl
theorem b173_8 {d : Nat} {G : PG} {M T : PH} {K : PV → PS → Prop} {l0 l1 l2 l3 : Int} (h1 : pm_ob G l0 11) : pm_Run d 173 8 [.inr (.inr (.inl l0)), .inl l1, .inl l2, .inl l3] [] (G, M, T) K ↔ pm_Call d 170 [.inr (.inr (.inl l0)), .inl l2] (G, M, T) (fun r S1 => pm_Run d 173 13 [.inr (.inr (.inl l0)), .inl l1, .inl l2, .inl l3] (pm_push r []) S1 K) := by
  refine (px_go (by decide +kernel : pm_fe 173 8 = some (.aload_n 0, 1)) rfl).trans ?_
  refine (px_go (by decide +kernel : pm_fe 173 9 = some (.iload_n 2, 1)) rfl).trans ?_
  refine (px_v1 (idx := 178) (m' := 170) (ci := 11) (by decide +kernel)).trans ((and_iff_right ⟨h1, (by simp [pm_wl_n, pm_wl_c, pm_w] : pm_wl [] ≤ 8)⟩).trans ?_)
  exact Iff.rfl
theorem b173_13 {d : Nat} {G : PG} {M T : PH} {K : PV → PS → Prop} {l0 l1 l2 l3 s0 : Int} : pm_Run d 173 13 [.inr (.inr (.inl l0)), .inl l1, .inl l2, .inl l3] [.inl s0] (G, M, T) K ↔ if pm_sg s0 = 0 then pm_Run d 173 30 [.inr (.inr (.inl l0)), .inl l1, .inl l2, .inl l3] [] (G, M, T) K else pm_Run d 173 16 [.inr (.inr (.inl l0)), .inl l1, .inl l2, .inl l3] [] (G, M, T) K := by
  refine (px_if_eq (off := 17) (tgt := 30) (by decide +kernel)).trans ?_
  exact Iff.rfl
theorem b173_16 {d : Nat} {G : PG} {M T : PH} {K : PV → PS → Prop} {l0 l1 l2 l3 : Int} : pm_Run d 173 16 [.inr (.inr (.inl l0)), .inl l1, .inl l2, .inl l3] [] (G, M, T) K ↔ if pm_sg l3 < 0 then pm_Run d 173 30 [.inr (.inr (.inl l0)), .inl l1, .inl l2, .inl l3] [] (G, M, T) K else pm_Run d 173 20 [.inr (.inr (.inl l0)), .inl l1, .inl l2, .inl l3] [] (G, M, T) K := by
  refine (px_go (by decide +kernel : pm_fe 173 16 = some (.iload_n 3, 1)) rfl).trans ?_
  refine (px_if_lt (off := 13) (tgt := 30) (by decide +kernel)).trans ?_
  exact Iff.rfl
theorem b173_20 {d : Nat} {G : PG} {M T : PH} {K : PV → PS → Prop} {l0 l1 l2 l3 : Int} : pm_Run d 173 20 [.inr (.inr (.inl l0)), .inl l1, .inl l2, .inl l3] [] (G, M, T) K ↔ if pm_sg 99 < pm_sg l3 then pm_Run d 173 30 [.inr (.inr (.inl l0)), .inl l1, .inl l2, .inl l3] [] (G, M, T) K else pm_Run d 173 26 [.inr (.inr (.inl l0)), .inl l1, .inl l2, .inl l3] [] (G, M, T) K := by
  refine (px_go (by decide +kernel : pm_fe 173 20 = some (.iload_n 3, 1)) rfl).trans ?_
  refine (px_go (by decide +kernel : pm_fe 173 21 = some (.bipush 99, 2)) rfl).trans ?_
  refine (px_ic_gt (off := 7) (tgt := 30) (by decide +kernel)).trans ?_
  exact Iff.rfl
theorem b173_26 {d : Nat} {G : PG} {M T : PH} {K : PV → PS → Prop} {l0 l1 l2 l3 : Int} : pm_Run d 173 26 [.inr (.inr (.inl l0)), .inl l1, .inl l2, .inl l3] [] (G, M, T) K ↔ pm_Run d 173 31 [.inr (.inr (.inl l0)), .inl l1, .inl l2, .inl l3] [.inl 1] (G, M, T) K := by
  refine (px_go (by decide +kernel : pm_fe 173 26 = some (.iconst 1, 1)) rfl).trans ?_
  refine (px_goto (off := 4) (tgt := 31) (by decide +kernel)).trans ?_
  exact Iff.rfl
theorem b173_30 {d : Nat} {G : PG} {M T : PH} {K : PV → PS → Prop} {l0 l1 l2 l3 : Int} : pm_Run d 173 30 [.inr (.inr (.inl l0)), .inl l1, .inl l2, .inl l3] [] (G, M, T) K ↔ pm_Run d 173 31 [.inr (.inr (.inl l0)), .inl l1, .inl l2, .inl l3] [.inl 0] (G, M, T) K := by
  refine (px_go (by decide +kernel : pm_fe 173 30 = some (.iconst 0, 1)) rfl).trans ?_
  exact Iff.rfl
theorem b173_31 {d : Nat} {G : PG} {M T : PH} {K : PV → PS → Prop} {l0 l1 l2 l3 s0 : Int} (h1 : s0 = 0 ∨ s0 = 1) : pm_Run d 173 31 [.inr (.inr (.inl l0)), .inl l1, .inl l2, .inl l3] [.inl s0] (G, M, T) K ↔ K (.inl s0) (G, M, T) := by
  refine (px_rz (by decide +kernel)).trans ((and_iff_right h1).trans ?_)
  exact Iff.rfl
-- X11_canPass canPass(II)Z
theorem en174 {d : Nat} {a p0 p1 : Int} {S : PS} {K : PV → PS → Prop} : pm_Call (d + 1) 174 [.inr (.inr (.inl a)), .inl p0, .inl p1] S K ↔ pm_Run d 174 0 [.inr (.inr (.inl a)), .inl p0, .inl p1] [] S K := pm_Call_s.trans (and_iff_right (show 3 ≤ pm_ml 174 from by decide +kernel))
theorem b174_0 {d : Nat} {G : PG} {M T : PH} {K : PV → PS → Prop} {l0 l1 l2 : Int} (h1 : pm_ob G l0 11) : pm_Run d 174 0 [.inr (.inr (.inl l0)), .inl l1, .inl l2] [] (G, M, T) K ↔ pm_Call d 168 [.inr (.inr (.inl l0))] (G, M, T) (fun r S1 => pm_Run d 174 4 [.inr (.inr (.inl l0)), .inl l1, .inl l2] (pm_push r []) S1 K) := by
  refine (px_go (by decide +kernel : pm_fe 174 0 = some (.aload_n 0, 1)) rfl).trans ?_
  refine (px_v0 (idx := 309) (m' := 168) (ci := 11) (by decide +kernel)).trans ((and_iff_right ⟨h1, (by simp [pm_wl_n, pm_wl_c, pm_w] : pm_wl [] ≤ 8)⟩).trans ?_)
  exact Iff.rfl
theorem b174_4 {d : Nat} {G : PG} {M T : PH} {K : PV → PS → Prop} {l0 l1 l2 s0 : Int} : pm_Run d 174 4 [.inr (.inr (.inl l0)), .inl l1, .inl l2] [.inl s0] (G, M, T) K ↔ if pm_sg s0 = 0 then pm_Run d 174 36 [.inr (.inr (.inl l0)), .inl l1, .inl l2] [] (G, M, T) K else pm_Run d 174 7 [.inr (.inr (.inl l0)), .inl l1, .inl l2] [] (G, M, T) K := by
  refine (px_if_eq (off := 32) (tgt := 36) (by decide +kernel)).trans ?_
  exact Iff.rfl
theorem b174_7 {d : Nat} {G : PG} {M T : PH} {K : PV → PS → Prop} {l0 l1 l2 : Int} : pm_Run d 174 7 [.inr (.inr (.inl l0)), .inl l1, .inl l2] [] (G, M, T) K ↔ if pm_sg l1 < pm_sg 1 then pm_Run d 174 36 [.inr (.inr (.inl l0)), .inl l1, .inl l2] [] (G, M, T) K else pm_Run d 174 12 [.inr (.inr (.inl l0)), .inl l1, .inl l2] [] (G, M, T) K := by
  refine (px_go (by decide +kernel : pm_fe 174 7 = some (.iload_n 1, 1)) rfl).trans ?_
  refine (px_go (by decide +kernel : pm_fe 174 8 = some (.iconst 1, 1)) rfl).trans ?_
  refine (px_ic_lt (off := 27) (tgt := 36) (by decide +kernel)).trans ?_
  exact Iff.rfl
theorem b174_12 {d : Nat} {G : PG} {M T : PH} {K : PV → PS → Prop} {l0 l1 l2 : Int} : pm_Run d 174 12 [.inr (.inr (.inl l0)), .inl l1, .inl l2] [] (G, M, T) K ↔ if pm_sg l2 < pm_sg l1 then pm_Run d 174 36 [.inr (.inr (.inl l0)), .inl l1, .inl l2] [] (G, M, T) K else pm_Run d 174 17 [.inr (.inr (.inl l0)), .inl l1, .inl l2] [] (G, M, T) K := by
  refine (px_go (by decide +kernel : pm_fe 174 12 = some (.iload_n 1, 1)) rfl).trans ?_
  refine (px_go (by decide +kernel : pm_fe 174 13 = some (.iload_n 2, 1)) rfl).trans ?_
  refine (px_ic_gt (off := 22) (tgt := 36) (by decide +kernel)).trans ?_
  exact Iff.rfl
theorem b174_17 {d : Nat} {G : PG} {M T : PH} {K : PV → PS → Prop} {l0 l1 l2 : Int} (h1 : pm_ob G l0 11) (h2 : pm_ob G (T l0.toNat 2) 5) : pm_Run d 174 17 [.inr (.inr (.inl l0)), .inl l1, .inl l2] [] (G, M, T) K ↔ if pm_sg (9999 - (M (T l0.toNat 2).toNat 0)) < pm_sg l1 then pm_Run d 174 36 [.inr (.inr (.inl l0)), .inl l1, .inl l2] [] (G, M, T) K else pm_Run d 174 32 [.inr (.inr (.inl l0)), .inl l1, .inl l2] [] (G, M, T) K := by
  refine (px_go (by decide +kernel : pm_fe 174 17 = some (.iload_n 1, 1)) rfl).trans ?_
  refine (px_go (by decide +kernel : pm_fe 174 18 = some (.sipush 9999, 3)) rfl).trans ?_
  refine (px_go (by decide +kernel : pm_fe 174 21 = some (.aload_n 0, 1)) rfl).trans ?_
  refine (px_get2 (idx := 20) (ci := 11) (k := 2) (by decide +kernel)).trans ((and_iff_right h1).trans ?_)
  refine (px_get0 (idx := 153) (ci := 5) (k := 0) (by decide +kernel)).trans ((and_iff_right h2).trans ?_)
  refine (px_go (by decide +kernel : pm_fe 174 28 = some (.isub, 1)) rfl).trans ?_
  refine (px_ic_gt (off := 7) (tgt := 36) (by decide +kernel)).trans ?_
  exact Iff.rfl
theorem b174_32 {d : Nat} {G : PG} {M T : PH} {K : PV → PS → Prop} {l0 l1 l2 : Int} : pm_Run d 174 32 [.inr (.inr (.inl l0)), .inl l1, .inl l2] [] (G, M, T) K ↔ pm_Run d 174 37 [.inr (.inr (.inl l0)), .inl l1, .inl l2] [.inl 1] (G, M, T) K := by
  refine (px_go (by decide +kernel : pm_fe 174 32 = some (.iconst 1, 1)) rfl).trans ?_
  refine (px_goto (off := 4) (tgt := 37) (by decide +kernel)).trans ?_
  exact Iff.rfl
theorem b174_36 {d : Nat} {G : PG} {M T : PH} {K : PV → PS → Prop} {l0 l1 l2 : Int} : pm_Run d 174 36 [.inr (.inr (.inl l0)), .inl l1, .inl l2] [] (G, M, T) K ↔ pm_Run d 174 37 [.inr (.inr (.inl l0)), .inl l1, .inl l2] [.inl 0] (G, M, T) K := by
  refine (px_go (by decide +kernel : pm_fe 174 36 = some (.iconst 0, 1)) rfl).trans ?_
  exact Iff.rfl
theorem b174_37 {d : Nat} {G : PG} {M T : PH} {K : PV → PS → Prop} {l0 l1 l2 s0 : Int} (h1 : s0 = 0 ∨ s0 = 1) : pm_Run d 174 37 [.inr (.inr (.inl l0)), .inl l1, .inl l2] [.inl s0] (G, M, T) K ↔ K (.inl s0) (G, M, T) := by
  refine (px_rz (by decide +kernel)).trans ((and_iff_right h1).trans ?_)
  exact Iff.rfl
-- X11_storm storm()V
theorem en175 {d : Nat} {a : Int} {S : PS} {K : PV → PS → Prop} : pm_Call (d + 1) 175 [.inr (.inr (.inl a))] S K ↔ pm_Run d 175 0 [.inr (.inr (.inl a)), PU] [] S K := pm_Call_s.trans (and_iff_right (show 1 ≤ pm_ml 175 from by decide +kernel))
theorem b175_0 {d : Nat} {G : PG} {M T : PH} {K : PV → PS → Prop} {l0 : Int} (h1 : pm_ob G l0 11) (h2 : pm_ob G (T l0.toNat 3) 1) : pm_Run d 175 0 [.inr (.inr (.inl l0)), PU] [] (G, M, T) K ↔ if pm_sg (M (T l0.toNat 3).toNat 1) ≤ 0 then pm_Run d 175 37 [.inr (.inr (.inl l0)), PU] [] (G, M, T) K else pm_Run d 175 10 [.inr (.inr (.inl l0)), PU] [] (G, M, T) K := by
  refine (px_go (by decide +kernel : pm_fe 175 0 = some (.aload_n 0, 1)) rfl).trans ?_
  refine (px_get2 (idx := 27) (ci := 11) (k := 3) (by decide +kernel)).trans ((and_iff_right h1).trans ?_)
  refine (px_get0 (idx := 135) (ci := 1) (k := 1) (by decide +kernel)).trans ((and_iff_right h2).trans ?_)
  refine (px_if_le (off := 30) (tgt := 37) (by decide +kernel)).trans ?_
  exact Iff.rfl
theorem b175_10 {d : Nat} {G : PG} {M T : PH} {K : PV → PS → Prop} {l0 : Int} (h1 : pm_ob G l0 11) (h2 : pm_ob G (T l0.toNat 3) 1) : pm_Run d 175 10 [.inr (.inr (.inl l0)), PU] [] (G, M, T) K ↔ pm_Call d 176 [.inr (.inr (.inl l0)), .inl (M (T l0.toNat 3).toNat 1)] (G, M, T) (fun r S1 => pm_Run d 175 21 [.inr (.inr (.inl l0)), PU] (pm_push r []) S1 K) := by
  refine (px_go (by decide +kernel : pm_fe 175 10 = some (.aload_n 0, 1)) rfl).trans ?_
  refine (px_go (by decide +kernel : pm_fe 175 11 = some (.aload_n 0, 1)) rfl).trans ?_
  refine (px_get2 (idx := 27) (ci := 11) (k := 3) (by decide +kernel)).trans ((and_iff_right h1).trans ?_)
  refine (px_get0 (idx := 135) (ci := 1) (k := 1) (by decide +kernel)).trans ((and_iff_right h2).trans ?_)
  refine (px_v1 (idx := 381) (m' := 176) (ci := 11) (by decide +kernel)).trans ((and_iff_right ⟨h1, (by simp [pm_wl_n, pm_wl_c, pm_w] : pm_wl [] ≤ 8)⟩).trans ?_)
  exact Iff.rfl
theorem b175_21 {d : Nat} {G : PG} {M T : PH} {K : PV → PS → Prop} {l0 s0 : Int} (h1 : pm_ob G l0 11) (h2 : pm_ob G (T l0.toNat 2) 5) : pm_Run d 175 21 [.inr (.inr (.inl l0)), PU] [.inl s0] (G, M, T) K ↔ pm_Call d 176 [.inr (.inr (.inl l0)), .inl 10] (G, M, T) (fun r S1 => pm_Run d 175 36 [.inr (.inr (.inl l0)), .inl s0] (pm_push r [.inl s0, .inr (.inr (.inl (T (T l0.toNat 2).toNat 2)))]) S1 K) := by
  refine (px_go (by decide +kernel : pm_fe 175 21 = some (.istore_n 1, 1)) rfl).trans ?_
  refine (px_go (by decide +kernel : pm_fe 175 22 = some (.aload_n 0, 1)) rfl).trans ?_
  refine (px_get2 (idx := 20) (ci := 11) (k := 2) (by decide +kernel)).trans ((and_iff_right h1).trans ?_)
  refine (px_get2 (idx := 190) (ci := 5) (k := 2) (by decide +kernel)).trans ((and_iff_right h2).trans ?_)
  refine (px_go (by decide +kernel : pm_fe 175 29 = some (.iload_n 1, 1)) rfl).trans ?_
  refine (px_go (by decide +kernel : pm_fe 175 30 = some (.aload_n 0, 1)) rfl).trans ?_
  refine (px_go (by decide +kernel : pm_fe 175 31 = some (.bipush 10, 2)) rfl).trans ?_
  refine (px_v1 (idx := 381) (m' := 176) (ci := 11) (by decide +kernel)).trans ((and_iff_right ⟨h1, (by simp [pm_wl_n, pm_wl_c, pm_w] : pm_wl [.inl s0, .inr (.inr (.inl (T (T l0.toNat 2).toNat 2)))] ≤ 8)⟩).trans ?_)
  exact Iff.rfl
theorem b175_36 {d : Nat} {G : PG} {M T : PH} {K : PV → PS → Prop} {l0 l1 s0 s1 s2 : Int} (h1 : pm_ar G s2 100 s1) : pm_Run d 175 36 [.inr (.inr (.inl l0)), .inl l1] [.inl s0, .inl s1, .inr (.inr (.inl s2))] (G, M, T) K ↔ pm_Run d 175 37 [.inr (.inr (.inl l0)), .inl l1] [] (G, pm_sa M s2.toNat (pm_up (M s2.toNat) (pm_sg s1).toNat s0), T) K := by
  refine (px_iastore (by decide +kernel)).trans ((and_iff_right h1).trans ?_)
  exact Iff.rfl
theorem b175_37 {d : Nat} {G : PG} {M T : PH} {K : PV → PS → Prop} {l0 : Int} {l1 : PV} : pm_Run d 175 37 [.inr (.inr (.inl l0)), l1] [] (G, M, T) K ↔ K PU (G, M, T) := by
  refine (px_rv (by decide +kernel)).trans ?_
  exact Iff.rfl
-- X11_draw draw(I)I
theorem en176 {d : Nat} {a p0 : Int} {S : PS} {K : PV → PS → Prop} : pm_Call (d + 1) 176 [.inr (.inr (.inl a)), .inl p0] S K ↔ pm_Run d 176 0 [.inr (.inr (.inl a)), .inl p0] [] S K := pm_Call_s.trans (and_iff_right (show 2 ≤ pm_ml 176 from by decide +kernel))
theorem b176_0 {d : Nat} {G : PG} {M T : PH} {K : PV → PS → Prop} {l0 l1 : Int} (h1 : pm_ob G l0 11) : pm_Run d 176 0 [.inr (.inr (.inl l0)), .inl l1] [] (G, M, T) K ↔ if pm_sg l1 ≤ 0 then pm_Run d 176 38 [.inr (.inr (.inl l0)), .inl l1] [] (G, pm_sa M l0.toNat (pm_up (M l0.toNat) 12 (pm_land ((1103515245 * (pm_sg (M l0.toNat 12))) + 12345) 2147483647)), T) K else pm_Run d 176 26 [.inr (.inr (.inl l0)), .inl l1] [] (G, pm_sa M l0.toNat (pm_up (M l0.toNat) 12 (pm_land ((1103515245 * (pm_sg (M l0.toNat 12))) + 12345) 2147483647)), T) K := by
  refine (px_go (by decide +kernel : pm_fe 176 0 = some (.aload_n 0, 1)) rfl).trans ?_
  refine (px_ldcL (idx := 384) (x := 1103515245) (by decide +kernel)).trans ?_
  refine (px_go (by decide +kernel : pm_fe 176 4 = some (.aload_n 0, 1)) rfl).trans ?_
  refine (px_get0 (idx := 82) (ci := 11) (k := 12) (by decide +kernel)).trans ((and_iff_right h1).trans ?_)
  refine (px_go (by decide +kernel : pm_fe 176 8 = some (.i2l, 1)) rfl).trans ?_
  refine (px_go (by decide +kernel : pm_fe 176 9 = some (.lmul, 1)) rfl).trans ?_
  refine (px_ldcL (idx := 386) (x := 12345) (by decide +kernel)).trans ?_
  refine (px_go (by decide +kernel : pm_fe 176 13 = some (.ladd, 1)) rfl).trans ?_
  refine (px_ldcL (idx := 388) (x := 2147483647) (by decide +kernel)).trans ?_
  refine (px_go (by decide +kernel : pm_fe 176 17 = some (.land, 1)) rfl).trans ?_
  refine (px_go (by decide +kernel : pm_fe 176 18 = some (.l2i, 1)) rfl).trans ?_
  refine (px_put0 (idx := 82) (ci := 11) (k := 12) (by decide +kernel)).trans ((and_iff_right h1).trans ?_)
  refine (px_go (by decide +kernel : pm_fe 176 22 = some (.iload_n 1, 1)) rfl).trans ?_
  refine (px_if_le (off := 15) (tgt := 38) (by decide +kernel)).trans ?_
  exact Iff.rfl
theorem b176_26 {d : Nat} {G : PG} {M T : PH} {K : PV → PS → Prop} {l0 l1 : Int} (h1 : pm_ob G l0 11) (h2 : pm_sg l1 ≠ 0) : pm_Run d 176 26 [.inr (.inr (.inl l0)), .inl l1] [] (G, M, T) K ↔ pm_Run d 176 39 [.inr (.inr (.inl l0)), .inl l1] [.inl (pm_rem (pm_div (M l0.toNat 12) 64) l1)] (G, M, T) K := by
  refine (px_go (by decide +kernel : pm_fe 176 26 = some (.aload_n 0, 1)) rfl).trans ?_
  refine (px_get0 (idx := 82) (ci := 11) (k := 12) (by decide +kernel)).trans ((and_iff_right h1).trans ?_)
  refine (px_go (by decide +kernel : pm_fe 176 30 = some (.bipush 64, 2)) rfl).trans ?_
  refine (px_idiv (by decide +kernel)).trans ((and_iff_right (by decide : pm_sg (64 : Int) ≠ (0 : Int))).trans ?_)
  refine (px_go (by decide +kernel : pm_fe 176 33 = some (.iload_n 1, 1)) rfl).trans ?_
  refine (px_irem (by decide +kernel)).trans ((and_iff_right h2).trans ?_)
  refine (px_goto (off := 4) (tgt := 39) (by decide +kernel)).trans ?_
  exact Iff.rfl
theorem b176_38 {d : Nat} {G : PG} {M T : PH} {K : PV → PS → Prop} {l0 l1 : Int} : pm_Run d 176 38 [.inr (.inr (.inl l0)), .inl l1] [] (G, M, T) K ↔ pm_Run d 176 39 [.inr (.inr (.inl l0)), .inl l1] [.inl 0] (G, M, T) K := by
  refine (px_go (by decide +kernel : pm_fe 176 38 = some (.iconst 0, 1)) rfl).trans ?_
  exact Iff.rfl
theorem b176_39 {d : Nat} {G : PG} {M T : PH} {K : PV → PS → Prop} {l0 l1 s0 : Int} : pm_Run d 176 39 [.inr (.inr (.inl l0)), .inl l1] [.inl s0] (G, M, T) K ↔ K (.inl s0) (G, M, T) := by
  refine (px_ri (by decide +kernel)).trans ?_
  exact Iff.rfl
-- X11_within within(III)I
theorem en177 {d : Nat} {p0 p1 p2 : Int} {S : PS} {K : PV → PS → Prop} : pm_Call (d + 1) 177 [.inl p0, .inl p1, .inl p2] S K ↔ pm_Run d 177 0 [.inl p0, .inl p1, .inl p2] [] S K := pm_Call_s.trans (and_iff_right (show 3 ≤ pm_ml 177 from by decide +kernel))
theorem b177_0 {d : Nat} {G : PG} {M T : PH} {K : PV → PS → Prop} {l0 l1 l2 : Int} : pm_Run d 177 0 [.inl l0, .inl l1, .inl l2] [] (G, M, T) K ↔ if pm_sg l0 ≤ pm_sg l1 then pm_Run d 177 7 [.inl l0, .inl l1, .inl l2] [] (G, M, T) K else pm_Run d 177 5 [.inl l0, .inl l1, .inl l2] [] (G, M, T) K := by
  refine (px_go (by decide +kernel : pm_fe 177 0 = some (.iload_n 1, 1)) rfl).trans ?_
  refine (px_go (by decide +kernel : pm_fe 177 1 = some (.iload_n 0, 1)) rfl).trans ?_
  refine (px_ic_ge (off := 5) (tgt := 7) (by decide +kernel)).trans ?_
  exact Iff.rfl
theorem b177_5 {d : Nat} {G : PG} {M T : PH} {K : PV → PS → Prop} {l0 l1 l2 : Int} : pm_Run d 177 5 [.inl l0, .inl l1, .inl l2] [] (G, M, T) K ↔ K (.inl l0) (G, M, T) := by
  refine (px_go (by decide +kernel : pm_fe 177 5 = some (.iload_n 0, 1)) rfl).trans ?_
  refine (px_ri (by decide +kernel)).trans ?_
  exact Iff.rfl
theorem b177_7 {d : Nat} {G : PG} {M T : PH} {K : PV → PS → Prop} {l0 l1 l2 : Int} : pm_Run d 177 7 [.inl l0, .inl l1, .inl l2] [] (G, M, T) K ↔ if pm_sg l1 ≤ pm_sg l2 then pm_Run d 177 16 [.inl l0, .inl l1, .inl l2] [] (G, M, T) K else pm_Run d 177 12 [.inl l0, .inl l1, .inl l2] [] (G, M, T) K := by
  refine (px_go (by decide +kernel : pm_fe 177 7 = some (.iload_n 1, 1)) rfl).trans ?_
  refine (px_go (by decide +kernel : pm_fe 177 8 = some (.iload_n 2, 1)) rfl).trans ?_
  refine (px_ic_le (off := 7) (tgt := 16) (by decide +kernel)).trans ?_
  exact Iff.rfl
theorem b177_12 {d : Nat} {G : PG} {M T : PH} {K : PV → PS → Prop} {l0 l1 l2 : Int} : pm_Run d 177 12 [.inl l0, .inl l1, .inl l2] [] (G, M, T) K ↔ pm_Run d 177 17 [.inl l0, .inl l1, .inl l2] [.inl l2] (G, M, T) K := by
  refine (px_go (by decide +kernel : pm_fe 177 12 = some (.iload_n 2, 1)) rfl).trans ?_
  refine (px_goto (off := 4) (tgt := 17) (by decide +kernel)).trans ?_
  exact Iff.rfl
theorem b177_16 {d : Nat} {G : PG} {M T : PH} {K : PV → PS → Prop} {l0 l1 l2 : Int} : pm_Run d 177 16 [.inl l0, .inl l1, .inl l2] [] (G, M, T) K ↔ pm_Run d 177 17 [.inl l0, .inl l1, .inl l2] [.inl l1] (G, M, T) K := by
  refine (px_go (by decide +kernel : pm_fe 177 16 = some (.iload_n 1, 1)) rfl).trans ?_
  exact Iff.rfl
theorem b177_17 {d : Nat} {G : PG} {M T : PH} {K : PV → PS → Prop} {l0 l1 l2 s0 : Int} : pm_Run d 177 17 [.inl l0, .inl l1, .inl l2] [.inl s0] (G, M, T) K ↔ K (.inl s0) (G, M, T) := by
  refine (px_ri (by decide +kernel)).trans ?_
  exact Iff.rfl
